section
-- ===== PART A: goes FIRST, ahead of the names: the tables' words, and 'selects' of the private methods out of them =====
/-- a private method of a class that the tables say can be made, by its rows of tables_1 -/
def lw_okq (q : MethodName × Nat) : Prop := (q.1.cls ≠ "java/lang/invoke/MethodHandle" ∧ q.1.cls ≠ "java/lang/invoke/VarHandle") ∧ Cond.instantiable q.1.cls q.2 ∈ tables_1 ∧ Cond.privateMethod q.1 ∈ tables_1 ∧ Cond.instanceMethod q.1 ∈ tables_1
theorem lw_p0 : lw_okq (⟨"FallingTerms", "isLoop", "(I)Z"⟩, 11) := ⟨⟨by decide +kernel, by decide +kernel⟩, List.mem_of_getElem? (i := 10) (by decide +kernel), List.mem_of_getElem? (i := 209) (by decide +kernel), List.mem_of_getElem? (i := 210) (by decide +kernel)⟩
theorem lw_p1 : lw_okq (⟨"FallingTerms", "rowFits", "(IIIII)Z"⟩, 11) := ⟨⟨by decide +kernel, by decide +kernel⟩, List.mem_of_getElem? (i := 10) (by decide +kernel), List.mem_of_getElem? (i := 213) (by decide +kernel), List.mem_of_getElem? (i := 214) (by decide +kernel)⟩
theorem lw_p2 : lw_okq (⟨"FallingTerms", "isWay", "(II)Z"⟩, 11) := ⟨⟨by decide +kernel, by decide +kernel⟩, List.mem_of_getElem? (i := 10) (by decide +kernel), List.mem_of_getElem? (i := 243) (by decide +kernel), List.mem_of_getElem? (i := 244) (by decide +kernel)⟩
theorem lw_p3 : lw_okq (⟨"FallingTerms", "isName", "(II)Z"⟩, 11) := ⟨⟨by decide +kernel, by decide +kernel⟩, List.mem_of_getElem? (i := 10) (by decide +kernel), List.mem_of_getElem? (i := 251) (by decide +kernel), List.mem_of_getElem? (i := 252) (by decide +kernel)⟩
theorem lw_p4 : lw_okq (⟨"FallingTerms", "spaceOf", "(II)LFallingTerms$Space;"⟩, 11) := ⟨⟨by decide +kernel, by decide +kernel⟩, List.mem_of_getElem? (i := 10) (by decide +kernel), List.mem_of_getElem? (i := 267) (by decide +kernel), List.mem_of_getElem? (i := 268) (by decide +kernel)⟩
theorem lw_p5 : lw_okq (⟨"FallingTerms$Space", "begin", "(I)V"⟩, 8) := ⟨⟨by decide +kernel, by decide +kernel⟩, List.mem_of_getElem? (i := 124) (by decide +kernel), List.mem_of_getElem? (i := 275) (by decide +kernel), List.mem_of_getElem? (i := 276) (by decide +kernel)⟩
theorem lw_p6 : lw_okq (⟨"FallingTerms$Space", "appendPivot", "(I)V"⟩, 8) := ⟨⟨by decide +kernel, by decide +kernel⟩, List.mem_of_getElem? (i := 124) (by decide +kernel), List.mem_of_getElem? (i := 279) (by decide +kernel), List.mem_of_getElem? (i := 280) (by decide +kernel)⟩
theorem lw_p7 : lw_okq (⟨"FallingTerms$Space", "lineAcross", "(III)I"⟩, 8) := ⟨⟨by decide +kernel, by decide +kernel⟩, List.mem_of_getElem? (i := 124) (by decide +kernel), List.mem_of_getElem? (i := 287) (by decide +kernel), List.mem_of_getElem? (i := 288) (by decide +kernel)⟩
theorem lw_p8 : lw_okq (⟨"FallingTerms$Space", "slope", "(IIII)J"⟩, 8) := ⟨⟨by decide +kernel, by decide +kernel⟩, List.mem_of_getElem? (i := 124) (by decide +kernel), List.mem_of_getElem? (i := 291) (by decide +kernel), List.mem_of_getElem? (i := 292) (by decide +kernel)⟩
theorem lw_p9 : lw_okq (⟨"FallingTerms$Space", "turn", "(IIIII)V"⟩, 8) := ⟨⟨by decide +kernel, by decide +kernel⟩, List.mem_of_getElem? (i := 124) (by decide +kernel), List.mem_of_getElem? (i := 295) (by decide +kernel), List.mem_of_getElem? (i := 296) (by decide +kernel)⟩
theorem lw_p10 : lw_okq (⟨"FallingTerms$Space", "shift", "([JIJJ)V"⟩, 8) := ⟨⟨by decide +kernel, by decide +kernel⟩, List.mem_of_getElem? (i := 124) (by decide +kernel), List.mem_of_getElem? (i := 300) (by decide +kernel), List.mem_of_getElem? (i := 301) (by decide +kernel)⟩
theorem lw_p11 : lw_okq (⟨"FallingTerms$Space", "worth", "(IIIII)J"⟩, 8) := ⟨⟨by decide +kernel, by decide +kernel⟩, List.mem_of_getElem? (i := 124) (by decide +kernel), List.mem_of_getElem? (i := 307) (by decide +kernel), List.mem_of_getElem? (i := 308) (by decide +kernel)⟩
theorem lw_p12 : lw_okq (⟨"FallingTerms$Space", "cut", "(IIII)V"⟩, 8) := ⟨⟨by decide +kernel, by decide +kernel⟩, List.mem_of_getElem? (i := 124) (by decide +kernel), List.mem_of_getElem? (i := 311) (by decide +kernel), List.mem_of_getElem? (i := 312) (by decide +kernel)⟩
theorem lw_p13 : lw_okq (⟨"FallingTerms$Space", "areNeighbours", "(III)Z"⟩, 8) := ⟨⟨by decide +kernel, by decide +kernel⟩, List.mem_of_getElem? (i := 124) (by decide +kernel), List.mem_of_getElem? (i := 315) (by decide +kernel), List.mem_of_getElem? (i := 316) (by decide +kernel)⟩
theorem lw_p14 : lw_okq (⟨"FallingTerms$Space", "appendBetween", "(II)V"⟩, 8) := ⟨⟨by decide +kernel, by decide +kernel⟩, List.mem_of_getElem? (i := 124) (by decide +kernel), List.mem_of_getElem? (i := 319) (by decide +kernel), List.mem_of_getElem? (i := 320) (by decide +kernel)⟩
theorem lw_p15 : lw_okq (⟨"FallingTerms$Space", "dropBeyond", "(I)V"⟩, 8) := ⟨⟨by decide +kernel, by decide +kernel⟩, List.mem_of_getElem? (i := 124) (by decide +kernel), List.mem_of_getElem? (i := 323) (by decide +kernel), List.mem_of_getElem? (i := 324) (by decide +kernel)⟩
def lw_privs_1 : List (MethodName × Nat) := [(⟨"FallingTerms", "isLoop", "(I)Z"⟩, 11), (⟨"FallingTerms", "rowFits", "(IIIII)Z"⟩, 11), (⟨"FallingTerms", "isWay", "(II)Z"⟩, 11), (⟨"FallingTerms", "isName", "(II)Z"⟩, 11), (⟨"FallingTerms", "spaceOf", "(II)LFallingTerms$Space;"⟩, 11), (⟨"FallingTerms$Space", "begin", "(I)V"⟩, 8), (⟨"FallingTerms$Space", "appendPivot", "(I)V"⟩, 8), (⟨"FallingTerms$Space", "lineAcross", "(III)I"⟩, 8), (⟨"FallingTerms$Space", "slope", "(IIII)J"⟩, 8), (⟨"FallingTerms$Space", "turn", "(IIIII)V"⟩, 8), (⟨"FallingTerms$Space", "shift", "([JIJJ)V"⟩, 8), (⟨"FallingTerms$Space", "worth", "(IIIII)J"⟩, 8), (⟨"FallingTerms$Space", "cut", "(IIII)V"⟩, 8), (⟨"FallingTerms$Space", "areNeighbours", "(III)Z"⟩, 8), (⟨"FallingTerms$Space", "appendBetween", "(II)V"⟩, 8), (⟨"FallingTerms$Space", "dropBeyond", "(I)V"⟩, 8)]
theorem lw_r1 : ∀ q ∈ lw_privs_1, lw_okq q := List.forall_mem_cons.mpr ⟨lw_p0, List.forall_mem_cons.mpr ⟨lw_p1, List.forall_mem_cons.mpr ⟨lw_p2, List.forall_mem_cons.mpr ⟨lw_p3, List.forall_mem_cons.mpr ⟨lw_p4, List.forall_mem_cons.mpr ⟨lw_p5, List.forall_mem_cons.mpr ⟨lw_p6, List.forall_mem_cons.mpr ⟨lw_p7, List.forall_mem_cons.mpr ⟨lw_p8, List.forall_mem_cons.mpr ⟨lw_p9, List.forall_mem_cons.mpr ⟨lw_p10, List.forall_mem_cons.mpr ⟨lw_p11, List.forall_mem_cons.mpr ⟨lw_p12, List.forall_mem_cons.mpr ⟨lw_p13, List.forall_mem_cons.mpr ⟨lw_p14, List.forall_mem_cons.mpr ⟨lw_p15, fun _ h => absurd h List.not_mem_nil⟩⟩⟩⟩⟩⟩⟩⟩⟩⟩⟩⟩⟩⟩⟩⟩
theorem lw_p16 : lw_okq (⟨"FallingTerms$Space", "dropIfNoPoint", "()V"⟩, 8) := ⟨⟨by decide +kernel, by decide +kernel⟩, List.mem_of_getElem? (i := 124) (by decide +kernel), List.mem_of_getElem? (i := 327) (by decide +kernel), List.mem_of_getElem? (i := 328) (by decide +kernel)⟩
theorem lw_p17 : lw_okq (⟨"FallingTerms", "fillSpaces", "(LFallingTerms$Loop;)V"⟩, 11) := ⟨⟨by decide +kernel, by decide +kernel⟩, List.mem_of_getElem? (i := 10) (by decide +kernel), List.mem_of_getElem? (i := 368) (by decide +kernel), List.mem_of_getElem? (i := 369) (by decide +kernel)⟩
theorem lw_p18 : lw_okq (⟨"FallingTerms$Proof", "takeMore", "(LFallingTerms$Loop;[LFallingTerms$Space;)Z"⟩, 3) := ⟨⟨by decide +kernel, by decide +kernel⟩, List.mem_of_getElem? (i := 22) (by decide +kernel), List.mem_of_getElem? (i := 376) (by decide +kernel), List.mem_of_getElem? (i := 377) (by decide +kernel)⟩
theorem lw_p19 : lw_okq (⟨"FallingTerms$Proof", "takenBy", "(LFallingTerms$Loop;[LFallingTerms$Space;III)I"⟩, 3) := ⟨⟨by decide +kernel, by decide +kernel⟩, List.mem_of_getElem? (i := 22) (by decide +kernel), List.mem_of_getElem? (i := 384) (by decide +kernel), List.mem_of_getElem? (i := 385) (by decide +kernel)⟩
theorem lw_p20 : lw_okq (⟨"FallingTerms$Proof", "append", "(IIII)V"⟩, 3) := ⟨⟨by decide +kernel, by decide +kernel⟩, List.mem_of_getElem? (i := 22) (by decide +kernel), List.mem_of_getElem? (i := 390) (by decide +kernel), List.mem_of_getElem? (i := 391) (by decide +kernel)⟩
theorem lw_p21 : lw_okq (⟨"FallingTerms", "findNeed", "(LFallingTerms$Loop;III)Z"⟩, 11) := ⟨⟨by decide +kernel, by decide +kernel⟩, List.mem_of_getElem? (i := 10) (by decide +kernel), List.mem_of_getElem? (i := 407) (by decide +kernel), List.mem_of_getElem? (i := 408) (by decide +kernel)⟩
theorem lw_p22 : lw_okq (⟨"FallingTerms", "narrowSpaces", "(LFallingTerms$Loop;IIII)V"⟩, 11) := ⟨⟨by decide +kernel, by decide +kernel⟩, List.mem_of_getElem? (i := 10) (by decide +kernel), List.mem_of_getElem? (i := 411) (by decide +kernel), List.mem_of_getElem? (i := 412) (by decide +kernel)⟩
theorem lw_p23 : lw_okq (⟨"FallingTerms", "lasts", "(LFallingTerms$Loop;IIII)Z"⟩, 11) := ⟨⟨by decide +kernel, by decide +kernel⟩, List.mem_of_getElem? (i := 10) (by decide +kernel), List.mem_of_getElem? (i := 420) (by decide +kernel), List.mem_of_getElem? (i := 421) (by decide +kernel)⟩
theorem lw_p24 : lw_okq (⟨"FallingTerms", "keepNeed", "(IIII)V"⟩, 11) := ⟨⟨by decide +kernel, by decide +kernel⟩, List.mem_of_getElem? (i := 10) (by decide +kernel), List.mem_of_getElem? (i := 428) (by decide +kernel), List.mem_of_getElem? (i := 429) (by decide +kernel)⟩
theorem lw_p25 : lw_okq (⟨"FallingTerms", "ringFrom", "(LFallingTerms$Loop;III)I"⟩, 11) := ⟨⟨by decide +kernel, by decide +kernel⟩, List.mem_of_getElem? (i := 10) (by decide +kernel), List.mem_of_getElem? (i := 492) (by decide +kernel), List.mem_of_getElem? (i := 493) (by decide +kernel)⟩
theorem lw_p26 : lw_okq (⟨"FallingTermsModel", "isLoop", "(I)Z"⟩, 38) := ⟨⟨by decide +kernel, by decide +kernel⟩, List.mem_of_getElem? (i := 504) (by decide +kernel), List.mem_of_getElem? (i := 640) (by decide +kernel), List.mem_of_getElem? (i := 641) (by decide +kernel)⟩
theorem lw_p27 : lw_okq (⟨"FallingTermsModel", "isRow", "(IIIII)Z"⟩, 38) := ⟨⟨by decide +kernel, by decide +kernel⟩, List.mem_of_getElem? (i := 504) (by decide +kernel), List.mem_of_getElem? (i := 644) (by decide +kernel), List.mem_of_getElem? (i := 645) (by decide +kernel)⟩
theorem lw_p28 : lw_okq (⟨"FallingTermsModel", "areNumbers", "(IIIII)Z"⟩, 38) := ⟨⟨by decide +kernel, by decide +kernel⟩, List.mem_of_getElem? (i := 504) (by decide +kernel), List.mem_of_getElem? (i := 648) (by decide +kernel), List.mem_of_getElem? (i := 649) (by decide +kernel)⟩
theorem lw_p29 : lw_okq (⟨"FallingTermsModel", "isWay", "(II)Z"⟩, 38) := ⟨⟨by decide +kernel, by decide +kernel⟩, List.mem_of_getElem? (i := 504) (by decide +kernel), List.mem_of_getElem? (i := 663) (by decide +kernel), List.mem_of_getElem? (i := 664) (by decide +kernel)⟩
theorem lw_p30 : lw_okq (⟨"FallingTermsModel", "isName", "(II)Z"⟩, 38) := ⟨⟨by decide +kernel, by decide +kernel⟩, List.mem_of_getElem? (i := 504) (by decide +kernel), List.mem_of_getElem? (i := 671) (by decide +kernel), List.mem_of_getElem? (i := 672) (by decide +kernel)⟩
theorem lw_p31 : lw_okq (⟨"FallingTermsModel", "space", "(IIZ)V"⟩, 38) := ⟨⟨by decide +kernel, by decide +kernel⟩, List.mem_of_getElem? (i := 504) (by decide +kernel), List.mem_of_getElem? (i := 687) (by decide +kernel), List.mem_of_getElem? (i := 688) (by decide +kernel)⟩
def lw_privs_2 : List (MethodName × Nat) := [(⟨"FallingTerms$Space", "dropIfNoPoint", "()V"⟩, 8), (⟨"FallingTerms", "fillSpaces", "(LFallingTerms$Loop;)V"⟩, 11), (⟨"FallingTerms$Proof", "takeMore", "(LFallingTerms$Loop;[LFallingTerms$Space;)Z"⟩, 3), (⟨"FallingTerms$Proof", "takenBy", "(LFallingTerms$Loop;[LFallingTerms$Space;III)I"⟩, 3), (⟨"FallingTerms$Proof", "append", "(IIII)V"⟩, 3), (⟨"FallingTerms", "findNeed", "(LFallingTerms$Loop;III)Z"⟩, 11), (⟨"FallingTerms", "narrowSpaces", "(LFallingTerms$Loop;IIII)V"⟩, 11), (⟨"FallingTerms", "lasts", "(LFallingTerms$Loop;IIII)Z"⟩, 11), (⟨"FallingTerms", "keepNeed", "(IIII)V"⟩, 11), (⟨"FallingTerms", "ringFrom", "(LFallingTerms$Loop;III)I"⟩, 11), (⟨"FallingTermsModel", "isLoop", "(I)Z"⟩, 38), (⟨"FallingTermsModel", "isRow", "(IIIII)Z"⟩, 38), (⟨"FallingTermsModel", "areNumbers", "(IIIII)Z"⟩, 38), (⟨"FallingTermsModel", "isWay", "(II)Z"⟩, 38), (⟨"FallingTermsModel", "isName", "(II)Z"⟩, 38), (⟨"FallingTermsModel", "space", "(IIZ)V"⟩, 38)]
theorem lw_r2 : ∀ q ∈ lw_privs_2, lw_okq q := List.forall_mem_cons.mpr ⟨lw_p16, List.forall_mem_cons.mpr ⟨lw_p17, List.forall_mem_cons.mpr ⟨lw_p18, List.forall_mem_cons.mpr ⟨lw_p19, List.forall_mem_cons.mpr ⟨lw_p20, List.forall_mem_cons.mpr ⟨lw_p21, List.forall_mem_cons.mpr ⟨lw_p22, List.forall_mem_cons.mpr ⟨lw_p23, List.forall_mem_cons.mpr ⟨lw_p24, List.forall_mem_cons.mpr ⟨lw_p25, List.forall_mem_cons.mpr ⟨lw_p26, List.forall_mem_cons.mpr ⟨lw_p27, List.forall_mem_cons.mpr ⟨lw_p28, List.forall_mem_cons.mpr ⟨lw_p29, List.forall_mem_cons.mpr ⟨lw_p30, List.forall_mem_cons.mpr ⟨lw_p31, fun _ h => absurd h List.not_mem_nil⟩⟩⟩⟩⟩⟩⟩⟩⟩⟩⟩⟩⟩⟩⟩⟩
theorem lw_p32 : lw_okq (⟨"FallingTermsModel", "comes", "(JJJJ)V"⟩, 38) := ⟨⟨by decide +kernel, by decide +kernel⟩, List.mem_of_getElem? (i := 504) (by decide +kernel), List.mem_of_getElem? (i := 691) (by decide +kernel), List.mem_of_getElem? (i := 692) (by decide +kernel)⟩
theorem lw_p33 : lw_okq (⟨"FallingTermsModel", "isNothing", "()Z"⟩, 38) := ⟨⟨by decide +kernel, by decide +kernel⟩, List.mem_of_getElem? (i := 504) (by decide +kernel), List.mem_of_getElem? (i := 695) (by decide +kernel), List.mem_of_getElem? (i := 696) (by decide +kernel)⟩
theorem lw_p34 : lw_okq (⟨"FallingTermsModel", "goal", "(JJJ)V"⟩, 38) := ⟨⟨by decide +kernel, by decide +kernel⟩, List.mem_of_getElem? (i := 504) (by decide +kernel), List.mem_of_getElem? (i := 699) (by decide +kernel), List.mem_of_getElem? (i := 700) (by decide +kernel)⟩
theorem lw_p35 : lw_okq (⟨"FallingTermsModel", "least", "(I)V"⟩, 38) := ⟨⟨by decide +kernel, by decide +kernel⟩, List.mem_of_getElem? (i := 504) (by decide +kernel), List.mem_of_getElem? (i := 703) (by decide +kernel), List.mem_of_getElem? (i := 704) (by decide +kernel)⟩
theorem lw_p36 : lw_okq (⟨"FallingTermsModel", "bears", "(JJ)V"⟩, 38) := ⟨⟨by decide +kernel, by decide +kernel⟩, List.mem_of_getElem? (i := 504) (by decide +kernel), List.mem_of_getElem? (i := 707) (by decide +kernel), List.mem_of_getElem? (i := 708) (by decide +kernel)⟩
theorem lw_p37 : lw_okq (⟨"FallingTermsModel", "byOne", "(I)V"⟩, 38) := ⟨⟨by decide +kernel, by decide +kernel⟩, List.mem_of_getElem? (i := 504) (by decide +kernel), List.mem_of_getElem? (i := 711) (by decide +kernel), List.mem_of_getElem? (i := 712) (by decide +kernel)⟩
theorem lw_p38 : lw_okq (⟨"FallingTermsModel", "byTwo", "(II)V"⟩, 38) := ⟨⟨by decide +kernel, by decide +kernel⟩, List.mem_of_getElem? (i := 504) (by decide +kernel), List.mem_of_getElem? (i := 715) (by decide +kernel), List.mem_of_getElem? (i := 716) (by decide +kernel)⟩
theorem lw_p39 : lw_okq (⟨"FallingTermsModel", "upright", "(II)V"⟩, 38) := ⟨⟨by decide +kernel, by decide +kernel⟩, List.mem_of_getElem? (i := 504) (by decide +kernel), List.mem_of_getElem? (i := 719) (by decide +kernel), List.mem_of_getElem? (i := 720) (by decide +kernel)⟩
theorem lw_p40 : lw_okq (⟨"FallingTermsModel", "byThree", "(III)V"⟩, 38) := ⟨⟨by decide +kernel, by decide +kernel⟩, List.mem_of_getElem? (i := 504) (by decide +kernel), List.mem_of_getElem? (i := 723) (by decide +kernel), List.mem_of_getElem? (i := 724) (by decide +kernel)⟩
theorem lw_p41 : lw_okq (⟨"FallingTermsModel", "isLeast", "(J)Z"⟩, 38) := ⟨⟨by decide +kernel, by decide +kernel⟩, List.mem_of_getElem? (i := 504) (by decide +kernel), List.mem_of_getElem? (i := 732) (by decide +kernel), List.mem_of_getElem? (i := 733) (by decide +kernel)⟩
theorem lw_p42 : lw_okq (⟨"FallingTermsModel", "isBounded", "(III)Z"⟩, 38) := ⟨⟨by decide +kernel, by decide +kernel⟩, List.mem_of_getElem? (i := 504) (by decide +kernel), List.mem_of_getElem? (i := 740) (by decide +kernel), List.mem_of_getElem? (i := 741) (by decide +kernel)⟩
theorem lw_p43 : lw_okq (⟨"FallingTermsModel", "falls", "(IIIII)I"⟩, 38) := ⟨⟨by decide +kernel, by decide +kernel⟩, List.mem_of_getElem? (i := 504) (by decide +kernel), List.mem_of_getElem? (i := 744) (by decide +kernel), List.mem_of_getElem? (i := 745) (by decide +kernel)⟩
theorem lw_p44 : lw_okq (⟨"FallingTermsModel", "changed", "(IIJJJ)J"⟩, 38) := ⟨⟨by decide +kernel, by decide +kernel⟩, List.mem_of_getElem? (i := 504) (by decide +kernel), List.mem_of_getElem? (i := 748) (by decide +kernel), List.mem_of_getElem? (i := 749) (by decide +kernel)⟩
theorem lw_p45 : lw_okq (⟨"FallingTermsModel", "leftBy", "(IZ)I"⟩, 38) := ⟨⟨by decide +kernel, by decide +kernel⟩, List.mem_of_getElem? (i := 504) (by decide +kernel), List.mem_of_getElem? (i := 756) (by decide +kernel), List.mem_of_getElem? (i := 757) (by decide +kernel)⟩
theorem lw_p46 : lw_okq (⟨"FallingTermsModel", "taken", "(IZIIIII)I"⟩, 38) := ⟨⟨by decide +kernel, by decide +kernel⟩, List.mem_of_getElem? (i := 504) (by decide +kernel), List.mem_of_getElem? (i := 760) (by decide +kernel), List.mem_of_getElem? (i := 761) (by decide +kernel)⟩
theorem lw_p47 : lw_okq (⟨"FallingTermsModel", "lasts", "(I)Z"⟩, 38) := ⟨⟨by decide +kernel, by decide +kernel⟩, List.mem_of_getElem? (i := 504) (by decide +kernel), List.mem_of_getElem? (i := 776) (by decide +kernel), List.mem_of_getElem? (i := 777) (by decide +kernel)⟩
def lw_privs_3 : List (MethodName × Nat) := [(⟨"FallingTermsModel", "comes", "(JJJJ)V"⟩, 38), (⟨"FallingTermsModel", "isNothing", "()Z"⟩, 38), (⟨"FallingTermsModel", "goal", "(JJJ)V"⟩, 38), (⟨"FallingTermsModel", "least", "(I)V"⟩, 38), (⟨"FallingTermsModel", "bears", "(JJ)V"⟩, 38), (⟨"FallingTermsModel", "byOne", "(I)V"⟩, 38), (⟨"FallingTermsModel", "byTwo", "(II)V"⟩, 38), (⟨"FallingTermsModel", "upright", "(II)V"⟩, 38), (⟨"FallingTermsModel", "byThree", "(III)V"⟩, 38), (⟨"FallingTermsModel", "isLeast", "(J)Z"⟩, 38), (⟨"FallingTermsModel", "isBounded", "(III)Z"⟩, 38), (⟨"FallingTermsModel", "falls", "(IIIII)I"⟩, 38), (⟨"FallingTermsModel", "changed", "(IIJJJ)J"⟩, 38), (⟨"FallingTermsModel", "leftBy", "(IZ)I"⟩, 38), (⟨"FallingTermsModel", "taken", "(IZIIIII)I"⟩, 38), (⟨"FallingTermsModel", "lasts", "(I)Z"⟩, 38)]
theorem lw_r3 : ∀ q ∈ lw_privs_3, lw_okq q := List.forall_mem_cons.mpr ⟨lw_p32, List.forall_mem_cons.mpr ⟨lw_p33, List.forall_mem_cons.mpr ⟨lw_p34, List.forall_mem_cons.mpr ⟨lw_p35, List.forall_mem_cons.mpr ⟨lw_p36, List.forall_mem_cons.mpr ⟨lw_p37, List.forall_mem_cons.mpr ⟨lw_p38, List.forall_mem_cons.mpr ⟨lw_p39, List.forall_mem_cons.mpr ⟨lw_p40, List.forall_mem_cons.mpr ⟨lw_p41, List.forall_mem_cons.mpr ⟨lw_p42, List.forall_mem_cons.mpr ⟨lw_p43, List.forall_mem_cons.mpr ⟨lw_p44, List.forall_mem_cons.mpr ⟨lw_p45, List.forall_mem_cons.mpr ⟨lw_p46, List.forall_mem_cons.mpr ⟨lw_p47, fun _ h => absurd h List.not_mem_nil⟩⟩⟩⟩⟩⟩⟩⟩⟩⟩⟩⟩⟩⟩⟩⟩
theorem lw_p48 : lw_okq (⟨"FallingTermsModel", "stand", "(I)V"⟩, 38) := ⟨⟨by decide +kernel, by decide +kernel⟩, List.mem_of_getElem? (i := 504) (by decide +kernel), List.mem_of_getElem? (i := 799) (by decide +kernel), List.mem_of_getElem? (i := 800) (by decide +kernel)⟩
theorem lw_p49 : lw_okq (⟨"FallingTermsModel", "openAt", "(I)I"⟩, 38) := ⟨⟨by decide +kernel, by decide +kernel⟩, List.mem_of_getElem? (i := 504) (by decide +kernel), List.mem_of_getElem? (i := 803) (by decide +kernel), List.mem_of_getElem? (i := 804) (by decide +kernel)⟩
theorem lw_p50 : lw_okq (⟨"FallingTermsModel", "isMet", "([II)Z"⟩, 38) := ⟨⟨by decide +kernel, by decide +kernel⟩, List.mem_of_getElem? (i := 504) (by decide +kernel), List.mem_of_getElem? (i := 807) (by decide +kernel), List.mem_of_getElem? (i := 808) (by decide +kernel)⟩
theorem lw_p51 : lw_okq (⟨"FallingTermsModel", "walks", "(I)I"⟩, 38) := ⟨⟨by decide +kernel, by decide +kernel⟩, List.mem_of_getElem? (i := 504) (by decide +kernel), List.mem_of_getElem? (i := 815) (by decide +kernel), List.mem_of_getElem? (i := 816) (by decide +kernel)⟩
theorem lw_p52 : lw_okq (⟨"FallingTermsModel", "goes", "(II)Z"⟩, 38) := ⟨⟨by decide +kernel, by decide +kernel⟩, List.mem_of_getElem? (i := 504) (by decide +kernel), List.mem_of_getElem? (i := 819) (by decide +kernel), List.mem_of_getElem? (i := 820) (by decide +kernel)⟩
theorem lw_p53 : lw_okq (⟨"FallingTermsModel", "becomes", "(II)J"⟩, 38) := ⟨⟨by decide +kernel, by decide +kernel⟩, List.mem_of_getElem? (i := 504) (by decide +kernel), List.mem_of_getElem? (i := 823) (by decide +kernel), List.mem_of_getElem? (i := 824) (by decide +kernel)⟩
theorem lw_p54 : lw_okq (⟨"FallingTermsModel", "stay", "(I)V"⟩, 38) := ⟨⟨by decide +kernel, by decide +kernel⟩, List.mem_of_getElem? (i := 504) (by decide +kernel), List.mem_of_getElem? (i := 832) (by decide +kernel), List.mem_of_getElem? (i := 833) (by decide +kernel)⟩
theorem lw_p55 : lw_okq (⟨"FallingTermsModel", "comesBack", "(IIII)I"⟩, 38) := ⟨⟨by decide +kernel, by decide +kernel⟩, List.mem_of_getElem? (i := 504) (by decide +kernel), List.mem_of_getElem? (i := 848) (by decide +kernel), List.mem_of_getElem? (i := 849) (by decide +kernel)⟩
def lw_privs_4 : List (MethodName × Nat) := [(⟨"FallingTermsModel", "stand", "(I)V"⟩, 38), (⟨"FallingTermsModel", "openAt", "(I)I"⟩, 38), (⟨"FallingTermsModel", "isMet", "([II)Z"⟩, 38), (⟨"FallingTermsModel", "walks", "(I)I"⟩, 38), (⟨"FallingTermsModel", "goes", "(II)Z"⟩, 38), (⟨"FallingTermsModel", "becomes", "(II)J"⟩, 38), (⟨"FallingTermsModel", "stay", "(I)V"⟩, 38), (⟨"FallingTermsModel", "comesBack", "(IIII)I"⟩, 38)]
theorem lw_r4 : ∀ q ∈ lw_privs_4, lw_okq q := List.forall_mem_cons.mpr ⟨lw_p48, List.forall_mem_cons.mpr ⟨lw_p49, List.forall_mem_cons.mpr ⟨lw_p50, List.forall_mem_cons.mpr ⟨lw_p51, List.forall_mem_cons.mpr ⟨lw_p52, List.forall_mem_cons.mpr ⟨lw_p53, List.forall_mem_cons.mpr ⟨lw_p54, List.forall_mem_cons.mpr ⟨lw_p55, fun _ h => absurd h List.not_mem_nil⟩⟩⟩⟩⟩⟩⟩⟩
def lw_privs : List (MethodName × Nat) := lw_privs_1 ++ (lw_privs_2 ++ (lw_privs_3 ++ (lw_privs_4)))
def lw_tbl : List Cond := k2_sels lw_privs ++ tables_1
theorem lw_privs_ok : ∀ q ∈ lw_privs, lw_okq q := by
  show ∀ q ∈ lw_privs_1 ++ (lw_privs_2 ++ (lw_privs_3 ++ (lw_privs_4))), lw_okq q
  exact List.forall_mem_append.mpr ⟨lw_r1, List.forall_mem_append.mpr ⟨lw_r2, List.forall_mem_append.mpr ⟨lw_r3, lw_r4⟩⟩⟩
end
section
-- M-WORLDS: a world is a function from addresses to what lies there; a contract speaks of the whole function, so that no call cuts or joins
abbrev mw_M : Type := Nat → Option va_E
def mw_P (D : va_G) (cl : List vw_C) (M : mw_M) (H : Heap) : Prop := ∀ (a : Nat) (e : va_E), M a = some e → va_at D cl (a, e) H
def mw_up (M : mw_M) (a : Nat) (e : va_E) : mw_M := fun q => if q = a then some e else M q
theorem mw_up_self {M : mw_M} {a : Nat} {e : va_E} : mw_up M a e a = some e := by simp [mw_up]
theorem mw_up_ne {M : mw_M} {a q : Nat} {e : va_E} (h : q ≠ a) : mw_up M a e q = M q := by simp [mw_up, h]
def mw_A (M : mw_M) (sz : Nat) : Nat → Prop := fun q => (∃ e : va_E, M q = some e) ∨ sz ≤ q
theorem mw_P.one {D : va_G} {cl : List vw_C} {M : mw_M} {H : Heap} (h : mw_P D cl M H) {a : Nat} {e : va_E} (ha : M a = some e) : va_P D cl [(a, e)] H := by
  intro k q hk
  match k, hk with
  | 0, hk => cases hk; exact h a e ha
  | k + 1, hk => simp at hk
theorem mw_P.set {D : va_G} {cl : List vw_C} {M : mw_M} {H H1 : Heap} {a : Nat} {e : va_E} (h : mw_P D cl M H) (he : va_at D cl (a, e) H1) (oq : ∀ q : Nat, q ≠ a → H1[q]? = H[q]?) : mw_P D cl (mw_up M a e) H1 := by
  intro q e' hq
  by_cases hqa : q = a
  · subst hqa
    rw [mw_up_self] at hq
    cases hq
    exact he
  · rw [mw_up_ne hqa] at hq
    exact (h q e' hq).kept (oq q hqa)
theorem mw_P.new {D : va_G} {cl : List vw_C} {M : mw_M} {H H1 : Heap} {a : Nat} {e : va_E} (h : mw_P D cl M H) (he : va_at D cl (a, e) H1) (oq : ∀ q : Nat, q < H.size → H1[q]? = H[q]?) : mw_P D cl (mw_up M a e) H1 := by
  intro q e' hq
  by_cases hqa : q = a
  · subst hqa
    rw [mw_up_self] at hq
    cases hq
    exact he
  · rw [mw_up_ne hqa] at hq
    exact (h q e' hq).kept (oq q (h q e' hq).lt)
theorem mw_A.up {M : mw_M} {sz a : Nat} {e : va_E} {A : Nat → Prop} (h : ∀ q, mw_A M sz q → A q) (ha : A a) : ∀ q, mw_A (mw_up M a e) sz q → A q := by
  intro q hq
  rcases hq with ⟨e', hq⟩ | hq
  · by_cases hqa : q = a
    · subst hqa; exact ha
    · rw [mw_up_ne hqa] at hq
      exact h q (Or.inl ⟨e', hq⟩)
  · exact h q (Or.inr hq)
section MW
variable {p : Program} {l : Launch} {e : Env} {R : Room} {s : State} {m : MethodId} {args : Array Value} {below : List Frame} {meth : Method} {c : Code} {H : Heap} {locs : List Loc} {cells slots : Nat} {Q : State → Prop}
variable {cc : ByteArray} {pc : Nat} {ls : Array Slot} {rest : List Value} {D : va_G} {cl : List vw_C} {A : Nat → Prop} {a : Nat} {tys : List (ClassId × FieldType)} {M : mw_M} {H0 : Heap}
theorem mw_get (hexec : p.tables.exec = Jvm.exec) (hb : c.code = cc) {own ref C : String} {T : u_T} {N ci index : Nat} {Ts : List Cond} (hts : ∀ w ∈ Ts, w.before args s = true) (hin : ∀ w ∈ u_ws C T N, w ∈ Ts) (hown : s.vm.findClass own = some m.cls) (hK : va_K D cl tys s) (hP : mw_P D cl M H) {fs : List Value} (he : M a = some (.inr (ci, fs))) (hc : cl[ci]? = some (C, T, N)) (k : Nat) (hk : k < N) (hlink : (Cond.fieldLink own index ref (T k).2.1 (T k).2.2.1).before args s = true) (hsame : ∀ x, s.fieldFound? (T k).1 (T k).2.1 (T k).2.2.1 = some x → s.fieldFound? ref (T k).2.1 (T k).2.2.1 = some x) {v : Value} (hv : fs[k]? = some v) (hdg : decode cc pc = .ok (.getfield index, 3))
    (kk : W p l e R s m args below meth c H locs cells slots Q (F0 m (pc + 3) ls (v :: rest))) : W p l e R s m args below meth c H locs cells slots Q (F0 m pc ls (.ref a :: rest)) :=
  va_get hexec hb hts hin hown hK (hP.one he) 0 rfl hc k hk hlink hsame hv hdg kk
theorem mw_getN (hexec : p.tables.exec = Jvm.exec) (hb : c.code = cc) {own ref C host : String} {T : u_T} {N ci index : Nat} {Ts : List Cond} (hts : ∀ w ∈ Ts, w.before args s = true) (hin : ∀ w ∈ u_ws C T N, w ∈ Ts) (hown : s.vm.findClass own = some m.cls) (hK : va_K D cl tys s) (hP : mw_P D cl M H) {fs : List Value} (he : M a = some (.inr (ci, fs))) (hc : cl[ci]? = some (C, T, N)) (k : Nat) (hk : k < N) (hlink : (Cond.fieldLinkNest own index ref (T k).2.1 (T k).2.2.1 host).before args s = true) (hsame : ∀ x, s.fieldFound? (T k).1 (T k).2.1 (T k).2.2.1 = some x → s.fieldFound? ref (T k).2.1 (T k).2.2.1 = some x) {v : Value} (hv : fs[k]? = some v) (hdg : decode cc pc = .ok (.getfield index, 3))
    (kk : W p l e R s m args below meth c H locs cells slots Q (F0 m (pc + 3) ls (v :: rest))) : W p l e R s m args below meth c H locs cells slots Q (F0 m pc ls (.ref a :: rest)) :=
  va_getN hexec hb hts hin hown hK (hP.one he) 0 rfl hc k hk hlink hsame hv hdg kk
theorem mw_put (hexec : p.tables.exec = Jvm.exec) (hb : c.code = cc) {own ref C : String} {T : u_T} {N ci index : Nat} {Ts : List Cond} (hts : ∀ w ∈ Ts, w.before args s = true) (hin : ∀ w ∈ u_ws C T N, w ∈ Ts) (ty0 : Nat → FieldType) (hty : ∀ k, k < N → parseFieldDescriptor (T k).2.2.1 = some (ty0 k)) (hnm : ∀ a, a < N → ∀ b, b < N → a ≠ b → (T a).2.1 ≠ (T b).2.1) (hown : s.vm.findClass own = some m.cls) (hK : va_K D cl tys s) (hP : mw_P D cl M H) (hS0 : va_S A H0 H locs) {fs : List Value} (he : M a = some (.inr (ci, fs))) (haA : A a) (hc : cl[ci]? = some (C, T, N)) (k : Nat) (hk : k < N) (hlink : (Cond.fieldLink own index ref (T k).2.1 (T k).2.2.1).before args s = true) (hsame : ∀ x, s.fieldFound? (T k).1 (T k).2.1 (T k).2.2.1 = some x → s.fieldFound? ref (T k).2.1 (T k).2.2.1 = some x) (hfin : (T k).2.2.2 = false) {ty : FieldType} {v : Value} (hd : parseFieldDescriptor (T k).2.2.1 = some ty) (hn : narrow ty v = v) (hfit : fits ty v = true) (hl : k < fs.length)
    (hdg : decode cc pc = .ok (.putfield index, 3)) (kk : ∀ (H1 : Heap) (locs1 : List Loc), mw_P D cl (mw_up M a (.inr (ci, fs.set k v))) H1 → va_S A H0 H1 locs1 → H1.size = H.size → W p l e R s m args below meth c H1 locs1 cells slots Q (F0 m (pc + 3) ls rest)) : W p l e R s m args below meth c H locs cells slots Q (F0 m pc ls (v :: .ref a :: rest)) := by
  have hap := va_apart (own := own) hts hin ty0 hty hnm hK hc
  obtain ⟨r, h1, cell, q1, q2, q3, q4⟩ := hP a _ he
  have hr : r = (C, T, N) := Option.some.inj (h1.symm.trans hc)
  subst hr
  obtain ⟨hS, hfc, kC, hkC, hkind⟩ := hK.1 ci _ hc
  obtain ⟨cf, kf, fi, f, hi, hsl⟩ := hS k hk
  have hlay := hts _ (hin _ (u_in_lay hk))
  unfold u_lay at hlay
  rw [if_neg (by rw [hfin]; decide)] at hlay
  have hst := (u_facts hfc hkC (u_lays hts hin hk) hi).1
  have h6 := u_store hfc hkC hkind hlay hi hd hn hfit
  refine W.putK hexec hb (f := f) ⟨hown, hlink, ⟨_, _, _, hsame _ hi⟩, hst⟩ (by rw [q2]; exact h6) q1 q3 (by rw [hsl]; exact k2_hasslot (q4 k hk)) rfl rfl hdg fun H' e1 e2 e3 => ?_
  rw [hsl] at e1 ⊢
  exact kk H' _ (hP.set ⟨_, hc, t_OB.to (V := updV (vp_V fs) k v) ⟨_, e1, q2, q3, t_set q4 hap hk v⟩ (fun j _ => vp_updV_set hl v j)⟩ e3) (hS0.put e2 e3 haA) e2
theorem mw_putF (hexec : p.tables.exec = Jvm.exec) (hb : c.code = cc) {own ref C : String} {T : u_T} {N ci index : Nat} {Ts : List Cond} (hts : ∀ w ∈ Ts, w.before args s = true) (hin : ∀ w ∈ u_ws C T N, w ∈ Ts) (ty0 : Nat → FieldType) (hty : ∀ k, k < N → parseFieldDescriptor (T k).2.2.1 = some (ty0 k)) (hnm : ∀ a, a < N → ∀ b, b < N → a ≠ b → (T a).2.1 ≠ (T b).2.1) (hown : s.vm.findClass own = some m.cls) (hK : va_K D cl tys s) (hP : mw_P D cl M H) (hS0 : va_S A H0 H locs) {fs : List Value} (he : M a = some (.inr (ci, fs))) (haA : A a) (hc : cl[ci]? = some (C, T, N)) (k : Nat) (hk : k < N) (hlink : (Cond.fieldLink own index ref (T k).2.1 (T k).2.2.1).before args s = true) (hsame : ∀ x, s.fieldFound? (T k).1 (T k).2.1 (T k).2.2.1 = some x → s.fieldFound? ref (T k).2.1 (T k).2.2.1 = some x) (hfin : (T k).2.2.2 = true) (hin2 : meth.name = "<init>") (hdecl : (T k).1 = own) {ty : FieldType} {v : Value} (hd : parseFieldDescriptor (T k).2.2.1 = some ty) (hn : narrow ty v = v) (hfit : fits ty v = true) (hl : k < fs.length)
    (hdg : decode cc pc = .ok (.putfield index, 3)) (kk : ∀ (H1 : Heap) (locs1 : List Loc), mw_P D cl (mw_up M a (.inr (ci, fs.set k v))) H1 → va_S A H0 H1 locs1 → H1.size = H.size → W p l e R s m args below meth c H1 locs1 cells slots Q (F0 m (pc + 3) ls rest)) : W p l e R s m args below meth c H locs cells slots Q (F0 m pc ls (v :: .ref a :: rest)) := by
  have hap := va_apart (own := own) hts hin ty0 hty hnm hK hc
  obtain ⟨r, h1, cell, q1, q2, q3, q4⟩ := hP a _ he
  have hr : r = (C, T, N) := Option.some.inj (h1.symm.trans hc)
  subst hr
  obtain ⟨hS, hfc, kC, hkC, hkind⟩ := hK.1 ci _ hc
  obtain ⟨cf, kf, fi, f, hi, hsl⟩ := hS k hk
  have hlay := hts _ (hin _ (u_in_lay hk))
  unfold u_lay at hlay
  rw [if_pos hfin] at hlay
  have hst := (u_facts hfc hkC (u_lays hts hin hk) hi).1
  have hcf : m.cls = cf := by
    obtain ⟨_, _, c', _, _, _, -, -, hf', -, -, -, hown2, -⟩ := Cond.laysFinal_spec hlay
    have e1 : c' = cf := by have := hi.symm.trans hf'; simp at this; exact this.1.symm
    rw [hdecl] at hown2
    rw [← e1]; exact Option.some.inj (hown.symm.trans hown2)
  have h6 := u_fits hfc hkC hkind (Or.inr hlay) hi hd hn hfit
  refine W.putFinK hexec hb hown hlink (hsame _ hi) hst hcf hin2 (by rw [q2]; exact h6) q1 q3 (by rw [hsl]; exact k2_hasslot (q4 k hk)) rfl rfl hdg fun H' e1 e2 e3 => ?_
  rw [hsl] at e1 ⊢
  exact kk H' _ (hP.set ⟨_, hc, t_OB.to (V := updV (vp_V fs) k v) ⟨_, e1, q2, q3, t_set q4 hap hk v⟩ (fun j _ => vp_updV_set hl v j)⟩ e3) (hS0.put e2 e3 haA) e2
theorem mw_putN (hexec : p.tables.exec = Jvm.exec) (hb : c.code = cc) {own ref C host : String} {T : u_T} {N ci index : Nat} {Ts : List Cond} (hts : ∀ w ∈ Ts, w.before args s = true) (hin : ∀ w ∈ u_ws C T N, w ∈ Ts) (ty0 : Nat → FieldType) (hty : ∀ k, k < N → parseFieldDescriptor (T k).2.2.1 = some (ty0 k)) (hnm : ∀ a, a < N → ∀ b, b < N → a ≠ b → (T a).2.1 ≠ (T b).2.1) (hown : s.vm.findClass own = some m.cls) (hK : va_K D cl tys s) (hP : mw_P D cl M H) (hS0 : va_S A H0 H locs) {fs : List Value} (he : M a = some (.inr (ci, fs))) (haA : A a) (hc : cl[ci]? = some (C, T, N)) (k : Nat) (hk : k < N) (hlink : (Cond.fieldLinkNest own index ref (T k).2.1 (T k).2.2.1 host).before args s = true) (hsame : ∀ x, s.fieldFound? (T k).1 (T k).2.1 (T k).2.2.1 = some x → s.fieldFound? ref (T k).2.1 (T k).2.2.1 = some x) (hfin : (T k).2.2.2 = false) {ty : FieldType} {v : Value} (hd : parseFieldDescriptor (T k).2.2.1 = some ty) (hn : narrow ty v = v) (hfit : fits ty v = true) (hl : k < fs.length)
    (hdg : decode cc pc = .ok (.putfield index, 3)) (kk : ∀ (H1 : Heap) (locs1 : List Loc), mw_P D cl (mw_up M a (.inr (ci, fs.set k v))) H1 → va_S A H0 H1 locs1 → H1.size = H.size → W p l e R s m args below meth c H1 locs1 cells slots Q (F0 m (pc + 3) ls rest)) : W p l e R s m args below meth c H locs cells slots Q (F0 m pc ls (v :: .ref a :: rest)) := by
  have hap := va_apart (own := own) hts hin ty0 hty hnm hK hc
  obtain ⟨r, h1, cell, q1, q2, q3, q4⟩ := hP a _ he
  have hr : r = (C, T, N) := Option.some.inj (h1.symm.trans hc)
  subst hr
  obtain ⟨hS, hfc, kC, hkC, hkind⟩ := hK.1 ci _ hc
  obtain ⟨cf, kf, fi, f, hi, hsl⟩ := hS k hk
  have hlay := hts _ (hin _ (u_in_lay hk))
  unfold u_lay at hlay
  rw [if_neg (by rw [hfin]; decide)] at hlay
  have hst := (u_facts hfc hkC (u_lays hts hin hk) hi).1
  have h6 := u_store hfc hkC hkind hlay hi hd hn hfit
  refine va_WputK hexec hb (f := f) hown hlink (hsame _ hi) hst (by rw [q2]; exact h6) q1 q3 (by rw [hsl]; exact k2_hasslot (q4 k hk)) rfl rfl hdg fun H' e1 e2 e3 => ?_
  rw [hsl] at e1 ⊢
  exact kk H' _ (hP.set ⟨_, hc, t_OB.to (V := updV (vp_V fs) k v) ⟨_, e1, q2, q3, t_set q4 hap hk v⟩ (fun j _ => vp_updV_set hl v j)⟩ e3) (hS0.put e2 e3 haA) e2
theorem mw_iald (hexec : p.tables.exec = Jvm.exec) (hb : c.code = cc) (hK : va_K D cl tys s) (hP : mw_P D cl M H) (t0 : Nat) {cA : ClassId} {n : Nat} {f : Nat → Int32} (ha : M a = some (.inl (cA, n, .inl f))) (ht : tys[t0]? = some (cA, .int)) {i : Int32} (hin : vp_in i n) (hdg : decode cc pc = .ok (.iaload, 1))
    (kk : W p l e R s m args below meth c H locs cells slots Q (F0 m (pc + 1) ls (.int (f i.toNatClampNeg) :: rest))) : W p l e R s m args below meth c H locs cells slots Q (F0 m pc ls (.int i :: .ref a :: rest)) :=
  va_iald hexec hb hK (hP.one ha) 0 t0 rfl ht hin hdg kk
theorem mw_lald (hexec : p.tables.exec = Jvm.exec) (hb : c.code = cc) (hK : va_K D cl tys s) (hP : mw_P D cl M H) (t0 : Nat) {cA : ClassId} {n : Nat} {f : Nat → Int64} (ha : M a = some (.inl (cA, n, .inr (.inl f)))) (ht : tys[t0]? = some (cA, .long)) {i : Int32} (hin : vp_in i n) (hdg : decode cc pc = .ok (.laload, 1))
    (kk : W p l e R s m args below meth c H locs cells slots Q (F0 m (pc + 1) ls (.long (f i.toNatClampNeg) :: rest))) : W p l e R s m args below meth c H locs cells slots Q (F0 m pc ls (.int i :: .ref a :: rest)) :=
  va_lald hexec hb hK (hP.one ha) 0 t0 rfl ht hin hdg kk
theorem mw_aldq (hexec : p.tables.exec = Jvm.exec) (hb : c.code = cc) (hK : va_K D cl tys s) (hP : mw_P D cl M H) (t0 : Nat) {cA : ClassId} {C : String} {n : Nat} {f : Nat → Option Nat} (ha : M a = some (.inl (cA, n, .inr (.inr (.inr (.inr f)))))) (ht : tys[t0]? = some (cA, .object C)) {i : Int32} (hin : vp_in i n) (hdg : decode cc pc = .ok (.aaload, 1))
    {v : Nat} (hv : f i.toNatClampNeg = some v) (kk : W p l e R s m args below meth c H locs cells slots Q (F0 m (pc + 1) ls (.ref v :: rest))) : W p l e R s m args below meth c H locs cells slots Q (F0 m pc ls (.int i :: .ref a :: rest)) :=
  va_aldq hexec hb hK (hP.one ha) 0 t0 rfl ht hin hdg (by rw [hv]; exact kk)
theorem mw_alen (hexec : p.tables.exec = Jvm.exec) (hb : c.code = cc) (hK : va_K D cl tys s) (hP : mw_P D cl M H) (t0 : Nat) {cA : ClassId} {x : vp_A} (ha : M a = some (.inl (cA, x))) {ty : FieldType} (ht : tys[t0]? = some (cA, ty)) {v : Int32} (hv : Int32.ofNat x.1 = v) (hdg : decode cc pc = .ok (.arraylength, 1))
    (kk : W p l e R s m args below meth c H locs cells slots Q (F0 m (pc + 1) ls (.int v :: rest))) : W p l e R s m args below meth c H locs cells slots Q (F0 m pc ls (.ref a :: rest)) :=
  va_alen hexec hb hK (hP.one ha) 0 t0 rfl ht hv hdg kk
theorem mw_iast (hexec : p.tables.exec = Jvm.exec) (hb : c.code = cc) (hK : va_K D cl tys s) (hP : mw_P D cl M H) (hS : va_S A H0 H locs) (t0 : Nat) {cA : ClassId} {n : Nat} {f : Nat → Int32} (ha : M a = some (.inl (cA, n, .inl f))) (haA : A a) (ht : tys[t0]? = some (cA, .int)) {i : Int32} {x : Int32} (hin : vp_in i n) (hdg : decode cc pc = .ok (.iastore, 1))
    (kk : ∀ (H1 : Heap) (locs1 : List Loc), mw_P D cl (mw_up M a (.inl (cA, n, .inl (upd f i.toNatClampNeg x)))) H1 → va_S A H0 H1 locs1 → H1.size = H.size → W p l e R s m args below meth c H1 locs1 cells slots Q (F0 m (pc + 1) ls rest)) : W p l e R s m args below meth c H locs cells slots Q (F0 m pc ls (.int x :: .int i :: .ref a :: rest)) := by
  refine W.iast hexec hb (hP a _ ha) ((hK.2 t0 _ ht).1 n (fun j => .int (f j))) (fun q => by cases q) (by show ¬ (i < 0 ∨ (arrV _ _ _).slots.size ≤ _); rw [arrV_size]; exact hin) rfl rfl hdg fun H1 e z oq => ?_
  refine kk H1 _ (hP.set ?_ oq) (hS.put z oq haA) z
  show H1[a]? = some (vp_cell _ _)
  rw [e]
  rw [vp_cell_i, vp_cell_i, arrV_store]
  congr 2
  funext q
  by_cases hq : q = i.toNatClampNeg
  · subst hq
    simp [updV, upd]
  · simp [updV, upd, hq]
theorem mw_last (hexec : p.tables.exec = Jvm.exec) (hb : c.code = cc) (hK : va_K D cl tys s) (hP : mw_P D cl M H) (hS : va_S A H0 H locs) (t0 : Nat) {cA : ClassId} {n : Nat} {f : Nat → Int64} (ha : M a = some (.inl (cA, n, .inr (.inl f)))) (haA : A a) (ht : tys[t0]? = some (cA, .long)) {i : Int32} {x : Int64} (hin : vp_in i n) (hdg : decode cc pc = .ok (.lastore, 1))
    (kk : ∀ (H1 : Heap) (locs1 : List Loc), mw_P D cl (mw_up M a (.inl (cA, n, .inr (.inl (vp_updL f i.toNatClampNeg x))))) H1 → va_S A H0 H1 locs1 → H1.size = H.size → W p l e R s m args below meth c H1 locs1 cells slots Q (F0 m (pc + 1) ls rest)) : W p l e R s m args below meth c H locs cells slots Q (F0 m pc ls (.long x :: .int i :: .ref a :: rest)) := by
  refine W.last hexec hb (hP a _ ha) ((hK.2 t0 _ ht).1 n (fun j => .long (f j))) (fun q => by cases q) (by show ¬ (i < 0 ∨ (arrV _ _ _).slots.size ≤ _); rw [arrV_size]; exact hin) rfl rfl hdg fun H1 e z oq => ?_
  refine kk H1 _ (hP.set ?_ oq) (hS.put z oq haA) z
  show H1[a]? = some (vp_cell _ _)
  rw [e]
  rw [vp_cell_l, vp_cell_l, arrV_store]
  congr 2
  funext q
  by_cases hq : q = i.toNatClampNeg
  · subst hq
    simp [updV, vp_updL]
  · simp [updV, vp_updL, hq]
theorem mw_astq (hexec : p.tables.exec = Jvm.exec) (hb : c.code = cc) (hK : va_K D cl tys s) (hP : mw_P D cl M H) (hS : va_S A H0 H locs) (t0 ci : Nat) {cA : ClassId} {r : vw_C} {n v : Nat} {vs : List Value} {f : Nat → Option Nat} (ha : M a = some (.inl (cA, n, .inr (.inr (.inr (.inr f)))))) (haA : A a) (ht : tys[t0]? = some (cA, .object r.1)) (hv : M v = some (.inr (ci, vs))) (hc : cl[ci]? = some r) {i : Int32} (hin : vp_in i n) (hdg : decode cc pc = .ok (.aastore, 1))
    (kk : ∀ (H1 : Heap) (locs1 : List Loc), mw_P D cl (mw_up M a (.inl (cA, n, .inr (.inr (.inr (.inr (va_up f i.toNatClampNeg (some v)))))))) H1 → va_S A H0 H1 locs1 → H1.size = H.size → W p l e R s m args below meth c H1 locs1 cells slots Q (F0 m (pc + 1) ls rest)) : W p l e R s m args below meth c H locs cells slots Q (F0 m pc ls (.ref v :: .int i :: .ref a :: rest)) := by
  have hlt : i.toNatClampNeg < n := Nat.not_le.mp fun q => hin (Or.inr q)
  have h0 : ¬ i < 0 := fun q => hin (Or.inl q)
  obtain ⟨r', hr', cellV, g1, g2, g3, -⟩ := hP v _ hv
  have hcls := (hK.1 ci r hc).2
  obtain ⟨kA, comp, k1, k2, k3, -⟩ := (hK.2 t0 _ ht).2
  have hcomp : comp = D.1 ci := Option.some.inj (k3.symm.trans hcls.1)
  subst hcomp
  obtain ⟨kC, hkC, -⟩ := hcls.2
  refine W.aast hexec hb (hP a _ ha) (fun q h => by cases h) (fun h => by cases h) k1 k2 rfl hkC ⟨h0, by show _ < (arrV _ _ _).slots.size; rw [arrV_size]; exact hlt⟩ g1 (fun q h => by rw [g3] at h; cases h) (by rw [g2]; exact hkC) (by rw [g2]; exact va_assign hcls) rfl rfl hdg fun H1 e z oq => ?_
  refine kk H1 _ (hP.set ?_ oq) (hS.put z oq haA) z
  show H1[a]? = some (vp_cell _ _)
  rw [e]
  rw [vp_cell_q, vp_cell_q, arrV_store]
  congr 2
  funext q
  by_cases hq : q = i.toNatClampNeg
  · subst hq
    simp [updV, va_up, va_rf]
  · simp [updV, va_up, hq]
end MW
end
section
-- THE DOUBLE DESCRIPTION, as whole numbers: vectors of four, rows as vectors, generators
abbrev dd_V : Type := Int × Int × Int × Int
def dd_add (x y : dd_V) : dd_V := (x.1 + y.1, x.2.1 + y.2.1, x.2.2.1 + y.2.2.1, x.2.2.2 + y.2.2.2)
def dd_mul (k : Int) (x : dd_V) : dd_V := (k * x.1, k * x.2.1, k * x.2.2.1, k * x.2.2.2)
def dd_ev (w x : dd_V) : Int := w.1 * x.1 + w.2.1 * x.2.1 + w.2.2.1 * x.2.2.1 + w.2.2.2 * x.2.2.2
def dd_0 : dd_V := (0, 0, 0, 0)
theorem dd_ev_add (w x y : dd_V) : dd_ev w (dd_add x y) = dd_ev w x + dd_ev w y := by
  simp only [dd_ev, dd_add]; grind
theorem dd_ev_mul (w : dd_V) (k : Int) (x : dd_V) : dd_ev w (dd_mul k x) = k * dd_ev w x := by
  simp only [dd_ev, dd_mul]; grind
theorem dd_ev_0 (w : dd_V) : dd_ev w dd_0 = 0 := by
  simp [dd_ev, dd_0]
theorem dd_mul_add (k : Int) (x y : dd_V) : dd_mul k (dd_add x y) = dd_add (dd_mul k x) (dd_mul k y) := by
  simp only [dd_mul, dd_add, Int.mul_add]
theorem dd_mul_mul (k j : Int) (x : dd_V) : dd_mul k (dd_mul j x) = dd_mul (k * j) x := by
  simp only [dd_mul, Int.mul_assoc]
theorem dd_mul_0 (k : Int) : dd_mul k dd_0 = dd_0 := by simp [dd_mul, dd_0]
theorem dd_0_mul (x : dd_V) : dd_mul 0 x = dd_0 := by simp [dd_mul, dd_0]
theorem dd_1_mul (x : dd_V) : dd_mul 1 x = x := by simp [dd_mul]
theorem dd_add_0 (x : dd_V) : dd_add x dd_0 = x := by simp [dd_add, dd_0]
theorem dd_0_add (x : dd_V) : dd_add dd_0 x = x := by simp [dd_add, dd_0]
theorem dd_add_mul (j k : Int) (x : dd_V) : dd_mul (j + k) x = dd_add (dd_mul j x) (dd_mul k x) := by
  simp only [dd_mul, dd_add, Int.add_mul]
theorem dd_add_swap (a b c d : dd_V) : dd_add (dd_add a b) (dd_add c d) = dd_add (dd_add a c) (dd_add b d) := by
  simp only [dd_add, Prod.mk.injEq]; omega
theorem dd_add_comm (a b : dd_V) : dd_add a b = dd_add b a := by
  simp only [dd_add, Prod.mk.injEq]; omega
theorem dd_add_assoc (a b c : dd_V) : dd_add (dd_add a b) c = dd_add a (dd_add b c) := by
  simp only [dd_add, Prod.mk.injEq]; omega
/-- what lines (any number of times) and rays (0 times or more) make together -/
def dd_Gen (L G : dd_V → Prop) (x : dd_V) : Prop := ∀ P : dd_V → Prop, P dd_0 → (∀ x y, P x → P y → P (dd_add x y)) → (∀ v, L v → ∀ k : Int, P (dd_mul k v)) → (∀ v, G v → ∀ k : Int, 0 ≤ k → P (dd_mul k v)) → P x
theorem dd_Gen.zero {L G : dd_V → Prop} : dd_Gen L G dd_0 := fun _ h0 _ _ _ => h0
theorem dd_Gen.add {L G : dd_V → Prop} {x y : dd_V} (hx : dd_Gen L G x) (hy : dd_Gen L G y) : dd_Gen L G (dd_add x y) := fun P h0 ha hl hg => ha x y (hx P h0 ha hl hg) (hy P h0 ha hl hg)
theorem dd_Gen.line {L G : dd_V → Prop} {v : dd_V} (hv : L v) (k : Int) : dd_Gen L G (dd_mul k v) := fun _ _ _ hl _ => hl v hv k
theorem dd_Gen.ray {L G : dd_V → Prop} {v : dd_V} (hv : G v) {k : Int} (hk : 0 ≤ k) : dd_Gen L G (dd_mul k v) := fun _ _ _ _ hg => hg v hv k hk
theorem dd_Gen.ray1 {L G : dd_V → Prop} {v : dd_V} (hv : G v) : dd_Gen L G v := by
  have h := dd_Gen.ray (L := L) hv (k := 1) (by omega)
  rwa [dd_1_mul] at h
theorem dd_Gen.mono {L L' G G' : dd_V → Prop} {x : dd_V} (hL : ∀ v, L v → L' v) (hG : ∀ v, G v → G' v) (h : dd_Gen L G x) : dd_Gen L' G' x := fun P h0 ha hl hg => h P h0 ha (fun v hv => hl v (hL v hv)) (fun v hv => hg v (hG v hv))
theorem dd_Gen.mul {L G : dd_V → Prop} {x : dd_V} {k : Int} (hk : 0 ≤ k) (h : dd_Gen L G x) : dd_Gen L G (dd_mul k x) := by
  refine h (fun y => dd_Gen L G (dd_mul k y)) ?_ ?_ ?_ ?_
  · rw [dd_mul_0]; exact dd_Gen.zero
  · intro x y hx hy
    rw [dd_mul_add]; exact hx.add hy
  · intro v hv j
    rw [dd_mul_mul]; exact dd_Gen.line hv _
  · intro v hv j hj
    rw [dd_mul_mul]; exact dd_Gen.ray hv (Int.mul_nonneg hk hj)
/-- some multiple of it is made -/
def dd_Q (L G : dd_V → Prop) (x : dd_V) : Prop := ∃ k : Int, 0 < k ∧ dd_Gen L G (dd_mul k x)
theorem dd_Q.of {L G : dd_V → Prop} {x : dd_V} (h : dd_Gen L G x) : dd_Q L G x := ⟨1, by omega, by rw [dd_1_mul]; exact h⟩
theorem dd_Q.add {L G : dd_V → Prop} {x y : dd_V} (hx : dd_Q L G x) (hy : dd_Q L G y) : dd_Q L G (dd_add x y) := by
  obtain ⟨j, hj, h1⟩ := hx
  obtain ⟨k, hk, h2⟩ := hy
  refine ⟨j * k, Int.mul_pos hj hk, ?_⟩
  rw [dd_mul_add]
  refine dd_Gen.add ?_ ?_
  · rw [Int.mul_comm, ← dd_mul_mul]; exact h1.mul (by omega)
  · rw [← dd_mul_mul]; exact h2.mul (by omega)
theorem dd_Q.mul {L G : dd_V → Prop} {x : dd_V} {k : Int} (hk : 0 ≤ k) (h : dd_Q L G x) : dd_Q L G (dd_mul k x) := by
  obtain ⟨j, hj, h1⟩ := h
  refine ⟨j, hj, ?_⟩
  rw [dd_mul_mul, Int.mul_comm, ← dd_mul_mul]
  exact h1.mul hk
theorem dd_Q.div {L G : dd_V → Prop} {x : dd_V} {k : Int} (hk : 0 < k) (h : dd_Q L G (dd_mul k x)) : dd_Q L G x := by
  obtain ⟨j, hj, h1⟩ := h
  exact ⟨j * k, Int.mul_pos hj hk, by rw [← dd_mul_mul]; exact h1⟩
theorem dd_Q.trans {L G L' G' : dd_V → Prop} {x : dd_V} (hL : ∀ v, L v → ∀ k : Int, dd_Q L' G' (dd_mul k v)) (hG : ∀ v, G v → dd_Q L' G' v) (h : dd_Q L G x) : dd_Q L' G' x := by
  obtain ⟨k, hk, h⟩ := h
  refine dd_Q.div hk (h (dd_Q L' G') (dd_Q.of dd_Gen.zero) (fun x y hx hy => hx.add hy) hL (fun v hv j hj => (hG v hv).mul hj))
theorem dd_Q.transG {L G G' : dd_V → Prop} {x : dd_V} (hG : ∀ v, G v → dd_Q L G' v) (h : dd_Q L G x) : dd_Q L G' x :=
  h.trans (fun v hv k => dd_Q.of (dd_Gen.line hv k)) hG
/-- only generators that just hold where it just holds are needed -/
theorem dd_Gen.face {L G : dd_V → Prop} {rows : List dd_V} (hL : ∀ v, L v → ∀ w ∈ rows, dd_ev w v = 0) (hG : ∀ v, G v → ∀ w ∈ rows, 0 ≤ dd_ev w v) {x : dd_V} (h : dd_Gen L G x) :
    (∀ w ∈ rows, 0 ≤ dd_ev w x) ∧ dd_Gen L (fun v => G v ∧ ∀ w ∈ rows, dd_ev w x = 0 → dd_ev w v = 0) x := by
  refine h (fun x => (∀ w ∈ rows, 0 ≤ dd_ev w x) ∧ dd_Gen L (fun v => G v ∧ ∀ w ∈ rows, dd_ev w x = 0 → dd_ev w v = 0) x) ?_ ?_ ?_ ?_
  · exact ⟨fun w _ => by rw [dd_ev_0]; omega, dd_Gen.zero⟩
  · intro x y hx hy
    refine ⟨fun w hw => by rw [dd_ev_add]; have := hx.1 w hw; have := hy.1 w hw; omega, dd_Gen.add ?_ ?_⟩
    · refine hx.2.mono (fun _ h => h) (fun v hv => ⟨hv.1, fun w hw h0 => hv.2 w hw ?_⟩)
      rw [dd_ev_add] at h0; have := hx.1 w hw; have := hy.1 w hw; omega
    · refine hy.2.mono (fun _ h => h) (fun v hv => ⟨hv.1, fun w hw h0 => hv.2 w hw ?_⟩)
      rw [dd_ev_add] at h0; have := hx.1 w hw; have := hy.1 w hw; omega
  · intro v hv k
    exact ⟨fun w hw => by rw [dd_ev_mul, hL v hv w hw]; omega, dd_Gen.line hv k⟩
  · intro v hv k hk
    refine ⟨fun w hw => by rw [dd_ev_mul]; exact Int.mul_nonneg hk (hG v hv w hw), ?_⟩
    by_cases h0 : k = 0
    · subst h0; rw [dd_0_mul]; exact dd_Gen.zero
    · refine dd_Gen.ray ⟨hv, fun w hw h1 => ?_⟩ hk
      rw [dd_ev_mul] at h1
      rcases Int.mul_eq_zero.mp h1 with h2 | h2
      · exact absurd h2 h0
      · exact h2
/-- the ray between one within and one beyond, where h just holds -/
def dd_comb (h r s : dd_V) : dd_V := dd_add (dd_mul (dd_ev h r) s) (dd_mul (-(dd_ev h s)) r)
theorem dd_comb_ev (w h r s : dd_V) : dd_ev w (dd_comb h r s) = dd_ev h r * dd_ev w s + (-(dd_ev h s)) * dd_ev w r := by
  simp only [dd_comb, dd_ev_add, dd_ev_mul]
theorem dd_comb_h (h r s : dd_V) : dd_ev h (dd_comb h r s) = 0 := by
  rw [dd_comb_ev]; grind
def dd_GA (h : dd_V) (G : dd_V → Prop) : dd_V → Prop := fun v => (G v ∧ 0 ≤ dd_ev h v) ∨ ∃ r s, G r ∧ G s ∧ 0 < dd_ev h r ∧ dd_ev h s < 0 ∧ v = dd_comb h r s
theorem dd_neg {G : dd_V → Prop} {h b : dd_V} (hb : dd_Gen (fun _ => False) (fun v => G v ∧ dd_ev h v < 0) b) : b = dd_0 ∨ dd_ev h b < 0 := by
  refine hb (fun b => b = dd_0 ∨ dd_ev h b < 0) (Or.inl rfl) ?_ (fun _ h => h.elim) ?_
  · intro x y hx hy
    rcases hx with rfl | hx
    · rw [dd_0_add]; exact hy
    · rcases hy with rfl | hy
      · rw [dd_add_0]; exact Or.inr hx
      · right; rw [dd_ev_add]; omega
  · intro v hv k hk
    by_cases h0 : k = 0
    · subst h0; left; exact dd_0_mul v
    · right; rw [dd_ev_mul]; exact Int.mul_neg_of_pos_of_neg (by omega) hv.2
theorem dd_split {L G : dd_V → Prop} {h x : dd_V} (hx : dd_Gen L G x) : ∃ a b, x = dd_add a b ∧ dd_Gen L (fun v => G v ∧ 0 ≤ dd_ev h v) a ∧ dd_Gen (fun _ => False) (fun v => G v ∧ dd_ev h v < 0) b := by
  refine hx (fun x => ∃ a b, x = dd_add a b ∧ dd_Gen L (fun v => G v ∧ 0 ≤ dd_ev h v) a ∧ dd_Gen (fun _ => False) (fun v => G v ∧ dd_ev h v < 0) b) ?_ ?_ ?_ ?_
  · exact ⟨dd_0, dd_0, (dd_0_add _).symm, dd_Gen.zero, dd_Gen.zero⟩
  · rintro x y ⟨a, b, rfl, h1, h2⟩ ⟨a', b', rfl, h3, h4⟩
    exact ⟨dd_add a a', dd_add b b', dd_add_swap a b a' b', h1.add h3, h2.add h4⟩
  · intro v hv k
    exact ⟨_, dd_0, (dd_add_0 _).symm, dd_Gen.line hv k, dd_Gen.zero⟩
  · intro v hv k hk
    by_cases h0 : 0 ≤ dd_ev h v
    · exact ⟨_, dd_0, (dd_add_0 _).symm, dd_Gen.ray ⟨hv, h0⟩ hk, dd_Gen.zero⟩
    · exact ⟨dd_0, _, (dd_0_add _).symm, dd_Gen.zero, dd_Gen.ray ⟨hv, by omega⟩ hk⟩
theorem dd_mix {L G : dd_V → Prop} {h a b : dd_V} (hL : ∀ v, L v → dd_ev h v = 0) (ha : dd_Gen L (fun v => G v ∧ 0 ≤ dd_ev h v) a) (hb : dd_Gen (fun _ => False) (fun v => G v ∧ dd_ev h v < 0) b) :
    dd_Gen L (dd_GA h G) (dd_comb h a b) := by
  refine hb (fun b => dd_Gen L (dd_GA h G) (dd_comb h a b)) ?_ ?_ (fun _ h => h.elim) ?_
  · have e : dd_comb h a dd_0 = dd_0 := by
      simp only [dd_comb, dd_ev_0, dd_mul_0, Int.neg_zero, dd_0_mul, dd_0_add]
    rw [e]; exact dd_Gen.zero
  · intro x y hx hy
    have e : dd_comb h a (dd_add x y) = dd_add (dd_comb h a x) (dd_comb h a y) := by
      simp only [dd_comb, dd_ev_add, dd_mul_add]
      rw [dd_add_swap, show (-(dd_ev h x + dd_ev h y)) = (-(dd_ev h x)) + (-(dd_ev h y)) by omega, dd_add_mul]
    rw [e]; exact hx.add hy
  · intro s hs k hk
    refine ha (fun a => dd_Gen L (dd_GA h G) (dd_comb h a (dd_mul k s))) ?_ ?_ ?_ ?_
    · have e : dd_comb h dd_0 (dd_mul k s) = dd_0 := by
        simp only [dd_comb, dd_ev_0, dd_mul_0, dd_0_mul, dd_0_add]
      rw [e]; exact dd_Gen.zero
    · intro x y hx hy
      have e : dd_comb h (dd_add x y) (dd_mul k s) = dd_add (dd_comb h x (dd_mul k s)) (dd_comb h y (dd_mul k s)) := by
        simp only [dd_comb, dd_ev_add, dd_mul_add]
        rw [dd_add_swap, dd_add_mul]
      rw [e]; exact hx.add hy
    · intro v hv j
      have e : dd_comb h (dd_mul j v) (dd_mul k s) = dd_mul ((-(dd_ev h (dd_mul k s))) * j) v := by
        simp only [dd_comb]
        rw [dd_ev_mul h j v, hL v hv, Int.mul_zero, dd_0_mul, dd_0_add, dd_mul_mul]
      rw [e]; exact dd_Gen.line hv _
    · intro r hr j hj
      have hs' : 0 < -(dd_ev h s) := by have := hs.2; omega
      rcases Int.lt_or_eq_of_le hr.2 with h1 | h1
      · have e : dd_comb h (dd_mul j r) (dd_mul k s) = dd_mul (j * k) (dd_comb h r s) := by
          simp only [dd_comb, dd_ev_mul, dd_mul_add, dd_mul_mul]
          congr 2 <;> grind
        rw [e]
        exact dd_Gen.ray (Or.inr ⟨r, s, hr.1, hs.1, h1, hs.2, rfl⟩) (Int.mul_nonneg hj hk)
      · have e : dd_comb h (dd_mul j r) (dd_mul k s) = dd_mul ((-(dd_ev h (dd_mul k s))) * j) r := by
          simp only [dd_comb]
          rw [dd_ev_mul h j r, ← h1, Int.mul_zero, dd_0_mul, dd_0_add, dd_mul_mul]
        rw [e]
        refine dd_Gen.ray (Or.inl ⟨hr.1, by omega⟩) (Int.mul_nonneg ?_ hj)
        rw [dd_ev_mul, ← Int.mul_neg]
        exact Int.mul_nonneg hk (by omega)
/-- with ALL rays between, nothing is lost -/
theorem dd_all {L G : dd_V → Prop} {h x : dd_V} (hL : ∀ v, L v → dd_ev h v = 0) (hx : dd_Q L G x) (h0 : 0 ≤ dd_ev h x) : dd_Q L (dd_GA h G) x := by
  obtain ⟨k, hk, hg⟩ := hx
  refine dd_Q.div hk ?_
  obtain ⟨a, b, e, ha, hb⟩ := dd_split (h := h) hg
  have hsum : 0 ≤ dd_ev h a + dd_ev h b := by
    have := dd_ev_mul h k x
    rw [e, dd_ev_add] at this
    rw [this]; exact Int.mul_nonneg (by omega) h0
  have hmix := dd_mix hL ha hb
  have ha' : dd_Gen L (dd_GA h G) a := ha.mono (fun _ h => h) (fun v hv => Or.inl hv)
  rw [e]
  rcases dd_neg hb with rfl | hneg
  · rw [dd_add_0]; exact dd_Q.of ha'
  · refine ⟨dd_ev h a, by omega, ?_⟩
    have e2 : dd_mul (dd_ev h a) (dd_add a b) = dd_add (dd_comb h a b) (dd_mul (dd_ev h a + dd_ev h b) a) := by
      simp only [dd_comb, dd_mul, dd_add, Prod.mk.injEq]
      refine ⟨?_, ?_, ?_, ?_⟩ <;> grind
    rw [e2]
    exact hmix.add (ha'.mul hsum)
end
section
-- TYPED MEMORY: a fixed shape of cells (no cell is made or lost by a method that is no constructor), whole numbers in them by address and place
def gm_nest : Cond → Bool
  | .fieldLinkNest .. => true
  | .methodLinkNest .. => true
  | _ => false
def tg : List Cond := lw_tbl.filter goodWord
def tn : List Cond := lw_tbl.filter gm_nest
theorem tg_in {w : Cond} (i : Nat) (h : lw_tbl[i]? = some w) (g : goodWord w = true) : w ∈ tg := List.mem_filter.mpr ⟨List.mem_of_getElem? h, g⟩
theorem tn_in {w : Cond} (i : Nat) (h : lw_tbl[i]? = some w) (g : gm_nest w = true) : w ∈ tn := List.mem_filter.mpr ⟨List.mem_of_getElem? h, g⟩
theorem tg_good {ws : List Cond} (h : ∀ w ∈ ws, w ∈ tg) : GoodIn tg ws := fun w hw => ⟨h w hw, good_of_word (List.mem_filter.mp (h w hw)).2⟩
def tN (U : State) : Prop := ∀ w ∈ tn, va_Nw w U
theorem tN.warm {s U : State} (hW : s.WarmedH U.vm) (h : tN s) : tN U := fun w hw => by
  have hn := (List.mem_filter.mp hw).2
  have h1 := h w hw
  cases w <;> first | exact va_Nw.warmF hW h1 | exact va_Nw.warmM hW h1 | (simp [gm_nest] at hn)
theorem tN.same {u U : State} (hvm : u.vm = U.vm) (h : tN u) : tN U := fun w hw => by
  have hn := (List.mem_filter.mp hw).2
  have h1 := h w hw
  cases w <;> first | exact va_Nw.same rfl hvm h1 | (simp [gm_nest] at hn)
/-- a method's words: its own code, and all good words of the tables -/
def wU (y : MethodName) (cc : ByteArray) (n : Nat) (ret : Option FieldType) : List Cond := .code y cc n ret :: tg
theorem tg_wU {y : MethodName} {cc : ByteArray} {n : Nat} {ret : Option FieldType} (h : Cond.code y cc n ret ∈ tg) : ∀ w ∈ wU y cc n ret, w ∈ tg := by
  intro w hw
  rcases List.mem_cons.mp hw with rfl | hw
  · exact h
  · exact hw
theorem tg_V {own C : String} {idx n : Nat} {y : MethodName} {cc : ByteArray} {ret : Option FieldType} (h1 : Cond.methodLink own idx y ∈ tg) (h2 : Cond.instanceMethod y ∈ tg) (h3 : Cond.selects C y y ∈ tg) (h4 : Cond.initialized C ∈ tg) (h5 : Cond.code y cc n ret ∈ tg) : GoodIn tg (wsV own idx C y (wU y cc n ret)) := by
  refine tg_good fun w hw => ?_
  rcases List.mem_append.mp hw with hw | hw
  · simp only [List.mem_cons, List.not_mem_nil, or_false] at hw
    rcases hw with rfl | rfl | rfl | rfl
    · exact h1
    · exact h2
    · exact h3
    · exact h4
  · exact tg_wU h5 w hw
theorem tg_S {own : String} {idx n : Nat} {y : MethodName} {cc : ByteArray} {ret : Option FieldType} (h1 : Cond.methodLink own idx y ∈ tg) (h2 : Cond.static y ∈ tg) (h4 : Cond.initialized own ∈ tg) (h5 : Cond.code y cc n ret ∈ tg) : GoodIn tg (wsS own idx y (wU y cc n ret)) := by
  refine tg_good fun w hw => ?_
  rcases List.mem_append.mp hw with hw | hw
  · simp only [List.mem_cons, List.not_mem_nil, or_false] at hw
    rcases hw with rfl | rfl | rfl
    · exact h1
    · exact h2
    · exact h4
  · exact tg_wU h5 w hw
/-- a cell's shape: an object (class number; of each field: 0 an int, 1 a long, or the value that it keeps), or an array: of n ints, n longs, n references -/
abbrev gm_S : Type := (Nat × List (Nat ⊕ Value)) ⊕ Nat ⊕ Nat ⊕ (ClassId × Nat × (Nat → Option Nat))
abbrev gm_H : Type := Nat → Option gm_S
abbrev gm_I : Type := Nat → Nat → Int32
abbrev gm_J : Type := Nat → Nat → Int64
def gm_v (x : Nat → Int32) (y : Nat → Int64) (k : Nat) (t : Nat ⊕ Value) : Value := match t with
  | .inl 0 => .int (x k)
  | .inl _ => .long (y k)
  | .inr v => v
def gm_fs (x : Nat → Int32) (y : Nat → Int64) (sl : List (Nat ⊕ Value)) : List Value := sl.mapIdx (gm_v x y)
def gm_e (cs : Nat → ClassId) (s : gm_S) (x : Nat → Int32) (y : Nat → Int64) : va_E := match s with
  | .inl o => .inr (o.1, gm_fs x y o.2)
  | .inr (.inl n) => .inl (cs 0, n, .inl x)
  | .inr (.inr (.inl n)) => .inl (cs 1, n, .inr (.inl y))
  | .inr (.inr (.inr q)) => .inl (q.1, q.2.1, .inr (.inr (.inr (.inr q.2.2))))
def gm_W (cs : Nat → ClassId) (sh : gm_H) (I : gm_I) (J : gm_J) : mw_M := fun q => (sh q).map (fun s => gm_e cs s (I q) (J q))
def gm_up {α : Type} (f : Nat → Nat → α) (a k : Nat) (v : α) : Nat → Nat → α := fun q j => if q = a ∧ j = k then v else f q j
theorem gm_up_off {α : Type} (f : Nat → Nat → α) {a q : Nat} (k : Nat) (v : α) (h : q ≠ a) : gm_up f a k v q = f q := by
  funext j; simp [gm_up, h]
theorem gm_up_i (f : gm_I) (a k : Nat) (v : Int32) : gm_up f a k v a = upd (f a) k v := by
  funext j; simp [gm_up, upd]
theorem gm_up_l (f : gm_J) (a k : Nat) (v : Int64) : gm_up f a k v a = vp_updL (f a) k v := by
  funext j; simp [gm_up, vp_updL]
theorem gm_up_same {α : Type} (f : Nat → Nat → α) (a k : Nat) (v : α) : gm_up f a k v a k = v := by simp [gm_up]
theorem gm_up_ne {α : Type} (f : Nat → Nat → α) {a k q j : Nat} (v : α) (h : q ≠ a ∨ j ≠ k) : gm_up f a k v q j = f q j := by
  rcases h with h | h <;> simp [gm_up, h]
theorem gm_fs_get {x : Nat → Int32} {y : Nat → Int64} {sl : List (Nat ⊕ Value)} {k : Nat} {t : Nat ⊕ Value} (h : sl[k]? = some t) : (gm_fs x y sl)[k]? = some (gm_v x y k t) := by
  simp [gm_fs, List.getElem?_mapIdx, h]
theorem gm_fs_seti {x : Nat → Int32} {y : Nat → Int64} {sl : List (Nat ⊕ Value)} {k : Nat} (h : sl[k]? = some (.inl 0)) (v : Int32) : (gm_fs x y sl).set k (.int v) = gm_fs (upd x k v) y sl := by
  apply List.ext_getElem?
  intro j
  have hk : k < sl.length := (List.getElem?_eq_some_iff.mp h).1
  by_cases hj : k = j
  · subst hj
    rw [List.getElem?_set_self (by simp [gm_fs, hk])]
    simp [gm_fs, List.getElem?_mapIdx, h, gm_v, upd]
  · rw [List.getElem?_set_ne hj]
    simp only [gm_fs, List.getElem?_mapIdx]
    cases hs : sl[j]? with
    | none => rfl
    | some t =>
      have hj' : j ≠ k := fun q => hj q.symm
      match t with
      | .inl 0 => simp [gm_v, upd, hj']
      | .inl (n + 1) => simp [gm_v]
      | .inr w => simp [gm_v]
theorem gm_fs_setl {x : Nat → Int32} {y : Nat → Int64} {sl : List (Nat ⊕ Value)} {k : Nat} (h : sl[k]? = some (.inl 1)) (v : Int64) : (gm_fs x y sl).set k (.long v) = gm_fs x (vp_updL y k v) sl := by
  apply List.ext_getElem?
  intro j
  have hk : k < sl.length := (List.getElem?_eq_some_iff.mp h).1
  by_cases hj : k = j
  · subst hj
    rw [List.getElem?_set_self (by simp [gm_fs, hk])]
    simp [gm_fs, List.getElem?_mapIdx, h, gm_v, vp_updL]
  · rw [List.getElem?_set_ne hj]
    simp only [gm_fs, List.getElem?_mapIdx]
    cases hs : sl[j]? with
    | none => rfl
    | some t =>
      have hj' : j ≠ k := fun q => hj q.symm
      match t with
      | .inl 0 => simp [gm_v]
      | .inl (n + 1) => simp [gm_v, vp_updL, hj']
      | .inr w => simp [gm_v]
theorem gm_W_at {cs : Nat → ClassId} {sh : gm_H} {I : gm_I} {J : gm_J} {a : Nat} {s : gm_S} (h : sh a = some s) : gm_W cs sh I J a = some (gm_e cs s (I a) (J a)) := by simp [gm_W, h]
theorem gm_W_i {cs : Nat → ClassId} {sh : gm_H} {I : gm_I} {J : gm_J} {a k : Nat} {v : Int32} {s : gm_S} {e : va_E} (h : sh a = some s) (he : gm_e cs s (upd (I a) k v) (J a) = e) : mw_up (gm_W cs sh I J) a e = gm_W cs sh (gm_up I a k v) J := by
  funext q
  by_cases hq : q = a
  · subst hq
    rw [mw_up_self, gm_W_at h, gm_up_i, he]
  · rw [mw_up_ne hq]
    simp only [gm_W, gm_up_off I k v hq]
theorem gm_W_l {cs : Nat → ClassId} {sh : gm_H} {I : gm_I} {J : gm_J} {a k : Nat} {v : Int64} {s : gm_S} {e : va_E} (h : sh a = some s) (he : gm_e cs s (I a) (vp_updL (J a) k v) = e) : mw_up (gm_W cs sh I J) a e = gm_W cs sh I (gm_up J a k v) := by
  funext q
  by_cases hq : q = a
  · subst hq
    rw [mw_up_self, gm_W_at h, gm_up_l, he]
  · rw [mw_up_ne hq]
    simp only [gm_W, gm_up_off J k v hq]
def gm_A (sh : gm_H) : Nat → Prop := fun q => ∃ s : gm_S, sh q = some s
abbrev gm_M : Type := gm_I × gm_J
end
section
def R_Lp : String := "FallingTerms$Loop"
def F_Lp : u_T := fun k => match k with
  | 0 => ("FallingTerms$Loop", "names", "I", false)
  | 1 => ("FallingTerms$Loop", "guardRows", "LFallingTerms$Rows;", true)
  | 2 => ("FallingTerms$Loop", "ways", "[LFallingTerms$Way;", true)
  | 3 => ("FallingTerms$Loop", "wayCount", "I", false)
  | 4 => ("FallingTerms$Loop", "state", "[J", true)
  | _ => ("FallingTerms$Loop", "next", "[J", true)
def t_Lp : Nat → FieldType := fun k => match k with
  | 0 => .int
  | 1 => .object "FallingTerms$Rows"
  | 2 => .array (.object "FallingTerms$Way")
  | 3 => .int
  | 4 => .array (.long)
  | _ => .array (.long)
theorem n_Lp : ∀ a, a < 6 → ∀ b, b < 6 → a ≠ b → (F_Lp a).2.1 ≠ (F_Lp b).2.1 := by decide +kernel
theorem t_Lp_ok : ∀ k, k < 6 → parseFieldDescriptor (F_Lp k).2.2.1 = some (t_Lp k) := by decide +kernel
def R_Pf : String := "FallingTerms$Proof"
def F_Pf : u_T := fun k => match k with
  | 0 => ("FallingTerms$Proof", "found", "[I", true)
  | 1 => ("FallingTerms$Proof", "count", "I", false)
  | _ => ("FallingTerms$Proof", "waysLeft", "I", false)
def t_Pf : Nat → FieldType := fun k => match k with
  | 0 => .array (.int)
  | 1 => .int
  | _ => .int
theorem n_Pf : ∀ a, a < 3 → ∀ b, b < 3 → a ≠ b → (F_Pf a).2.1 ≠ (F_Pf b).2.1 := by decide +kernel
theorem t_Pf_ok : ∀ k, k < 3 → parseFieldDescriptor (F_Pf k).2.2.1 = some (t_Pf k) := by decide +kernel
def R_Rw : String := "FallingTerms$Rows"
def F_Rw : u_T := fun k => match k with
  | 0 => ("FallingTerms$Rows", "numbers", "[I", true)
  | 1 => ("FallingTerms$Rows", "most", "I", true)
  | _ => ("FallingTerms$Rows", "count", "I", false)
def t_Rw : Nat → FieldType := fun k => match k with
  | 0 => .array (.int)
  | 1 => .int
  | _ => .int
theorem n_Rw : ∀ a, a < 3 → ∀ b, b < 3 → a ≠ b → (F_Rw a).2.1 ≠ (F_Rw b).2.1 := by decide +kernel
theorem t_Rw_ok : ∀ k, k < 3 → parseFieldDescriptor (F_Rw k).2.2.1 = some (t_Rw k) := by decide +kernel
def R_Sp : String := "FallingTerms$Space"
def F_Sp : u_T := fun k => match k with
  | 0 => ("FallingTerms$Space", "lines", "[J", true)
  | 1 => ("FallingTerms$Space", "lineCount", "I", false)
  | 2 => ("FallingTerms$Space", "rays", "[J", true)
  | 3 => ("FallingTerms$Space", "rayCount", "I", false)
  | 4 => ("FallingTerms$Space", "tight", "[I", true)
  | 5 => ("FallingTerms$Space", "surplus", "[J", true)
  | 6 => ("FallingTerms$Space", "pivot", "[J", true)
  | _ => ("FallingTerms$Space", "bit", "I", false)
def t_Sp : Nat → FieldType := fun k => match k with
  | 0 => .array (.long)
  | 1 => .int
  | 2 => .array (.long)
  | 3 => .int
  | 4 => .array (.int)
  | 5 => .array (.long)
  | 6 => .array (.long)
  | _ => .int
theorem n_Sp : ∀ a, a < 8 → ∀ b, b < 8 → a ≠ b → (F_Sp a).2.1 ≠ (F_Sp b).2.1 := by decide +kernel
theorem t_Sp_ok : ∀ k, k < 8 → parseFieldDescriptor (F_Sp k).2.2.1 = some (t_Sp k) := by decide +kernel
def R_Wy : String := "FallingTerms$Way"
def F_Wy : u_T := fun k => match k with
  | 0 => ("FallingTerms$Way", "rows", "LFallingTerms$Rows;", true)
  | 1 => ("FallingTerms$Way", "factors", "[I", true)
  | _ => ("FallingTerms$Way", "constants", "[I", true)
def t_Wy : Nat → FieldType := fun k => match k with
  | 0 => .object "FallingTerms$Rows"
  | 1 => .array (.int)
  | _ => .array (.int)
theorem n_Wy : ∀ a, a < 3 → ∀ b, b < 3 → a ≠ b → (F_Wy a).2.1 ≠ (F_Wy b).2.1 := by decide +kernel
theorem t_Wy_ok : ∀ k, k < 3 → parseFieldDescriptor (F_Wy k).2.2.1 = some (t_Wy k) := by decide +kernel
def R_FT : String := "FallingTerms"
def F_FT : u_T := fun k => match k with
  | 0 => ("FallingTerms", "made", "[LFallingTerms$Loop;", true)
  | 1 => ("FallingTerms", "madeCount", "I", false)
  | 2 => ("FallingTerms", "spaces", "[LFallingTerms$Space;", true)
  | 3 => ("FallingTerms", "narrowed", "[LFallingTerms$Space;", true)
  | 4 => ("FallingTerms", "latest", "LFallingTerms$Proof;", true)
  | 5 => ("FallingTerms", "trial", "LFallingTerms$Proof;", true)
  | 6 => ("FallingTerms", "needRow", "[I", true)
  | 7 => ("FallingTerms", "needFound", "Z", false)
  | 8 => ("FallingTerms", "start", "[J", true)
  | 9 => ("FallingTerms", "now", "[J", true)
  | _ => ("FallingTerms", "mark", "[J", true)
def t_FT : Nat → FieldType := fun k => match k with
  | 0 => .array (.object "FallingTerms$Loop")
  | 1 => .int
  | 2 => .array (.object "FallingTerms$Space")
  | 3 => .array (.object "FallingTerms$Space")
  | 4 => .object "FallingTerms$Proof"
  | 5 => .object "FallingTerms$Proof"
  | 6 => .array (.int)
  | 7 => .boolean
  | 8 => .array (.long)
  | 9 => .array (.long)
  | _ => .array (.long)
theorem n_FT : ∀ a, a < 11 → ∀ b, b < 11 → a ≠ b → (F_FT a).2.1 ≠ (F_FT b).2.1 := by decide +kernel
theorem t_FT_ok : ∀ k, k < 11 → parseFieldDescriptor (F_FT k).2.2.1 = some (t_FT k) := by decide +kernel
def R_Md : String := "FallingTermsModel"
def F_Md : u_T := fun k => match k with
  | 0 => ("FallingTermsModel", "loops", "I", false)
  | 1 => ("FallingTermsModel", "names", "[I", true)
  | 2 => ("FallingTermsModel", "ways", "[I", true)
  | 3 => ("FallingTermsModel", "guards", "[I", true)
  | 4 => ("FallingTermsModel", "guard", "[I", true)
  | 5 => ("FallingTermsModel", "wayRows", "[I", true)
  | 6 => ("FallingTermsModel", "wayRow", "[I", true)
  | 7 => ("FallingTermsModel", "factor", "[I", true)
  | 8 => ("FallingTermsModel", "constant", "[I", true)
  | 9 => ("FallingTermsModel", "state", "[J", true)
  | 10 => ("FallingTermsModel", "proofs", "I", false)
  | 11 => ("FallingTermsModel", "proof", "[I", true)
  | 12 => ("FallingTermsModel", "left", "I", false)
  | 13 => ("FallingTermsModel", "hasNeed", "Z", false)
  | 14 => ("FallingTermsModel", "need", "[I", true)
  | 15 => ("FallingTermsModel", "rows", "I", false)
  | 16 => ("FallingTermsModel", "ra", "[J", true)
  | 17 => ("FallingTermsModel", "rb", "[J", true)
  | 18 => ("FallingTermsModel", "rc", "[J", true)
  | 19 => ("FallingTermsModel", "rd", "[J", true)
  | 20 => ("FallingTermsModel", "isBorne", "Z", false)
  | 21 => ("FallingTermsModel", "above", "J", false)
  | 22 => ("FallingTermsModel", "below", "J", false)
  | 23 => ("FallingTermsModel", "ga", "J", false)
  | 24 => ("FallingTermsModel", "gb", "J", false)
  | 25 => ("FallingTermsModel", "gc", "J", false)
  | 26 => ("FallingTermsModel", "ua", "J", false)
  | 27 => ("FallingTermsModel", "ub", "J", false)
  | 28 => ("FallingTermsModel", "uc", "J", false)
  | 29 => ("FallingTermsModel", "na", "J", false)
  | 30 => ("FallingTermsModel", "nb", "J", false)
  | 31 => ("FallingTermsModel", "nc", "J", false)
  | 32 => ("FallingTermsModel", "nd", "J", false)
  | 33 => ("FallingTermsModel", "kept", "I", false)
  | 34 => ("FallingTermsModel", "keptTerms", "[I", true)
  | 35 => ("FallingTermsModel", "x", "J", false)
  | 36 => ("FallingTermsModel", "y", "J", false)
  | _ => ("FallingTermsModel", "z", "J", false)
def t_Md : Nat → FieldType := fun k => match k with
  | 0 => .int
  | 1 => .array (.int)
  | 2 => .array (.int)
  | 3 => .array (.int)
  | 4 => .array (.int)
  | 5 => .array (.int)
  | 6 => .array (.int)
  | 7 => .array (.int)
  | 8 => .array (.int)
  | 9 => .array (.long)
  | 10 => .int
  | 11 => .array (.int)
  | 12 => .int
  | 13 => .boolean
  | 14 => .array (.int)
  | 15 => .int
  | 16 => .array (.long)
  | 17 => .array (.long)
  | 18 => .array (.long)
  | 19 => .array (.long)
  | 20 => .boolean
  | 21 => .long
  | 22 => .long
  | 23 => .long
  | 24 => .long
  | 25 => .long
  | 26 => .long
  | 27 => .long
  | 28 => .long
  | 29 => .long
  | 30 => .long
  | 31 => .long
  | 32 => .long
  | 33 => .int
  | 34 => .array (.int)
  | 35 => .long
  | 36 => .long
  | _ => .long
theorem n_Md : ∀ a, a < 38 → ∀ b, b < 38 → a ≠ b → (F_Md a).2.1 ≠ (F_Md b).2.1 := by decide +kernel
theorem t_Md_ok : ∀ k, k < 38 → parseFieldDescriptor (F_Md k).2.2.1 = some (t_Md k) := by decide +kernel
abbrev vwC : List vw_C := [(R_Lp, F_Lp, 6), (R_Pf, F_Pf, 3), (R_Rw, F_Rw, 3), (R_Sp, F_Sp, 8), (R_Wy, F_Wy, 3), (R_FT, F_FT, 11), (R_Md, F_Md, 38)]
abbrev b_FT_init : ByteArray := prog_1_method_1_code
def y_FT_init : MethodName := ⟨"FallingTerms", "<init>", "()V"⟩
abbrev w_FT_init : List Cond := wU y_FT_init b_FT_init 2 none
abbrev b_Pf_init : ByteArray := prog_3_method_1_code
def y_Pf_init : MethodName := ⟨"FallingTerms$Proof", "<init>", "()V"⟩
abbrev w_Pf_init : List Cond := wU y_Pf_init b_Pf_init 1 none
abbrev b_Lp_init : ByteArray := prog_2_method_1_code
def y_Lp_init : MethodName := ⟨"FallingTerms$Loop", "<init>", "()V"⟩
abbrev w_Lp_init : List Cond := wU y_Lp_init b_Lp_init 2 none
abbrev b_Rw_init : ByteArray := prog_4_method_1_code
def y_Rw_init : MethodName := ⟨"FallingTerms$Rows", "<init>", "(I)V"⟩
abbrev w_Rw_init : List Cond := wU y_Rw_init b_Rw_init 2 none
abbrev b_Wy_init : ByteArray := prog_6_method_1_code
def y_Wy_init : MethodName := ⟨"FallingTerms$Way", "<init>", "()V"⟩
abbrev w_Wy_init : List Cond := wU y_Wy_init b_Wy_init 1 none
abbrev b_Sp_init : ByteArray := prog_5_method_1_code
def y_Sp_init : MethodName := ⟨"FallingTerms$Space", "<init>", "()V"⟩
abbrev w_Sp_init : List Cond := wU y_Sp_init b_Sp_init 1 none
abbrev b_FT_loop : ByteArray := prog_1_method_2_code
def y_FT_loop : MethodName := ⟨"FallingTerms", "loop", "(I)I"⟩
abbrev w_FT_loop : List Cond := wU y_FT_loop b_FT_loop 2 (some (.int))
abbrev b_Lp_begin : ByteArray := prog_2_method_2_code
def y_Lp_begin : MethodName := ⟨"FallingTerms$Loop", "begin", "(I)V"⟩
abbrev w_Lp_begin : List Cond := wU y_Lp_begin b_Lp_begin 3 none
abbrev b_FT_clear : ByteArray := prog_1_method_3_code
def y_FT_clear : MethodName := ⟨"FallingTerms", "clear", "()I"⟩
abbrev w_FT_clear : List Cond := wU y_FT_clear b_FT_clear 2 (some (.int))
abbrev b_Pf_forget : ByteArray := prog_3_method_2_code
def y_Pf_forget : MethodName := ⟨"FallingTerms$Proof", "forget", "()V"⟩
abbrev w_Pf_forget : List Cond := wU y_Pf_forget b_Pf_forget 1 none
abbrev b_FT_guard : ByteArray := prog_1_method_4_code
def y_FT_guard : MethodName := ⟨"FallingTerms", "guard", "(IIIII)I"⟩
abbrev w_FT_guard : List Cond := wU y_FT_guard b_FT_guard 6 (some (.int))
abbrev b_FT_isLoop : ByteArray := prog_1_method_26_code
def y_FT_isLoop : MethodName := ⟨"FallingTerms", "isLoop", "(I)Z"⟩
abbrev w_FT_isLoop : List Cond := wU y_FT_isLoop b_FT_isLoop 2 (some (.boolean))
abbrev b_FT_rowFits : ByteArray := prog_1_method_29_code
def y_FT_rowFits : MethodName := ⟨"FallingTerms", "rowFits", "(IIIII)Z"⟩
abbrev w_FT_rowFits : List Cond := wU y_FT_rowFits b_FT_rowFits 6 (some (.boolean))
abbrev b_FT_weightsFit : ByteArray := prog_1_method_30_code
def y_FT_weightsFit : MethodName := ⟨"FallingTerms", "weightsFit", "(IIIII)Z"⟩
abbrev w_FT_weightsFit : List Cond := wU y_FT_weightsFit b_FT_weightsFit 7 (some (.boolean))
abbrev b_FT_within : ByteArray := prog_1_method_31_code
def y_FT_within : MethodName := ⟨"FallingTerms", "within", "(II)Z"⟩
abbrev w_FT_within : List Cond := wU y_FT_within b_FT_within 2 (some (.boolean))
abbrev b_Rw_append : ByteArray := prog_4_method_2_code
def y_Rw_append : MethodName := ⟨"FallingTerms$Rows", "append", "(IIII)I"⟩
abbrev w_Rw_append : List Cond := wU y_Rw_append b_Rw_append 6 (some (.int))
abbrev b_FT_way : ByteArray := prog_1_method_5_code
def y_FT_way : MethodName := ⟨"FallingTerms", "way", "(I)I"⟩
abbrev w_FT_way : List Cond := wU y_FT_way b_FT_way 2 (some (.int))
abbrev b_Lp_appendWay : ByteArray := prog_2_method_3_code
def y_Lp_appendWay : MethodName := ⟨"FallingTerms$Loop", "appendWay", "()I"⟩
abbrev w_Lp_appendWay : List Cond := wU y_Lp_appendWay b_Lp_appendWay 1 (some (.int))
abbrev b_Wy_begin : ByteArray := prog_6_method_2_code
def y_Wy_begin : MethodName := ⟨"FallingTerms$Way", "begin", "()V"⟩
abbrev w_Wy_begin : List Cond := wU y_Wy_begin b_Wy_begin 3 none
abbrev b_FT_row : ByteArray := prog_1_method_6_code
def y_FT_row : MethodName := ⟨"FallingTerms", "row", "(IIIIII)I"⟩
abbrev w_FT_row : List Cond := wU y_FT_row b_FT_row 7 (some (.int))
abbrev b_FT_isWay : ByteArray := prog_1_method_27_code
def y_FT_isWay : MethodName := ⟨"FallingTerms", "isWay", "(II)Z"⟩
abbrev w_FT_isWay : List Cond := wU y_FT_isWay b_FT_isWay 3 (some (.boolean))
abbrev b_FT_factor : ByteArray := prog_1_method_7_code
def y_FT_factor : MethodName := ⟨"FallingTerms", "factor", "(IIIII)I"⟩
abbrev w_FT_factor : List Cond := wU y_FT_factor b_FT_factor 9 (some (.int))
abbrev b_FT_isName : ByteArray := prog_1_method_28_code
def y_FT_isName : MethodName := ⟨"FallingTerms", "isName", "(II)Z"⟩
abbrev w_FT_isName : List Cond := wU y_FT_isName b_FT_isName 3 (some (.boolean))
abbrev b_FT_constant : ByteArray := prog_1_method_8_code
def y_FT_constant : MethodName := ⟨"FallingTerms", "constant", "(IIII)I"⟩
abbrev w_FT_constant : List Cond := wU y_FT_constant b_FT_constant 7 (some (.int))
abbrev b_FT_told : ByteArray := prog_1_method_9_code
def y_FT_told : MethodName := ⟨"FallingTerms", "told", "(II)I"⟩
abbrev w_FT_told : List Cond := wU y_FT_told b_FT_told 3 (some (.int))
abbrev b_FT_empty : ByteArray := prog_1_method_10_code
def y_FT_empty : MethodName := ⟨"FallingTerms", "empty", "(II)I"⟩
abbrev w_FT_empty : List Cond := wU y_FT_empty b_FT_empty 3 (some (.int))
abbrev b_FT_spaceOf : ByteArray := prog_1_method_34_code
def y_FT_spaceOf : MethodName := ⟨"FallingTerms", "spaceOf", "(II)LFallingTerms$Space;"⟩
abbrev w_FT_spaceOf : List Cond := wU y_FT_spaceOf b_FT_spaceOf 3 (some (.object "FallingTerms$Space"))
abbrev b_Sp_fill : ByteArray := prog_5_method_2_code
def y_Sp_fill : MethodName := ⟨"FallingTerms$Space", "fill", "(LFallingTerms$Loop;I)V"⟩
abbrev w_Sp_fill : List Cond := wU y_Sp_fill b_Sp_fill 7 none
abbrev b_Sp_begin : ByteArray := prog_5_method_8_code
def y_Sp_begin : MethodName := ⟨"FallingTerms$Space", "begin", "(I)V"⟩
abbrev w_Sp_begin : List Cond := wU y_Sp_begin b_Sp_begin 3 none
abbrev b_Sp_appendPivot : ByteArray := prog_5_method_17_code
def y_Sp_appendPivot : MethodName := ⟨"FallingTerms$Space", "appendPivot", "(I)V"⟩
abbrev w_Sp_appendPivot : List Cond := wU y_Sp_appendPivot b_Sp_appendPivot 3 none
abbrev b_Sp_narrow : ByteArray := prog_5_method_7_code
def y_Sp_narrow : MethodName := ⟨"FallingTerms$Space", "narrow", "(IIII)V"⟩
abbrev w_Sp_narrow : List Cond := wU y_Sp_narrow b_Sp_narrow 6 none
abbrev b_Sp_lineAcross : ByteArray := prog_5_method_11_code
def y_Sp_lineAcross : MethodName := ⟨"FallingTerms$Space", "lineAcross", "(III)I"⟩
abbrev w_Sp_lineAcross : List Cond := wU y_Sp_lineAcross b_Sp_lineAcross 5 (some (.int))
abbrev b_Sp_slope : ByteArray := prog_5_method_10_code
def y_Sp_slope : MethodName := ⟨"FallingTerms$Space", "slope", "(IIII)J"⟩
abbrev w_Sp_slope : List Cond := wU y_Sp_slope b_Sp_slope 6 (some (.long))
abbrev b_Sp_turn : ByteArray := prog_5_method_12_code
def y_Sp_turn : MethodName := ⟨"FallingTerms$Space", "turn", "(IIIII)V"⟩
abbrev w_Sp_turn : List Cond := wU y_Sp_turn b_Sp_turn 11 none
abbrev b_Sp_shift : ByteArray := prog_5_method_13_code
def y_Sp_shift : MethodName := ⟨"FallingTerms$Space", "shift", "([JIJJ)V"⟩
abbrev w_Sp_shift : List Cond := wU y_Sp_shift b_Sp_shift 8 none
abbrev b_Sp_reduce : ByteArray := prog_5_method_20_code
def y_Sp_reduce : MethodName := ⟨"FallingTerms$Space", "reduce", "([JI)V"⟩
abbrev w_Sp_reduce : List Cond := wU y_Sp_reduce b_Sp_reduce 10 none
abbrev b_Sp_worth : ByteArray := prog_5_method_9_code
def y_Sp_worth : MethodName := ⟨"FallingTerms$Space", "worth", "(IIIII)J"⟩
abbrev w_Sp_worth : List Cond := wU y_Sp_worth b_Sp_worth 7 (some (.long))
abbrev b_Sp_cut : ByteArray := prog_5_method_14_code
def y_Sp_cut : MethodName := ⟨"FallingTerms$Space", "cut", "(IIII)V"⟩
abbrev w_Sp_cut : List Cond := wU y_Sp_cut b_Sp_cut 8 none
abbrev b_Sp_areNeighbours : ByteArray := prog_5_method_15_code
def y_Sp_areNeighbours : MethodName := ⟨"FallingTerms$Space", "areNeighbours", "(III)Z"⟩
abbrev w_Sp_areNeighbours : List Cond := wU y_Sp_areNeighbours b_Sp_areNeighbours 6 (some (.boolean))
abbrev b_Sp_appendBetween : ByteArray := prog_5_method_16_code
def y_Sp_appendBetween : MethodName := ⟨"FallingTerms$Space", "appendBetween", "(II)V"⟩
abbrev w_Sp_appendBetween : List Cond := wU y_Sp_appendBetween b_Sp_appendBetween 4 none
abbrev b_Sp_dropBeyond : ByteArray := prog_5_method_18_code
def y_Sp_dropBeyond : MethodName := ⟨"FallingTerms$Space", "dropBeyond", "(I)V"⟩
abbrev w_Sp_dropBeyond : List Cond := wU y_Sp_dropBeyond b_Sp_dropBeyond 5 none
abbrev b_Sp_dropIfNoPoint : ByteArray := prog_5_method_19_code
def y_Sp_dropIfNoPoint : MethodName := ⟨"FallingTerms$Space", "dropIfNoPoint", "()V"⟩
abbrev w_Sp_dropIfNoPoint : List Cond := wU y_Sp_dropIfNoPoint b_Sp_dropIfNoPoint 2 none
abbrev b_Sp_hasNothing : ByteArray := prog_5_method_4_code
def y_Sp_hasNothing : MethodName := ⟨"FallingTerms$Space", "hasNothing", "()Z"⟩
abbrev w_Sp_hasNothing : List Cond := wU y_Sp_hasNothing b_Sp_hasNothing 1 (some (.boolean))
abbrev b_FT_holds : ByteArray := prog_1_method_11_code
def y_FT_holds : MethodName := ⟨"FallingTerms", "holds", "(IIIIII)I"⟩
abbrev w_FT_holds : List Cond := wU y_FT_holds b_FT_holds 7 (some (.int))
abbrev b_Sp_implies : ByteArray := prog_5_method_5_code
def y_Sp_implies : MethodName := ⟨"FallingTerms$Space", "implies", "(IIII)Z"⟩
abbrev w_Sp_implies : List Cond := wU y_Sp_implies b_Sp_implies 6 (some (.boolean))
abbrev b_FT_term : ByteArray := prog_1_method_12_code
def y_FT_term : MethodName := ⟨"FallingTerms", "term", "(IIIII)I"⟩
abbrev w_FT_term : List Cond := wU y_FT_term b_FT_term 8 (some (.int))
abbrev b_Sp_bounds : ByteArray := prog_5_method_6_code
def y_Sp_bounds : MethodName := ⟨"FallingTerms$Space", "bounds", "(III)Z"⟩
abbrev w_Sp_bounds : List Cond := wU y_Sp_bounds b_Sp_bounds 5 (some (.boolean))
abbrev b_Wy_lessens : ByteArray := prog_6_method_6_code
def y_Wy_lessens : MethodName := ⟨"FallingTerms$Way", "lessens", "(LFallingTerms$Space;IIII)Z"⟩
abbrev w_Wy_lessens : List Cond := wU y_Wy_lessens b_Wy_lessens 6 (some (.boolean))
abbrev b_Wy_weightBehind : ByteArray := prog_6_method_4_code
def y_Wy_weightBehind : MethodName := ⟨"FallingTerms$Way", "weightBehind", "(IIII)I"⟩
abbrev w_Wy_weightBehind : List Cond := wU y_Wy_weightBehind b_Wy_weightBehind 5 (some (.int))
abbrev b_Wy_constantBehind : ByteArray := prog_6_method_5_code
def y_Wy_constantBehind : MethodName := ⟨"FallingTerms$Way", "constantBehind", "(III)I"⟩
abbrev w_Wy_constantBehind : List Cond := wU y_Wy_constantBehind b_Wy_constantBehind 4 (some (.int))
abbrev b_FT_prove : ByteArray := prog_1_method_13_code
def y_FT_prove : MethodName := ⟨"FallingTerms", "prove", "(I)I"⟩
abbrev w_FT_prove : List Cond := wU y_FT_prove b_FT_prove 2 (some (.int))
abbrev b_FT_fillSpaces : ByteArray := prog_1_method_35_code
def y_FT_fillSpaces : MethodName := ⟨"FallingTerms", "fillSpaces", "(LFallingTerms$Loop;)V"⟩
abbrev w_FT_fillSpaces : List Cond := wU y_FT_fillSpaces b_FT_fillSpaces 3 none
abbrev b_Pf_search : ByteArray := prog_3_method_3_code
def y_Pf_search : MethodName := ⟨"FallingTerms$Proof", "search", "(LFallingTerms$Loop;[LFallingTerms$Space;)V"⟩
abbrev w_Pf_search : List Cond := wU y_Pf_search b_Pf_search 4 none
abbrev b_Pf_takeMore : ByteArray := prog_3_method_4_code
def y_Pf_takeMore : MethodName := ⟨"FallingTerms$Proof", "takeMore", "(LFallingTerms$Loop;[LFallingTerms$Space;)Z"⟩
abbrev w_Pf_takeMore : List Cond := wU y_Pf_takeMore b_Pf_takeMore 10 (some (.boolean))
abbrev b_Lp_reach : ByteArray := prog_2_method_4_code
def y_Lp_reach : MethodName := ⟨"FallingTerms$Loop", "reach", "(II)I"⟩
abbrev w_Lp_reach : List Cond := wU y_Lp_reach b_Lp_reach 3 (some (.int))
abbrev b_Pf_takenBy : ByteArray := prog_3_method_5_code
def y_Pf_takenBy : MethodName := ⟨"FallingTerms$Proof", "takenBy", "(LFallingTerms$Loop;[LFallingTerms$Space;III)I"⟩
abbrev w_Pf_takenBy : List Cond := wU y_Pf_takenBy b_Pf_takenBy 8 (some (.int))
abbrev b_Pf_append : ByteArray := prog_3_method_6_code
def y_Pf_append : MethodName := ⟨"FallingTerms$Proof", "append", "(IIII)V"⟩
abbrev w_Pf_append : List Cond := wU y_Pf_append b_Pf_append 6 none
abbrev b_FT_proof : ByteArray := prog_1_method_14_code
def y_FT_proof : MethodName := ⟨"FallingTerms", "proof", "(II)I"⟩
abbrev w_FT_proof : List Cond := wU y_FT_proof b_FT_proof 3 (some (.int))
abbrev b_FT_left : ByteArray := prog_1_method_15_code
def y_FT_left : MethodName := ⟨"FallingTerms", "left", "()I"⟩
abbrev w_FT_left : List Cond := wU y_FT_left b_FT_left 1 (some (.int))
abbrev b_FT_need : ByteArray := prog_1_method_16_code
def y_FT_need : MethodName := ⟨"FallingTerms", "need", "(I)I"⟩
abbrev w_FT_need : List Cond := wU y_FT_need b_FT_need 8 (some (.int))
abbrev b_FT_findNeed : ByteArray := prog_1_method_36_code
def y_FT_findNeed : MethodName := ⟨"FallingTerms", "findNeed", "(LFallingTerms$Loop;III)Z"⟩
abbrev w_FT_findNeed : List Cond := wU y_FT_findNeed b_FT_findNeed 6 (some (.boolean))
abbrev b_FT_narrowSpaces : ByteArray := prog_1_method_39_code
def y_FT_narrowSpaces : MethodName := ⟨"FallingTerms", "narrowSpaces", "(LFallingTerms$Loop;IIII)V"⟩
abbrev w_FT_narrowSpaces : List Cond := wU y_FT_narrowSpaces b_FT_narrowSpaces 7 none
abbrev b_Sp_copy : ByteArray := prog_5_method_3_code
def y_Sp_copy : MethodName := ⟨"FallingTerms$Space", "copy", "(LFallingTerms$Space;)V"⟩
abbrev w_Sp_copy : List Cond := wU y_Sp_copy b_Sp_copy 3 none
abbrev b_FT_lasts : ByteArray := prog_1_method_38_code
def y_FT_lasts : MethodName := ⟨"FallingTerms", "lasts", "(LFallingTerms$Loop;IIII)Z"⟩
abbrev w_FT_lasts : List Cond := wU y_FT_lasts b_FT_lasts 7 (some (.boolean))
abbrev b_Wy_keeps : ByteArray := prog_6_method_7_code
def y_Wy_keeps : MethodName := ⟨"FallingTerms$Way", "keeps", "(LFallingTerms$Space;IIII)Z"⟩
abbrev w_Wy_keeps : List Cond := wU y_Wy_keeps b_Wy_keeps 6 (some (.boolean))
abbrev b_FT_keepNeed : ByteArray := prog_1_method_37_code
def y_FT_keepNeed : MethodName := ⟨"FallingTerms", "keepNeed", "(IIII)V"⟩
abbrev w_FT_keepNeed : List Cond := wU y_FT_keepNeed b_FT_keepNeed 5 none
abbrev b_FT_needed : ByteArray := prog_1_method_17_code
def y_FT_needed : MethodName := ⟨"FallingTerms", "needed", "(I)I"⟩
abbrev w_FT_needed : List Cond := wU y_FT_needed b_FT_needed 2 (some (.int))
abbrev b_FT_put : ByteArray := prog_1_method_18_code
def y_FT_put : MethodName := ⟨"FallingTerms", "put", "(III)I"⟩
abbrev w_FT_put : List Cond := wU y_FT_put b_FT_put 4 (some (.int))
abbrev b_FT_at : ByteArray := prog_1_method_19_code
def y_FT_at : MethodName := ⟨"FallingTerms", "at", "(II)J"⟩
abbrev w_FT_at : List Cond := wU y_FT_at b_FT_at 3 (some (.long))
abbrev b_FT_open : ByteArray := prog_1_method_20_code
def y_FT_open : MethodName := ⟨"FallingTerms", "open", "(I)I"⟩
abbrev w_FT_open : List Cond := wU y_FT_open b_FT_open 2 (some (.int))
abbrev b_Lp_openWays : ByteArray := prog_2_method_5_code
def y_Lp_openWays : MethodName := ⟨"FallingTerms$Loop", "openWays", "()I"⟩
abbrev w_Lp_openWays : List Cond := wU y_Lp_openWays b_Lp_openWays 3 (some (.int))
abbrev b_Rw_holdIn : ByteArray := prog_4_method_3_code
def y_Rw_holdIn : MethodName := ⟨"FallingTerms$Rows", "holdIn", "([J)Z"⟩
abbrev w_Rw_holdIn : List Cond := wU y_Rw_holdIn b_Rw_holdIn 6 (some (.boolean))
abbrev b_FT_step : ByteArray := prog_1_method_21_code
def y_FT_step : MethodName := ⟨"FallingTerms", "step", "(I)I"⟩
abbrev w_FT_step : List Cond := wU y_FT_step b_FT_step 2 (some (.int))
abbrev b_Lp_advance : ByteArray := prog_2_method_6_code
def y_Lp_advance : MethodName := ⟨"FallingTerms$Loop", "advance", "([J)I"⟩
abbrev w_Lp_advance : List Cond := wU y_Lp_advance b_Lp_advance 3 (some (.int))
abbrev b_Lp_change : ByteArray := prog_2_method_7_code
def y_Lp_change : MethodName := ⟨"FallingTerms$Loop", "change", "(I[J)Z"⟩
abbrev w_Lp_change : List Cond := wU y_Lp_change b_Lp_change 3 (some (.boolean))
abbrev b_Wy_leads : ByteArray := prog_6_method_3_code
def y_Wy_leads : MethodName := ⟨"FallingTerms$Way", "leads", "([J[J)Z"⟩
abbrev w_Wy_leads : List Cond := wU y_Wy_leads b_Wy_leads 7 (some (.boolean))
abbrev b_FT_copyState : ByteArray := prog_1_method_32_code
def y_FT_copyState : MethodName := ⟨"FallingTerms", "copyState", "([J[J)V"⟩
abbrev w_FT_copyState : List Cond := wU y_FT_copyState b_FT_copyState 3 none
abbrev b_FT_go : ByteArray := prog_1_method_22_code
def y_FT_go : MethodName := ⟨"FallingTerms", "go", "(II)I"⟩
abbrev w_FT_go : List Cond := wU y_FT_go b_FT_go 4 (some (.int))
abbrev b_FT_walk : ByteArray := prog_1_method_23_code
def y_FT_walk : MethodName := ⟨"FallingTerms", "walk", "(II)I"⟩
abbrev w_FT_walk : List Cond := wU y_FT_walk b_FT_walk 5 (some (.int))
abbrev b_FT_ring : ByteArray := prog_1_method_24_code
def y_FT_ring : MethodName := ⟨"FallingTerms", "ring", "(II)I"⟩
abbrev w_FT_ring : List Cond := wU y_FT_ring b_FT_ring 10 (some (.int))
abbrev b_FT_ringFrom : ByteArray := prog_1_method_40_code
def y_FT_ringFrom : MethodName := ⟨"FallingTerms", "ringFrom", "(LFallingTerms$Loop;III)I"⟩
abbrev w_FT_ringFrom : List Cond := wU y_FT_ringFrom b_FT_ringFrom 6 (some (.int))
abbrev b_FT_sameState : ByteArray := prog_1_method_33_code
def y_FT_sameState : MethodName := ⟨"FallingTerms", "sameState", "([J[J)Z"⟩
abbrev w_FT_sameState : List Cond := wU y_FT_sameState b_FT_sameState 2 (some (.boolean))
abbrev b_FT_loops : ByteArray := prog_1_method_25_code
def y_FT_loops : MethodName := ⟨"FallingTerms", "loops", "()I"⟩
abbrev w_FT_loops : List Cond := wU y_FT_loops b_FT_loops 1 (some (.int))
abbrev b_Md_init : ByteArray := prog_8_method_1_code
def y_Md_init : MethodName := ⟨"FallingTermsModel", "<init>", "()V"⟩
abbrev w_Md_init : List Cond := wU y_Md_init b_Md_init 1 none
abbrev b_Md_loop : ByteArray := prog_8_method_9_code
def y_Md_loop : MethodName := ⟨"FallingTermsModel", "loop", "(I)I"⟩
abbrev w_Md_loop : List Cond := wU y_Md_loop b_Md_loop 4 (some (.int))
abbrev b_Md_isIn : ByteArray := prog_8_method_3_code
def y_Md_isIn : MethodName := ⟨"FallingTermsModel", "isIn", "(III)Z"⟩
abbrev w_Md_isIn : List Cond := wU y_Md_isIn b_Md_isIn 3 (some (.boolean))
abbrev b_Md_clear : ByteArray := prog_8_method_10_code
def y_Md_clear : MethodName := ⟨"FallingTermsModel", "clear", "()I"⟩
abbrev w_Md_clear : List Cond := wU y_Md_clear b_Md_clear 2 (some (.int))
abbrev b_Md_guard : ByteArray := prog_8_method_11_code
def y_Md_guard : MethodName := ⟨"FallingTermsModel", "guard", "(IIIII)I"⟩
abbrev w_Md_guard : List Cond := wU y_Md_guard b_Md_guard 6 (some (.int))
abbrev b_Md_isLoop : ByteArray := prog_8_method_4_code
def y_Md_isLoop : MethodName := ⟨"FallingTermsModel", "isLoop", "(I)Z"⟩
abbrev w_Md_isLoop : List Cond := wU y_Md_isLoop b_Md_isLoop 2 (some (.boolean))
abbrev b_Md_isRow : ByteArray := prog_8_method_8_code
def y_Md_isRow : MethodName := ⟨"FallingTermsModel", "isRow", "(IIIII)Z"⟩
abbrev w_Md_isRow : List Cond := wU y_Md_isRow b_Md_isRow 6 (some (.boolean))
abbrev b_Md_areNumbers : ByteArray := prog_8_method_7_code
def y_Md_areNumbers : MethodName := ⟨"FallingTermsModel", "areNumbers", "(IIIII)Z"⟩
abbrev w_Md_areNumbers : List Cond := wU y_Md_areNumbers b_Md_areNumbers 6 (some (.boolean))
abbrev b_Md_lay : ByteArray := prog_8_method_12_code
def y_Md_lay : MethodName := ⟨"FallingTermsModel", "lay", "([IIIIII)V"⟩
abbrev w_Md_lay : List Cond := wU y_Md_lay b_Md_lay 6 none
abbrev b_Md_way : ByteArray := prog_8_method_13_code
def y_Md_way : MethodName := ⟨"FallingTermsModel", "way", "(I)I"⟩
abbrev w_Md_way : List Cond := wU y_Md_way b_Md_way 4 (some (.int))
abbrev b_Md_row : ByteArray := prog_8_method_14_code
def y_Md_row : MethodName := ⟨"FallingTermsModel", "row", "(IIIIII)I"⟩
abbrev w_Md_row : List Cond := wU y_Md_row b_Md_row 8 (some (.int))
abbrev b_Md_isWay : ByteArray := prog_8_method_5_code
def y_Md_isWay : MethodName := ⟨"FallingTermsModel", "isWay", "(II)Z"⟩
abbrev w_Md_isWay : List Cond := wU y_Md_isWay b_Md_isWay 3 (some (.boolean))
abbrev b_Md_factor : ByteArray := prog_8_method_15_code
def y_Md_factor : MethodName := ⟨"FallingTermsModel", "factor", "(IIIII)I"⟩
abbrev w_Md_factor : List Cond := wU y_Md_factor b_Md_factor 8 (some (.int))
abbrev b_Md_isName : ByteArray := prog_8_method_6_code
def y_Md_isName : MethodName := ⟨"FallingTermsModel", "isName", "(II)Z"⟩
abbrev w_Md_isName : List Cond := wU y_Md_isName b_Md_isName 3 (some (.boolean))
abbrev b_Md_constant : ByteArray := prog_8_method_16_code
def y_Md_constant : MethodName := ⟨"FallingTermsModel", "constant", "(IIII)I"⟩
abbrev w_Md_constant : List Cond := wU y_Md_constant b_Md_constant 7 (some (.int))
abbrev b_Md_told : ByteArray := prog_8_method_17_code
def y_Md_told : MethodName := ⟨"FallingTermsModel", "told", "(II)I"⟩
abbrev w_Md_told : List Cond := wU y_Md_told b_Md_told 3 (some (.int))
abbrev b_Md_empty : ByteArray := prog_8_method_30_code
def y_Md_empty : MethodName := ⟨"FallingTermsModel", "empty", "(II)I"⟩
abbrev w_Md_empty : List Cond := wU y_Md_empty b_Md_empty 3 (some (.int))
abbrev b_Md_space : ByteArray := prog_8_method_19_code
def y_Md_space : MethodName := ⟨"FallingTermsModel", "space", "(IIZ)V"⟩
abbrev w_Md_space : List Cond := wU y_Md_space b_Md_space 7 none
abbrev b_Md_comes : ByteArray := prog_8_method_18_code
def y_Md_comes : MethodName := ⟨"FallingTermsModel", "comes", "(JJJJ)V"⟩
abbrev w_Md_comes : List Cond := wU y_Md_comes b_Md_comes 9 none
abbrev b_Md_isNothing : ByteArray := prog_8_method_27_code
def y_Md_isNothing : MethodName := ⟨"FallingTermsModel", "isNothing", "()Z"⟩
abbrev w_Md_isNothing : List Cond := wU y_Md_isNothing b_Md_isNothing 2 (some (.boolean))
abbrev b_Md_goal : ByteArray := prog_8_method_20_code
def y_Md_goal : MethodName := ⟨"FallingTermsModel", "goal", "(JJJ)V"⟩
abbrev w_Md_goal : List Cond := wU y_Md_goal b_Md_goal 7 none
abbrev b_Md_least : ByteArray := prog_8_method_22_code
def y_Md_least : MethodName := ⟨"FallingTermsModel", "least", "(I)V"⟩
abbrev w_Md_least : List Cond := wU y_Md_least b_Md_least 5 none
abbrev b_Md_bears : ByteArray := prog_8_method_21_code
def y_Md_bears : MethodName := ⟨"FallingTermsModel", "bears", "(JJ)V"⟩
abbrev w_Md_bears : List Cond := wU y_Md_bears b_Md_bears 5 none
abbrev b_Md_byOne : ByteArray := prog_8_method_23_code
def y_Md_byOne : MethodName := ⟨"FallingTermsModel", "byOne", "(I)V"⟩
abbrev w_Md_byOne : List Cond := wU y_Md_byOne b_Md_byOne 5 none
abbrev b_Md_byTwo : ByteArray := prog_8_method_25_code
def y_Md_byTwo : MethodName := ⟨"FallingTermsModel", "byTwo", "(II)V"⟩
abbrev w_Md_byTwo : List Cond := wU y_Md_byTwo b_Md_byTwo 9 none
abbrev b_Md_upright : ByteArray := prog_8_method_24_code
def y_Md_upright : MethodName := ⟨"FallingTermsModel", "upright", "(II)V"⟩
abbrev w_Md_upright : List Cond := wU y_Md_upright b_Md_upright 3 none
abbrev b_Md_byThree : ByteArray := prog_8_method_26_code
def y_Md_byThree : MethodName := ⟨"FallingTermsModel", "byThree", "(III)V"⟩
abbrev w_Md_byThree : List Cond := wU y_Md_byThree b_Md_byThree 14 none
abbrev b_Md_holds : ByteArray := prog_8_method_31_code
def y_Md_holds : MethodName := ⟨"FallingTermsModel", "holds", "(IIIIII)I"⟩
abbrev w_Md_holds : List Cond := wU y_Md_holds b_Md_holds 7 (some (.int))
abbrev b_Md_isLeast : ByteArray := prog_8_method_28_code
def y_Md_isLeast : MethodName := ⟨"FallingTermsModel", "isLeast", "(J)Z"⟩
abbrev w_Md_isLeast : List Cond := wU y_Md_isLeast b_Md_isLeast 3 (some (.boolean))
abbrev b_Md_term : ByteArray := prog_8_method_34_code
def y_Md_term : MethodName := ⟨"FallingTermsModel", "term", "(IIIII)I"⟩
abbrev w_Md_term : List Cond := wU y_Md_term b_Md_term 6 (some (.int))
abbrev b_Md_isBounded : ByteArray := prog_8_method_33_code
def y_Md_isBounded : MethodName := ⟨"FallingTermsModel", "isBounded", "(III)Z"⟩
abbrev w_Md_isBounded : List Cond := wU y_Md_isBounded b_Md_isBounded 4 (some (.boolean))
abbrev b_Md_falls : ByteArray := prog_8_method_32_code
def y_Md_falls : MethodName := ⟨"FallingTermsModel", "falls", "(IIIII)I"⟩
abbrev w_Md_falls : List Cond := wU y_Md_falls b_Md_falls 8 (some (.int))
abbrev b_Md_changed : ByteArray := prog_8_method_29_code
def y_Md_changed : MethodName := ⟨"FallingTermsModel", "changed", "(IIJJJ)J"⟩
abbrev w_Md_changed : List Cond := wU y_Md_changed b_Md_changed 11 (some (.long))
abbrev b_Md_prove : ByteArray := prog_8_method_37_code
def y_Md_prove : MethodName := ⟨"FallingTermsModel", "prove", "(I)I"⟩
abbrev w_Md_prove : List Cond := wU y_Md_prove b_Md_prove 3 (some (.int))
abbrev b_Md_leftBy : ByteArray := prog_8_method_35_code
def y_Md_leftBy : MethodName := ⟨"FallingTermsModel", "leftBy", "(IZ)I"⟩
abbrev w_Md_leftBy : List Cond := wU y_Md_leftBy b_Md_leftBy 11 (some (.int))
abbrev b_Md_taken : ByteArray := prog_8_method_36_code
def y_Md_taken : MethodName := ⟨"FallingTermsModel", "taken", "(IZIIIII)I"⟩
abbrev w_Md_taken : List Cond := wU y_Md_taken b_Md_taken 12 (some (.int))
abbrev b_Md_proof : ByteArray := prog_8_method_38_code
def y_Md_proof : MethodName := ⟨"FallingTermsModel", "proof", "(II)I"⟩
abbrev w_Md_proof : List Cond := wU y_Md_proof b_Md_proof 3 (some (.int))
abbrev b_Md_left : ByteArray := prog_8_method_39_code
def y_Md_left : MethodName := ⟨"FallingTermsModel", "left", "()I"⟩
abbrev w_Md_left : List Cond := wU y_Md_left b_Md_left 1 (some (.int))
abbrev b_Md_need : ByteArray := prog_8_method_41_code
def y_Md_need : MethodName := ⟨"FallingTermsModel", "need", "(I)I"⟩
abbrev w_Md_need : List Cond := wU y_Md_need b_Md_need 7 (some (.int))
abbrev b_Md_lasts : ByteArray := prog_8_method_40_code
def y_Md_lasts : MethodName := ⟨"FallingTermsModel", "lasts", "(I)Z"⟩
abbrev w_Md_lasts : List Cond := wU y_Md_lasts b_Md_lasts 5 (some (.boolean))
abbrev b_Md_needed : ByteArray := prog_8_method_42_code
def y_Md_needed : MethodName := ⟨"FallingTermsModel", "needed", "(I)I"⟩
abbrev w_Md_needed : List Cond := wU y_Md_needed b_Md_needed 2 (some (.int))
abbrev b_Md_put : ByteArray := prog_8_method_43_code
def y_Md_put : MethodName := ⟨"FallingTermsModel", "put", "(III)I"⟩
abbrev w_Md_put : List Cond := wU y_Md_put b_Md_put 4 (some (.int))
abbrev b_Md_at : ByteArray := prog_8_method_44_code
def y_Md_at : MethodName := ⟨"FallingTermsModel", "at", "(II)J"⟩
abbrev w_Md_at : List Cond := wU y_Md_at b_Md_at 3 (some (.long))
abbrev b_Md_open : ByteArray := prog_8_method_53_code
def y_Md_open : MethodName := ⟨"FallingTermsModel", "open", "(I)I"⟩
abbrev w_Md_open : List Cond := wU y_Md_open b_Md_open 2 (some (.int))
abbrev b_Md_stand : ByteArray := prog_8_method_45_code
def y_Md_stand : MethodName := ⟨"FallingTermsModel", "stand", "(I)V"⟩
abbrev w_Md_stand : List Cond := wU y_Md_stand b_Md_stand 2 none
abbrev b_Md_openAt : ByteArray := prog_8_method_48_code
def y_Md_openAt : MethodName := ⟨"FallingTermsModel", "openAt", "(I)I"⟩
abbrev w_Md_openAt : List Cond := wU y_Md_openAt b_Md_openAt 7 (some (.int))
abbrev b_Md_isMet : ByteArray := prog_8_method_47_code
def y_Md_isMet : MethodName := ⟨"FallingTermsModel", "isMet", "([II)Z"⟩
abbrev w_Md_isMet : List Cond := wU y_Md_isMet b_Md_isMet 3 (some (.boolean))
abbrev b_Md_step : ByteArray := prog_8_method_54_code
def y_Md_step : MethodName := ⟨"FallingTermsModel", "step", "(I)I"⟩
abbrev w_Md_step : List Cond := wU y_Md_step b_Md_step 3 (some (.int))
abbrev b_Md_walks : ByteArray := prog_8_method_52_code
def y_Md_walks : MethodName := ⟨"FallingTermsModel", "walks", "(I)I"⟩
abbrev w_Md_walks : List Cond := wU y_Md_walks b_Md_walks 4 (some (.int))
abbrev b_Md_goes : ByteArray := prog_8_method_51_code
def y_Md_goes : MethodName := ⟨"FallingTermsModel", "goes", "(II)Z"⟩
abbrev w_Md_goes : List Cond := wU y_Md_goes b_Md_goes 11 (some (.boolean))
abbrev b_Md_becomes : ByteArray := prog_8_method_49_code
def y_Md_becomes : MethodName := ⟨"FallingTermsModel", "becomes", "(II)J"⟩
abbrev w_Md_becomes : List Cond := wU y_Md_becomes b_Md_becomes 4 (some (.long))
abbrev b_Md_isNear : ByteArray := prog_8_method_50_code
def y_Md_isNear : MethodName := ⟨"FallingTermsModel", "isNear", "(J)Z"⟩
abbrev w_Md_isNear : List Cond := wU y_Md_isNear b_Md_isNear 2 (some (.boolean))
abbrev b_Md_stay : ByteArray := prog_8_method_46_code
def y_Md_stay : MethodName := ⟨"FallingTermsModel", "stay", "(I)V"⟩
abbrev w_Md_stay : List Cond := wU y_Md_stay b_Md_stay 2 none
abbrev b_Md_go : ByteArray := prog_8_method_55_code
def y_Md_go : MethodName := ⟨"FallingTermsModel", "go", "(II)I"⟩
abbrev w_Md_go : List Cond := wU y_Md_go b_Md_go 4 (some (.int))
abbrev b_Md_walk : ByteArray := prog_8_method_56_code
def y_Md_walk : MethodName := ⟨"FallingTermsModel", "walk", "(II)I"⟩
abbrev w_Md_walk : List Cond := wU y_Md_walk b_Md_walk 4 (some (.int))
abbrev b_Md_ring : ByteArray := prog_8_method_57_code
def y_Md_ring : MethodName := ⟨"FallingTermsModel", "ring", "(II)I"⟩
abbrev w_Md_ring : List Cond := wU y_Md_ring b_Md_ring 10 (some (.int))
abbrev b_Md_comesBack : ByteArray := prog_8_method_58_code
def y_Md_comesBack : MethodName := ⟨"FallingTermsModel", "comesBack", "(IIII)I"⟩
abbrev w_Md_comesBack : List Cond := wU y_Md_comesBack b_Md_comesBack 6 (some (.int))
abbrev b_Md_loops : ByteArray := prog_8_method_59_code
def y_Md_loops : MethodName := ⟨"FallingTermsModel", "loops", "()I"⟩
abbrev w_Md_loops : List Cond := wU y_Md_loops b_Md_loops 1 (some (.int))
end
section
theorem tw_0 : Cond.selects "FallingTerms" ⟨"FallingTerms", "isLoop", "(I)Z"⟩ ⟨"FallingTerms", "isLoop", "(I)Z"⟩ ∈ tg := tg_in 0 (by decide +kernel) rfl
theorem tw_1 : Cond.selects "FallingTerms" ⟨"FallingTerms", "rowFits", "(IIIII)Z"⟩ ⟨"FallingTerms", "rowFits", "(IIIII)Z"⟩ ∈ tg := tg_in 1 (by decide +kernel) rfl
theorem tw_2 : Cond.selects "FallingTerms" ⟨"FallingTerms", "isWay", "(II)Z"⟩ ⟨"FallingTerms", "isWay", "(II)Z"⟩ ∈ tg := tg_in 2 (by decide +kernel) rfl
theorem tw_3 : Cond.selects "FallingTerms" ⟨"FallingTerms", "isName", "(II)Z"⟩ ⟨"FallingTerms", "isName", "(II)Z"⟩ ∈ tg := tg_in 3 (by decide +kernel) rfl
theorem tw_4 : Cond.selects "FallingTerms" ⟨"FallingTerms", "spaceOf", "(II)LFallingTerms$Space;"⟩ ⟨"FallingTerms", "spaceOf", "(II)LFallingTerms$Space;"⟩ ∈ tg := tg_in 4 (by decide +kernel) rfl
theorem tw_5 : Cond.selects "FallingTerms$Space" ⟨"FallingTerms$Space", "begin", "(I)V"⟩ ⟨"FallingTerms$Space", "begin", "(I)V"⟩ ∈ tg := tg_in 5 (by decide +kernel) rfl
theorem tw_6 : Cond.selects "FallingTerms$Space" ⟨"FallingTerms$Space", "appendPivot", "(I)V"⟩ ⟨"FallingTerms$Space", "appendPivot", "(I)V"⟩ ∈ tg := tg_in 6 (by decide +kernel) rfl
theorem tw_7 : Cond.selects "FallingTerms$Space" ⟨"FallingTerms$Space", "lineAcross", "(III)I"⟩ ⟨"FallingTerms$Space", "lineAcross", "(III)I"⟩ ∈ tg := tg_in 7 (by decide +kernel) rfl
theorem tw_8 : Cond.selects "FallingTerms$Space" ⟨"FallingTerms$Space", "slope", "(IIII)J"⟩ ⟨"FallingTerms$Space", "slope", "(IIII)J"⟩ ∈ tg := tg_in 8 (by decide +kernel) rfl
theorem tw_9 : Cond.selects "FallingTerms$Space" ⟨"FallingTerms$Space", "turn", "(IIIII)V"⟩ ⟨"FallingTerms$Space", "turn", "(IIIII)V"⟩ ∈ tg := tg_in 9 (by decide +kernel) rfl
theorem tw_10 : Cond.selects "FallingTerms$Space" ⟨"FallingTerms$Space", "shift", "([JIJJ)V"⟩ ⟨"FallingTerms$Space", "shift", "([JIJJ)V"⟩ ∈ tg := tg_in 10 (by decide +kernel) rfl
theorem tw_11 : Cond.selects "FallingTerms$Space" ⟨"FallingTerms$Space", "worth", "(IIIII)J"⟩ ⟨"FallingTerms$Space", "worth", "(IIIII)J"⟩ ∈ tg := tg_in 11 (by decide +kernel) rfl
theorem tw_12 : Cond.selects "FallingTerms$Space" ⟨"FallingTerms$Space", "cut", "(IIII)V"⟩ ⟨"FallingTerms$Space", "cut", "(IIII)V"⟩ ∈ tg := tg_in 12 (by decide +kernel) rfl
theorem tw_13 : Cond.selects "FallingTerms$Space" ⟨"FallingTerms$Space", "areNeighbours", "(III)Z"⟩ ⟨"FallingTerms$Space", "areNeighbours", "(III)Z"⟩ ∈ tg := tg_in 13 (by decide +kernel) rfl
theorem tw_14 : Cond.selects "FallingTerms$Space" ⟨"FallingTerms$Space", "appendBetween", "(II)V"⟩ ⟨"FallingTerms$Space", "appendBetween", "(II)V"⟩ ∈ tg := tg_in 14 (by decide +kernel) rfl
theorem tw_15 : Cond.selects "FallingTerms$Space" ⟨"FallingTerms$Space", "dropBeyond", "(I)V"⟩ ⟨"FallingTerms$Space", "dropBeyond", "(I)V"⟩ ∈ tg := tg_in 15 (by decide +kernel) rfl
theorem tw_16 : Cond.selects "FallingTerms$Space" ⟨"FallingTerms$Space", "dropIfNoPoint", "()V"⟩ ⟨"FallingTerms$Space", "dropIfNoPoint", "()V"⟩ ∈ tg := tg_in 16 (by decide +kernel) rfl
theorem tw_17 : Cond.selects "FallingTerms" ⟨"FallingTerms", "fillSpaces", "(LFallingTerms$Loop;)V"⟩ ⟨"FallingTerms", "fillSpaces", "(LFallingTerms$Loop;)V"⟩ ∈ tg := tg_in 17 (by decide +kernel) rfl
theorem tw_18 : Cond.selects "FallingTerms$Proof" ⟨"FallingTerms$Proof", "takeMore", "(LFallingTerms$Loop;[LFallingTerms$Space;)Z"⟩ ⟨"FallingTerms$Proof", "takeMore", "(LFallingTerms$Loop;[LFallingTerms$Space;)Z"⟩ ∈ tg := tg_in 18 (by decide +kernel) rfl
theorem tw_19 : Cond.selects "FallingTerms$Proof" ⟨"FallingTerms$Proof", "takenBy", "(LFallingTerms$Loop;[LFallingTerms$Space;III)I"⟩ ⟨"FallingTerms$Proof", "takenBy", "(LFallingTerms$Loop;[LFallingTerms$Space;III)I"⟩ ∈ tg := tg_in 19 (by decide +kernel) rfl
theorem tw_20 : Cond.selects "FallingTerms$Proof" ⟨"FallingTerms$Proof", "append", "(IIII)V"⟩ ⟨"FallingTerms$Proof", "append", "(IIII)V"⟩ ∈ tg := tg_in 20 (by decide +kernel) rfl
theorem tw_21 : Cond.selects "FallingTerms" ⟨"FallingTerms", "findNeed", "(LFallingTerms$Loop;III)Z"⟩ ⟨"FallingTerms", "findNeed", "(LFallingTerms$Loop;III)Z"⟩ ∈ tg := tg_in 21 (by decide +kernel) rfl
theorem tw_22 : Cond.selects "FallingTerms" ⟨"FallingTerms", "narrowSpaces", "(LFallingTerms$Loop;IIII)V"⟩ ⟨"FallingTerms", "narrowSpaces", "(LFallingTerms$Loop;IIII)V"⟩ ∈ tg := tg_in 22 (by decide +kernel) rfl
theorem tw_23 : Cond.selects "FallingTerms" ⟨"FallingTerms", "lasts", "(LFallingTerms$Loop;IIII)Z"⟩ ⟨"FallingTerms", "lasts", "(LFallingTerms$Loop;IIII)Z"⟩ ∈ tg := tg_in 23 (by decide +kernel) rfl
theorem tw_24 : Cond.selects "FallingTerms" ⟨"FallingTerms", "keepNeed", "(IIII)V"⟩ ⟨"FallingTerms", "keepNeed", "(IIII)V"⟩ ∈ tg := tg_in 24 (by decide +kernel) rfl
theorem tw_25 : Cond.selects "FallingTerms" ⟨"FallingTerms", "ringFrom", "(LFallingTerms$Loop;III)I"⟩ ⟨"FallingTerms", "ringFrom", "(LFallingTerms$Loop;III)I"⟩ ∈ tg := tg_in 25 (by decide +kernel) rfl
theorem tw_26 : Cond.selects "FallingTermsModel" ⟨"FallingTermsModel", "isLoop", "(I)Z"⟩ ⟨"FallingTermsModel", "isLoop", "(I)Z"⟩ ∈ tg := tg_in 26 (by decide +kernel) rfl
theorem tw_27 : Cond.selects "FallingTermsModel" ⟨"FallingTermsModel", "isRow", "(IIIII)Z"⟩ ⟨"FallingTermsModel", "isRow", "(IIIII)Z"⟩ ∈ tg := tg_in 27 (by decide +kernel) rfl
theorem tw_28 : Cond.selects "FallingTermsModel" ⟨"FallingTermsModel", "areNumbers", "(IIIII)Z"⟩ ⟨"FallingTermsModel", "areNumbers", "(IIIII)Z"⟩ ∈ tg := tg_in 28 (by decide +kernel) rfl
theorem tw_29 : Cond.selects "FallingTermsModel" ⟨"FallingTermsModel", "isWay", "(II)Z"⟩ ⟨"FallingTermsModel", "isWay", "(II)Z"⟩ ∈ tg := tg_in 29 (by decide +kernel) rfl
theorem tw_30 : Cond.selects "FallingTermsModel" ⟨"FallingTermsModel", "isName", "(II)Z"⟩ ⟨"FallingTermsModel", "isName", "(II)Z"⟩ ∈ tg := tg_in 30 (by decide +kernel) rfl
theorem tw_31 : Cond.selects "FallingTermsModel" ⟨"FallingTermsModel", "space", "(IIZ)V"⟩ ⟨"FallingTermsModel", "space", "(IIZ)V"⟩ ∈ tg := tg_in 31 (by decide +kernel) rfl
theorem tw_32 : Cond.selects "FallingTermsModel" ⟨"FallingTermsModel", "comes", "(JJJJ)V"⟩ ⟨"FallingTermsModel", "comes", "(JJJJ)V"⟩ ∈ tg := tg_in 32 (by decide +kernel) rfl
theorem tw_33 : Cond.selects "FallingTermsModel" ⟨"FallingTermsModel", "isNothing", "()Z"⟩ ⟨"FallingTermsModel", "isNothing", "()Z"⟩ ∈ tg := tg_in 33 (by decide +kernel) rfl
theorem tw_34 : Cond.selects "FallingTermsModel" ⟨"FallingTermsModel", "goal", "(JJJ)V"⟩ ⟨"FallingTermsModel", "goal", "(JJJ)V"⟩ ∈ tg := tg_in 34 (by decide +kernel) rfl
theorem tw_35 : Cond.selects "FallingTermsModel" ⟨"FallingTermsModel", "least", "(I)V"⟩ ⟨"FallingTermsModel", "least", "(I)V"⟩ ∈ tg := tg_in 35 (by decide +kernel) rfl
theorem tw_36 : Cond.selects "FallingTermsModel" ⟨"FallingTermsModel", "bears", "(JJ)V"⟩ ⟨"FallingTermsModel", "bears", "(JJ)V"⟩ ∈ tg := tg_in 36 (by decide +kernel) rfl
theorem tw_37 : Cond.selects "FallingTermsModel" ⟨"FallingTermsModel", "byOne", "(I)V"⟩ ⟨"FallingTermsModel", "byOne", "(I)V"⟩ ∈ tg := tg_in 37 (by decide +kernel) rfl
theorem tw_38 : Cond.selects "FallingTermsModel" ⟨"FallingTermsModel", "byTwo", "(II)V"⟩ ⟨"FallingTermsModel", "byTwo", "(II)V"⟩ ∈ tg := tg_in 38 (by decide +kernel) rfl
theorem tw_39 : Cond.selects "FallingTermsModel" ⟨"FallingTermsModel", "upright", "(II)V"⟩ ⟨"FallingTermsModel", "upright", "(II)V"⟩ ∈ tg := tg_in 39 (by decide +kernel) rfl
theorem tw_40 : Cond.selects "FallingTermsModel" ⟨"FallingTermsModel", "byThree", "(III)V"⟩ ⟨"FallingTermsModel", "byThree", "(III)V"⟩ ∈ tg := tg_in 40 (by decide +kernel) rfl
theorem tw_41 : Cond.selects "FallingTermsModel" ⟨"FallingTermsModel", "isLeast", "(J)Z"⟩ ⟨"FallingTermsModel", "isLeast", "(J)Z"⟩ ∈ tg := tg_in 41 (by decide +kernel) rfl
theorem tw_42 : Cond.selects "FallingTermsModel" ⟨"FallingTermsModel", "isBounded", "(III)Z"⟩ ⟨"FallingTermsModel", "isBounded", "(III)Z"⟩ ∈ tg := tg_in 42 (by decide +kernel) rfl
theorem tw_43 : Cond.selects "FallingTermsModel" ⟨"FallingTermsModel", "falls", "(IIIII)I"⟩ ⟨"FallingTermsModel", "falls", "(IIIII)I"⟩ ∈ tg := tg_in 43 (by decide +kernel) rfl
theorem tw_44 : Cond.selects "FallingTermsModel" ⟨"FallingTermsModel", "changed", "(IIJJJ)J"⟩ ⟨"FallingTermsModel", "changed", "(IIJJJ)J"⟩ ∈ tg := tg_in 44 (by decide +kernel) rfl
theorem tw_45 : Cond.selects "FallingTermsModel" ⟨"FallingTermsModel", "leftBy", "(IZ)I"⟩ ⟨"FallingTermsModel", "leftBy", "(IZ)I"⟩ ∈ tg := tg_in 45 (by decide +kernel) rfl
theorem tw_46 : Cond.selects "FallingTermsModel" ⟨"FallingTermsModel", "taken", "(IZIIIII)I"⟩ ⟨"FallingTermsModel", "taken", "(IZIIIII)I"⟩ ∈ tg := tg_in 46 (by decide +kernel) rfl
theorem tw_47 : Cond.selects "FallingTermsModel" ⟨"FallingTermsModel", "lasts", "(I)Z"⟩ ⟨"FallingTermsModel", "lasts", "(I)Z"⟩ ∈ tg := tg_in 47 (by decide +kernel) rfl
theorem tw_48 : Cond.selects "FallingTermsModel" ⟨"FallingTermsModel", "stand", "(I)V"⟩ ⟨"FallingTermsModel", "stand", "(I)V"⟩ ∈ tg := tg_in 48 (by decide +kernel) rfl
theorem tw_49 : Cond.selects "FallingTermsModel" ⟨"FallingTermsModel", "openAt", "(I)I"⟩ ⟨"FallingTermsModel", "openAt", "(I)I"⟩ ∈ tg := tg_in 49 (by decide +kernel) rfl
theorem tw_50 : Cond.selects "FallingTermsModel" ⟨"FallingTermsModel", "isMet", "([II)Z"⟩ ⟨"FallingTermsModel", "isMet", "([II)Z"⟩ ∈ tg := tg_in 50 (by decide +kernel) rfl
theorem tw_51 : Cond.selects "FallingTermsModel" ⟨"FallingTermsModel", "walks", "(I)I"⟩ ⟨"FallingTermsModel", "walks", "(I)I"⟩ ∈ tg := tg_in 51 (by decide +kernel) rfl
theorem tw_52 : Cond.selects "FallingTermsModel" ⟨"FallingTermsModel", "goes", "(II)Z"⟩ ⟨"FallingTermsModel", "goes", "(II)Z"⟩ ∈ tg := tg_in 52 (by decide +kernel) rfl
theorem tw_53 : Cond.selects "FallingTermsModel" ⟨"FallingTermsModel", "becomes", "(II)J"⟩ ⟨"FallingTermsModel", "becomes", "(II)J"⟩ ∈ tg := tg_in 53 (by decide +kernel) rfl
theorem tw_54 : Cond.selects "FallingTermsModel" ⟨"FallingTermsModel", "stay", "(I)V"⟩ ⟨"FallingTermsModel", "stay", "(I)V"⟩ ∈ tg := tg_in 54 (by decide +kernel) rfl
theorem tw_55 : Cond.selects "FallingTermsModel" ⟨"FallingTermsModel", "comesBack", "(IIII)I"⟩ ⟨"FallingTermsModel", "comesBack", "(IIII)I"⟩ ∈ tg := tg_in 55 (by decide +kernel) rfl
theorem tw_56 : (Jvm.Cond.initialized "FallingTermsLaw") ∈ tg := tg_in 56 (by decide +kernel) rfl
theorem tw_57 : (Jvm.Cond.initialized "FallingTerms") ∈ tg := tg_in 57 (by decide +kernel) rfl
theorem tw_58 : (Jvm.Cond.initialized "FallingTerms$Proof") ∈ tg := tg_in 58 (by decide +kernel) rfl
theorem tw_59 : (Jvm.Cond.initialized "FallingTerms$Loop") ∈ tg := tg_in 59 (by decide +kernel) rfl
theorem tw_60 : (Jvm.Cond.initialized "FallingTerms$Rows") ∈ tg := tg_in 60 (by decide +kernel) rfl
theorem tw_61 : (Jvm.Cond.initialized "java/lang/Math") ∈ tg := tg_in 61 (by decide +kernel) rfl
theorem tw_62 : (Jvm.Cond.initialized "FallingTerms$Way") ∈ tg := tg_in 62 (by decide +kernel) rfl
theorem tw_63 : (Jvm.Cond.initialized "FallingTerms$Space") ∈ tg := tg_in 63 (by decide +kernel) rfl
theorem tw_64 : (Jvm.Cond.initialized "FallingTermsModel") ∈ tg := tg_in 64 (by decide +kernel) rfl
theorem tw_65 : (Jvm.Cond.classLink "FallingTermsLaw" (7 : Nat) "FallingTerms") ∈ tg := tg_in 65 (by decide +kernel) rfl
theorem tw_66 : (Jvm.Cond.instantiable "FallingTerms" (11 : Nat)) ∈ tg := tg_in 66 (by decide +kernel) rfl
theorem tw_67 : (Jvm.Cond.methodLink "FallingTermsLaw" (9 : Nat) ({ cls := "FallingTerms", name := "<init>", desc := "()V" } : Jvm.MethodName)) ∈ tg := tg_in 67 (by decide +kernel) rfl
theorem tw_68 : (Jvm.Cond.instanceMethod ({ cls := "FallingTerms", name := "<init>", desc := "()V" } : Jvm.MethodName)) ∈ tg := tg_in 68 (by decide +kernel) rfl
theorem tw_69 : (Jvm.Cond.code ({ cls := "FallingTerms", name := "<init>", desc := "()V" } : Jvm.MethodName) prog_1_method_1_code (2 : Nat) (Option.none : Option Jvm.ClassFile.FieldType)) ∈ tg := tg_in 69 (by decide +kernel) rfl
theorem tw_70 : (Jvm.Cond.methodLink "FallingTerms" (1 : Nat) ({ cls := "java/lang/Object", name := "<init>", desc := "()V" } : Jvm.MethodName)) ∈ tg := tg_in 70 (by decide +kernel) rfl
theorem tw_71 : (Jvm.Cond.instanceMethod ({ cls := "java/lang/Object", name := "<init>", desc := "()V" } : Jvm.MethodName)) ∈ tg := tg_in 71 (by decide +kernel) rfl
theorem tw_72 : (Jvm.Cond.code ({ cls := "java/lang/Object", name := "<init>", desc := "()V" } : Jvm.MethodName) object_method_1_code (1 : Nat) (Option.none : Option Jvm.ClassFile.FieldType)) ∈ tg := tg_in 72 (by decide +kernel) rfl
theorem tw_73 : (Jvm.Cond.classLink "FallingTerms" (9 : Nat) "FallingTerms$Loop") ∈ tg := tg_in 73 (by decide +kernel) rfl
theorem tw_75 : (Jvm.Cond.classLink "FallingTerms" (15 : Nat) "FallingTerms$Space") ∈ tg := tg_in 75 (by decide +kernel) rfl
theorem tw_77 : (Jvm.Cond.classLink "FallingTerms" (24 : Nat) "FallingTerms$Proof") ∈ tg := tg_in 77 (by decide +kernel) rfl
theorem tw_78 : (Jvm.Cond.instantiable "FallingTerms$Proof" (3 : Nat)) ∈ tg := tg_in 78 (by decide +kernel) rfl
theorem tw_79 : (Jvm.Cond.methodLinkNest "FallingTerms" (26 : Nat) ({ cls := "FallingTerms$Proof", name := "<init>", desc := "()V" } : Jvm.MethodName) "FallingTerms") ∈ tn := tn_in 79 (by decide +kernel) rfl
theorem tw_80 : (Jvm.Cond.instanceMethod ({ cls := "FallingTerms$Proof", name := "<init>", desc := "()V" } : Jvm.MethodName)) ∈ tg := tg_in 80 (by decide +kernel) rfl
theorem tw_81 : (Jvm.Cond.code ({ cls := "FallingTerms$Proof", name := "<init>", desc := "()V" } : Jvm.MethodName) prog_3_method_1_code (1 : Nat) (Option.none : Option Jvm.ClassFile.FieldType)) ∈ tg := tg_in 81 (by decide +kernel) rfl
theorem tw_82 : (Jvm.Cond.methodLink "FallingTerms$Proof" (3 : Nat) ({ cls := "java/lang/Object", name := "<init>", desc := "()V" } : Jvm.MethodName)) ∈ tg := tg_in 82 (by decide +kernel) rfl
theorem tw_83 : (Jvm.Cond.fieldLink "FallingTerms$Proof" (9 : Nat) "FallingTerms$Proof" "found" "[I") ∈ tg := tg_in 83 (by decide +kernel) rfl
theorem tw_84 : (Jvm.Cond.fieldLinkNest "FallingTerms" (152 : Nat) "FallingTerms$Proof" "found" "[I" "FallingTerms") ∈ tn := tn_in 84 (by decide +kernel) rfl
theorem tw_85 : (Jvm.Cond.fieldLink "FallingTerms$Proof" (15 : Nat) "FallingTerms$Proof" "count" "I") ∈ tg := tg_in 85 (by decide +kernel) rfl
theorem tw_86 : (Jvm.Cond.fieldLinkNest "FallingTerms" (151 : Nat) "FallingTerms$Proof" "count" "I" "FallingTerms") ∈ tn := tn_in 86 (by decide +kernel) rfl
theorem tw_87 : (Jvm.Cond.fieldLink "FallingTerms$Proof" (19 : Nat) "FallingTerms$Proof" "waysLeft" "I") ∈ tg := tg_in 87 (by decide +kernel) rfl
theorem tw_88 : (Jvm.Cond.fieldLinkNest "FallingTerms" (148 : Nat) "FallingTerms$Proof" "waysLeft" "I" "FallingTerms") ∈ tn := tn_in 88 (by decide +kernel) rfl
theorem tw_89 : (Jvm.Cond.laysFinal "FallingTerms$Proof" "FallingTerms$Proof" "found" "[I") ∈ tg := tg_in 89 (by decide +kernel) rfl
theorem tw_90 : (Jvm.Cond.soleField "FallingTerms$Proof" "found") ∈ tg := tg_in 90 (by decide +kernel) rfl
theorem tw_91 : (Jvm.Cond.lays "FallingTerms$Proof" "FallingTerms$Proof" "count" "I") ∈ tg := tg_in 91 (by decide +kernel) rfl
theorem tw_92 : (Jvm.Cond.soleField "FallingTerms$Proof" "count") ∈ tg := tg_in 92 (by decide +kernel) rfl
theorem tw_93 : (Jvm.Cond.lays "FallingTerms$Proof" "FallingTerms$Proof" "waysLeft" "I") ∈ tg := tg_in 93 (by decide +kernel) rfl
theorem tw_94 : (Jvm.Cond.soleField "FallingTerms$Proof" "waysLeft") ∈ tg := tg_in 94 (by decide +kernel) rfl
theorem tw_95 : (Jvm.Cond.superclass "FallingTerms$Proof" "java/lang/Object") ∈ tg := tg_in 95 (by decide +kernel) rfl
theorem tw_96 : (Jvm.Cond.arrayClass Jvm.ClassFile.FieldType.int) ∈ tg := tg_in 96 (by decide +kernel) rfl
theorem tw_97 : (Jvm.Cond.instantiable "FallingTerms$Loop" (6 : Nat)) ∈ tg := tg_in 97 (by decide +kernel) rfl
theorem tw_98 : (Jvm.Cond.methodLink "FallingTerms" (48 : Nat) ({ cls := "FallingTerms$Loop", name := "<init>", desc := "()V" } : Jvm.MethodName)) ∈ tg := tg_in 98 (by decide +kernel) rfl
theorem tw_99 : (Jvm.Cond.instanceMethod ({ cls := "FallingTerms$Loop", name := "<init>", desc := "()V" } : Jvm.MethodName)) ∈ tg := tg_in 99 (by decide +kernel) rfl
theorem tw_100 : (Jvm.Cond.code ({ cls := "FallingTerms$Loop", name := "<init>", desc := "()V" } : Jvm.MethodName) prog_2_method_1_code (2 : Nat) (Option.none : Option Jvm.ClassFile.FieldType)) ∈ tg := tg_in 100 (by decide +kernel) rfl
theorem tw_101 : (Jvm.Cond.methodLink "FallingTerms$Loop" (3 : Nat) ({ cls := "java/lang/Object", name := "<init>", desc := "()V" } : Jvm.MethodName)) ∈ tg := tg_in 101 (by decide +kernel) rfl
theorem tw_102 : (Jvm.Cond.classLink "FallingTerms$Loop" (9 : Nat) "FallingTerms$Rows") ∈ tg := tg_in 102 (by decide +kernel) rfl
theorem tw_103 : (Jvm.Cond.instantiable "FallingTerms$Rows" (3 : Nat)) ∈ tg := tg_in 103 (by decide +kernel) rfl
theorem tw_104 : (Jvm.Cond.methodLink "FallingTerms$Loop" (11 : Nat) ({ cls := "FallingTerms$Rows", name := "<init>", desc := "(I)V" } : Jvm.MethodName)) ∈ tg := tg_in 104 (by decide +kernel) rfl
theorem tw_105 : (Jvm.Cond.instanceMethod ({ cls := "FallingTerms$Rows", name := "<init>", desc := "(I)V" } : Jvm.MethodName)) ∈ tg := tg_in 105 (by decide +kernel) rfl
theorem tw_106 : (Jvm.Cond.code ({ cls := "FallingTerms$Rows", name := "<init>", desc := "(I)V" } : Jvm.MethodName) prog_4_method_1_code (2 : Nat) (Option.none : Option Jvm.ClassFile.FieldType)) ∈ tg := tg_in 106 (by decide +kernel) rfl
theorem tw_107 : (Jvm.Cond.methodLink "FallingTerms$Rows" (3 : Nat) ({ cls := "java/lang/Object", name := "<init>", desc := "()V" } : Jvm.MethodName)) ∈ tg := tg_in 107 (by decide +kernel) rfl
theorem tw_108 : (Jvm.Cond.methodLink "FallingTerms$Rows" (9 : Nat) ({ cls := "java/lang/Math", name := "max", desc := "(II)I" } : Jvm.MethodName)) ∈ tg := tg_in 108 (by decide +kernel) rfl
theorem tw_109 : (Jvm.Cond.static ({ cls := "java/lang/Math", name := "max", desc := "(II)I" } : Jvm.MethodName)) ∈ tg := tg_in 109 (by decide +kernel) rfl
theorem tw_110 : (Jvm.Cond.code ({ cls := "java/lang/Math", name := "max", desc := "(II)I" } : Jvm.MethodName) prog_9_method_65_code (2 : Nat) (Option.some Jvm.ClassFile.FieldType.int)) ∈ tg := tg_in 110 (by decide +kernel) rfl
theorem tw_111 : (Jvm.Cond.fieldLink "FallingTerms$Rows" (21 : Nat) "FallingTerms$Rows" "numbers" "[I") ∈ tg := tg_in 111 (by decide +kernel) rfl
theorem tw_112 : (Jvm.Cond.fieldLinkNest "FallingTerms$Space" (42 : Nat) "FallingTerms$Rows" "numbers" "[I" "FallingTerms") ∈ tn := tn_in 112 (by decide +kernel) rfl
theorem tw_113 : (Jvm.Cond.fieldLink "FallingTerms$Rows" (15 : Nat) "FallingTerms$Rows" "most" "I") ∈ tg := tg_in 113 (by decide +kernel) rfl
theorem tw_114 : (Jvm.Cond.fieldLink "FallingTerms$Rows" (25 : Nat) "FallingTerms$Rows" "count" "I") ∈ tg := tg_in 114 (by decide +kernel) rfl
theorem tw_115 : (Jvm.Cond.fieldLinkNest "FallingTerms$Way" (27 : Nat) "FallingTerms$Rows" "count" "I" "FallingTerms") ∈ tn := tn_in 115 (by decide +kernel) rfl
theorem tw_116 : (Jvm.Cond.fieldLinkNest "FallingTerms$Loop" (38 : Nat) "FallingTerms$Rows" "count" "I" "FallingTerms") ∈ tn := tn_in 116 (by decide +kernel) rfl
theorem tw_117 : (Jvm.Cond.fieldLinkNest "FallingTerms$Space" (47 : Nat) "FallingTerms$Rows" "count" "I" "FallingTerms") ∈ tn := tn_in 117 (by decide +kernel) rfl
theorem tw_118 : (Jvm.Cond.fieldLinkNest "FallingTerms" (114 : Nat) "FallingTerms$Rows" "count" "I" "FallingTerms") ∈ tn := tn_in 118 (by decide +kernel) rfl
theorem tw_119 : (Jvm.Cond.laysFinal "FallingTerms$Rows" "FallingTerms$Rows" "numbers" "[I") ∈ tg := tg_in 119 (by decide +kernel) rfl
theorem tw_120 : (Jvm.Cond.soleField "FallingTerms$Rows" "numbers") ∈ tg := tg_in 120 (by decide +kernel) rfl
theorem tw_121 : (Jvm.Cond.laysFinal "FallingTerms$Rows" "FallingTerms$Rows" "most" "I") ∈ tg := tg_in 121 (by decide +kernel) rfl
theorem tw_122 : (Jvm.Cond.soleField "FallingTerms$Rows" "most") ∈ tg := tg_in 122 (by decide +kernel) rfl
theorem tw_123 : (Jvm.Cond.lays "FallingTerms$Rows" "FallingTerms$Rows" "count" "I") ∈ tg := tg_in 123 (by decide +kernel) rfl
theorem tw_124 : (Jvm.Cond.soleField "FallingTerms$Rows" "count") ∈ tg := tg_in 124 (by decide +kernel) rfl
theorem tw_125 : (Jvm.Cond.superclass "FallingTerms$Rows" "java/lang/Object") ∈ tg := tg_in 125 (by decide +kernel) rfl
theorem tw_126 : (Jvm.Cond.arrayClass Jvm.ClassFile.FieldType.long) ∈ tg := tg_in 126 (by decide +kernel) rfl
theorem tw_127 : (Jvm.Cond.classLink "FallingTerms$Loop" (20 : Nat) "FallingTerms$Way") ∈ tg := tg_in 127 (by decide +kernel) rfl
theorem tw_129 : (Jvm.Cond.instantiable "FallingTerms$Way" (3 : Nat)) ∈ tg := tg_in 129 (by decide +kernel) rfl
theorem tw_130 : (Jvm.Cond.methodLinkNest "FallingTerms$Loop" (33 : Nat) ({ cls := "FallingTerms$Way", name := "<init>", desc := "()V" } : Jvm.MethodName) "FallingTerms") ∈ tn := tn_in 130 (by decide +kernel) rfl
theorem tw_131 : (Jvm.Cond.instanceMethod ({ cls := "FallingTerms$Way", name := "<init>", desc := "()V" } : Jvm.MethodName)) ∈ tg := tg_in 131 (by decide +kernel) rfl
theorem tw_132 : (Jvm.Cond.code ({ cls := "FallingTerms$Way", name := "<init>", desc := "()V" } : Jvm.MethodName) prog_6_method_1_code (1 : Nat) (Option.none : Option Jvm.ClassFile.FieldType)) ∈ tg := tg_in 132 (by decide +kernel) rfl
theorem tw_133 : (Jvm.Cond.methodLink "FallingTerms$Way" (3 : Nat) ({ cls := "java/lang/Object", name := "<init>", desc := "()V" } : Jvm.MethodName)) ∈ tg := tg_in 133 (by decide +kernel) rfl
theorem tw_134 : (Jvm.Cond.classLink "FallingTerms$Way" (9 : Nat) "FallingTerms$Rows") ∈ tg := tg_in 134 (by decide +kernel) rfl
theorem tw_135 : (Jvm.Cond.methodLink "FallingTerms$Way" (11 : Nat) ({ cls := "FallingTerms$Rows", name := "<init>", desc := "(I)V" } : Jvm.MethodName)) ∈ tg := tg_in 135 (by decide +kernel) rfl
theorem tw_136 : (Jvm.Cond.fieldLink "FallingTerms$Way" (14 : Nat) "FallingTerms$Way" "rows" "LFallingTerms$Rows;") ∈ tg := tg_in 136 (by decide +kernel) rfl
theorem tw_137 : (Jvm.Cond.fieldLinkNest "FallingTerms$Space" (58 : Nat) "FallingTerms$Way" "rows" "LFallingTerms$Rows;" "FallingTerms") ∈ tn := tn_in 137 (by decide +kernel) rfl
theorem tw_138 : (Jvm.Cond.fieldLinkNest "FallingTerms$Loop" (51 : Nat) "FallingTerms$Way" "rows" "LFallingTerms$Rows;" "FallingTerms") ∈ tn := tn_in 138 (by decide +kernel) rfl
theorem tw_139 : (Jvm.Cond.fieldLinkNest "FallingTerms" (91 : Nat) "FallingTerms$Way" "rows" "LFallingTerms$Rows;" "FallingTerms") ∈ tn := tn_in 139 (by decide +kernel) rfl
theorem tw_140 : (Jvm.Cond.fieldLink "FallingTerms$Way" (20 : Nat) "FallingTerms$Way" "factors" "[I") ∈ tg := tg_in 140 (by decide +kernel) rfl
theorem tw_141 : (Jvm.Cond.fieldLinkNest "FallingTerms" (102 : Nat) "FallingTerms$Way" "factors" "[I" "FallingTerms") ∈ tn := tn_in 141 (by decide +kernel) rfl
theorem tw_142 : (Jvm.Cond.fieldLink "FallingTerms$Way" (24 : Nat) "FallingTerms$Way" "constants" "[I") ∈ tg := tg_in 142 (by decide +kernel) rfl
theorem tw_143 : (Jvm.Cond.fieldLinkNest "FallingTerms" (105 : Nat) "FallingTerms$Way" "constants" "[I" "FallingTerms") ∈ tn := tn_in 143 (by decide +kernel) rfl
theorem tw_144 : (Jvm.Cond.laysFinal "FallingTerms$Way" "FallingTerms$Way" "rows" "LFallingTerms$Rows;") ∈ tg := tg_in 144 (by decide +kernel) rfl
theorem tw_145 : (Jvm.Cond.soleField "FallingTerms$Way" "rows") ∈ tg := tg_in 145 (by decide +kernel) rfl
theorem tw_146 : (Jvm.Cond.laysFinal "FallingTerms$Way" "FallingTerms$Way" "factors" "[I") ∈ tg := tg_in 146 (by decide +kernel) rfl
theorem tw_147 : (Jvm.Cond.soleField "FallingTerms$Way" "factors") ∈ tg := tg_in 147 (by decide +kernel) rfl
theorem tw_148 : (Jvm.Cond.laysFinal "FallingTerms$Way" "FallingTerms$Way" "constants" "[I") ∈ tg := tg_in 148 (by decide +kernel) rfl
theorem tw_149 : (Jvm.Cond.soleField "FallingTerms$Way" "constants") ∈ tg := tg_in 149 (by decide +kernel) rfl
theorem tw_150 : (Jvm.Cond.superclass "FallingTerms$Way" "java/lang/Object") ∈ tg := tg_in 150 (by decide +kernel) rfl
theorem tw_151 : (Jvm.Cond.fieldLink "FallingTerms$Loop" (34 : Nat) "FallingTerms$Loop" "names" "I") ∈ tg := tg_in 151 (by decide +kernel) rfl
theorem tw_152 : (Jvm.Cond.fieldLinkNest "FallingTerms$Space" (28 : Nat) "FallingTerms$Loop" "names" "I" "FallingTerms") ∈ tn := tn_in 152 (by decide +kernel) rfl
theorem tw_153 : (Jvm.Cond.fieldLinkNest "FallingTerms" (108 : Nat) "FallingTerms$Loop" "names" "I" "FallingTerms") ∈ tn := tn_in 153 (by decide +kernel) rfl
theorem tw_154 : (Jvm.Cond.fieldLink "FallingTerms$Loop" (14 : Nat) "FallingTerms$Loop" "guardRows" "LFallingTerms$Rows;") ∈ tg := tg_in 154 (by decide +kernel) rfl
theorem tw_155 : (Jvm.Cond.fieldLinkNest "FallingTerms$Space" (38 : Nat) "FallingTerms$Loop" "guardRows" "LFallingTerms$Rows;" "FallingTerms") ∈ tn := tn_in 155 (by decide +kernel) rfl
theorem tw_156 : (Jvm.Cond.fieldLinkNest "FallingTerms" (69 : Nat) "FallingTerms$Loop" "guardRows" "LFallingTerms$Rows;" "FallingTerms") ∈ tn := tn_in 156 (by decide +kernel) rfl
theorem tw_157 : (Jvm.Cond.fieldLink "FallingTerms$Loop" (22 : Nat) "FallingTerms$Loop" "ways" "[LFallingTerms$Way;") ∈ tg := tg_in 157 (by decide +kernel) rfl
theorem tw_158 : (Jvm.Cond.fieldLinkNest "FallingTerms$Space" (54 : Nat) "FallingTerms$Loop" "ways" "[LFallingTerms$Way;" "FallingTerms") ∈ tn := tn_in 158 (by decide +kernel) rfl
theorem tw_159 : (Jvm.Cond.fieldLinkNest "FallingTerms$Proof" (43 : Nat) "FallingTerms$Loop" "ways" "[LFallingTerms$Way;" "FallingTerms") ∈ tn := tn_in 159 (by decide +kernel) rfl
theorem tw_160 : (Jvm.Cond.fieldLinkNest "FallingTerms" (87 : Nat) "FallingTerms$Loop" "ways" "[LFallingTerms$Way;" "FallingTerms") ∈ tn := tn_in 160 (by decide +kernel) rfl
theorem tw_161 : (Jvm.Cond.fieldLink "FallingTerms$Loop" (41 : Nat) "FallingTerms$Loop" "wayCount" "I") ∈ tg := tg_in 161 (by decide +kernel) rfl
theorem tw_162 : (Jvm.Cond.fieldLinkNest "FallingTerms$Proof" (22 : Nat) "FallingTerms$Loop" "wayCount" "I" "FallingTerms") ∈ tn := tn_in 162 (by decide +kernel) rfl
theorem tw_163 : (Jvm.Cond.fieldLinkNest "FallingTerms" (111 : Nat) "FallingTerms$Loop" "wayCount" "I" "FallingTerms") ∈ tn := tn_in 163 (by decide +kernel) rfl
theorem tw_164 : (Jvm.Cond.fieldLink "FallingTerms$Loop" (26 : Nat) "FallingTerms$Loop" "state" "[J") ∈ tg := tg_in 164 (by decide +kernel) rfl
theorem tw_165 : (Jvm.Cond.fieldLinkNest "FallingTerms" (168 : Nat) "FallingTerms$Loop" "state" "[J" "FallingTerms") ∈ tn := tn_in 165 (by decide +kernel) rfl
theorem tw_166 : (Jvm.Cond.fieldLink "FallingTerms$Loop" (30 : Nat) "FallingTerms$Loop" "next" "[J") ∈ tg := tg_in 166 (by decide +kernel) rfl
theorem tw_167 : (Jvm.Cond.lays "FallingTerms$Loop" "FallingTerms$Loop" "names" "I") ∈ tg := tg_in 167 (by decide +kernel) rfl
theorem tw_168 : (Jvm.Cond.soleField "FallingTerms$Loop" "names") ∈ tg := tg_in 168 (by decide +kernel) rfl
theorem tw_169 : (Jvm.Cond.laysFinal "FallingTerms$Loop" "FallingTerms$Loop" "guardRows" "LFallingTerms$Rows;") ∈ tg := tg_in 169 (by decide +kernel) rfl
theorem tw_170 : (Jvm.Cond.soleField "FallingTerms$Loop" "guardRows") ∈ tg := tg_in 170 (by decide +kernel) rfl
theorem tw_171 : (Jvm.Cond.laysFinal "FallingTerms$Loop" "FallingTerms$Loop" "ways" "[LFallingTerms$Way;") ∈ tg := tg_in 171 (by decide +kernel) rfl
theorem tw_172 : (Jvm.Cond.soleField "FallingTerms$Loop" "ways") ∈ tg := tg_in 172 (by decide +kernel) rfl
theorem tw_173 : (Jvm.Cond.lays "FallingTerms$Loop" "FallingTerms$Loop" "wayCount" "I") ∈ tg := tg_in 173 (by decide +kernel) rfl
theorem tw_174 : (Jvm.Cond.soleField "FallingTerms$Loop" "wayCount") ∈ tg := tg_in 174 (by decide +kernel) rfl
theorem tw_175 : (Jvm.Cond.laysFinal "FallingTerms$Loop" "FallingTerms$Loop" "state" "[J") ∈ tg := tg_in 175 (by decide +kernel) rfl
theorem tw_176 : (Jvm.Cond.soleField "FallingTerms$Loop" "state") ∈ tg := tg_in 176 (by decide +kernel) rfl
theorem tw_177 : (Jvm.Cond.laysFinal "FallingTerms$Loop" "FallingTerms$Loop" "next" "[J") ∈ tg := tg_in 177 (by decide +kernel) rfl
theorem tw_178 : (Jvm.Cond.soleField "FallingTerms$Loop" "next") ∈ tg := tg_in 178 (by decide +kernel) rfl
theorem tw_179 : (Jvm.Cond.superclass "FallingTerms$Loop" "java/lang/Object") ∈ tg := tg_in 179 (by decide +kernel) rfl
theorem tw_180 : (Jvm.Cond.instantiable "FallingTerms$Space" (8 : Nat)) ∈ tg := tg_in 180 (by decide +kernel) rfl
theorem tw_181 : (Jvm.Cond.methodLinkNest "FallingTerms" (49 : Nat) ({ cls := "FallingTerms$Space", name := "<init>", desc := "()V" } : Jvm.MethodName) "FallingTerms") ∈ tn := tn_in 181 (by decide +kernel) rfl
theorem tw_182 : (Jvm.Cond.instanceMethod ({ cls := "FallingTerms$Space", name := "<init>", desc := "()V" } : Jvm.MethodName)) ∈ tg := tg_in 182 (by decide +kernel) rfl
theorem tw_183 : (Jvm.Cond.code ({ cls := "FallingTerms$Space", name := "<init>", desc := "()V" } : Jvm.MethodName) prog_5_method_1_code (1 : Nat) (Option.none : Option Jvm.ClassFile.FieldType)) ∈ tg := tg_in 183 (by decide +kernel) rfl
theorem tw_184 : (Jvm.Cond.methodLink "FallingTerms$Space" (3 : Nat) ({ cls := "java/lang/Object", name := "<init>", desc := "()V" } : Jvm.MethodName)) ∈ tg := tg_in 184 (by decide +kernel) rfl
theorem tw_185 : (Jvm.Cond.fieldLink "FallingTerms$Space" (9 : Nat) "FallingTerms$Space" "lines" "[J") ∈ tg := tg_in 185 (by decide +kernel) rfl
theorem tw_186 : (Jvm.Cond.fieldLink "FallingTerms$Space" (63 : Nat) "FallingTerms$Space" "lineCount" "I") ∈ tg := tg_in 186 (by decide +kernel) rfl
theorem tw_187 : (Jvm.Cond.fieldLink "FallingTerms$Space" (15 : Nat) "FallingTerms$Space" "rays" "[J") ∈ tg := tg_in 187 (by decide +kernel) rfl
theorem tw_188 : (Jvm.Cond.fieldLink "FallingTerms$Space" (66 : Nat) "FallingTerms$Space" "rayCount" "I") ∈ tg := tg_in 188 (by decide +kernel) rfl
theorem tw_189 : (Jvm.Cond.fieldLink "FallingTerms$Space" (18 : Nat) "FallingTerms$Space" "tight" "[I") ∈ tg := tg_in 189 (by decide +kernel) rfl
theorem tw_190 : (Jvm.Cond.fieldLink "FallingTerms$Space" (22 : Nat) "FallingTerms$Space" "surplus" "[J") ∈ tg := tg_in 190 (by decide +kernel) rfl
theorem tw_191 : (Jvm.Cond.fieldLink "FallingTerms$Space" (25 : Nat) "FallingTerms$Space" "pivot" "[J") ∈ tg := tg_in 191 (by decide +kernel) rfl
theorem tw_192 : (Jvm.Cond.fieldLink "FallingTerms$Space" (69 : Nat) "FallingTerms$Space" "bit" "I") ∈ tg := tg_in 192 (by decide +kernel) rfl
theorem tw_193 : (Jvm.Cond.laysFinal "FallingTerms$Space" "FallingTerms$Space" "lines" "[J") ∈ tg := tg_in 193 (by decide +kernel) rfl
theorem tw_194 : (Jvm.Cond.soleField "FallingTerms$Space" "lines") ∈ tg := tg_in 194 (by decide +kernel) rfl
theorem tw_195 : (Jvm.Cond.lays "FallingTerms$Space" "FallingTerms$Space" "lineCount" "I") ∈ tg := tg_in 195 (by decide +kernel) rfl
theorem tw_196 : (Jvm.Cond.soleField "FallingTerms$Space" "lineCount") ∈ tg := tg_in 196 (by decide +kernel) rfl
theorem tw_197 : (Jvm.Cond.laysFinal "FallingTerms$Space" "FallingTerms$Space" "rays" "[J") ∈ tg := tg_in 197 (by decide +kernel) rfl
theorem tw_198 : (Jvm.Cond.soleField "FallingTerms$Space" "rays") ∈ tg := tg_in 198 (by decide +kernel) rfl
theorem tw_199 : (Jvm.Cond.lays "FallingTerms$Space" "FallingTerms$Space" "rayCount" "I") ∈ tg := tg_in 199 (by decide +kernel) rfl
theorem tw_200 : (Jvm.Cond.soleField "FallingTerms$Space" "rayCount") ∈ tg := tg_in 200 (by decide +kernel) rfl
theorem tw_201 : (Jvm.Cond.laysFinal "FallingTerms$Space" "FallingTerms$Space" "tight" "[I") ∈ tg := tg_in 201 (by decide +kernel) rfl
theorem tw_202 : (Jvm.Cond.soleField "FallingTerms$Space" "tight") ∈ tg := tg_in 202 (by decide +kernel) rfl
theorem tw_203 : (Jvm.Cond.laysFinal "FallingTerms$Space" "FallingTerms$Space" "surplus" "[J") ∈ tg := tg_in 203 (by decide +kernel) rfl
theorem tw_204 : (Jvm.Cond.soleField "FallingTerms$Space" "surplus") ∈ tg := tg_in 204 (by decide +kernel) rfl
theorem tw_205 : (Jvm.Cond.laysFinal "FallingTerms$Space" "FallingTerms$Space" "pivot" "[J") ∈ tg := tg_in 205 (by decide +kernel) rfl
theorem tw_206 : (Jvm.Cond.soleField "FallingTerms$Space" "pivot") ∈ tg := tg_in 206 (by decide +kernel) rfl
theorem tw_207 : (Jvm.Cond.lays "FallingTerms$Space" "FallingTerms$Space" "bit" "I") ∈ tg := tg_in 207 (by decide +kernel) rfl
theorem tw_208 : (Jvm.Cond.soleField "FallingTerms$Space" "bit") ∈ tg := tg_in 208 (by decide +kernel) rfl
theorem tw_209 : (Jvm.Cond.superclass "FallingTerms$Space" "java/lang/Object") ∈ tg := tg_in 209 (by decide +kernel) rfl
theorem tw_210 : (Jvm.Cond.fieldLink "FallingTerms" (11 : Nat) "FallingTerms" "made" "[LFallingTerms$Loop;") ∈ tg := tg_in 210 (by decide +kernel) rfl
theorem tw_211 : (Jvm.Cond.fieldLink "FallingTerms" (50 : Nat) "FallingTerms" "madeCount" "I") ∈ tg := tg_in 211 (by decide +kernel) rfl
theorem tw_212 : (Jvm.Cond.fieldLink "FallingTerms" (17 : Nat) "FallingTerms" "spaces" "[LFallingTerms$Space;") ∈ tg := tg_in 212 (by decide +kernel) rfl
theorem tw_213 : (Jvm.Cond.fieldLink "FallingTerms" (21 : Nat) "FallingTerms" "narrowed" "[LFallingTerms$Space;") ∈ tg := tg_in 213 (by decide +kernel) rfl
theorem tw_214 : (Jvm.Cond.fieldLink "FallingTerms" (27 : Nat) "FallingTerms" "latest" "LFallingTerms$Proof;") ∈ tg := tg_in 214 (by decide +kernel) rfl
theorem tw_215 : (Jvm.Cond.fieldLink "FallingTerms" (31 : Nat) "FallingTerms" "trial" "LFallingTerms$Proof;") ∈ tg := tg_in 215 (by decide +kernel) rfl
theorem tw_216 : (Jvm.Cond.fieldLink "FallingTerms" (34 : Nat) "FallingTerms" "needRow" "[I") ∈ tg := tg_in 216 (by decide +kernel) rfl
theorem tw_217 : (Jvm.Cond.fieldLink "FallingTerms" (155 : Nat) "FallingTerms" "needFound" "Z") ∈ tg := tg_in 217 (by decide +kernel) rfl
theorem tw_218 : (Jvm.Cond.fieldLink "FallingTerms" (38 : Nat) "FallingTerms" "start" "[J") ∈ tg := tg_in 218 (by decide +kernel) rfl
theorem tw_219 : (Jvm.Cond.fieldLink "FallingTerms" (42 : Nat) "FallingTerms" "now" "[J") ∈ tg := tg_in 219 (by decide +kernel) rfl
theorem tw_220 : (Jvm.Cond.fieldLink "FallingTerms" (45 : Nat) "FallingTerms" "mark" "[J") ∈ tg := tg_in 220 (by decide +kernel) rfl
theorem tw_221 : (Jvm.Cond.laysFinal "FallingTerms" "FallingTerms" "made" "[LFallingTerms$Loop;") ∈ tg := tg_in 221 (by decide +kernel) rfl
theorem tw_222 : (Jvm.Cond.soleField "FallingTerms" "made") ∈ tg := tg_in 222 (by decide +kernel) rfl
theorem tw_223 : (Jvm.Cond.lays "FallingTerms" "FallingTerms" "madeCount" "I") ∈ tg := tg_in 223 (by decide +kernel) rfl
theorem tw_224 : (Jvm.Cond.soleField "FallingTerms" "madeCount") ∈ tg := tg_in 224 (by decide +kernel) rfl
theorem tw_225 : (Jvm.Cond.laysFinal "FallingTerms" "FallingTerms" "spaces" "[LFallingTerms$Space;") ∈ tg := tg_in 225 (by decide +kernel) rfl
theorem tw_226 : (Jvm.Cond.soleField "FallingTerms" "spaces") ∈ tg := tg_in 226 (by decide +kernel) rfl
theorem tw_227 : (Jvm.Cond.laysFinal "FallingTerms" "FallingTerms" "narrowed" "[LFallingTerms$Space;") ∈ tg := tg_in 227 (by decide +kernel) rfl
theorem tw_228 : (Jvm.Cond.soleField "FallingTerms" "narrowed") ∈ tg := tg_in 228 (by decide +kernel) rfl
theorem tw_229 : (Jvm.Cond.laysFinal "FallingTerms" "FallingTerms" "latest" "LFallingTerms$Proof;") ∈ tg := tg_in 229 (by decide +kernel) rfl
theorem tw_230 : (Jvm.Cond.soleField "FallingTerms" "latest") ∈ tg := tg_in 230 (by decide +kernel) rfl
theorem tw_231 : (Jvm.Cond.laysFinal "FallingTerms" "FallingTerms" "trial" "LFallingTerms$Proof;") ∈ tg := tg_in 231 (by decide +kernel) rfl
theorem tw_232 : (Jvm.Cond.soleField "FallingTerms" "trial") ∈ tg := tg_in 232 (by decide +kernel) rfl
theorem tw_233 : (Jvm.Cond.laysFinal "FallingTerms" "FallingTerms" "needRow" "[I") ∈ tg := tg_in 233 (by decide +kernel) rfl
theorem tw_234 : (Jvm.Cond.soleField "FallingTerms" "needRow") ∈ tg := tg_in 234 (by decide +kernel) rfl
theorem tw_235 : (Jvm.Cond.lays "FallingTerms" "FallingTerms" "needFound" "Z") ∈ tg := tg_in 235 (by decide +kernel) rfl
theorem tw_236 : (Jvm.Cond.soleField "FallingTerms" "needFound") ∈ tg := tg_in 236 (by decide +kernel) rfl
theorem tw_237 : (Jvm.Cond.laysFinal "FallingTerms" "FallingTerms" "start" "[J") ∈ tg := tg_in 237 (by decide +kernel) rfl
theorem tw_238 : (Jvm.Cond.soleField "FallingTerms" "start") ∈ tg := tg_in 238 (by decide +kernel) rfl
theorem tw_239 : (Jvm.Cond.laysFinal "FallingTerms" "FallingTerms" "now" "[J") ∈ tg := tg_in 239 (by decide +kernel) rfl
theorem tw_240 : (Jvm.Cond.soleField "FallingTerms" "now") ∈ tg := tg_in 240 (by decide +kernel) rfl
theorem tw_241 : (Jvm.Cond.laysFinal "FallingTerms" "FallingTerms" "mark" "[J") ∈ tg := tg_in 241 (by decide +kernel) rfl
theorem tw_242 : (Jvm.Cond.soleField "FallingTerms" "mark") ∈ tg := tg_in 242 (by decide +kernel) rfl
theorem tw_243 : (Jvm.Cond.superclass "FallingTerms" "java/lang/Object") ∈ tg := tg_in 243 (by decide +kernel) rfl
theorem tw_244 : (Jvm.Cond.methodLink "FallingTermsLaw" (13 : Nat) ({ cls := "FallingTerms", name := "loop", desc := "(I)I" } : Jvm.MethodName)) ∈ tg := tg_in 244 (by decide +kernel) rfl
theorem tw_245 : (Jvm.Cond.instanceMethod ({ cls := "FallingTerms", name := "loop", desc := "(I)I" } : Jvm.MethodName)) ∈ tg := tg_in 245 (by decide +kernel) rfl
theorem tw_246 : (Jvm.Cond.selects "FallingTerms" ({ cls := "FallingTerms", name := "loop", desc := "(I)I" } : Jvm.MethodName) ({ cls := "FallingTerms", name := "loop", desc := "(I)I" } : Jvm.MethodName)) ∈ tg := tg_in 246 (by decide +kernel) rfl
theorem tw_247 : (Jvm.Cond.code ({ cls := "FallingTerms", name := "loop", desc := "(I)I" } : Jvm.MethodName) prog_1_method_2_code (2 : Nat) (Option.some Jvm.ClassFile.FieldType.int)) ∈ tg := tg_in 247 (by decide +kernel) rfl
theorem tw_248 : (Jvm.Cond.methodLink "FallingTerms" (54 : Nat) ({ cls := "FallingTerms$Loop", name := "begin", desc := "(I)V" } : Jvm.MethodName)) ∈ tg := tg_in 248 (by decide +kernel) rfl
theorem tw_249 : (Jvm.Cond.instanceMethod ({ cls := "FallingTerms$Loop", name := "begin", desc := "(I)V" } : Jvm.MethodName)) ∈ tg := tg_in 249 (by decide +kernel) rfl
theorem tw_250 : (Jvm.Cond.selects "FallingTerms$Loop" ({ cls := "FallingTerms$Loop", name := "begin", desc := "(I)V" } : Jvm.MethodName) ({ cls := "FallingTerms$Loop", name := "begin", desc := "(I)V" } : Jvm.MethodName)) ∈ tg := tg_in 250 (by decide +kernel) rfl
theorem tw_251 : (Jvm.Cond.code ({ cls := "FallingTerms$Loop", name := "begin", desc := "(I)V" } : Jvm.MethodName) prog_2_method_2_code (3 : Nat) (Option.none : Option Jvm.ClassFile.FieldType)) ∈ tg := tg_in 251 (by decide +kernel) rfl
theorem tw_252 : (Jvm.Cond.methodLink "FallingTermsLaw" (18 : Nat) ({ cls := "FallingTerms", name := "clear", desc := "()I" } : Jvm.MethodName)) ∈ tg := tg_in 252 (by decide +kernel) rfl
theorem tw_253 : (Jvm.Cond.instanceMethod ({ cls := "FallingTerms", name := "clear", desc := "()I" } : Jvm.MethodName)) ∈ tg := tg_in 253 (by decide +kernel) rfl
theorem tw_254 : (Jvm.Cond.selects "FallingTerms" ({ cls := "FallingTerms", name := "clear", desc := "()I" } : Jvm.MethodName) ({ cls := "FallingTerms", name := "clear", desc := "()I" } : Jvm.MethodName)) ∈ tg := tg_in 254 (by decide +kernel) rfl
theorem tw_255 : (Jvm.Cond.code ({ cls := "FallingTerms", name := "clear", desc := "()I" } : Jvm.MethodName) prog_1_method_3_code (2 : Nat) (Option.some Jvm.ClassFile.FieldType.int)) ∈ tg := tg_in 255 (by decide +kernel) rfl
theorem tw_256 : (Jvm.Cond.methodLink "FallingTerms" (58 : Nat) ({ cls := "FallingTerms$Proof", name := "forget", desc := "()V" } : Jvm.MethodName)) ∈ tg := tg_in 256 (by decide +kernel) rfl
theorem tw_257 : (Jvm.Cond.instanceMethod ({ cls := "FallingTerms$Proof", name := "forget", desc := "()V" } : Jvm.MethodName)) ∈ tg := tg_in 257 (by decide +kernel) rfl
theorem tw_258 : (Jvm.Cond.selects "FallingTerms$Proof" ({ cls := "FallingTerms$Proof", name := "forget", desc := "()V" } : Jvm.MethodName) ({ cls := "FallingTerms$Proof", name := "forget", desc := "()V" } : Jvm.MethodName)) ∈ tg := tg_in 258 (by decide +kernel) rfl
theorem tw_259 : (Jvm.Cond.code ({ cls := "FallingTerms$Proof", name := "forget", desc := "()V" } : Jvm.MethodName) prog_3_method_2_code (1 : Nat) (Option.none : Option Jvm.ClassFile.FieldType)) ∈ tg := tg_in 259 (by decide +kernel) rfl
theorem tw_260 : (Jvm.Cond.methodLink "FallingTermsLaw" (23 : Nat) ({ cls := "FallingTerms", name := "guard", desc := "(IIIII)I" } : Jvm.MethodName)) ∈ tg := tg_in 260 (by decide +kernel) rfl
theorem tw_261 : (Jvm.Cond.instanceMethod ({ cls := "FallingTerms", name := "guard", desc := "(IIIII)I" } : Jvm.MethodName)) ∈ tg := tg_in 261 (by decide +kernel) rfl
theorem tw_262 : (Jvm.Cond.selects "FallingTerms" ({ cls := "FallingTerms", name := "guard", desc := "(IIIII)I" } : Jvm.MethodName) ({ cls := "FallingTerms", name := "guard", desc := "(IIIII)I" } : Jvm.MethodName)) ∈ tg := tg_in 262 (by decide +kernel) rfl
theorem tw_263 : (Jvm.Cond.code ({ cls := "FallingTerms", name := "guard", desc := "(IIIII)I" } : Jvm.MethodName) prog_1_method_4_code (6 : Nat) (Option.some Jvm.ClassFile.FieldType.int)) ∈ tg := tg_in 263 (by decide +kernel) rfl
theorem tw_264 : (Jvm.Cond.methodLink "FallingTerms" (61 : Nat) ({ cls := "FallingTerms", name := "isLoop", desc := "(I)Z" } : Jvm.MethodName)) ∈ tg := tg_in 264 (by decide +kernel) rfl
theorem tw_266 : (Jvm.Cond.instanceMethod ({ cls := "FallingTerms", name := "isLoop", desc := "(I)Z" } : Jvm.MethodName)) ∈ tg := tg_in 266 (by decide +kernel) rfl
theorem tw_267 : (Jvm.Cond.code ({ cls := "FallingTerms", name := "isLoop", desc := "(I)Z" } : Jvm.MethodName) prog_1_method_26_code (2 : Nat) (Option.some Jvm.ClassFile.FieldType.boolean)) ∈ tg := tg_in 267 (by decide +kernel) rfl
theorem tw_268 : (Jvm.Cond.methodLink "FallingTerms" (65 : Nat) ({ cls := "FallingTerms", name := "rowFits", desc := "(IIIII)Z" } : Jvm.MethodName)) ∈ tg := tg_in 268 (by decide +kernel) rfl
theorem tw_270 : (Jvm.Cond.instanceMethod ({ cls := "FallingTerms", name := "rowFits", desc := "(IIIII)Z" } : Jvm.MethodName)) ∈ tg := tg_in 270 (by decide +kernel) rfl
theorem tw_271 : (Jvm.Cond.code ({ cls := "FallingTerms", name := "rowFits", desc := "(IIIII)Z" } : Jvm.MethodName) prog_1_method_29_code (6 : Nat) (Option.some Jvm.ClassFile.FieldType.boolean)) ∈ tg := tg_in 271 (by decide +kernel) rfl
theorem tw_272 : (Jvm.Cond.methodLink "FallingTerms" (129 : Nat) ({ cls := "FallingTerms", name := "weightsFit", desc := "(IIIII)Z" } : Jvm.MethodName)) ∈ tg := tg_in 272 (by decide +kernel) rfl
theorem tw_273 : (Jvm.Cond.static ({ cls := "FallingTerms", name := "weightsFit", desc := "(IIIII)Z" } : Jvm.MethodName)) ∈ tg := tg_in 273 (by decide +kernel) rfl
theorem tw_274 : (Jvm.Cond.code ({ cls := "FallingTerms", name := "weightsFit", desc := "(IIIII)Z" } : Jvm.MethodName) prog_1_method_30_code (7 : Nat) (Option.some Jvm.ClassFile.FieldType.boolean)) ∈ tg := tg_in 274 (by decide +kernel) rfl
theorem tw_275 : (Jvm.Cond.methodLink "FallingTerms" (99 : Nat) ({ cls := "FallingTerms", name := "within", desc := "(II)Z" } : Jvm.MethodName)) ∈ tg := tg_in 275 (by decide +kernel) rfl
theorem tw_276 : (Jvm.Cond.static ({ cls := "FallingTerms", name := "within", desc := "(II)Z" } : Jvm.MethodName)) ∈ tg := tg_in 276 (by decide +kernel) rfl
theorem tw_277 : (Jvm.Cond.code ({ cls := "FallingTerms", name := "within", desc := "(II)Z" } : Jvm.MethodName) prog_1_method_31_code (2 : Nat) (Option.some Jvm.ClassFile.FieldType.boolean)) ∈ tg := tg_in 277 (by decide +kernel) rfl
theorem tw_278 : (Jvm.Cond.methodLink "FallingTerms" (73 : Nat) ({ cls := "FallingTerms$Rows", name := "append", desc := "(IIII)I" } : Jvm.MethodName)) ∈ tg := tg_in 278 (by decide +kernel) rfl
theorem tw_279 : (Jvm.Cond.instanceMethod ({ cls := "FallingTerms$Rows", name := "append", desc := "(IIII)I" } : Jvm.MethodName)) ∈ tg := tg_in 279 (by decide +kernel) rfl
theorem tw_280 : (Jvm.Cond.selects "FallingTerms$Rows" ({ cls := "FallingTerms$Rows", name := "append", desc := "(IIII)I" } : Jvm.MethodName) ({ cls := "FallingTerms$Rows", name := "append", desc := "(IIII)I" } : Jvm.MethodName)) ∈ tg := tg_in 280 (by decide +kernel) rfl
theorem tw_281 : (Jvm.Cond.code ({ cls := "FallingTerms$Rows", name := "append", desc := "(IIII)I" } : Jvm.MethodName) prog_4_method_2_code (6 : Nat) (Option.some Jvm.ClassFile.FieldType.int)) ∈ tg := tg_in 281 (by decide +kernel) rfl
theorem tw_282 : (Jvm.Cond.methodLink "FallingTermsLaw" (28 : Nat) ({ cls := "FallingTerms", name := "way", desc := "(I)I" } : Jvm.MethodName)) ∈ tg := tg_in 282 (by decide +kernel) rfl
theorem tw_283 : (Jvm.Cond.instanceMethod ({ cls := "FallingTerms", name := "way", desc := "(I)I" } : Jvm.MethodName)) ∈ tg := tg_in 283 (by decide +kernel) rfl
theorem tw_284 : (Jvm.Cond.selects "FallingTerms" ({ cls := "FallingTerms", name := "way", desc := "(I)I" } : Jvm.MethodName) ({ cls := "FallingTerms", name := "way", desc := "(I)I" } : Jvm.MethodName)) ∈ tg := tg_in 284 (by decide +kernel) rfl
theorem tw_285 : (Jvm.Cond.code ({ cls := "FallingTerms", name := "way", desc := "(I)I" } : Jvm.MethodName) prog_1_method_5_code (2 : Nat) (Option.some Jvm.ClassFile.FieldType.int)) ∈ tg := tg_in 285 (by decide +kernel) rfl
theorem tw_286 : (Jvm.Cond.methodLink "FallingTerms" (79 : Nat) ({ cls := "FallingTerms$Loop", name := "appendWay", desc := "()I" } : Jvm.MethodName)) ∈ tg := tg_in 286 (by decide +kernel) rfl
theorem tw_287 : (Jvm.Cond.instanceMethod ({ cls := "FallingTerms$Loop", name := "appendWay", desc := "()I" } : Jvm.MethodName)) ∈ tg := tg_in 287 (by decide +kernel) rfl
theorem tw_288 : (Jvm.Cond.selects "FallingTerms$Loop" ({ cls := "FallingTerms$Loop", name := "appendWay", desc := "()I" } : Jvm.MethodName) ({ cls := "FallingTerms$Loop", name := "appendWay", desc := "()I" } : Jvm.MethodName)) ∈ tg := tg_in 288 (by decide +kernel) rfl
theorem tw_289 : (Jvm.Cond.code ({ cls := "FallingTerms$Loop", name := "appendWay", desc := "()I" } : Jvm.MethodName) prog_2_method_3_code (1 : Nat) (Option.some Jvm.ClassFile.FieldType.int)) ∈ tg := tg_in 289 (by decide +kernel) rfl
theorem tw_290 : (Jvm.Cond.methodLink "FallingTerms$Loop" (44 : Nat) ({ cls := "FallingTerms$Way", name := "begin", desc := "()V" } : Jvm.MethodName)) ∈ tg := tg_in 290 (by decide +kernel) rfl
theorem tw_291 : (Jvm.Cond.instanceMethod ({ cls := "FallingTerms$Way", name := "begin", desc := "()V" } : Jvm.MethodName)) ∈ tg := tg_in 291 (by decide +kernel) rfl
theorem tw_292 : (Jvm.Cond.selects "FallingTerms$Way" ({ cls := "FallingTerms$Way", name := "begin", desc := "()V" } : Jvm.MethodName) ({ cls := "FallingTerms$Way", name := "begin", desc := "()V" } : Jvm.MethodName)) ∈ tg := tg_in 292 (by decide +kernel) rfl
theorem tw_293 : (Jvm.Cond.code ({ cls := "FallingTerms$Way", name := "begin", desc := "()V" } : Jvm.MethodName) prog_6_method_2_code (3 : Nat) (Option.none : Option Jvm.ClassFile.FieldType)) ∈ tg := tg_in 293 (by decide +kernel) rfl
theorem tw_294 : (Jvm.Cond.methodLink "FallingTermsLaw" (32 : Nat) ({ cls := "FallingTerms", name := "row", desc := "(IIIIII)I" } : Jvm.MethodName)) ∈ tg := tg_in 294 (by decide +kernel) rfl
theorem tw_295 : (Jvm.Cond.instanceMethod ({ cls := "FallingTerms", name := "row", desc := "(IIIIII)I" } : Jvm.MethodName)) ∈ tg := tg_in 295 (by decide +kernel) rfl
theorem tw_296 : (Jvm.Cond.selects "FallingTerms" ({ cls := "FallingTerms", name := "row", desc := "(IIIIII)I" } : Jvm.MethodName) ({ cls := "FallingTerms", name := "row", desc := "(IIIIII)I" } : Jvm.MethodName)) ∈ tg := tg_in 296 (by decide +kernel) rfl
theorem tw_297 : (Jvm.Cond.code ({ cls := "FallingTerms", name := "row", desc := "(IIIIII)I" } : Jvm.MethodName) prog_1_method_6_code (7 : Nat) (Option.some Jvm.ClassFile.FieldType.int)) ∈ tg := tg_in 297 (by decide +kernel) rfl
theorem tw_298 : (Jvm.Cond.methodLink "FallingTerms" (83 : Nat) ({ cls := "FallingTerms", name := "isWay", desc := "(II)Z" } : Jvm.MethodName)) ∈ tg := tg_in 298 (by decide +kernel) rfl
theorem tw_300 : (Jvm.Cond.instanceMethod ({ cls := "FallingTerms", name := "isWay", desc := "(II)Z" } : Jvm.MethodName)) ∈ tg := tg_in 300 (by decide +kernel) rfl
theorem tw_301 : (Jvm.Cond.code ({ cls := "FallingTerms", name := "isWay", desc := "(II)Z" } : Jvm.MethodName) prog_1_method_27_code (3 : Nat) (Option.some Jvm.ClassFile.FieldType.boolean)) ∈ tg := tg_in 301 (by decide +kernel) rfl
theorem tw_302 : (Jvm.Cond.methodLink "FallingTermsLaw" (37 : Nat) ({ cls := "FallingTerms", name := "factor", desc := "(IIIII)I" } : Jvm.MethodName)) ∈ tg := tg_in 302 (by decide +kernel) rfl
theorem tw_303 : (Jvm.Cond.instanceMethod ({ cls := "FallingTerms", name := "factor", desc := "(IIIII)I" } : Jvm.MethodName)) ∈ tg := tg_in 303 (by decide +kernel) rfl
theorem tw_304 : (Jvm.Cond.selects "FallingTerms" ({ cls := "FallingTerms", name := "factor", desc := "(IIIII)I" } : Jvm.MethodName) ({ cls := "FallingTerms", name := "factor", desc := "(IIIII)I" } : Jvm.MethodName)) ∈ tg := tg_in 304 (by decide +kernel) rfl
theorem tw_305 : (Jvm.Cond.code ({ cls := "FallingTerms", name := "factor", desc := "(IIIII)I" } : Jvm.MethodName) prog_1_method_7_code (9 : Nat) (Option.some Jvm.ClassFile.FieldType.int)) ∈ tg := tg_in 305 (by decide +kernel) rfl
end
section
theorem tw_306 : (Jvm.Cond.methodLink "FallingTerms" (96 : Nat) ({ cls := "FallingTerms", name := "isName", desc := "(II)Z" } : Jvm.MethodName)) ∈ tg := tg_in 306 (by decide +kernel) rfl
theorem tw_308 : (Jvm.Cond.instanceMethod ({ cls := "FallingTerms", name := "isName", desc := "(II)Z" } : Jvm.MethodName)) ∈ tg := tg_in 308 (by decide +kernel) rfl
theorem tw_309 : (Jvm.Cond.code ({ cls := "FallingTerms", name := "isName", desc := "(II)Z" } : Jvm.MethodName) prog_1_method_28_code (3 : Nat) (Option.some Jvm.ClassFile.FieldType.boolean)) ∈ tg := tg_in 309 (by decide +kernel) rfl
theorem tw_310 : (Jvm.Cond.methodLink "FallingTermsLaw" (41 : Nat) ({ cls := "FallingTerms", name := "constant", desc := "(IIII)I" } : Jvm.MethodName)) ∈ tg := tg_in 310 (by decide +kernel) rfl
theorem tw_311 : (Jvm.Cond.instanceMethod ({ cls := "FallingTerms", name := "constant", desc := "(IIII)I" } : Jvm.MethodName)) ∈ tg := tg_in 311 (by decide +kernel) rfl
theorem tw_312 : (Jvm.Cond.selects "FallingTerms" ({ cls := "FallingTerms", name := "constant", desc := "(IIII)I" } : Jvm.MethodName) ({ cls := "FallingTerms", name := "constant", desc := "(IIII)I" } : Jvm.MethodName)) ∈ tg := tg_in 312 (by decide +kernel) rfl
theorem tw_313 : (Jvm.Cond.code ({ cls := "FallingTerms", name := "constant", desc := "(IIII)I" } : Jvm.MethodName) prog_1_method_8_code (7 : Nat) (Option.some Jvm.ClassFile.FieldType.int)) ∈ tg := tg_in 313 (by decide +kernel) rfl
theorem tw_314 : (Jvm.Cond.methodLink "FallingTermsLaw" (46 : Nat) ({ cls := "FallingTerms", name := "told", desc := "(II)I" } : Jvm.MethodName)) ∈ tg := tg_in 314 (by decide +kernel) rfl
theorem tw_315 : (Jvm.Cond.instanceMethod ({ cls := "FallingTerms", name := "told", desc := "(II)I" } : Jvm.MethodName)) ∈ tg := tg_in 315 (by decide +kernel) rfl
theorem tw_316 : (Jvm.Cond.selects "FallingTerms" ({ cls := "FallingTerms", name := "told", desc := "(II)I" } : Jvm.MethodName) ({ cls := "FallingTerms", name := "told", desc := "(II)I" } : Jvm.MethodName)) ∈ tg := tg_in 316 (by decide +kernel) rfl
theorem tw_317 : (Jvm.Cond.code ({ cls := "FallingTerms", name := "told", desc := "(II)I" } : Jvm.MethodName) prog_1_method_9_code (3 : Nat) (Option.some Jvm.ClassFile.FieldType.int)) ∈ tg := tg_in 317 (by decide +kernel) rfl
theorem tw_318 : (Jvm.Cond.methodLink "FallingTermsLaw" (51 : Nat) ({ cls := "FallingTerms", name := "empty", desc := "(II)I" } : Jvm.MethodName)) ∈ tg := tg_in 318 (by decide +kernel) rfl
theorem tw_319 : (Jvm.Cond.instanceMethod ({ cls := "FallingTerms", name := "empty", desc := "(II)I" } : Jvm.MethodName)) ∈ tg := tg_in 319 (by decide +kernel) rfl
theorem tw_320 : (Jvm.Cond.selects "FallingTerms" ({ cls := "FallingTerms", name := "empty", desc := "(II)I" } : Jvm.MethodName) ({ cls := "FallingTerms", name := "empty", desc := "(II)I" } : Jvm.MethodName)) ∈ tg := tg_in 320 (by decide +kernel) rfl
theorem tw_321 : (Jvm.Cond.code ({ cls := "FallingTerms", name := "empty", desc := "(II)I" } : Jvm.MethodName) prog_1_method_10_code (3 : Nat) (Option.some Jvm.ClassFile.FieldType.int)) ∈ tg := tg_in 321 (by decide +kernel) rfl
theorem tw_322 : (Jvm.Cond.methodLink "FallingTerms" (117 : Nat) ({ cls := "FallingTerms", name := "spaceOf", desc := "(II)LFallingTerms$Space;" } : Jvm.MethodName)) ∈ tg := tg_in 322 (by decide +kernel) rfl
theorem tw_324 : (Jvm.Cond.instanceMethod ({ cls := "FallingTerms", name := "spaceOf", desc := "(II)LFallingTerms$Space;" } : Jvm.MethodName)) ∈ tg := tg_in 324 (by decide +kernel) rfl
theorem tw_325 : (Jvm.Cond.code ({ cls := "FallingTerms", name := "spaceOf", desc := "(II)LFallingTerms$Space;" } : Jvm.MethodName) prog_1_method_34_code (3 : Nat) (Option.some (Jvm.ClassFile.FieldType.object "FallingTerms$Space"))) ∈ tg := tg_in 325 (by decide +kernel) rfl
theorem tw_326 : (Jvm.Cond.methodLink "FallingTerms" (192 : Nat) ({ cls := "FallingTerms$Space", name := "fill", desc := "(LFallingTerms$Loop;I)V" } : Jvm.MethodName)) ∈ tg := tg_in 326 (by decide +kernel) rfl
theorem tw_327 : (Jvm.Cond.instanceMethod ({ cls := "FallingTerms$Space", name := "fill", desc := "(LFallingTerms$Loop;I)V" } : Jvm.MethodName)) ∈ tg := tg_in 327 (by decide +kernel) rfl
theorem tw_328 : (Jvm.Cond.selects "FallingTerms$Space" ({ cls := "FallingTerms$Space", name := "fill", desc := "(LFallingTerms$Loop;I)V" } : Jvm.MethodName) ({ cls := "FallingTerms$Space", name := "fill", desc := "(LFallingTerms$Loop;I)V" } : Jvm.MethodName)) ∈ tg := tg_in 328 (by decide +kernel) rfl
theorem tw_329 : (Jvm.Cond.code ({ cls := "FallingTerms$Space", name := "fill", desc := "(LFallingTerms$Loop;I)V" } : Jvm.MethodName) prog_5_method_2_code (7 : Nat) (Option.none : Option Jvm.ClassFile.FieldType)) ∈ tg := tg_in 329 (by decide +kernel) rfl
theorem tw_330 : (Jvm.Cond.methodLink "FallingTerms$Space" (34 : Nat) ({ cls := "FallingTerms$Space", name := "begin", desc := "(I)V" } : Jvm.MethodName)) ∈ tg := tg_in 330 (by decide +kernel) rfl
theorem tw_332 : (Jvm.Cond.instanceMethod ({ cls := "FallingTerms$Space", name := "begin", desc := "(I)V" } : Jvm.MethodName)) ∈ tg := tg_in 332 (by decide +kernel) rfl
theorem tw_333 : (Jvm.Cond.code ({ cls := "FallingTerms$Space", name := "begin", desc := "(I)V" } : Jvm.MethodName) prog_5_method_8_code (3 : Nat) (Option.none : Option Jvm.ClassFile.FieldType)) ∈ tg := tg_in 333 (by decide +kernel) rfl
theorem tw_334 : (Jvm.Cond.methodLink "FallingTerms$Space" (90 : Nat) ({ cls := "FallingTerms$Space", name := "appendPivot", desc := "(I)V" } : Jvm.MethodName)) ∈ tg := tg_in 334 (by decide +kernel) rfl
theorem tw_336 : (Jvm.Cond.instanceMethod ({ cls := "FallingTerms$Space", name := "appendPivot", desc := "(I)V" } : Jvm.MethodName)) ∈ tg := tg_in 336 (by decide +kernel) rfl
theorem tw_337 : (Jvm.Cond.code ({ cls := "FallingTerms$Space", name := "appendPivot", desc := "(I)V" } : Jvm.MethodName) prog_5_method_17_code (3 : Nat) (Option.none : Option Jvm.ClassFile.FieldType)) ∈ tg := tg_in 337 (by decide +kernel) rfl
theorem tw_338 : (Jvm.Cond.methodLink "FallingTerms$Space" (50 : Nat) ({ cls := "FallingTerms$Space", name := "narrow", desc := "(IIII)V" } : Jvm.MethodName)) ∈ tg := tg_in 338 (by decide +kernel) rfl
theorem tw_339 : (Jvm.Cond.instanceMethod ({ cls := "FallingTerms$Space", name := "narrow", desc := "(IIII)V" } : Jvm.MethodName)) ∈ tg := tg_in 339 (by decide +kernel) rfl
theorem tw_340 : (Jvm.Cond.selects "FallingTerms$Space" ({ cls := "FallingTerms$Space", name := "narrow", desc := "(IIII)V" } : Jvm.MethodName) ({ cls := "FallingTerms$Space", name := "narrow", desc := "(IIII)V" } : Jvm.MethodName)) ∈ tg := tg_in 340 (by decide +kernel) rfl
theorem tw_341 : (Jvm.Cond.code ({ cls := "FallingTerms$Space", name := "narrow", desc := "(IIII)V" } : Jvm.MethodName) prog_5_method_7_code (6 : Nat) (Option.none : Option Jvm.ClassFile.FieldType)) ∈ tg := tg_in 341 (by decide +kernel) rfl
theorem tw_342 : (Jvm.Cond.methodLink "FallingTerms$Space" (72 : Nat) ({ cls := "FallingTerms$Space", name := "lineAcross", desc := "(III)I" } : Jvm.MethodName)) ∈ tg := tg_in 342 (by decide +kernel) rfl
theorem tw_344 : (Jvm.Cond.instanceMethod ({ cls := "FallingTerms$Space", name := "lineAcross", desc := "(III)I" } : Jvm.MethodName)) ∈ tg := tg_in 344 (by decide +kernel) rfl
theorem tw_345 : (Jvm.Cond.code ({ cls := "FallingTerms$Space", name := "lineAcross", desc := "(III)I" } : Jvm.MethodName) prog_5_method_11_code (5 : Nat) (Option.some Jvm.ClassFile.FieldType.int)) ∈ tg := tg_in 345 (by decide +kernel) rfl
theorem tw_346 : (Jvm.Cond.methodLink "FallingTerms$Space" (93 : Nat) ({ cls := "FallingTerms$Space", name := "slope", desc := "(IIII)J" } : Jvm.MethodName)) ∈ tg := tg_in 346 (by decide +kernel) rfl
theorem tw_348 : (Jvm.Cond.instanceMethod ({ cls := "FallingTerms$Space", name := "slope", desc := "(IIII)J" } : Jvm.MethodName)) ∈ tg := tg_in 348 (by decide +kernel) rfl
theorem tw_349 : (Jvm.Cond.code ({ cls := "FallingTerms$Space", name := "slope", desc := "(IIII)J" } : Jvm.MethodName) prog_5_method_10_code (6 : Nat) (Option.some Jvm.ClassFile.FieldType.long)) ∈ tg := tg_in 349 (by decide +kernel) rfl
theorem tw_350 : (Jvm.Cond.methodLink "FallingTerms$Space" (80 : Nat) ({ cls := "FallingTerms$Space", name := "turn", desc := "(IIIII)V" } : Jvm.MethodName)) ∈ tg := tg_in 350 (by decide +kernel) rfl
theorem tw_352 : (Jvm.Cond.instanceMethod ({ cls := "FallingTerms$Space", name := "turn", desc := "(IIIII)V" } : Jvm.MethodName)) ∈ tg := tg_in 352 (by decide +kernel) rfl
theorem tw_353 : (Jvm.Cond.code ({ cls := "FallingTerms$Space", name := "turn", desc := "(IIIII)V" } : Jvm.MethodName) prog_5_method_12_code (11 : Nat) (Option.none : Option Jvm.ClassFile.FieldType)) ∈ tg := tg_in 353 (by decide +kernel) rfl
theorem tw_354 : (Jvm.Cond.constantLong "FallingTerms$Space" (97 : Nat) (-1 : Int64)) ∈ tg := tg_in 354 (by decide +kernel) rfl
theorem tw_355 : (Jvm.Cond.methodLink "FallingTerms$Space" (99 : Nat) ({ cls := "FallingTerms$Space", name := "shift", desc := "([JIJJ)V" } : Jvm.MethodName)) ∈ tg := tg_in 355 (by decide +kernel) rfl
theorem tw_357 : (Jvm.Cond.instanceMethod ({ cls := "FallingTerms$Space", name := "shift", desc := "([JIJJ)V" } : Jvm.MethodName)) ∈ tg := tg_in 357 (by decide +kernel) rfl
theorem tw_358 : (Jvm.Cond.code ({ cls := "FallingTerms$Space", name := "shift", desc := "([JIJJ)V" } : Jvm.MethodName) prog_5_method_13_code (8 : Nat) (Option.none : Option Jvm.ClassFile.FieldType)) ∈ tg := tg_in 358 (by decide +kernel) rfl
theorem tw_359 : (Jvm.Cond.methodLink "FallingTerms$Space" (103 : Nat) ({ cls := "FallingTerms$Space", name := "reduce", desc := "([JI)V" } : Jvm.MethodName)) ∈ tg := tg_in 359 (by decide +kernel) rfl
theorem tw_360 : (Jvm.Cond.static ({ cls := "FallingTerms$Space", name := "reduce", desc := "([JI)V" } : Jvm.MethodName)) ∈ tg := tg_in 360 (by decide +kernel) rfl
theorem tw_361 : (Jvm.Cond.code ({ cls := "FallingTerms$Space", name := "reduce", desc := "([JI)V" } : Jvm.MethodName) prog_5_method_20_code (10 : Nat) (Option.none : Option Jvm.ClassFile.FieldType)) ∈ tg := tg_in 361 (by decide +kernel) rfl
theorem tw_362 : (Jvm.Cond.methodLink "FallingTerms$Space" (76 : Nat) ({ cls := "FallingTerms$Space", name := "worth", desc := "(IIIII)J" } : Jvm.MethodName)) ∈ tg := tg_in 362 (by decide +kernel) rfl
theorem tw_364 : (Jvm.Cond.instanceMethod ({ cls := "FallingTerms$Space", name := "worth", desc := "(IIIII)J" } : Jvm.MethodName)) ∈ tg := tg_in 364 (by decide +kernel) rfl
theorem tw_365 : (Jvm.Cond.code ({ cls := "FallingTerms$Space", name := "worth", desc := "(IIIII)J" } : Jvm.MethodName) prog_5_method_9_code (7 : Nat) (Option.some Jvm.ClassFile.FieldType.long)) ∈ tg := tg_in 365 (by decide +kernel) rfl
theorem tw_366 : (Jvm.Cond.methodLink "FallingTerms$Space" (84 : Nat) ({ cls := "FallingTerms$Space", name := "cut", desc := "(IIII)V" } : Jvm.MethodName)) ∈ tg := tg_in 366 (by decide +kernel) rfl
theorem tw_368 : (Jvm.Cond.instanceMethod ({ cls := "FallingTerms$Space", name := "cut", desc := "(IIII)V" } : Jvm.MethodName)) ∈ tg := tg_in 368 (by decide +kernel) rfl
theorem tw_369 : (Jvm.Cond.code ({ cls := "FallingTerms$Space", name := "cut", desc := "(IIII)V" } : Jvm.MethodName) prog_5_method_14_code (8 : Nat) (Option.none : Option Jvm.ClassFile.FieldType)) ∈ tg := tg_in 369 (by decide +kernel) rfl
theorem tw_370 : (Jvm.Cond.methodLink "FallingTerms$Space" (107 : Nat) ({ cls := "FallingTerms$Space", name := "areNeighbours", desc := "(III)Z" } : Jvm.MethodName)) ∈ tg := tg_in 370 (by decide +kernel) rfl
theorem tw_372 : (Jvm.Cond.instanceMethod ({ cls := "FallingTerms$Space", name := "areNeighbours", desc := "(III)Z" } : Jvm.MethodName)) ∈ tg := tg_in 372 (by decide +kernel) rfl
theorem tw_373 : (Jvm.Cond.code ({ cls := "FallingTerms$Space", name := "areNeighbours", desc := "(III)Z" } : Jvm.MethodName) prog_5_method_15_code (6 : Nat) (Option.some Jvm.ClassFile.FieldType.boolean)) ∈ tg := tg_in 373 (by decide +kernel) rfl
theorem tw_374 : (Jvm.Cond.methodLink "FallingTerms$Space" (111 : Nat) ({ cls := "FallingTerms$Space", name := "appendBetween", desc := "(II)V" } : Jvm.MethodName)) ∈ tg := tg_in 374 (by decide +kernel) rfl
theorem tw_376 : (Jvm.Cond.instanceMethod ({ cls := "FallingTerms$Space", name := "appendBetween", desc := "(II)V" } : Jvm.MethodName)) ∈ tg := tg_in 376 (by decide +kernel) rfl
theorem tw_377 : (Jvm.Cond.code ({ cls := "FallingTerms$Space", name := "appendBetween", desc := "(II)V" } : Jvm.MethodName) prog_5_method_16_code (4 : Nat) (Option.none : Option Jvm.ClassFile.FieldType)) ∈ tg := tg_in 377 (by decide +kernel) rfl
theorem tw_378 : (Jvm.Cond.methodLink "FallingTerms$Space" (115 : Nat) ({ cls := "FallingTerms$Space", name := "dropBeyond", desc := "(I)V" } : Jvm.MethodName)) ∈ tg := tg_in 378 (by decide +kernel) rfl
theorem tw_380 : (Jvm.Cond.instanceMethod ({ cls := "FallingTerms$Space", name := "dropBeyond", desc := "(I)V" } : Jvm.MethodName)) ∈ tg := tg_in 380 (by decide +kernel) rfl
theorem tw_381 : (Jvm.Cond.code ({ cls := "FallingTerms$Space", name := "dropBeyond", desc := "(I)V" } : Jvm.MethodName) prog_5_method_18_code (5 : Nat) (Option.none : Option Jvm.ClassFile.FieldType)) ∈ tg := tg_in 381 (by decide +kernel) rfl
theorem tw_382 : (Jvm.Cond.methodLink "FallingTerms$Space" (87 : Nat) ({ cls := "FallingTerms$Space", name := "dropIfNoPoint", desc := "()V" } : Jvm.MethodName)) ∈ tg := tg_in 382 (by decide +kernel) rfl
theorem tw_384 : (Jvm.Cond.instanceMethod ({ cls := "FallingTerms$Space", name := "dropIfNoPoint", desc := "()V" } : Jvm.MethodName)) ∈ tg := tg_in 384 (by decide +kernel) rfl
theorem tw_385 : (Jvm.Cond.code ({ cls := "FallingTerms$Space", name := "dropIfNoPoint", desc := "()V" } : Jvm.MethodName) prog_5_method_19_code (2 : Nat) (Option.none : Option Jvm.ClassFile.FieldType)) ∈ tg := tg_in 385 (by decide +kernel) rfl
theorem tw_386 : (Jvm.Cond.methodLink "FallingTerms" (121 : Nat) ({ cls := "FallingTerms$Space", name := "hasNothing", desc := "()Z" } : Jvm.MethodName)) ∈ tg := tg_in 386 (by decide +kernel) rfl
theorem tw_387 : (Jvm.Cond.instanceMethod ({ cls := "FallingTerms$Space", name := "hasNothing", desc := "()Z" } : Jvm.MethodName)) ∈ tg := tg_in 387 (by decide +kernel) rfl
theorem tw_388 : (Jvm.Cond.selects "FallingTerms$Space" ({ cls := "FallingTerms$Space", name := "hasNothing", desc := "()Z" } : Jvm.MethodName) ({ cls := "FallingTerms$Space", name := "hasNothing", desc := "()Z" } : Jvm.MethodName)) ∈ tg := tg_in 388 (by decide +kernel) rfl
theorem tw_389 : (Jvm.Cond.code ({ cls := "FallingTerms$Space", name := "hasNothing", desc := "()Z" } : Jvm.MethodName) prog_5_method_4_code (1 : Nat) (Option.some Jvm.ClassFile.FieldType.boolean)) ∈ tg := tg_in 389 (by decide +kernel) rfl
theorem tw_390 : (Jvm.Cond.methodLink "FallingTermsLaw" (55 : Nat) ({ cls := "FallingTerms", name := "holds", desc := "(IIIIII)I" } : Jvm.MethodName)) ∈ tg := tg_in 390 (by decide +kernel) rfl
theorem tw_391 : (Jvm.Cond.instanceMethod ({ cls := "FallingTerms", name := "holds", desc := "(IIIIII)I" } : Jvm.MethodName)) ∈ tg := tg_in 391 (by decide +kernel) rfl
theorem tw_392 : (Jvm.Cond.selects "FallingTerms" ({ cls := "FallingTerms", name := "holds", desc := "(IIIIII)I" } : Jvm.MethodName) ({ cls := "FallingTerms", name := "holds", desc := "(IIIIII)I" } : Jvm.MethodName)) ∈ tg := tg_in 392 (by decide +kernel) rfl
theorem tw_393 : (Jvm.Cond.code ({ cls := "FallingTerms", name := "holds", desc := "(IIIIII)I" } : Jvm.MethodName) prog_1_method_11_code (7 : Nat) (Option.some Jvm.ClassFile.FieldType.int)) ∈ tg := tg_in 393 (by decide +kernel) rfl
theorem tw_394 : (Jvm.Cond.methodLink "FallingTerms" (125 : Nat) ({ cls := "FallingTerms$Space", name := "implies", desc := "(IIII)Z" } : Jvm.MethodName)) ∈ tg := tg_in 394 (by decide +kernel) rfl
theorem tw_395 : (Jvm.Cond.instanceMethod ({ cls := "FallingTerms$Space", name := "implies", desc := "(IIII)Z" } : Jvm.MethodName)) ∈ tg := tg_in 395 (by decide +kernel) rfl
theorem tw_396 : (Jvm.Cond.selects "FallingTerms$Space" ({ cls := "FallingTerms$Space", name := "implies", desc := "(IIII)Z" } : Jvm.MethodName) ({ cls := "FallingTerms$Space", name := "implies", desc := "(IIII)Z" } : Jvm.MethodName)) ∈ tg := tg_in 396 (by decide +kernel) rfl
theorem tw_397 : (Jvm.Cond.code ({ cls := "FallingTerms$Space", name := "implies", desc := "(IIII)Z" } : Jvm.MethodName) prog_5_method_5_code (6 : Nat) (Option.some Jvm.ClassFile.FieldType.boolean)) ∈ tg := tg_in 397 (by decide +kernel) rfl
theorem tw_398 : (Jvm.Cond.methodLink "FallingTermsLaw" (59 : Nat) ({ cls := "FallingTerms", name := "term", desc := "(IIIII)I" } : Jvm.MethodName)) ∈ tg := tg_in 398 (by decide +kernel) rfl
theorem tw_399 : (Jvm.Cond.instanceMethod ({ cls := "FallingTerms", name := "term", desc := "(IIIII)I" } : Jvm.MethodName)) ∈ tg := tg_in 399 (by decide +kernel) rfl
theorem tw_400 : (Jvm.Cond.selects "FallingTerms" ({ cls := "FallingTerms", name := "term", desc := "(IIIII)I" } : Jvm.MethodName) ({ cls := "FallingTerms", name := "term", desc := "(IIIII)I" } : Jvm.MethodName)) ∈ tg := tg_in 400 (by decide +kernel) rfl
theorem tw_401 : (Jvm.Cond.code ({ cls := "FallingTerms", name := "term", desc := "(IIIII)I" } : Jvm.MethodName) prog_1_method_12_code (8 : Nat) (Option.some Jvm.ClassFile.FieldType.int)) ∈ tg := tg_in 401 (by decide +kernel) rfl
theorem tw_402 : (Jvm.Cond.methodLink "FallingTerms" (132 : Nat) ({ cls := "FallingTerms$Space", name := "bounds", desc := "(III)Z" } : Jvm.MethodName)) ∈ tg := tg_in 402 (by decide +kernel) rfl
theorem tw_403 : (Jvm.Cond.instanceMethod ({ cls := "FallingTerms$Space", name := "bounds", desc := "(III)Z" } : Jvm.MethodName)) ∈ tg := tg_in 403 (by decide +kernel) rfl
theorem tw_404 : (Jvm.Cond.selects "FallingTerms$Space" ({ cls := "FallingTerms$Space", name := "bounds", desc := "(III)Z" } : Jvm.MethodName) ({ cls := "FallingTerms$Space", name := "bounds", desc := "(III)Z" } : Jvm.MethodName)) ∈ tg := tg_in 404 (by decide +kernel) rfl
theorem tw_405 : (Jvm.Cond.code ({ cls := "FallingTerms$Space", name := "bounds", desc := "(III)Z" } : Jvm.MethodName) prog_5_method_6_code (5 : Nat) (Option.some Jvm.ClassFile.FieldType.boolean)) ∈ tg := tg_in 405 (by decide +kernel) rfl
theorem tw_406 : (Jvm.Cond.methodLink "FallingTerms" (136 : Nat) ({ cls := "FallingTerms$Way", name := "lessens", desc := "(LFallingTerms$Space;IIII)Z" } : Jvm.MethodName)) ∈ tg := tg_in 406 (by decide +kernel) rfl
theorem tw_407 : (Jvm.Cond.instanceMethod ({ cls := "FallingTerms$Way", name := "lessens", desc := "(LFallingTerms$Space;IIII)Z" } : Jvm.MethodName)) ∈ tg := tg_in 407 (by decide +kernel) rfl
theorem tw_408 : (Jvm.Cond.selects "FallingTerms$Way" ({ cls := "FallingTerms$Way", name := "lessens", desc := "(LFallingTerms$Space;IIII)Z" } : Jvm.MethodName) ({ cls := "FallingTerms$Way", name := "lessens", desc := "(LFallingTerms$Space;IIII)Z" } : Jvm.MethodName)) ∈ tg := tg_in 408 (by decide +kernel) rfl
theorem tw_409 : (Jvm.Cond.code ({ cls := "FallingTerms$Way", name := "lessens", desc := "(LFallingTerms$Space;IIII)Z" } : Jvm.MethodName) prog_6_method_6_code (6 : Nat) (Option.some Jvm.ClassFile.FieldType.boolean)) ∈ tg := tg_in 409 (by decide +kernel) rfl
theorem tw_410 : (Jvm.Cond.methodLink "FallingTerms$Way" (35 : Nat) ({ cls := "FallingTerms$Way", name := "weightBehind", desc := "(IIII)I" } : Jvm.MethodName)) ∈ tg := tg_in 410 (by decide +kernel) rfl
theorem tw_411 : (Jvm.Cond.instanceMethod ({ cls := "FallingTerms$Way", name := "weightBehind", desc := "(IIII)I" } : Jvm.MethodName)) ∈ tg := tg_in 411 (by decide +kernel) rfl
theorem tw_412 : (Jvm.Cond.selects "FallingTerms$Way" ({ cls := "FallingTerms$Way", name := "weightBehind", desc := "(IIII)I" } : Jvm.MethodName) ({ cls := "FallingTerms$Way", name := "weightBehind", desc := "(IIII)I" } : Jvm.MethodName)) ∈ tg := tg_in 412 (by decide +kernel) rfl
theorem tw_413 : (Jvm.Cond.code ({ cls := "FallingTerms$Way", name := "weightBehind", desc := "(IIII)I" } : Jvm.MethodName) prog_6_method_4_code (5 : Nat) (Option.some Jvm.ClassFile.FieldType.int)) ∈ tg := tg_in 413 (by decide +kernel) rfl
theorem tw_414 : (Jvm.Cond.methodLink "FallingTerms$Way" (39 : Nat) ({ cls := "FallingTerms$Way", name := "constantBehind", desc := "(III)I" } : Jvm.MethodName)) ∈ tg := tg_in 414 (by decide +kernel) rfl
theorem tw_415 : (Jvm.Cond.instanceMethod ({ cls := "FallingTerms$Way", name := "constantBehind", desc := "(III)I" } : Jvm.MethodName)) ∈ tg := tg_in 415 (by decide +kernel) rfl
theorem tw_416 : (Jvm.Cond.selects "FallingTerms$Way" ({ cls := "FallingTerms$Way", name := "constantBehind", desc := "(III)I" } : Jvm.MethodName) ({ cls := "FallingTerms$Way", name := "constantBehind", desc := "(III)I" } : Jvm.MethodName)) ∈ tg := tg_in 416 (by decide +kernel) rfl
theorem tw_417 : (Jvm.Cond.code ({ cls := "FallingTerms$Way", name := "constantBehind", desc := "(III)I" } : Jvm.MethodName) prog_6_method_5_code (4 : Nat) (Option.some Jvm.ClassFile.FieldType.int)) ∈ tg := tg_in 417 (by decide +kernel) rfl
theorem tw_418 : (Jvm.Cond.methodLink "FallingTerms$Way" (43 : Nat) ({ cls := "FallingTerms$Space", name := "implies", desc := "(IIII)Z" } : Jvm.MethodName)) ∈ tg := tg_in 418 (by decide +kernel) rfl
theorem tw_419 : (Jvm.Cond.methodLink "FallingTermsLaw" (63 : Nat) ({ cls := "FallingTerms", name := "prove", desc := "(I)I" } : Jvm.MethodName)) ∈ tg := tg_in 419 (by decide +kernel) rfl
theorem tw_420 : (Jvm.Cond.instanceMethod ({ cls := "FallingTerms", name := "prove", desc := "(I)I" } : Jvm.MethodName)) ∈ tg := tg_in 420 (by decide +kernel) rfl
theorem tw_421 : (Jvm.Cond.selects "FallingTerms" ({ cls := "FallingTerms", name := "prove", desc := "(I)I" } : Jvm.MethodName) ({ cls := "FallingTerms", name := "prove", desc := "(I)I" } : Jvm.MethodName)) ∈ tg := tg_in 421 (by decide +kernel) rfl
theorem tw_422 : (Jvm.Cond.code ({ cls := "FallingTerms", name := "prove", desc := "(I)I" } : Jvm.MethodName) prog_1_method_13_code (2 : Nat) (Option.some Jvm.ClassFile.FieldType.int)) ∈ tg := tg_in 422 (by decide +kernel) rfl
theorem tw_423 : (Jvm.Cond.methodLink "FallingTerms" (140 : Nat) ({ cls := "FallingTerms", name := "fillSpaces", desc := "(LFallingTerms$Loop;)V" } : Jvm.MethodName)) ∈ tg := tg_in 423 (by decide +kernel) rfl
theorem tw_425 : (Jvm.Cond.instanceMethod ({ cls := "FallingTerms", name := "fillSpaces", desc := "(LFallingTerms$Loop;)V" } : Jvm.MethodName)) ∈ tg := tg_in 425 (by decide +kernel) rfl
theorem tw_426 : (Jvm.Cond.code ({ cls := "FallingTerms", name := "fillSpaces", desc := "(LFallingTerms$Loop;)V" } : Jvm.MethodName) prog_1_method_35_code (3 : Nat) (Option.none : Option Jvm.ClassFile.FieldType)) ∈ tg := tg_in 426 (by decide +kernel) rfl
theorem tw_427 : (Jvm.Cond.methodLink "FallingTerms" (144 : Nat) ({ cls := "FallingTerms$Proof", name := "search", desc := "(LFallingTerms$Loop;[LFallingTerms$Space;)V" } : Jvm.MethodName)) ∈ tg := tg_in 427 (by decide +kernel) rfl
theorem tw_428 : (Jvm.Cond.instanceMethod ({ cls := "FallingTerms$Proof", name := "search", desc := "(LFallingTerms$Loop;[LFallingTerms$Space;)V" } : Jvm.MethodName)) ∈ tg := tg_in 428 (by decide +kernel) rfl
theorem tw_429 : (Jvm.Cond.selects "FallingTerms$Proof" ({ cls := "FallingTerms$Proof", name := "search", desc := "(LFallingTerms$Loop;[LFallingTerms$Space;)V" } : Jvm.MethodName) ({ cls := "FallingTerms$Proof", name := "search", desc := "(LFallingTerms$Loop;[LFallingTerms$Space;)V" } : Jvm.MethodName)) ∈ tg := tg_in 429 (by decide +kernel) rfl
theorem tw_430 : (Jvm.Cond.code ({ cls := "FallingTerms$Proof", name := "search", desc := "(LFallingTerms$Loop;[LFallingTerms$Space;)V" } : Jvm.MethodName) prog_3_method_3_code (4 : Nat) (Option.none : Option Jvm.ClassFile.FieldType)) ∈ tg := tg_in 430 (by decide +kernel) rfl
theorem tw_431 : (Jvm.Cond.methodLink "FallingTerms$Proof" (27 : Nat) ({ cls := "FallingTerms$Proof", name := "takeMore", desc := "(LFallingTerms$Loop;[LFallingTerms$Space;)Z" } : Jvm.MethodName)) ∈ tg := tg_in 431 (by decide +kernel) rfl
theorem tw_433 : (Jvm.Cond.instanceMethod ({ cls := "FallingTerms$Proof", name := "takeMore", desc := "(LFallingTerms$Loop;[LFallingTerms$Space;)Z" } : Jvm.MethodName)) ∈ tg := tg_in 433 (by decide +kernel) rfl
theorem tw_434 : (Jvm.Cond.code ({ cls := "FallingTerms$Proof", name := "takeMore", desc := "(LFallingTerms$Loop;[LFallingTerms$Space;)Z" } : Jvm.MethodName) prog_3_method_4_code (10 : Nat) (Option.some Jvm.ClassFile.FieldType.boolean)) ∈ tg := tg_in 434 (by decide +kernel) rfl
theorem tw_435 : (Jvm.Cond.methodLink "FallingTerms$Proof" (31 : Nat) ({ cls := "FallingTerms$Loop", name := "reach", desc := "(II)I" } : Jvm.MethodName)) ∈ tg := tg_in 435 (by decide +kernel) rfl
theorem tw_436 : (Jvm.Cond.instanceMethod ({ cls := "FallingTerms$Loop", name := "reach", desc := "(II)I" } : Jvm.MethodName)) ∈ tg := tg_in 436 (by decide +kernel) rfl
theorem tw_437 : (Jvm.Cond.selects "FallingTerms$Loop" ({ cls := "FallingTerms$Loop", name := "reach", desc := "(II)I" } : Jvm.MethodName) ({ cls := "FallingTerms$Loop", name := "reach", desc := "(II)I" } : Jvm.MethodName)) ∈ tg := tg_in 437 (by decide +kernel) rfl
theorem tw_438 : (Jvm.Cond.code ({ cls := "FallingTerms$Loop", name := "reach", desc := "(II)I" } : Jvm.MethodName) prog_2_method_4_code (3 : Nat) (Option.some Jvm.ClassFile.FieldType.int)) ∈ tg := tg_in 438 (by decide +kernel) rfl
theorem tw_439 : (Jvm.Cond.methodLink "FallingTerms$Proof" (35 : Nat) ({ cls := "FallingTerms$Proof", name := "takenBy", desc := "(LFallingTerms$Loop;[LFallingTerms$Space;III)I" } : Jvm.MethodName)) ∈ tg := tg_in 439 (by decide +kernel) rfl
theorem tw_441 : (Jvm.Cond.instanceMethod ({ cls := "FallingTerms$Proof", name := "takenBy", desc := "(LFallingTerms$Loop;[LFallingTerms$Space;III)I" } : Jvm.MethodName)) ∈ tg := tg_in 441 (by decide +kernel) rfl
theorem tw_442 : (Jvm.Cond.code ({ cls := "FallingTerms$Proof", name := "takenBy", desc := "(LFallingTerms$Loop;[LFallingTerms$Space;III)I" } : Jvm.MethodName) prog_3_method_5_code (8 : Nat) (Option.some Jvm.ClassFile.FieldType.int)) ∈ tg := tg_in 442 (by decide +kernel) rfl
theorem tw_443 : (Jvm.Cond.methodLink "FallingTerms$Proof" (47 : Nat) ({ cls := "FallingTerms$Way", name := "lessens", desc := "(LFallingTerms$Space;IIII)Z" } : Jvm.MethodName)) ∈ tg := tg_in 443 (by decide +kernel) rfl
theorem tw_444 : (Jvm.Cond.methodLink "FallingTerms$Proof" (53 : Nat) ({ cls := "FallingTerms$Space", name := "bounds", desc := "(III)Z" } : Jvm.MethodName)) ∈ tg := tg_in 444 (by decide +kernel) rfl
theorem tw_445 : (Jvm.Cond.methodLink "FallingTerms$Proof" (39 : Nat) ({ cls := "FallingTerms$Proof", name := "append", desc := "(IIII)V" } : Jvm.MethodName)) ∈ tg := tg_in 445 (by decide +kernel) rfl
theorem tw_447 : (Jvm.Cond.instanceMethod ({ cls := "FallingTerms$Proof", name := "append", desc := "(IIII)V" } : Jvm.MethodName)) ∈ tg := tg_in 447 (by decide +kernel) rfl
theorem tw_448 : (Jvm.Cond.code ({ cls := "FallingTerms$Proof", name := "append", desc := "(IIII)V" } : Jvm.MethodName) prog_3_method_6_code (6 : Nat) (Option.none : Option Jvm.ClassFile.FieldType)) ∈ tg := tg_in 448 (by decide +kernel) rfl
theorem tw_449 : (Jvm.Cond.methodLink "FallingTermsLaw" (67 : Nat) ({ cls := "FallingTerms", name := "proof", desc := "(II)I" } : Jvm.MethodName)) ∈ tg := tg_in 449 (by decide +kernel) rfl
theorem tw_450 : (Jvm.Cond.instanceMethod ({ cls := "FallingTerms", name := "proof", desc := "(II)I" } : Jvm.MethodName)) ∈ tg := tg_in 450 (by decide +kernel) rfl
theorem tw_451 : (Jvm.Cond.selects "FallingTerms" ({ cls := "FallingTerms", name := "proof", desc := "(II)I" } : Jvm.MethodName) ({ cls := "FallingTerms", name := "proof", desc := "(II)I" } : Jvm.MethodName)) ∈ tg := tg_in 451 (by decide +kernel) rfl
theorem tw_452 : (Jvm.Cond.code ({ cls := "FallingTerms", name := "proof", desc := "(II)I" } : Jvm.MethodName) prog_1_method_14_code (3 : Nat) (Option.some Jvm.ClassFile.FieldType.int)) ∈ tg := tg_in 452 (by decide +kernel) rfl
theorem tw_453 : (Jvm.Cond.methodLink "FallingTermsLaw" (71 : Nat) ({ cls := "FallingTerms", name := "left", desc := "()I" } : Jvm.MethodName)) ∈ tg := tg_in 453 (by decide +kernel) rfl
theorem tw_454 : (Jvm.Cond.instanceMethod ({ cls := "FallingTerms", name := "left", desc := "()I" } : Jvm.MethodName)) ∈ tg := tg_in 454 (by decide +kernel) rfl
theorem tw_455 : (Jvm.Cond.selects "FallingTerms" ({ cls := "FallingTerms", name := "left", desc := "()I" } : Jvm.MethodName) ({ cls := "FallingTerms", name := "left", desc := "()I" } : Jvm.MethodName)) ∈ tg := tg_in 455 (by decide +kernel) rfl
theorem tw_456 : (Jvm.Cond.code ({ cls := "FallingTerms", name := "left", desc := "()I" } : Jvm.MethodName) prog_1_method_15_code (1 : Nat) (Option.some Jvm.ClassFile.FieldType.int)) ∈ tg := tg_in 456 (by decide +kernel) rfl
theorem tw_457 : (Jvm.Cond.methodLink "FallingTermsLaw" (75 : Nat) ({ cls := "FallingTerms", name := "need", desc := "(I)I" } : Jvm.MethodName)) ∈ tg := tg_in 457 (by decide +kernel) rfl
theorem tw_458 : (Jvm.Cond.instanceMethod ({ cls := "FallingTerms", name := "need", desc := "(I)I" } : Jvm.MethodName)) ∈ tg := tg_in 458 (by decide +kernel) rfl
theorem tw_459 : (Jvm.Cond.selects "FallingTerms" ({ cls := "FallingTerms", name := "need", desc := "(I)I" } : Jvm.MethodName) ({ cls := "FallingTerms", name := "need", desc := "(I)I" } : Jvm.MethodName)) ∈ tg := tg_in 459 (by decide +kernel) rfl
theorem tw_460 : (Jvm.Cond.code ({ cls := "FallingTerms", name := "need", desc := "(I)I" } : Jvm.MethodName) prog_1_method_16_code (8 : Nat) (Option.some Jvm.ClassFile.FieldType.int)) ∈ tg := tg_in 460 (by decide +kernel) rfl
theorem tw_461 : (Jvm.Cond.methodLink "FallingTerms" (159 : Nat) ({ cls := "FallingTerms$Loop", name := "reach", desc := "(II)I" } : Jvm.MethodName)) ∈ tg := tg_in 461 (by decide +kernel) rfl
theorem tw_462 : (Jvm.Cond.methodLink "FallingTerms" (163 : Nat) ({ cls := "FallingTerms", name := "findNeed", desc := "(LFallingTerms$Loop;III)Z" } : Jvm.MethodName)) ∈ tg := tg_in 462 (by decide +kernel) rfl
theorem tw_464 : (Jvm.Cond.instanceMethod ({ cls := "FallingTerms", name := "findNeed", desc := "(LFallingTerms$Loop;III)Z" } : Jvm.MethodName)) ∈ tg := tg_in 464 (by decide +kernel) rfl
theorem tw_465 : (Jvm.Cond.code ({ cls := "FallingTerms", name := "findNeed", desc := "(LFallingTerms$Loop;III)Z" } : Jvm.MethodName) prog_1_method_36_code (6 : Nat) (Option.some Jvm.ClassFile.FieldType.boolean)) ∈ tg := tg_in 465 (by decide +kernel) rfl
theorem tw_466 : (Jvm.Cond.methodLink "FallingTerms" (196 : Nat) ({ cls := "FallingTerms", name := "narrowSpaces", desc := "(LFallingTerms$Loop;IIII)V" } : Jvm.MethodName)) ∈ tg := tg_in 466 (by decide +kernel) rfl
theorem tw_468 : (Jvm.Cond.instanceMethod ({ cls := "FallingTerms", name := "narrowSpaces", desc := "(LFallingTerms$Loop;IIII)V" } : Jvm.MethodName)) ∈ tg := tg_in 468 (by decide +kernel) rfl
theorem tw_469 : (Jvm.Cond.code ({ cls := "FallingTerms", name := "narrowSpaces", desc := "(LFallingTerms$Loop;IIII)V" } : Jvm.MethodName) prog_1_method_39_code (7 : Nat) (Option.none : Option Jvm.ClassFile.FieldType)) ∈ tg := tg_in 469 (by decide +kernel) rfl
theorem tw_470 : (Jvm.Cond.methodLink "FallingTerms" (211 : Nat) ({ cls := "FallingTerms$Space", name := "copy", desc := "(LFallingTerms$Space;)V" } : Jvm.MethodName)) ∈ tg := tg_in 470 (by decide +kernel) rfl
theorem tw_471 : (Jvm.Cond.instanceMethod ({ cls := "FallingTerms$Space", name := "copy", desc := "(LFallingTerms$Space;)V" } : Jvm.MethodName)) ∈ tg := tg_in 471 (by decide +kernel) rfl
theorem tw_472 : (Jvm.Cond.selects "FallingTerms$Space" ({ cls := "FallingTerms$Space", name := "copy", desc := "(LFallingTerms$Space;)V" } : Jvm.MethodName) ({ cls := "FallingTerms$Space", name := "copy", desc := "(LFallingTerms$Space;)V" } : Jvm.MethodName)) ∈ tg := tg_in 472 (by decide +kernel) rfl
theorem tw_473 : (Jvm.Cond.code ({ cls := "FallingTerms$Space", name := "copy", desc := "(LFallingTerms$Space;)V" } : Jvm.MethodName) prog_5_method_3_code (3 : Nat) (Option.none : Option Jvm.ClassFile.FieldType)) ∈ tg := tg_in 473 (by decide +kernel) rfl
theorem tw_474 : (Jvm.Cond.methodLink "FallingTerms" (215 : Nat) ({ cls := "FallingTerms$Space", name := "narrow", desc := "(IIII)V" } : Jvm.MethodName)) ∈ tg := tg_in 474 (by decide +kernel) rfl
theorem tw_475 : (Jvm.Cond.methodLink "FallingTerms" (200 : Nat) ({ cls := "FallingTerms", name := "lasts", desc := "(LFallingTerms$Loop;IIII)Z" } : Jvm.MethodName)) ∈ tg := tg_in 475 (by decide +kernel) rfl
theorem tw_477 : (Jvm.Cond.instanceMethod ({ cls := "FallingTerms", name := "lasts", desc := "(LFallingTerms$Loop;IIII)Z" } : Jvm.MethodName)) ∈ tg := tg_in 477 (by decide +kernel) rfl
theorem tw_478 : (Jvm.Cond.code ({ cls := "FallingTerms", name := "lasts", desc := "(LFallingTerms$Loop;IIII)Z" } : Jvm.MethodName) prog_1_method_38_code (7 : Nat) (Option.some Jvm.ClassFile.FieldType.boolean)) ∈ tg := tg_in 478 (by decide +kernel) rfl
theorem tw_479 : (Jvm.Cond.methodLink "FallingTerms" (208 : Nat) ({ cls := "FallingTerms$Way", name := "keeps", desc := "(LFallingTerms$Space;IIII)Z" } : Jvm.MethodName)) ∈ tg := tg_in 479 (by decide +kernel) rfl
theorem tw_480 : (Jvm.Cond.instanceMethod ({ cls := "FallingTerms$Way", name := "keeps", desc := "(LFallingTerms$Space;IIII)Z" } : Jvm.MethodName)) ∈ tg := tg_in 480 (by decide +kernel) rfl
theorem tw_481 : (Jvm.Cond.selects "FallingTerms$Way" ({ cls := "FallingTerms$Way", name := "keeps", desc := "(LFallingTerms$Space;IIII)Z" } : Jvm.MethodName) ({ cls := "FallingTerms$Way", name := "keeps", desc := "(LFallingTerms$Space;IIII)Z" } : Jvm.MethodName)) ∈ tg := tg_in 481 (by decide +kernel) rfl
theorem tw_482 : (Jvm.Cond.code ({ cls := "FallingTerms$Way", name := "keeps", desc := "(LFallingTerms$Space;IIII)Z" } : Jvm.MethodName) prog_6_method_7_code (6 : Nat) (Option.some Jvm.ClassFile.FieldType.boolean)) ∈ tg := tg_in 482 (by decide +kernel) rfl
theorem tw_483 : (Jvm.Cond.methodLink "FallingTerms" (204 : Nat) ({ cls := "FallingTerms", name := "keepNeed", desc := "(IIII)V" } : Jvm.MethodName)) ∈ tg := tg_in 483 (by decide +kernel) rfl
theorem tw_485 : (Jvm.Cond.instanceMethod ({ cls := "FallingTerms", name := "keepNeed", desc := "(IIII)V" } : Jvm.MethodName)) ∈ tg := tg_in 485 (by decide +kernel) rfl
theorem tw_486 : (Jvm.Cond.code ({ cls := "FallingTerms", name := "keepNeed", desc := "(IIII)V" } : Jvm.MethodName) prog_1_method_37_code (5 : Nat) (Option.none : Option Jvm.ClassFile.FieldType)) ∈ tg := tg_in 486 (by decide +kernel) rfl
theorem tw_487 : (Jvm.Cond.methodLink "FallingTermsLaw" (79 : Nat) ({ cls := "FallingTerms", name := "needed", desc := "(I)I" } : Jvm.MethodName)) ∈ tg := tg_in 487 (by decide +kernel) rfl
theorem tw_488 : (Jvm.Cond.instanceMethod ({ cls := "FallingTerms", name := "needed", desc := "(I)I" } : Jvm.MethodName)) ∈ tg := tg_in 488 (by decide +kernel) rfl
theorem tw_489 : (Jvm.Cond.selects "FallingTerms" ({ cls := "FallingTerms", name := "needed", desc := "(I)I" } : Jvm.MethodName) ({ cls := "FallingTerms", name := "needed", desc := "(I)I" } : Jvm.MethodName)) ∈ tg := tg_in 489 (by decide +kernel) rfl
theorem tw_490 : (Jvm.Cond.code ({ cls := "FallingTerms", name := "needed", desc := "(I)I" } : Jvm.MethodName) prog_1_method_17_code (2 : Nat) (Option.some Jvm.ClassFile.FieldType.int)) ∈ tg := tg_in 490 (by decide +kernel) rfl
theorem tw_491 : (Jvm.Cond.methodLink "FallingTermsLaw" (83 : Nat) ({ cls := "FallingTerms", name := "put", desc := "(III)I" } : Jvm.MethodName)) ∈ tg := tg_in 491 (by decide +kernel) rfl
theorem tw_492 : (Jvm.Cond.instanceMethod ({ cls := "FallingTerms", name := "put", desc := "(III)I" } : Jvm.MethodName)) ∈ tg := tg_in 492 (by decide +kernel) rfl
theorem tw_493 : (Jvm.Cond.selects "FallingTerms" ({ cls := "FallingTerms", name := "put", desc := "(III)I" } : Jvm.MethodName) ({ cls := "FallingTerms", name := "put", desc := "(III)I" } : Jvm.MethodName)) ∈ tg := tg_in 493 (by decide +kernel) rfl
theorem tw_494 : (Jvm.Cond.code ({ cls := "FallingTerms", name := "put", desc := "(III)I" } : Jvm.MethodName) prog_1_method_18_code (4 : Nat) (Option.some Jvm.ClassFile.FieldType.int)) ∈ tg := tg_in 494 (by decide +kernel) rfl
theorem tw_495 : (Jvm.Cond.constant "FallingTerms" (167 : Nat) (1000000 : Int32)) ∈ tg := tg_in 495 (by decide +kernel) rfl
theorem tw_496 : (Jvm.Cond.methodLink "FallingTermsLaw" (88 : Nat) ({ cls := "FallingTerms", name := "at", desc := "(II)J" } : Jvm.MethodName)) ∈ tg := tg_in 496 (by decide +kernel) rfl
theorem tw_497 : (Jvm.Cond.instanceMethod ({ cls := "FallingTerms", name := "at", desc := "(II)J" } : Jvm.MethodName)) ∈ tg := tg_in 497 (by decide +kernel) rfl
theorem tw_498 : (Jvm.Cond.selects "FallingTerms" ({ cls := "FallingTerms", name := "at", desc := "(II)J" } : Jvm.MethodName) ({ cls := "FallingTerms", name := "at", desc := "(II)J" } : Jvm.MethodName)) ∈ tg := tg_in 498 (by decide +kernel) rfl
theorem tw_499 : (Jvm.Cond.code ({ cls := "FallingTerms", name := "at", desc := "(II)J" } : Jvm.MethodName) prog_1_method_19_code (3 : Nat) (Option.some Jvm.ClassFile.FieldType.long)) ∈ tg := tg_in 499 (by decide +kernel) rfl
theorem tw_500 : (Jvm.Cond.constantLong "FallingTerms" (171 : Nat) (-9000000000000 : Int64)) ∈ tg := tg_in 500 (by decide +kernel) rfl
theorem tw_501 : (Jvm.Cond.methodLink "FallingTermsLaw" (93 : Nat) ({ cls := "FallingTerms", name := "open", desc := "(I)I" } : Jvm.MethodName)) ∈ tg := tg_in 501 (by decide +kernel) rfl
theorem tw_502 : (Jvm.Cond.instanceMethod ({ cls := "FallingTerms", name := "open", desc := "(I)I" } : Jvm.MethodName)) ∈ tg := tg_in 502 (by decide +kernel) rfl
theorem tw_503 : (Jvm.Cond.selects "FallingTerms" ({ cls := "FallingTerms", name := "open", desc := "(I)I" } : Jvm.MethodName) ({ cls := "FallingTerms", name := "open", desc := "(I)I" } : Jvm.MethodName)) ∈ tg := tg_in 503 (by decide +kernel) rfl
theorem tw_504 : (Jvm.Cond.code ({ cls := "FallingTerms", name := "open", desc := "(I)I" } : Jvm.MethodName) prog_1_method_20_code (2 : Nat) (Option.some Jvm.ClassFile.FieldType.int)) ∈ tg := tg_in 504 (by decide +kernel) rfl
theorem tw_505 : (Jvm.Cond.methodLink "FallingTerms" (173 : Nat) ({ cls := "FallingTerms$Loop", name := "openWays", desc := "()I" } : Jvm.MethodName)) ∈ tg := tg_in 505 (by decide +kernel) rfl
theorem tw_506 : (Jvm.Cond.instanceMethod ({ cls := "FallingTerms$Loop", name := "openWays", desc := "()I" } : Jvm.MethodName)) ∈ tg := tg_in 506 (by decide +kernel) rfl
theorem tw_507 : (Jvm.Cond.selects "FallingTerms$Loop" ({ cls := "FallingTerms$Loop", name := "openWays", desc := "()I" } : Jvm.MethodName) ({ cls := "FallingTerms$Loop", name := "openWays", desc := "()I" } : Jvm.MethodName)) ∈ tg := tg_in 507 (by decide +kernel) rfl
theorem tw_508 : (Jvm.Cond.code ({ cls := "FallingTerms$Loop", name := "openWays", desc := "()I" } : Jvm.MethodName) prog_2_method_5_code (3 : Nat) (Option.some Jvm.ClassFile.FieldType.int)) ∈ tg := tg_in 508 (by decide +kernel) rfl
theorem tw_509 : (Jvm.Cond.methodLink "FallingTerms$Loop" (47 : Nat) ({ cls := "FallingTerms$Rows", name := "holdIn", desc := "([J)Z" } : Jvm.MethodName)) ∈ tg := tg_in 509 (by decide +kernel) rfl
theorem tw_510 : (Jvm.Cond.instanceMethod ({ cls := "FallingTerms$Rows", name := "holdIn", desc := "([J)Z" } : Jvm.MethodName)) ∈ tg := tg_in 510 (by decide +kernel) rfl
theorem tw_511 : (Jvm.Cond.selects "FallingTerms$Rows" ({ cls := "FallingTerms$Rows", name := "holdIn", desc := "([J)Z" } : Jvm.MethodName) ({ cls := "FallingTerms$Rows", name := "holdIn", desc := "([J)Z" } : Jvm.MethodName)) ∈ tg := tg_in 511 (by decide +kernel) rfl
theorem tw_512 : (Jvm.Cond.code ({ cls := "FallingTerms$Rows", name := "holdIn", desc := "([J)Z" } : Jvm.MethodName) prog_4_method_3_code (6 : Nat) (Option.some Jvm.ClassFile.FieldType.boolean)) ∈ tg := tg_in 512 (by decide +kernel) rfl
theorem tw_513 : (Jvm.Cond.methodLink "FallingTermsLaw" (97 : Nat) ({ cls := "FallingTerms", name := "step", desc := "(I)I" } : Jvm.MethodName)) ∈ tg := tg_in 513 (by decide +kernel) rfl
theorem tw_514 : (Jvm.Cond.instanceMethod ({ cls := "FallingTerms", name := "step", desc := "(I)I" } : Jvm.MethodName)) ∈ tg := tg_in 514 (by decide +kernel) rfl
theorem tw_515 : (Jvm.Cond.selects "FallingTerms" ({ cls := "FallingTerms", name := "step", desc := "(I)I" } : Jvm.MethodName) ({ cls := "FallingTerms", name := "step", desc := "(I)I" } : Jvm.MethodName)) ∈ tg := tg_in 515 (by decide +kernel) rfl
theorem tw_516 : (Jvm.Cond.code ({ cls := "FallingTerms", name := "step", desc := "(I)I" } : Jvm.MethodName) prog_1_method_21_code (2 : Nat) (Option.some Jvm.ClassFile.FieldType.int)) ∈ tg := tg_in 516 (by decide +kernel) rfl
theorem tw_517 : (Jvm.Cond.methodLink "FallingTerms" (176 : Nat) ({ cls := "FallingTerms$Loop", name := "advance", desc := "([J)I" } : Jvm.MethodName)) ∈ tg := tg_in 517 (by decide +kernel) rfl
theorem tw_518 : (Jvm.Cond.instanceMethod ({ cls := "FallingTerms$Loop", name := "advance", desc := "([J)I" } : Jvm.MethodName)) ∈ tg := tg_in 518 (by decide +kernel) rfl
theorem tw_519 : (Jvm.Cond.selects "FallingTerms$Loop" ({ cls := "FallingTerms$Loop", name := "advance", desc := "([J)I" } : Jvm.MethodName) ({ cls := "FallingTerms$Loop", name := "advance", desc := "([J)I" } : Jvm.MethodName)) ∈ tg := tg_in 519 (by decide +kernel) rfl
theorem tw_520 : (Jvm.Cond.code ({ cls := "FallingTerms$Loop", name := "advance", desc := "([J)I" } : Jvm.MethodName) prog_2_method_6_code (3 : Nat) (Option.some Jvm.ClassFile.FieldType.int)) ∈ tg := tg_in 520 (by decide +kernel) rfl
theorem tw_521 : (Jvm.Cond.methodLink "FallingTerms$Loop" (54 : Nat) ({ cls := "FallingTerms$Loop", name := "change", desc := "(I[J)Z" } : Jvm.MethodName)) ∈ tg := tg_in 521 (by decide +kernel) rfl
theorem tw_522 : (Jvm.Cond.instanceMethod ({ cls := "FallingTerms$Loop", name := "change", desc := "(I[J)Z" } : Jvm.MethodName)) ∈ tg := tg_in 522 (by decide +kernel) rfl
theorem tw_523 : (Jvm.Cond.selects "FallingTerms$Loop" ({ cls := "FallingTerms$Loop", name := "change", desc := "(I[J)Z" } : Jvm.MethodName) ({ cls := "FallingTerms$Loop", name := "change", desc := "(I[J)Z" } : Jvm.MethodName)) ∈ tg := tg_in 523 (by decide +kernel) rfl
theorem tw_524 : (Jvm.Cond.code ({ cls := "FallingTerms$Loop", name := "change", desc := "(I[J)Z" } : Jvm.MethodName) prog_2_method_7_code (3 : Nat) (Option.some Jvm.ClassFile.FieldType.boolean)) ∈ tg := tg_in 524 (by decide +kernel) rfl
theorem tw_525 : (Jvm.Cond.methodLink "FallingTerms$Loop" (58 : Nat) ({ cls := "FallingTerms$Way", name := "leads", desc := "([J[J)Z" } : Jvm.MethodName)) ∈ tg := tg_in 525 (by decide +kernel) rfl
theorem tw_526 : (Jvm.Cond.instanceMethod ({ cls := "FallingTerms$Way", name := "leads", desc := "([J[J)Z" } : Jvm.MethodName)) ∈ tg := tg_in 526 (by decide +kernel) rfl
theorem tw_527 : (Jvm.Cond.selects "FallingTerms$Way" ({ cls := "FallingTerms$Way", name := "leads", desc := "([J[J)Z" } : Jvm.MethodName) ({ cls := "FallingTerms$Way", name := "leads", desc := "([J[J)Z" } : Jvm.MethodName)) ∈ tg := tg_in 527 (by decide +kernel) rfl
theorem tw_528 : (Jvm.Cond.code ({ cls := "FallingTerms$Way", name := "leads", desc := "([J[J)Z" } : Jvm.MethodName) prog_6_method_3_code (7 : Nat) (Option.some Jvm.ClassFile.FieldType.boolean)) ∈ tg := tg_in 528 (by decide +kernel) rfl
theorem tw_529 : (Jvm.Cond.constantLong "FallingTerms$Way" (31 : Nat) (1000000000000 : Int64)) ∈ tg := tg_in 529 (by decide +kernel) rfl
theorem tw_530 : (Jvm.Cond.constantLong "FallingTerms$Way" (33 : Nat) (-1000000000000 : Int64)) ∈ tg := tg_in 530 (by decide +kernel) rfl
theorem tw_531 : (Jvm.Cond.methodLinkNest "FallingTerms$Loop" (62 : Nat) ({ cls := "FallingTerms", name := "copyState", desc := "([J[J)V" } : Jvm.MethodName) "FallingTerms") ∈ tn := tn_in 531 (by decide +kernel) rfl
theorem tw_532 : (Jvm.Cond.static ({ cls := "FallingTerms", name := "copyState", desc := "([J[J)V" } : Jvm.MethodName)) ∈ tg := tg_in 532 (by decide +kernel) rfl
theorem tw_533 : (Jvm.Cond.code ({ cls := "FallingTerms", name := "copyState", desc := "([J[J)V" } : Jvm.MethodName) prog_1_method_32_code (3 : Nat) (Option.none : Option Jvm.ClassFile.FieldType)) ∈ tg := tg_in 533 (by decide +kernel) rfl
theorem tw_534 : (Jvm.Cond.methodLink "FallingTermsLaw" (101 : Nat) ({ cls := "FallingTerms", name := "go", desc := "(II)I" } : Jvm.MethodName)) ∈ tg := tg_in 534 (by decide +kernel) rfl
theorem tw_535 : (Jvm.Cond.instanceMethod ({ cls := "FallingTerms", name := "go", desc := "(II)I" } : Jvm.MethodName)) ∈ tg := tg_in 535 (by decide +kernel) rfl
theorem tw_536 : (Jvm.Cond.selects "FallingTerms" ({ cls := "FallingTerms", name := "go", desc := "(II)I" } : Jvm.MethodName) ({ cls := "FallingTerms", name := "go", desc := "(II)I" } : Jvm.MethodName)) ∈ tg := tg_in 536 (by decide +kernel) rfl
theorem tw_537 : (Jvm.Cond.code ({ cls := "FallingTerms", name := "go", desc := "(II)I" } : Jvm.MethodName) prog_1_method_22_code (4 : Nat) (Option.some Jvm.ClassFile.FieldType.int)) ∈ tg := tg_in 537 (by decide +kernel) rfl
theorem tw_538 : (Jvm.Cond.methodLink "FallingTerms" (180 : Nat) ({ cls := "FallingTerms$Loop", name := "change", desc := "(I[J)Z" } : Jvm.MethodName)) ∈ tg := tg_in 538 (by decide +kernel) rfl
theorem tw_539 : (Jvm.Cond.methodLink "FallingTermsLaw" (105 : Nat) ({ cls := "FallingTerms", name := "walk", desc := "(II)I" } : Jvm.MethodName)) ∈ tg := tg_in 539 (by decide +kernel) rfl
theorem tw_540 : (Jvm.Cond.instanceMethod ({ cls := "FallingTerms", name := "walk", desc := "(II)I" } : Jvm.MethodName)) ∈ tg := tg_in 540 (by decide +kernel) rfl
theorem tw_541 : (Jvm.Cond.selects "FallingTerms" ({ cls := "FallingTerms", name := "walk", desc := "(II)I" } : Jvm.MethodName) ({ cls := "FallingTerms", name := "walk", desc := "(II)I" } : Jvm.MethodName)) ∈ tg := tg_in 541 (by decide +kernel) rfl
theorem tw_542 : (Jvm.Cond.code ({ cls := "FallingTerms", name := "walk", desc := "(II)I" } : Jvm.MethodName) prog_1_method_23_code (5 : Nat) (Option.some Jvm.ClassFile.FieldType.int)) ∈ tg := tg_in 542 (by decide +kernel) rfl
theorem tw_543 : (Jvm.Cond.methodLink "FallingTermsLaw" (109 : Nat) ({ cls := "FallingTerms", name := "ring", desc := "(II)I" } : Jvm.MethodName)) ∈ tg := tg_in 543 (by decide +kernel) rfl
theorem tw_544 : (Jvm.Cond.instanceMethod ({ cls := "FallingTerms", name := "ring", desc := "(II)I" } : Jvm.MethodName)) ∈ tg := tg_in 544 (by decide +kernel) rfl
theorem tw_545 : (Jvm.Cond.selects "FallingTerms" ({ cls := "FallingTerms", name := "ring", desc := "(II)I" } : Jvm.MethodName) ({ cls := "FallingTerms", name := "ring", desc := "(II)I" } : Jvm.MethodName)) ∈ tg := tg_in 545 (by decide +kernel) rfl
theorem tw_546 : (Jvm.Cond.code ({ cls := "FallingTerms", name := "ring", desc := "(II)I" } : Jvm.MethodName) prog_1_method_24_code (10 : Nat) (Option.some Jvm.ClassFile.FieldType.int)) ∈ tg := tg_in 546 (by decide +kernel) rfl
theorem tw_547 : (Jvm.Cond.methodLink "FallingTerms" (184 : Nat) ({ cls := "FallingTerms", name := "ringFrom", desc := "(LFallingTerms$Loop;III)I" } : Jvm.MethodName)) ∈ tg := tg_in 547 (by decide +kernel) rfl
theorem tw_549 : (Jvm.Cond.instanceMethod ({ cls := "FallingTerms", name := "ringFrom", desc := "(LFallingTerms$Loop;III)I" } : Jvm.MethodName)) ∈ tg := tg_in 549 (by decide +kernel) rfl
theorem tw_550 : (Jvm.Cond.code ({ cls := "FallingTerms", name := "ringFrom", desc := "(LFallingTerms$Loop;III)I" } : Jvm.MethodName) prog_1_method_40_code (6 : Nat) (Option.some Jvm.ClassFile.FieldType.int)) ∈ tg := tg_in 550 (by decide +kernel) rfl
theorem tw_551 : (Jvm.Cond.methodLink "FallingTerms" (188 : Nat) ({ cls := "FallingTerms", name := "copyState", desc := "([J[J)V" } : Jvm.MethodName)) ∈ tg := tg_in 551 (by decide +kernel) rfl
theorem tw_552 : (Jvm.Cond.methodLink "FallingTerms" (218 : Nat) ({ cls := "FallingTerms", name := "sameState", desc := "([J[J)Z" } : Jvm.MethodName)) ∈ tg := tg_in 552 (by decide +kernel) rfl
theorem tw_553 : (Jvm.Cond.static ({ cls := "FallingTerms", name := "sameState", desc := "([J[J)Z" } : Jvm.MethodName)) ∈ tg := tg_in 553 (by decide +kernel) rfl
theorem tw_554 : (Jvm.Cond.code ({ cls := "FallingTerms", name := "sameState", desc := "([J[J)Z" } : Jvm.MethodName) prog_1_method_33_code (2 : Nat) (Option.some Jvm.ClassFile.FieldType.boolean)) ∈ tg := tg_in 554 (by decide +kernel) rfl
theorem tw_555 : (Jvm.Cond.methodLink "FallingTermsLaw" (113 : Nat) ({ cls := "FallingTerms", name := "loops", desc := "()I" } : Jvm.MethodName)) ∈ tg := tg_in 555 (by decide +kernel) rfl
theorem tw_556 : (Jvm.Cond.instanceMethod ({ cls := "FallingTerms", name := "loops", desc := "()I" } : Jvm.MethodName)) ∈ tg := tg_in 556 (by decide +kernel) rfl
theorem tw_557 : (Jvm.Cond.selects "FallingTerms" ({ cls := "FallingTerms", name := "loops", desc := "()I" } : Jvm.MethodName) ({ cls := "FallingTerms", name := "loops", desc := "()I" } : Jvm.MethodName)) ∈ tg := tg_in 557 (by decide +kernel) rfl
theorem tw_558 : (Jvm.Cond.code ({ cls := "FallingTerms", name := "loops", desc := "()I" } : Jvm.MethodName) prog_1_method_25_code (1 : Nat) (Option.some Jvm.ClassFile.FieldType.int)) ∈ tg := tg_in 558 (by decide +kernel) rfl
theorem tw_559 : (Jvm.Cond.classLink "FallingTermsLaw" (10 : Nat) "FallingTermsModel") ∈ tg := tg_in 559 (by decide +kernel) rfl
theorem tw_560 : (Jvm.Cond.instantiable "FallingTermsModel" (38 : Nat)) ∈ tg := tg_in 560 (by decide +kernel) rfl
theorem tw_561 : (Jvm.Cond.methodLink "FallingTermsLaw" (12 : Nat) ({ cls := "FallingTermsModel", name := "<init>", desc := "()V" } : Jvm.MethodName)) ∈ tg := tg_in 561 (by decide +kernel) rfl
theorem tw_562 : (Jvm.Cond.instanceMethod ({ cls := "FallingTermsModel", name := "<init>", desc := "()V" } : Jvm.MethodName)) ∈ tg := tg_in 562 (by decide +kernel) rfl
theorem tw_563 : (Jvm.Cond.code ({ cls := "FallingTermsModel", name := "<init>", desc := "()V" } : Jvm.MethodName) prog_8_method_1_code (1 : Nat) (Option.none : Option Jvm.ClassFile.FieldType)) ∈ tg := tg_in 563 (by decide +kernel) rfl
theorem tw_564 : (Jvm.Cond.methodLink "FallingTermsModel" (1 : Nat) ({ cls := "java/lang/Object", name := "<init>", desc := "()V" } : Jvm.MethodName)) ∈ tg := tg_in 564 (by decide +kernel) rfl
theorem tw_565 : (Jvm.Cond.fieldLink "FallingTermsModel" (59 : Nat) "FallingTermsModel" "loops" "I") ∈ tg := tg_in 565 (by decide +kernel) rfl
theorem tw_566 : (Jvm.Cond.fieldLink "FallingTermsModel" (7 : Nat) "FallingTermsModel" "names" "[I") ∈ tg := tg_in 566 (by decide +kernel) rfl
theorem tw_567 : (Jvm.Cond.fieldLink "FallingTermsModel" (13 : Nat) "FallingTermsModel" "ways" "[I") ∈ tg := tg_in 567 (by decide +kernel) rfl
theorem tw_568 : (Jvm.Cond.fieldLink "FallingTermsModel" (16 : Nat) "FallingTermsModel" "guards" "[I") ∈ tg := tg_in 568 (by decide +kernel) rfl
theorem tw_569 : (Jvm.Cond.fieldLink "FallingTermsModel" (19 : Nat) "FallingTermsModel" "guard" "[I") ∈ tg := tg_in 569 (by decide +kernel) rfl
theorem tw_570 : (Jvm.Cond.fieldLink "FallingTermsModel" (22 : Nat) "FallingTermsModel" "wayRows" "[I") ∈ tg := tg_in 570 (by decide +kernel) rfl
theorem tw_571 : (Jvm.Cond.fieldLink "FallingTermsModel" (25 : Nat) "FallingTermsModel" "wayRow" "[I") ∈ tg := tg_in 571 (by decide +kernel) rfl
theorem tw_572 : (Jvm.Cond.fieldLink "FallingTermsModel" (28 : Nat) "FallingTermsModel" "factor" "[I") ∈ tg := tg_in 572 (by decide +kernel) rfl
theorem tw_573 : (Jvm.Cond.fieldLink "FallingTermsModel" (31 : Nat) "FallingTermsModel" "constant" "[I") ∈ tg := tg_in 573 (by decide +kernel) rfl
theorem tw_574 : (Jvm.Cond.fieldLink "FallingTermsModel" (34 : Nat) "FallingTermsModel" "state" "[J") ∈ tg := tg_in 574 (by decide +kernel) rfl
theorem tw_575 : (Jvm.Cond.fieldLink "FallingTermsModel" (75 : Nat) "FallingTermsModel" "proofs" "I") ∈ tg := tg_in 575 (by decide +kernel) rfl
theorem tw_576 : (Jvm.Cond.fieldLink "FallingTermsModel" (38 : Nat) "FallingTermsModel" "proof" "[I") ∈ tg := tg_in 576 (by decide +kernel) rfl
theorem tw_577 : (Jvm.Cond.fieldLink "FallingTermsModel" (78 : Nat) "FallingTermsModel" "left" "I") ∈ tg := tg_in 577 (by decide +kernel) rfl
theorem tw_578 : (Jvm.Cond.fieldLink "FallingTermsModel" (81 : Nat) "FallingTermsModel" "hasNeed" "Z") ∈ tg := tg_in 578 (by decide +kernel) rfl
theorem tw_579 : (Jvm.Cond.fieldLink "FallingTermsModel" (41 : Nat) "FallingTermsModel" "need" "[I") ∈ tg := tg_in 579 (by decide +kernel) rfl
theorem tw_580 : (Jvm.Cond.fieldLink "FallingTermsModel" (99 : Nat) "FallingTermsModel" "rows" "I") ∈ tg := tg_in 580 (by decide +kernel) rfl
theorem tw_581 : (Jvm.Cond.fieldLink "FallingTermsModel" (44 : Nat) "FallingTermsModel" "ra" "[J") ∈ tg := tg_in 581 (by decide +kernel) rfl
theorem tw_582 : (Jvm.Cond.fieldLink "FallingTermsModel" (47 : Nat) "FallingTermsModel" "rb" "[J") ∈ tg := tg_in 582 (by decide +kernel) rfl
theorem tw_583 : (Jvm.Cond.fieldLink "FallingTermsModel" (50 : Nat) "FallingTermsModel" "rc" "[J") ∈ tg := tg_in 583 (by decide +kernel) rfl
theorem tw_584 : (Jvm.Cond.fieldLink "FallingTermsModel" (53 : Nat) "FallingTermsModel" "rd" "[J") ∈ tg := tg_in 584 (by decide +kernel) rfl
theorem tw_585 : (Jvm.Cond.fieldLink "FallingTermsModel" (128 : Nat) "FallingTermsModel" "isBorne" "Z") ∈ tg := tg_in 585 (by decide +kernel) rfl
theorem tw_586 : (Jvm.Cond.fieldLink "FallingTermsModel" (134 : Nat) "FallingTermsModel" "above" "J") ∈ tg := tg_in 586 (by decide +kernel) rfl
theorem tw_587 : (Jvm.Cond.fieldLink "FallingTermsModel" (131 : Nat) "FallingTermsModel" "below" "J") ∈ tg := tg_in 587 (by decide +kernel) rfl
theorem tw_588 : (Jvm.Cond.fieldLink "FallingTermsModel" (119 : Nat) "FallingTermsModel" "ga" "J") ∈ tg := tg_in 588 (by decide +kernel) rfl
theorem tw_589 : (Jvm.Cond.fieldLink "FallingTermsModel" (122 : Nat) "FallingTermsModel" "gb" "J") ∈ tg := tg_in 589 (by decide +kernel) rfl
theorem tw_590 : (Jvm.Cond.fieldLink "FallingTermsModel" (125 : Nat) "FallingTermsModel" "gc" "J") ∈ tg := tg_in 590 (by decide +kernel) rfl
theorem tw_591 : (Jvm.Cond.fieldLink "FallingTermsModel" (153 : Nat) "FallingTermsModel" "ua" "J") ∈ tg := tg_in 591 (by decide +kernel) rfl
theorem tw_592 : (Jvm.Cond.fieldLink "FallingTermsModel" (156 : Nat) "FallingTermsModel" "ub" "J") ∈ tg := tg_in 592 (by decide +kernel) rfl
theorem tw_593 : (Jvm.Cond.fieldLink "FallingTermsModel" (159 : Nat) "FallingTermsModel" "uc" "J") ∈ tg := tg_in 593 (by decide +kernel) rfl
theorem tw_594 : (Jvm.Cond.fieldLink "FallingTermsModel" (106 : Nat) "FallingTermsModel" "na" "J") ∈ tg := tg_in 594 (by decide +kernel) rfl
theorem tw_595 : (Jvm.Cond.fieldLink "FallingTermsModel" (110 : Nat) "FallingTermsModel" "nb" "J") ∈ tg := tg_in 595 (by decide +kernel) rfl
theorem tw_596 : (Jvm.Cond.fieldLink "FallingTermsModel" (113 : Nat) "FallingTermsModel" "nc" "J") ∈ tg := tg_in 596 (by decide +kernel) rfl
theorem tw_597 : (Jvm.Cond.fieldLink "FallingTermsModel" (116 : Nat) "FallingTermsModel" "nd" "J") ∈ tg := tg_in 597 (by decide +kernel) rfl
theorem tw_598 : (Jvm.Cond.fieldLink "FallingTermsModel" (197 : Nat) "FallingTermsModel" "kept" "I") ∈ tg := tg_in 598 (by decide +kernel) rfl
theorem tw_599 : (Jvm.Cond.fieldLink "FallingTermsModel" (56 : Nat) "FallingTermsModel" "keptTerms" "[I") ∈ tg := tg_in 599 (by decide +kernel) rfl
theorem tw_600 : (Jvm.Cond.fieldLink "FallingTermsModel" (215 : Nat) "FallingTermsModel" "x" "J") ∈ tg := tg_in 600 (by decide +kernel) rfl
theorem tw_601 : (Jvm.Cond.fieldLink "FallingTermsModel" (218 : Nat) "FallingTermsModel" "y" "J") ∈ tg := tg_in 601 (by decide +kernel) rfl
theorem tw_602 : (Jvm.Cond.fieldLink "FallingTermsModel" (221 : Nat) "FallingTermsModel" "z" "J") ∈ tg := tg_in 602 (by decide +kernel) rfl
theorem tw_603 : (Jvm.Cond.lays "FallingTermsModel" "FallingTermsModel" "loops" "I") ∈ tg := tg_in 603 (by decide +kernel) rfl
theorem tw_604 : (Jvm.Cond.soleField "FallingTermsModel" "loops") ∈ tg := tg_in 604 (by decide +kernel) rfl
theorem tw_605 : (Jvm.Cond.laysFinal "FallingTermsModel" "FallingTermsModel" "names" "[I") ∈ tg := tg_in 605 (by decide +kernel) rfl
theorem tw_606 : (Jvm.Cond.soleField "FallingTermsModel" "names") ∈ tg := tg_in 606 (by decide +kernel) rfl
theorem tw_607 : (Jvm.Cond.laysFinal "FallingTermsModel" "FallingTermsModel" "ways" "[I") ∈ tg := tg_in 607 (by decide +kernel) rfl
theorem tw_608 : (Jvm.Cond.soleField "FallingTermsModel" "ways") ∈ tg := tg_in 608 (by decide +kernel) rfl
theorem tw_609 : (Jvm.Cond.laysFinal "FallingTermsModel" "FallingTermsModel" "guards" "[I") ∈ tg := tg_in 609 (by decide +kernel) rfl
theorem tw_610 : (Jvm.Cond.soleField "FallingTermsModel" "guards") ∈ tg := tg_in 610 (by decide +kernel) rfl
theorem tw_611 : (Jvm.Cond.laysFinal "FallingTermsModel" "FallingTermsModel" "guard" "[I") ∈ tg := tg_in 611 (by decide +kernel) rfl
theorem tw_612 : (Jvm.Cond.soleField "FallingTermsModel" "guard") ∈ tg := tg_in 612 (by decide +kernel) rfl
theorem tw_613 : (Jvm.Cond.laysFinal "FallingTermsModel" "FallingTermsModel" "wayRows" "[I") ∈ tg := tg_in 613 (by decide +kernel) rfl
theorem tw_614 : (Jvm.Cond.soleField "FallingTermsModel" "wayRows") ∈ tg := tg_in 614 (by decide +kernel) rfl
theorem tw_615 : (Jvm.Cond.laysFinal "FallingTermsModel" "FallingTermsModel" "wayRow" "[I") ∈ tg := tg_in 615 (by decide +kernel) rfl
theorem tw_616 : (Jvm.Cond.soleField "FallingTermsModel" "wayRow") ∈ tg := tg_in 616 (by decide +kernel) rfl
theorem tw_617 : (Jvm.Cond.laysFinal "FallingTermsModel" "FallingTermsModel" "factor" "[I") ∈ tg := tg_in 617 (by decide +kernel) rfl
theorem tw_618 : (Jvm.Cond.soleField "FallingTermsModel" "factor") ∈ tg := tg_in 618 (by decide +kernel) rfl
theorem tw_619 : (Jvm.Cond.laysFinal "FallingTermsModel" "FallingTermsModel" "constant" "[I") ∈ tg := tg_in 619 (by decide +kernel) rfl
theorem tw_620 : (Jvm.Cond.soleField "FallingTermsModel" "constant") ∈ tg := tg_in 620 (by decide +kernel) rfl
theorem tw_621 : (Jvm.Cond.laysFinal "FallingTermsModel" "FallingTermsModel" "state" "[J") ∈ tg := tg_in 621 (by decide +kernel) rfl
theorem tw_622 : (Jvm.Cond.soleField "FallingTermsModel" "state") ∈ tg := tg_in 622 (by decide +kernel) rfl
theorem tw_623 : (Jvm.Cond.lays "FallingTermsModel" "FallingTermsModel" "proofs" "I") ∈ tg := tg_in 623 (by decide +kernel) rfl
theorem tw_624 : (Jvm.Cond.soleField "FallingTermsModel" "proofs") ∈ tg := tg_in 624 (by decide +kernel) rfl
theorem tw_625 : (Jvm.Cond.laysFinal "FallingTermsModel" "FallingTermsModel" "proof" "[I") ∈ tg := tg_in 625 (by decide +kernel) rfl
theorem tw_626 : (Jvm.Cond.soleField "FallingTermsModel" "proof") ∈ tg := tg_in 626 (by decide +kernel) rfl
theorem tw_627 : (Jvm.Cond.lays "FallingTermsModel" "FallingTermsModel" "left" "I") ∈ tg := tg_in 627 (by decide +kernel) rfl
theorem tw_628 : (Jvm.Cond.soleField "FallingTermsModel" "left") ∈ tg := tg_in 628 (by decide +kernel) rfl
end
section
theorem tw_629 : (Jvm.Cond.lays "FallingTermsModel" "FallingTermsModel" "hasNeed" "Z") ∈ tg := tg_in 629 (by decide +kernel) rfl
theorem tw_630 : (Jvm.Cond.soleField "FallingTermsModel" "hasNeed") ∈ tg := tg_in 630 (by decide +kernel) rfl
theorem tw_631 : (Jvm.Cond.laysFinal "FallingTermsModel" "FallingTermsModel" "need" "[I") ∈ tg := tg_in 631 (by decide +kernel) rfl
theorem tw_632 : (Jvm.Cond.soleField "FallingTermsModel" "need") ∈ tg := tg_in 632 (by decide +kernel) rfl
theorem tw_633 : (Jvm.Cond.lays "FallingTermsModel" "FallingTermsModel" "rows" "I") ∈ tg := tg_in 633 (by decide +kernel) rfl
theorem tw_634 : (Jvm.Cond.soleField "FallingTermsModel" "rows") ∈ tg := tg_in 634 (by decide +kernel) rfl
theorem tw_635 : (Jvm.Cond.laysFinal "FallingTermsModel" "FallingTermsModel" "ra" "[J") ∈ tg := tg_in 635 (by decide +kernel) rfl
theorem tw_636 : (Jvm.Cond.soleField "FallingTermsModel" "ra") ∈ tg := tg_in 636 (by decide +kernel) rfl
theorem tw_637 : (Jvm.Cond.laysFinal "FallingTermsModel" "FallingTermsModel" "rb" "[J") ∈ tg := tg_in 637 (by decide +kernel) rfl
theorem tw_638 : (Jvm.Cond.soleField "FallingTermsModel" "rb") ∈ tg := tg_in 638 (by decide +kernel) rfl
theorem tw_639 : (Jvm.Cond.laysFinal "FallingTermsModel" "FallingTermsModel" "rc" "[J") ∈ tg := tg_in 639 (by decide +kernel) rfl
theorem tw_640 : (Jvm.Cond.soleField "FallingTermsModel" "rc") ∈ tg := tg_in 640 (by decide +kernel) rfl
theorem tw_641 : (Jvm.Cond.laysFinal "FallingTermsModel" "FallingTermsModel" "rd" "[J") ∈ tg := tg_in 641 (by decide +kernel) rfl
theorem tw_642 : (Jvm.Cond.soleField "FallingTermsModel" "rd") ∈ tg := tg_in 642 (by decide +kernel) rfl
theorem tw_643 : (Jvm.Cond.lays "FallingTermsModel" "FallingTermsModel" "isBorne" "Z") ∈ tg := tg_in 643 (by decide +kernel) rfl
theorem tw_644 : (Jvm.Cond.soleField "FallingTermsModel" "isBorne") ∈ tg := tg_in 644 (by decide +kernel) rfl
theorem tw_645 : (Jvm.Cond.lays "FallingTermsModel" "FallingTermsModel" "above" "J") ∈ tg := tg_in 645 (by decide +kernel) rfl
theorem tw_646 : (Jvm.Cond.soleField "FallingTermsModel" "above") ∈ tg := tg_in 646 (by decide +kernel) rfl
theorem tw_647 : (Jvm.Cond.lays "FallingTermsModel" "FallingTermsModel" "below" "J") ∈ tg := tg_in 647 (by decide +kernel) rfl
theorem tw_648 : (Jvm.Cond.soleField "FallingTermsModel" "below") ∈ tg := tg_in 648 (by decide +kernel) rfl
theorem tw_649 : (Jvm.Cond.lays "FallingTermsModel" "FallingTermsModel" "ga" "J") ∈ tg := tg_in 649 (by decide +kernel) rfl
theorem tw_650 : (Jvm.Cond.soleField "FallingTermsModel" "ga") ∈ tg := tg_in 650 (by decide +kernel) rfl
theorem tw_651 : (Jvm.Cond.lays "FallingTermsModel" "FallingTermsModel" "gb" "J") ∈ tg := tg_in 651 (by decide +kernel) rfl
theorem tw_652 : (Jvm.Cond.soleField "FallingTermsModel" "gb") ∈ tg := tg_in 652 (by decide +kernel) rfl
theorem tw_653 : (Jvm.Cond.lays "FallingTermsModel" "FallingTermsModel" "gc" "J") ∈ tg := tg_in 653 (by decide +kernel) rfl
theorem tw_654 : (Jvm.Cond.soleField "FallingTermsModel" "gc") ∈ tg := tg_in 654 (by decide +kernel) rfl
theorem tw_655 : (Jvm.Cond.lays "FallingTermsModel" "FallingTermsModel" "ua" "J") ∈ tg := tg_in 655 (by decide +kernel) rfl
theorem tw_656 : (Jvm.Cond.soleField "FallingTermsModel" "ua") ∈ tg := tg_in 656 (by decide +kernel) rfl
theorem tw_657 : (Jvm.Cond.lays "FallingTermsModel" "FallingTermsModel" "ub" "J") ∈ tg := tg_in 657 (by decide +kernel) rfl
theorem tw_658 : (Jvm.Cond.soleField "FallingTermsModel" "ub") ∈ tg := tg_in 658 (by decide +kernel) rfl
theorem tw_659 : (Jvm.Cond.lays "FallingTermsModel" "FallingTermsModel" "uc" "J") ∈ tg := tg_in 659 (by decide +kernel) rfl
theorem tw_660 : (Jvm.Cond.soleField "FallingTermsModel" "uc") ∈ tg := tg_in 660 (by decide +kernel) rfl
theorem tw_661 : (Jvm.Cond.lays "FallingTermsModel" "FallingTermsModel" "na" "J") ∈ tg := tg_in 661 (by decide +kernel) rfl
theorem tw_662 : (Jvm.Cond.soleField "FallingTermsModel" "na") ∈ tg := tg_in 662 (by decide +kernel) rfl
theorem tw_663 : (Jvm.Cond.lays "FallingTermsModel" "FallingTermsModel" "nb" "J") ∈ tg := tg_in 663 (by decide +kernel) rfl
theorem tw_664 : (Jvm.Cond.soleField "FallingTermsModel" "nb") ∈ tg := tg_in 664 (by decide +kernel) rfl
theorem tw_665 : (Jvm.Cond.lays "FallingTermsModel" "FallingTermsModel" "nc" "J") ∈ tg := tg_in 665 (by decide +kernel) rfl
theorem tw_666 : (Jvm.Cond.soleField "FallingTermsModel" "nc") ∈ tg := tg_in 666 (by decide +kernel) rfl
theorem tw_667 : (Jvm.Cond.lays "FallingTermsModel" "FallingTermsModel" "nd" "J") ∈ tg := tg_in 667 (by decide +kernel) rfl
theorem tw_668 : (Jvm.Cond.soleField "FallingTermsModel" "nd") ∈ tg := tg_in 668 (by decide +kernel) rfl
theorem tw_669 : (Jvm.Cond.lays "FallingTermsModel" "FallingTermsModel" "kept" "I") ∈ tg := tg_in 669 (by decide +kernel) rfl
theorem tw_670 : (Jvm.Cond.soleField "FallingTermsModel" "kept") ∈ tg := tg_in 670 (by decide +kernel) rfl
theorem tw_671 : (Jvm.Cond.laysFinal "FallingTermsModel" "FallingTermsModel" "keptTerms" "[I") ∈ tg := tg_in 671 (by decide +kernel) rfl
theorem tw_672 : (Jvm.Cond.soleField "FallingTermsModel" "keptTerms") ∈ tg := tg_in 672 (by decide +kernel) rfl
theorem tw_673 : (Jvm.Cond.lays "FallingTermsModel" "FallingTermsModel" "x" "J") ∈ tg := tg_in 673 (by decide +kernel) rfl
theorem tw_674 : (Jvm.Cond.soleField "FallingTermsModel" "x") ∈ tg := tg_in 674 (by decide +kernel) rfl
theorem tw_675 : (Jvm.Cond.lays "FallingTermsModel" "FallingTermsModel" "y" "J") ∈ tg := tg_in 675 (by decide +kernel) rfl
theorem tw_676 : (Jvm.Cond.soleField "FallingTermsModel" "y") ∈ tg := tg_in 676 (by decide +kernel) rfl
theorem tw_677 : (Jvm.Cond.lays "FallingTermsModel" "FallingTermsModel" "z" "J") ∈ tg := tg_in 677 (by decide +kernel) rfl
theorem tw_678 : (Jvm.Cond.soleField "FallingTermsModel" "z") ∈ tg := tg_in 678 (by decide +kernel) rfl
theorem tw_679 : (Jvm.Cond.superclass "FallingTermsModel" "java/lang/Object") ∈ tg := tg_in 679 (by decide +kernel) rfl
theorem tw_680 : (Jvm.Cond.methodLink "FallingTermsLaw" (17 : Nat) ({ cls := "FallingTermsModel", name := "loop", desc := "(I)I" } : Jvm.MethodName)) ∈ tg := tg_in 680 (by decide +kernel) rfl
theorem tw_681 : (Jvm.Cond.instanceMethod ({ cls := "FallingTermsModel", name := "loop", desc := "(I)I" } : Jvm.MethodName)) ∈ tg := tg_in 681 (by decide +kernel) rfl
theorem tw_682 : (Jvm.Cond.selects "FallingTermsModel" ({ cls := "FallingTermsModel", name := "loop", desc := "(I)I" } : Jvm.MethodName) ({ cls := "FallingTermsModel", name := "loop", desc := "(I)I" } : Jvm.MethodName)) ∈ tg := tg_in 682 (by decide +kernel) rfl
theorem tw_683 : (Jvm.Cond.code ({ cls := "FallingTermsModel", name := "loop", desc := "(I)I" } : Jvm.MethodName) prog_8_method_9_code (4 : Nat) (Option.some Jvm.ClassFile.FieldType.int)) ∈ tg := tg_in 683 (by decide +kernel) rfl
theorem tw_684 : (Jvm.Cond.methodLink "FallingTermsModel" (63 : Nat) ({ cls := "FallingTermsModel", name := "isIn", desc := "(III)Z" } : Jvm.MethodName)) ∈ tg := tg_in 684 (by decide +kernel) rfl
theorem tw_685 : (Jvm.Cond.static ({ cls := "FallingTermsModel", name := "isIn", desc := "(III)Z" } : Jvm.MethodName)) ∈ tg := tg_in 685 (by decide +kernel) rfl
theorem tw_686 : (Jvm.Cond.code ({ cls := "FallingTermsModel", name := "isIn", desc := "(III)Z" } : Jvm.MethodName) prog_8_method_3_code (3 : Nat) (Option.some Jvm.ClassFile.FieldType.boolean)) ∈ tg := tg_in 686 (by decide +kernel) rfl
theorem tw_687 : (Jvm.Cond.methodLink "FallingTermsLaw" (22 : Nat) ({ cls := "FallingTermsModel", name := "clear", desc := "()I" } : Jvm.MethodName)) ∈ tg := tg_in 687 (by decide +kernel) rfl
theorem tw_688 : (Jvm.Cond.instanceMethod ({ cls := "FallingTermsModel", name := "clear", desc := "()I" } : Jvm.MethodName)) ∈ tg := tg_in 688 (by decide +kernel) rfl
theorem tw_689 : (Jvm.Cond.selects "FallingTermsModel" ({ cls := "FallingTermsModel", name := "clear", desc := "()I" } : Jvm.MethodName) ({ cls := "FallingTermsModel", name := "clear", desc := "()I" } : Jvm.MethodName)) ∈ tg := tg_in 689 (by decide +kernel) rfl
theorem tw_690 : (Jvm.Cond.code ({ cls := "FallingTermsModel", name := "clear", desc := "()I" } : Jvm.MethodName) prog_8_method_10_code (2 : Nat) (Option.some Jvm.ClassFile.FieldType.int)) ∈ tg := tg_in 690 (by decide +kernel) rfl
theorem tw_691 : (Jvm.Cond.methodLink "FallingTermsLaw" (27 : Nat) ({ cls := "FallingTermsModel", name := "guard", desc := "(IIIII)I" } : Jvm.MethodName)) ∈ tg := tg_in 691 (by decide +kernel) rfl
theorem tw_692 : (Jvm.Cond.instanceMethod ({ cls := "FallingTermsModel", name := "guard", desc := "(IIIII)I" } : Jvm.MethodName)) ∈ tg := tg_in 692 (by decide +kernel) rfl
theorem tw_693 : (Jvm.Cond.selects "FallingTermsModel" ({ cls := "FallingTermsModel", name := "guard", desc := "(IIIII)I" } : Jvm.MethodName) ({ cls := "FallingTermsModel", name := "guard", desc := "(IIIII)I" } : Jvm.MethodName)) ∈ tg := tg_in 693 (by decide +kernel) rfl
theorem tw_694 : (Jvm.Cond.code ({ cls := "FallingTermsModel", name := "guard", desc := "(IIIII)I" } : Jvm.MethodName) prog_8_method_11_code (6 : Nat) (Option.some Jvm.ClassFile.FieldType.int)) ∈ tg := tg_in 694 (by decide +kernel) rfl
theorem tw_695 : (Jvm.Cond.methodLink "FallingTermsModel" (67 : Nat) ({ cls := "FallingTermsModel", name := "isLoop", desc := "(I)Z" } : Jvm.MethodName)) ∈ tg := tg_in 695 (by decide +kernel) rfl
theorem tw_697 : (Jvm.Cond.instanceMethod ({ cls := "FallingTermsModel", name := "isLoop", desc := "(I)Z" } : Jvm.MethodName)) ∈ tg := tg_in 697 (by decide +kernel) rfl
theorem tw_698 : (Jvm.Cond.code ({ cls := "FallingTermsModel", name := "isLoop", desc := "(I)Z" } : Jvm.MethodName) prog_8_method_4_code (2 : Nat) (Option.some Jvm.ClassFile.FieldType.boolean)) ∈ tg := tg_in 698 (by decide +kernel) rfl
theorem tw_699 : (Jvm.Cond.methodLink "FallingTermsModel" (85 : Nat) ({ cls := "FallingTermsModel", name := "isRow", desc := "(IIIII)Z" } : Jvm.MethodName)) ∈ tg := tg_in 699 (by decide +kernel) rfl
theorem tw_701 : (Jvm.Cond.instanceMethod ({ cls := "FallingTermsModel", name := "isRow", desc := "(IIIII)Z" } : Jvm.MethodName)) ∈ tg := tg_in 701 (by decide +kernel) rfl
theorem tw_702 : (Jvm.Cond.code ({ cls := "FallingTermsModel", name := "isRow", desc := "(IIIII)Z" } : Jvm.MethodName) prog_8_method_8_code (6 : Nat) (Option.some Jvm.ClassFile.FieldType.boolean)) ∈ tg := tg_in 702 (by decide +kernel) rfl
theorem tw_703 : (Jvm.Cond.methodLink "FallingTermsModel" (71 : Nat) ({ cls := "FallingTermsModel", name := "areNumbers", desc := "(IIIII)Z" } : Jvm.MethodName)) ∈ tg := tg_in 703 (by decide +kernel) rfl
theorem tw_705 : (Jvm.Cond.instanceMethod ({ cls := "FallingTermsModel", name := "areNumbers", desc := "(IIIII)Z" } : Jvm.MethodName)) ∈ tg := tg_in 705 (by decide +kernel) rfl
theorem tw_706 : (Jvm.Cond.code ({ cls := "FallingTermsModel", name := "areNumbers", desc := "(IIIII)Z" } : Jvm.MethodName) prog_8_method_7_code (6 : Nat) (Option.some Jvm.ClassFile.FieldType.boolean)) ∈ tg := tg_in 706 (by decide +kernel) rfl
theorem tw_707 : (Jvm.Cond.methodLink "FallingTermsModel" (88 : Nat) ({ cls := "FallingTermsModel", name := "lay", desc := "([IIIIII)V" } : Jvm.MethodName)) ∈ tg := tg_in 707 (by decide +kernel) rfl
theorem tw_708 : (Jvm.Cond.static ({ cls := "FallingTermsModel", name := "lay", desc := "([IIIIII)V" } : Jvm.MethodName)) ∈ tg := tg_in 708 (by decide +kernel) rfl
theorem tw_709 : (Jvm.Cond.code ({ cls := "FallingTermsModel", name := "lay", desc := "([IIIIII)V" } : Jvm.MethodName) prog_8_method_12_code (6 : Nat) (Option.none : Option Jvm.ClassFile.FieldType)) ∈ tg := tg_in 709 (by decide +kernel) rfl
theorem tw_710 : (Jvm.Cond.methodLink "FallingTermsLaw" (31 : Nat) ({ cls := "FallingTermsModel", name := "way", desc := "(I)I" } : Jvm.MethodName)) ∈ tg := tg_in 710 (by decide +kernel) rfl
theorem tw_711 : (Jvm.Cond.instanceMethod ({ cls := "FallingTermsModel", name := "way", desc := "(I)I" } : Jvm.MethodName)) ∈ tg := tg_in 711 (by decide +kernel) rfl
theorem tw_712 : (Jvm.Cond.selects "FallingTermsModel" ({ cls := "FallingTermsModel", name := "way", desc := "(I)I" } : Jvm.MethodName) ({ cls := "FallingTermsModel", name := "way", desc := "(I)I" } : Jvm.MethodName)) ∈ tg := tg_in 712 (by decide +kernel) rfl
theorem tw_713 : (Jvm.Cond.code ({ cls := "FallingTermsModel", name := "way", desc := "(I)I" } : Jvm.MethodName) prog_8_method_13_code (4 : Nat) (Option.some Jvm.ClassFile.FieldType.int)) ∈ tg := tg_in 713 (by decide +kernel) rfl
theorem tw_714 : (Jvm.Cond.methodLink "FallingTermsLaw" (36 : Nat) ({ cls := "FallingTermsModel", name := "row", desc := "(IIIIII)I" } : Jvm.MethodName)) ∈ tg := tg_in 714 (by decide +kernel) rfl
theorem tw_715 : (Jvm.Cond.instanceMethod ({ cls := "FallingTermsModel", name := "row", desc := "(IIIIII)I" } : Jvm.MethodName)) ∈ tg := tg_in 715 (by decide +kernel) rfl
theorem tw_716 : (Jvm.Cond.selects "FallingTermsModel" ({ cls := "FallingTermsModel", name := "row", desc := "(IIIIII)I" } : Jvm.MethodName) ({ cls := "FallingTermsModel", name := "row", desc := "(IIIIII)I" } : Jvm.MethodName)) ∈ tg := tg_in 716 (by decide +kernel) rfl
theorem tw_717 : (Jvm.Cond.code ({ cls := "FallingTermsModel", name := "row", desc := "(IIIIII)I" } : Jvm.MethodName) prog_8_method_14_code (8 : Nat) (Option.some Jvm.ClassFile.FieldType.int)) ∈ tg := tg_in 717 (by decide +kernel) rfl
theorem tw_718 : (Jvm.Cond.methodLink "FallingTermsModel" (92 : Nat) ({ cls := "FallingTermsModel", name := "isWay", desc := "(II)Z" } : Jvm.MethodName)) ∈ tg := tg_in 718 (by decide +kernel) rfl
theorem tw_720 : (Jvm.Cond.instanceMethod ({ cls := "FallingTermsModel", name := "isWay", desc := "(II)Z" } : Jvm.MethodName)) ∈ tg := tg_in 720 (by decide +kernel) rfl
theorem tw_721 : (Jvm.Cond.code ({ cls := "FallingTermsModel", name := "isWay", desc := "(II)Z" } : Jvm.MethodName) prog_8_method_5_code (3 : Nat) (Option.some Jvm.ClassFile.FieldType.boolean)) ∈ tg := tg_in 721 (by decide +kernel) rfl
theorem tw_722 : (Jvm.Cond.methodLink "FallingTermsLaw" (40 : Nat) ({ cls := "FallingTermsModel", name := "factor", desc := "(IIIII)I" } : Jvm.MethodName)) ∈ tg := tg_in 722 (by decide +kernel) rfl
theorem tw_723 : (Jvm.Cond.instanceMethod ({ cls := "FallingTermsModel", name := "factor", desc := "(IIIII)I" } : Jvm.MethodName)) ∈ tg := tg_in 723 (by decide +kernel) rfl
theorem tw_724 : (Jvm.Cond.selects "FallingTermsModel" ({ cls := "FallingTermsModel", name := "factor", desc := "(IIIII)I" } : Jvm.MethodName) ({ cls := "FallingTermsModel", name := "factor", desc := "(IIIII)I" } : Jvm.MethodName)) ∈ tg := tg_in 724 (by decide +kernel) rfl
theorem tw_725 : (Jvm.Cond.code ({ cls := "FallingTermsModel", name := "factor", desc := "(IIIII)I" } : Jvm.MethodName) prog_8_method_15_code (8 : Nat) (Option.some Jvm.ClassFile.FieldType.int)) ∈ tg := tg_in 725 (by decide +kernel) rfl
theorem tw_726 : (Jvm.Cond.methodLink "FallingTermsModel" (96 : Nat) ({ cls := "FallingTermsModel", name := "isName", desc := "(II)Z" } : Jvm.MethodName)) ∈ tg := tg_in 726 (by decide +kernel) rfl
theorem tw_728 : (Jvm.Cond.instanceMethod ({ cls := "FallingTermsModel", name := "isName", desc := "(II)Z" } : Jvm.MethodName)) ∈ tg := tg_in 728 (by decide +kernel) rfl
theorem tw_729 : (Jvm.Cond.code ({ cls := "FallingTermsModel", name := "isName", desc := "(II)Z" } : Jvm.MethodName) prog_8_method_6_code (3 : Nat) (Option.some Jvm.ClassFile.FieldType.boolean)) ∈ tg := tg_in 729 (by decide +kernel) rfl
theorem tw_730 : (Jvm.Cond.methodLink "FallingTermsLaw" (45 : Nat) ({ cls := "FallingTermsModel", name := "constant", desc := "(IIII)I" } : Jvm.MethodName)) ∈ tg := tg_in 730 (by decide +kernel) rfl
theorem tw_731 : (Jvm.Cond.instanceMethod ({ cls := "FallingTermsModel", name := "constant", desc := "(IIII)I" } : Jvm.MethodName)) ∈ tg := tg_in 731 (by decide +kernel) rfl
theorem tw_732 : (Jvm.Cond.selects "FallingTermsModel" ({ cls := "FallingTermsModel", name := "constant", desc := "(IIII)I" } : Jvm.MethodName) ({ cls := "FallingTermsModel", name := "constant", desc := "(IIII)I" } : Jvm.MethodName)) ∈ tg := tg_in 732 (by decide +kernel) rfl
theorem tw_733 : (Jvm.Cond.code ({ cls := "FallingTermsModel", name := "constant", desc := "(IIII)I" } : Jvm.MethodName) prog_8_method_16_code (7 : Nat) (Option.some Jvm.ClassFile.FieldType.int)) ∈ tg := tg_in 733 (by decide +kernel) rfl
theorem tw_734 : (Jvm.Cond.methodLink "FallingTermsLaw" (50 : Nat) ({ cls := "FallingTermsModel", name := "told", desc := "(II)I" } : Jvm.MethodName)) ∈ tg := tg_in 734 (by decide +kernel) rfl
theorem tw_735 : (Jvm.Cond.instanceMethod ({ cls := "FallingTermsModel", name := "told", desc := "(II)I" } : Jvm.MethodName)) ∈ tg := tg_in 735 (by decide +kernel) rfl
theorem tw_736 : (Jvm.Cond.selects "FallingTermsModel" ({ cls := "FallingTermsModel", name := "told", desc := "(II)I" } : Jvm.MethodName) ({ cls := "FallingTermsModel", name := "told", desc := "(II)I" } : Jvm.MethodName)) ∈ tg := tg_in 736 (by decide +kernel) rfl
theorem tw_737 : (Jvm.Cond.code ({ cls := "FallingTermsModel", name := "told", desc := "(II)I" } : Jvm.MethodName) prog_8_method_17_code (3 : Nat) (Option.some Jvm.ClassFile.FieldType.int)) ∈ tg := tg_in 737 (by decide +kernel) rfl
theorem tw_738 : (Jvm.Cond.methodLink "FallingTermsLaw" (54 : Nat) ({ cls := "FallingTermsModel", name := "empty", desc := "(II)I" } : Jvm.MethodName)) ∈ tg := tg_in 738 (by decide +kernel) rfl
theorem tw_739 : (Jvm.Cond.instanceMethod ({ cls := "FallingTermsModel", name := "empty", desc := "(II)I" } : Jvm.MethodName)) ∈ tg := tg_in 739 (by decide +kernel) rfl
theorem tw_740 : (Jvm.Cond.selects "FallingTermsModel" ({ cls := "FallingTermsModel", name := "empty", desc := "(II)I" } : Jvm.MethodName) ({ cls := "FallingTermsModel", name := "empty", desc := "(II)I" } : Jvm.MethodName)) ∈ tg := tg_in 740 (by decide +kernel) rfl
theorem tw_741 : (Jvm.Cond.code ({ cls := "FallingTermsModel", name := "empty", desc := "(II)I" } : Jvm.MethodName) prog_8_method_30_code (3 : Nat) (Option.some Jvm.ClassFile.FieldType.int)) ∈ tg := tg_in 741 (by decide +kernel) rfl
theorem tw_742 : (Jvm.Cond.methodLink "FallingTermsModel" (174 : Nat) ({ cls := "FallingTermsModel", name := "space", desc := "(IIZ)V" } : Jvm.MethodName)) ∈ tg := tg_in 742 (by decide +kernel) rfl
theorem tw_744 : (Jvm.Cond.instanceMethod ({ cls := "FallingTermsModel", name := "space", desc := "(IIZ)V" } : Jvm.MethodName)) ∈ tg := tg_in 744 (by decide +kernel) rfl
theorem tw_745 : (Jvm.Cond.code ({ cls := "FallingTermsModel", name := "space", desc := "(IIZ)V" } : Jvm.MethodName) prog_8_method_19_code (7 : Nat) (Option.none : Option Jvm.ClassFile.FieldType)) ∈ tg := tg_in 745 (by decide +kernel) rfl
theorem tw_746 : (Jvm.Cond.methodLink "FallingTermsModel" (102 : Nat) ({ cls := "FallingTermsModel", name := "comes", desc := "(JJJJ)V" } : Jvm.MethodName)) ∈ tg := tg_in 746 (by decide +kernel) rfl
theorem tw_748 : (Jvm.Cond.instanceMethod ({ cls := "FallingTermsModel", name := "comes", desc := "(JJJJ)V" } : Jvm.MethodName)) ∈ tg := tg_in 748 (by decide +kernel) rfl
theorem tw_749 : (Jvm.Cond.code ({ cls := "FallingTermsModel", name := "comes", desc := "(JJJJ)V" } : Jvm.MethodName) prog_8_method_18_code (9 : Nat) (Option.none : Option Jvm.ClassFile.FieldType)) ∈ tg := tg_in 749 (by decide +kernel) rfl
theorem tw_750 : (Jvm.Cond.methodLink "FallingTermsModel" (178 : Nat) ({ cls := "FallingTermsModel", name := "isNothing", desc := "()Z" } : Jvm.MethodName)) ∈ tg := tg_in 750 (by decide +kernel) rfl
theorem tw_752 : (Jvm.Cond.instanceMethod ({ cls := "FallingTermsModel", name := "isNothing", desc := "()Z" } : Jvm.MethodName)) ∈ tg := tg_in 752 (by decide +kernel) rfl
theorem tw_753 : (Jvm.Cond.code ({ cls := "FallingTermsModel", name := "isNothing", desc := "()Z" } : Jvm.MethodName) prog_8_method_27_code (2 : Nat) (Option.some Jvm.ClassFile.FieldType.boolean)) ∈ tg := tg_in 753 (by decide +kernel) rfl
theorem tw_754 : (Jvm.Cond.methodLink "FallingTermsModel" (167 : Nat) ({ cls := "FallingTermsModel", name := "goal", desc := "(JJJ)V" } : Jvm.MethodName)) ∈ tg := tg_in 754 (by decide +kernel) rfl
theorem tw_756 : (Jvm.Cond.instanceMethod ({ cls := "FallingTermsModel", name := "goal", desc := "(JJJ)V" } : Jvm.MethodName)) ∈ tg := tg_in 756 (by decide +kernel) rfl
theorem tw_757 : (Jvm.Cond.code ({ cls := "FallingTermsModel", name := "goal", desc := "(JJJ)V" } : Jvm.MethodName) prog_8_method_20_code (7 : Nat) (Option.none : Option Jvm.ClassFile.FieldType)) ∈ tg := tg_in 757 (by decide +kernel) rfl
theorem tw_758 : (Jvm.Cond.methodLink "FallingTermsModel" (171 : Nat) ({ cls := "FallingTermsModel", name := "least", desc := "(I)V" } : Jvm.MethodName)) ∈ tg := tg_in 758 (by decide +kernel) rfl
theorem tw_760 : (Jvm.Cond.instanceMethod ({ cls := "FallingTermsModel", name := "least", desc := "(I)V" } : Jvm.MethodName)) ∈ tg := tg_in 760 (by decide +kernel) rfl
theorem tw_761 : (Jvm.Cond.code ({ cls := "FallingTermsModel", name := "least", desc := "(I)V" } : Jvm.MethodName) prog_8_method_22_code (5 : Nat) (Option.none : Option Jvm.ClassFile.FieldType)) ∈ tg := tg_in 761 (by decide +kernel) rfl
theorem tw_762 : (Jvm.Cond.methodLink "FallingTermsModel" (137 : Nat) ({ cls := "FallingTermsModel", name := "bears", desc := "(JJ)V" } : Jvm.MethodName)) ∈ tg := tg_in 762 (by decide +kernel) rfl
theorem tw_764 : (Jvm.Cond.instanceMethod ({ cls := "FallingTermsModel", name := "bears", desc := "(JJ)V" } : Jvm.MethodName)) ∈ tg := tg_in 764 (by decide +kernel) rfl
theorem tw_765 : (Jvm.Cond.code ({ cls := "FallingTermsModel", name := "bears", desc := "(JJ)V" } : Jvm.MethodName) prog_8_method_21_code (5 : Nat) (Option.none : Option Jvm.ClassFile.FieldType)) ∈ tg := tg_in 765 (by decide +kernel) rfl
theorem tw_766 : (Jvm.Cond.methodLink "FallingTermsModel" (141 : Nat) ({ cls := "FallingTermsModel", name := "byOne", desc := "(I)V" } : Jvm.MethodName)) ∈ tg := tg_in 766 (by decide +kernel) rfl
theorem tw_768 : (Jvm.Cond.instanceMethod ({ cls := "FallingTermsModel", name := "byOne", desc := "(I)V" } : Jvm.MethodName)) ∈ tg := tg_in 768 (by decide +kernel) rfl
theorem tw_769 : (Jvm.Cond.code ({ cls := "FallingTermsModel", name := "byOne", desc := "(I)V" } : Jvm.MethodName) prog_8_method_23_code (5 : Nat) (Option.none : Option Jvm.ClassFile.FieldType)) ∈ tg := tg_in 769 (by decide +kernel) rfl
theorem tw_770 : (Jvm.Cond.methodLink "FallingTermsModel" (145 : Nat) ({ cls := "FallingTermsModel", name := "byTwo", desc := "(II)V" } : Jvm.MethodName)) ∈ tg := tg_in 770 (by decide +kernel) rfl
theorem tw_772 : (Jvm.Cond.instanceMethod ({ cls := "FallingTermsModel", name := "byTwo", desc := "(II)V" } : Jvm.MethodName)) ∈ tg := tg_in 772 (by decide +kernel) rfl
theorem tw_773 : (Jvm.Cond.code ({ cls := "FallingTermsModel", name := "byTwo", desc := "(II)V" } : Jvm.MethodName) prog_8_method_25_code (9 : Nat) (Option.none : Option Jvm.ClassFile.FieldType)) ∈ tg := tg_in 773 (by decide +kernel) rfl
theorem tw_774 : (Jvm.Cond.methodLink "FallingTermsModel" (162 : Nat) ({ cls := "FallingTermsModel", name := "upright", desc := "(II)V" } : Jvm.MethodName)) ∈ tg := tg_in 774 (by decide +kernel) rfl
theorem tw_776 : (Jvm.Cond.instanceMethod ({ cls := "FallingTermsModel", name := "upright", desc := "(II)V" } : Jvm.MethodName)) ∈ tg := tg_in 776 (by decide +kernel) rfl
theorem tw_777 : (Jvm.Cond.code ({ cls := "FallingTermsModel", name := "upright", desc := "(II)V" } : Jvm.MethodName) prog_8_method_24_code (3 : Nat) (Option.none : Option Jvm.ClassFile.FieldType)) ∈ tg := tg_in 777 (by decide +kernel) rfl
theorem tw_778 : (Jvm.Cond.methodLink "FallingTermsModel" (149 : Nat) ({ cls := "FallingTermsModel", name := "byThree", desc := "(III)V" } : Jvm.MethodName)) ∈ tg := tg_in 778 (by decide +kernel) rfl
theorem tw_780 : (Jvm.Cond.instanceMethod ({ cls := "FallingTermsModel", name := "byThree", desc := "(III)V" } : Jvm.MethodName)) ∈ tg := tg_in 780 (by decide +kernel) rfl
theorem tw_781 : (Jvm.Cond.code ({ cls := "FallingTermsModel", name := "byThree", desc := "(III)V" } : Jvm.MethodName) prog_8_method_26_code (14 : Nat) (Option.none : Option Jvm.ClassFile.FieldType)) ∈ tg := tg_in 781 (by decide +kernel) rfl
theorem tw_782 : (Jvm.Cond.constantLong "FallingTermsModel" (165 : Nat) (-1 : Int64)) ∈ tg := tg_in 782 (by decide +kernel) rfl
theorem tw_783 : (Jvm.Cond.methodLink "FallingTermsLaw" (58 : Nat) ({ cls := "FallingTermsModel", name := "holds", desc := "(IIIIII)I" } : Jvm.MethodName)) ∈ tg := tg_in 783 (by decide +kernel) rfl
theorem tw_784 : (Jvm.Cond.instanceMethod ({ cls := "FallingTermsModel", name := "holds", desc := "(IIIIII)I" } : Jvm.MethodName)) ∈ tg := tg_in 784 (by decide +kernel) rfl
theorem tw_785 : (Jvm.Cond.selects "FallingTermsModel" ({ cls := "FallingTermsModel", name := "holds", desc := "(IIIIII)I" } : Jvm.MethodName) ({ cls := "FallingTermsModel", name := "holds", desc := "(IIIIII)I" } : Jvm.MethodName)) ∈ tg := tg_in 785 (by decide +kernel) rfl
theorem tw_786 : (Jvm.Cond.code ({ cls := "FallingTermsModel", name := "holds", desc := "(IIIIII)I" } : Jvm.MethodName) prog_8_method_31_code (7 : Nat) (Option.some Jvm.ClassFile.FieldType.int)) ∈ tg := tg_in 786 (by decide +kernel) rfl
theorem tw_787 : (Jvm.Cond.methodLink "FallingTermsModel" (182 : Nat) ({ cls := "FallingTermsModel", name := "isLeast", desc := "(J)Z" } : Jvm.MethodName)) ∈ tg := tg_in 787 (by decide +kernel) rfl
theorem tw_789 : (Jvm.Cond.instanceMethod ({ cls := "FallingTermsModel", name := "isLeast", desc := "(J)Z" } : Jvm.MethodName)) ∈ tg := tg_in 789 (by decide +kernel) rfl
theorem tw_790 : (Jvm.Cond.code ({ cls := "FallingTermsModel", name := "isLeast", desc := "(J)Z" } : Jvm.MethodName) prog_8_method_28_code (3 : Nat) (Option.some Jvm.ClassFile.FieldType.boolean)) ∈ tg := tg_in 790 (by decide +kernel) rfl
theorem tw_791 : (Jvm.Cond.methodLink "FallingTermsLaw" (62 : Nat) ({ cls := "FallingTermsModel", name := "term", desc := "(IIIII)I" } : Jvm.MethodName)) ∈ tg := tg_in 791 (by decide +kernel) rfl
theorem tw_792 : (Jvm.Cond.instanceMethod ({ cls := "FallingTermsModel", name := "term", desc := "(IIIII)I" } : Jvm.MethodName)) ∈ tg := tg_in 792 (by decide +kernel) rfl
theorem tw_793 : (Jvm.Cond.selects "FallingTermsModel" ({ cls := "FallingTermsModel", name := "term", desc := "(IIIII)I" } : Jvm.MethodName) ({ cls := "FallingTermsModel", name := "term", desc := "(IIIII)I" } : Jvm.MethodName)) ∈ tg := tg_in 793 (by decide +kernel) rfl
theorem tw_794 : (Jvm.Cond.code ({ cls := "FallingTermsModel", name := "term", desc := "(IIIII)I" } : Jvm.MethodName) prog_8_method_34_code (6 : Nat) (Option.some Jvm.ClassFile.FieldType.int)) ∈ tg := tg_in 794 (by decide +kernel) rfl
theorem tw_795 : (Jvm.Cond.methodLink "FallingTermsModel" (190 : Nat) ({ cls := "FallingTermsModel", name := "isBounded", desc := "(III)Z" } : Jvm.MethodName)) ∈ tg := tg_in 795 (by decide +kernel) rfl
theorem tw_797 : (Jvm.Cond.instanceMethod ({ cls := "FallingTermsModel", name := "isBounded", desc := "(III)Z" } : Jvm.MethodName)) ∈ tg := tg_in 797 (by decide +kernel) rfl
theorem tw_798 : (Jvm.Cond.code ({ cls := "FallingTermsModel", name := "isBounded", desc := "(III)Z" } : Jvm.MethodName) prog_8_method_33_code (4 : Nat) (Option.some Jvm.ClassFile.FieldType.boolean)) ∈ tg := tg_in 798 (by decide +kernel) rfl
theorem tw_799 : (Jvm.Cond.methodLink "FallingTermsModel" (193 : Nat) ({ cls := "FallingTermsModel", name := "falls", desc := "(IIIII)I" } : Jvm.MethodName)) ∈ tg := tg_in 799 (by decide +kernel) rfl
theorem tw_801 : (Jvm.Cond.instanceMethod ({ cls := "FallingTermsModel", name := "falls", desc := "(IIIII)I" } : Jvm.MethodName)) ∈ tg := tg_in 801 (by decide +kernel) rfl
theorem tw_802 : (Jvm.Cond.code ({ cls := "FallingTermsModel", name := "falls", desc := "(IIIII)I" } : Jvm.MethodName) prog_8_method_32_code (8 : Nat) (Option.some Jvm.ClassFile.FieldType.int)) ∈ tg := tg_in 802 (by decide +kernel) rfl
theorem tw_803 : (Jvm.Cond.methodLink "FallingTermsModel" (186 : Nat) ({ cls := "FallingTermsModel", name := "changed", desc := "(IIJJJ)J" } : Jvm.MethodName)) ∈ tg := tg_in 803 (by decide +kernel) rfl
theorem tw_805 : (Jvm.Cond.instanceMethod ({ cls := "FallingTermsModel", name := "changed", desc := "(IIJJJ)J" } : Jvm.MethodName)) ∈ tg := tg_in 805 (by decide +kernel) rfl
theorem tw_806 : (Jvm.Cond.code ({ cls := "FallingTermsModel", name := "changed", desc := "(IIJJJ)J" } : Jvm.MethodName) prog_8_method_29_code (11 : Nat) (Option.some Jvm.ClassFile.FieldType.long)) ∈ tg := tg_in 806 (by decide +kernel) rfl
theorem tw_807 : (Jvm.Cond.methodLink "FallingTermsLaw" (66 : Nat) ({ cls := "FallingTermsModel", name := "prove", desc := "(I)I" } : Jvm.MethodName)) ∈ tg := tg_in 807 (by decide +kernel) rfl
theorem tw_808 : (Jvm.Cond.instanceMethod ({ cls := "FallingTermsModel", name := "prove", desc := "(I)I" } : Jvm.MethodName)) ∈ tg := tg_in 808 (by decide +kernel) rfl
theorem tw_809 : (Jvm.Cond.selects "FallingTermsModel" ({ cls := "FallingTermsModel", name := "prove", desc := "(I)I" } : Jvm.MethodName) ({ cls := "FallingTermsModel", name := "prove", desc := "(I)I" } : Jvm.MethodName)) ∈ tg := tg_in 809 (by decide +kernel) rfl
theorem tw_810 : (Jvm.Cond.code ({ cls := "FallingTermsModel", name := "prove", desc := "(I)I" } : Jvm.MethodName) prog_8_method_37_code (3 : Nat) (Option.some Jvm.ClassFile.FieldType.int)) ∈ tg := tg_in 810 (by decide +kernel) rfl
theorem tw_811 : (Jvm.Cond.methodLink "FallingTermsModel" (204 : Nat) ({ cls := "FallingTermsModel", name := "leftBy", desc := "(IZ)I" } : Jvm.MethodName)) ∈ tg := tg_in 811 (by decide +kernel) rfl
theorem tw_813 : (Jvm.Cond.instanceMethod ({ cls := "FallingTermsModel", name := "leftBy", desc := "(IZ)I" } : Jvm.MethodName)) ∈ tg := tg_in 813 (by decide +kernel) rfl
theorem tw_814 : (Jvm.Cond.code ({ cls := "FallingTermsModel", name := "leftBy", desc := "(IZ)I" } : Jvm.MethodName) prog_8_method_35_code (11 : Nat) (Option.some Jvm.ClassFile.FieldType.int)) ∈ tg := tg_in 814 (by decide +kernel) rfl
theorem tw_815 : (Jvm.Cond.methodLink "FallingTermsModel" (200 : Nat) ({ cls := "FallingTermsModel", name := "taken", desc := "(IZIIIII)I" } : Jvm.MethodName)) ∈ tg := tg_in 815 (by decide +kernel) rfl
theorem tw_817 : (Jvm.Cond.instanceMethod ({ cls := "FallingTermsModel", name := "taken", desc := "(IZIIIII)I" } : Jvm.MethodName)) ∈ tg := tg_in 817 (by decide +kernel) rfl
theorem tw_818 : (Jvm.Cond.code ({ cls := "FallingTermsModel", name := "taken", desc := "(IZIIIII)I" } : Jvm.MethodName) prog_8_method_36_code (12 : Nat) (Option.some Jvm.ClassFile.FieldType.int)) ∈ tg := tg_in 818 (by decide +kernel) rfl
theorem tw_819 : (Jvm.Cond.methodLink "FallingTermsLaw" (70 : Nat) ({ cls := "FallingTermsModel", name := "proof", desc := "(II)I" } : Jvm.MethodName)) ∈ tg := tg_in 819 (by decide +kernel) rfl
theorem tw_820 : (Jvm.Cond.instanceMethod ({ cls := "FallingTermsModel", name := "proof", desc := "(II)I" } : Jvm.MethodName)) ∈ tg := tg_in 820 (by decide +kernel) rfl
theorem tw_821 : (Jvm.Cond.selects "FallingTermsModel" ({ cls := "FallingTermsModel", name := "proof", desc := "(II)I" } : Jvm.MethodName) ({ cls := "FallingTermsModel", name := "proof", desc := "(II)I" } : Jvm.MethodName)) ∈ tg := tg_in 821 (by decide +kernel) rfl
theorem tw_822 : (Jvm.Cond.code ({ cls := "FallingTermsModel", name := "proof", desc := "(II)I" } : Jvm.MethodName) prog_8_method_38_code (3 : Nat) (Option.some Jvm.ClassFile.FieldType.int)) ∈ tg := tg_in 822 (by decide +kernel) rfl
theorem tw_823 : (Jvm.Cond.methodLink "FallingTermsLaw" (74 : Nat) ({ cls := "FallingTermsModel", name := "left", desc := "()I" } : Jvm.MethodName)) ∈ tg := tg_in 823 (by decide +kernel) rfl
theorem tw_824 : (Jvm.Cond.instanceMethod ({ cls := "FallingTermsModel", name := "left", desc := "()I" } : Jvm.MethodName)) ∈ tg := tg_in 824 (by decide +kernel) rfl
theorem tw_825 : (Jvm.Cond.selects "FallingTermsModel" ({ cls := "FallingTermsModel", name := "left", desc := "()I" } : Jvm.MethodName) ({ cls := "FallingTermsModel", name := "left", desc := "()I" } : Jvm.MethodName)) ∈ tg := tg_in 825 (by decide +kernel) rfl
theorem tw_826 : (Jvm.Cond.code ({ cls := "FallingTermsModel", name := "left", desc := "()I" } : Jvm.MethodName) prog_8_method_39_code (1 : Nat) (Option.some Jvm.ClassFile.FieldType.int)) ∈ tg := tg_in 826 (by decide +kernel) rfl
theorem tw_827 : (Jvm.Cond.methodLink "FallingTermsLaw" (78 : Nat) ({ cls := "FallingTermsModel", name := "need", desc := "(I)I" } : Jvm.MethodName)) ∈ tg := tg_in 827 (by decide +kernel) rfl
theorem tw_828 : (Jvm.Cond.instanceMethod ({ cls := "FallingTermsModel", name := "need", desc := "(I)I" } : Jvm.MethodName)) ∈ tg := tg_in 828 (by decide +kernel) rfl
theorem tw_829 : (Jvm.Cond.selects "FallingTermsModel" ({ cls := "FallingTermsModel", name := "need", desc := "(I)I" } : Jvm.MethodName) ({ cls := "FallingTermsModel", name := "need", desc := "(I)I" } : Jvm.MethodName)) ∈ tg := tg_in 829 (by decide +kernel) rfl
theorem tw_830 : (Jvm.Cond.code ({ cls := "FallingTermsModel", name := "need", desc := "(I)I" } : Jvm.MethodName) prog_8_method_41_code (7 : Nat) (Option.some Jvm.ClassFile.FieldType.int)) ∈ tg := tg_in 830 (by decide +kernel) rfl
theorem tw_831 : (Jvm.Cond.methodLink "FallingTermsModel" (208 : Nat) ({ cls := "FallingTermsModel", name := "lasts", desc := "(I)Z" } : Jvm.MethodName)) ∈ tg := tg_in 831 (by decide +kernel) rfl
theorem tw_833 : (Jvm.Cond.instanceMethod ({ cls := "FallingTermsModel", name := "lasts", desc := "(I)Z" } : Jvm.MethodName)) ∈ tg := tg_in 833 (by decide +kernel) rfl
theorem tw_834 : (Jvm.Cond.code ({ cls := "FallingTermsModel", name := "lasts", desc := "(I)Z" } : Jvm.MethodName) prog_8_method_40_code (5 : Nat) (Option.some Jvm.ClassFile.FieldType.boolean)) ∈ tg := tg_in 834 (by decide +kernel) rfl
theorem tw_835 : (Jvm.Cond.methodLink "FallingTermsLaw" (82 : Nat) ({ cls := "FallingTermsModel", name := "needed", desc := "(I)I" } : Jvm.MethodName)) ∈ tg := tg_in 835 (by decide +kernel) rfl
theorem tw_836 : (Jvm.Cond.instanceMethod ({ cls := "FallingTermsModel", name := "needed", desc := "(I)I" } : Jvm.MethodName)) ∈ tg := tg_in 836 (by decide +kernel) rfl
theorem tw_837 : (Jvm.Cond.selects "FallingTermsModel" ({ cls := "FallingTermsModel", name := "needed", desc := "(I)I" } : Jvm.MethodName) ({ cls := "FallingTermsModel", name := "needed", desc := "(I)I" } : Jvm.MethodName)) ∈ tg := tg_in 837 (by decide +kernel) rfl
theorem tw_838 : (Jvm.Cond.code ({ cls := "FallingTermsModel", name := "needed", desc := "(I)I" } : Jvm.MethodName) prog_8_method_42_code (2 : Nat) (Option.some Jvm.ClassFile.FieldType.int)) ∈ tg := tg_in 838 (by decide +kernel) rfl
theorem tw_839 : (Jvm.Cond.methodLink "FallingTermsLaw" (87 : Nat) ({ cls := "FallingTermsModel", name := "put", desc := "(III)I" } : Jvm.MethodName)) ∈ tg := tg_in 839 (by decide +kernel) rfl
theorem tw_840 : (Jvm.Cond.instanceMethod ({ cls := "FallingTermsModel", name := "put", desc := "(III)I" } : Jvm.MethodName)) ∈ tg := tg_in 840 (by decide +kernel) rfl
theorem tw_841 : (Jvm.Cond.selects "FallingTermsModel" ({ cls := "FallingTermsModel", name := "put", desc := "(III)I" } : Jvm.MethodName) ({ cls := "FallingTermsModel", name := "put", desc := "(III)I" } : Jvm.MethodName)) ∈ tg := tg_in 841 (by decide +kernel) rfl
theorem tw_842 : (Jvm.Cond.code ({ cls := "FallingTermsModel", name := "put", desc := "(III)I" } : Jvm.MethodName) prog_8_method_43_code (4 : Nat) (Option.some Jvm.ClassFile.FieldType.int)) ∈ tg := tg_in 842 (by decide +kernel) rfl
theorem tw_843 : (Jvm.Cond.constant "FallingTermsModel" (211 : Nat) (-1000000 : Int32)) ∈ tg := tg_in 843 (by decide +kernel) rfl
theorem tw_844 : (Jvm.Cond.constant "FallingTermsModel" (212 : Nat) (1000000 : Int32)) ∈ tg := tg_in 844 (by decide +kernel) rfl
theorem tw_845 : (Jvm.Cond.methodLink "FallingTermsLaw" (92 : Nat) ({ cls := "FallingTermsModel", name := "at", desc := "(II)J" } : Jvm.MethodName)) ∈ tg := tg_in 845 (by decide +kernel) rfl
theorem tw_846 : (Jvm.Cond.instanceMethod ({ cls := "FallingTermsModel", name := "at", desc := "(II)J" } : Jvm.MethodName)) ∈ tg := tg_in 846 (by decide +kernel) rfl
theorem tw_847 : (Jvm.Cond.selects "FallingTermsModel" ({ cls := "FallingTermsModel", name := "at", desc := "(II)J" } : Jvm.MethodName) ({ cls := "FallingTermsModel", name := "at", desc := "(II)J" } : Jvm.MethodName)) ∈ tg := tg_in 847 (by decide +kernel) rfl
theorem tw_848 : (Jvm.Cond.code ({ cls := "FallingTermsModel", name := "at", desc := "(II)J" } : Jvm.MethodName) prog_8_method_44_code (3 : Nat) (Option.some Jvm.ClassFile.FieldType.long)) ∈ tg := tg_in 848 (by decide +kernel) rfl
theorem tw_849 : (Jvm.Cond.constantLong "FallingTermsModel" (213 : Nat) (-9000000000000 : Int64)) ∈ tg := tg_in 849 (by decide +kernel) rfl
theorem tw_850 : (Jvm.Cond.methodLink "FallingTermsLaw" (96 : Nat) ({ cls := "FallingTermsModel", name := "open", desc := "(I)I" } : Jvm.MethodName)) ∈ tg := tg_in 850 (by decide +kernel) rfl
theorem tw_851 : (Jvm.Cond.instanceMethod ({ cls := "FallingTermsModel", name := "open", desc := "(I)I" } : Jvm.MethodName)) ∈ tg := tg_in 851 (by decide +kernel) rfl
theorem tw_852 : (Jvm.Cond.selects "FallingTermsModel" ({ cls := "FallingTermsModel", name := "open", desc := "(I)I" } : Jvm.MethodName) ({ cls := "FallingTermsModel", name := "open", desc := "(I)I" } : Jvm.MethodName)) ∈ tg := tg_in 852 (by decide +kernel) rfl
theorem tw_853 : (Jvm.Cond.code ({ cls := "FallingTermsModel", name := "open", desc := "(I)I" } : Jvm.MethodName) prog_8_method_53_code (2 : Nat) (Option.some Jvm.ClassFile.FieldType.int)) ∈ tg := tg_in 853 (by decide +kernel) rfl
theorem tw_854 : (Jvm.Cond.methodLink "FallingTermsModel" (246 : Nat) ({ cls := "FallingTermsModel", name := "stand", desc := "(I)V" } : Jvm.MethodName)) ∈ tg := tg_in 854 (by decide +kernel) rfl
theorem tw_856 : (Jvm.Cond.instanceMethod ({ cls := "FallingTermsModel", name := "stand", desc := "(I)V" } : Jvm.MethodName)) ∈ tg := tg_in 856 (by decide +kernel) rfl
theorem tw_857 : (Jvm.Cond.code ({ cls := "FallingTermsModel", name := "stand", desc := "(I)V" } : Jvm.MethodName) prog_8_method_45_code (2 : Nat) (Option.none : Option Jvm.ClassFile.FieldType)) ∈ tg := tg_in 857 (by decide +kernel) rfl
theorem tw_858 : (Jvm.Cond.methodLink "FallingTermsModel" (239 : Nat) ({ cls := "FallingTermsModel", name := "openAt", desc := "(I)I" } : Jvm.MethodName)) ∈ tg := tg_in 858 (by decide +kernel) rfl
theorem tw_860 : (Jvm.Cond.instanceMethod ({ cls := "FallingTermsModel", name := "openAt", desc := "(I)I" } : Jvm.MethodName)) ∈ tg := tg_in 860 (by decide +kernel) rfl
theorem tw_861 : (Jvm.Cond.code ({ cls := "FallingTermsModel", name := "openAt", desc := "(I)I" } : Jvm.MethodName) prog_8_method_48_code (7 : Nat) (Option.some Jvm.ClassFile.FieldType.int)) ∈ tg := tg_in 861 (by decide +kernel) rfl
theorem tw_862 : (Jvm.Cond.methodLink "FallingTermsModel" (224 : Nat) ({ cls := "FallingTermsModel", name := "isMet", desc := "([II)Z" } : Jvm.MethodName)) ∈ tg := tg_in 862 (by decide +kernel) rfl
theorem tw_864 : (Jvm.Cond.instanceMethod ({ cls := "FallingTermsModel", name := "isMet", desc := "([II)Z" } : Jvm.MethodName)) ∈ tg := tg_in 864 (by decide +kernel) rfl
theorem tw_865 : (Jvm.Cond.code ({ cls := "FallingTermsModel", name := "isMet", desc := "([II)Z" } : Jvm.MethodName) prog_8_method_47_code (3 : Nat) (Option.some Jvm.ClassFile.FieldType.boolean)) ∈ tg := tg_in 865 (by decide +kernel) rfl
theorem tw_866 : (Jvm.Cond.methodLink "FallingTermsLaw" (100 : Nat) ({ cls := "FallingTermsModel", name := "step", desc := "(I)I" } : Jvm.MethodName)) ∈ tg := tg_in 866 (by decide +kernel) rfl
theorem tw_867 : (Jvm.Cond.instanceMethod ({ cls := "FallingTermsModel", name := "step", desc := "(I)I" } : Jvm.MethodName)) ∈ tg := tg_in 867 (by decide +kernel) rfl
theorem tw_868 : (Jvm.Cond.selects "FallingTermsModel" ({ cls := "FallingTermsModel", name := "step", desc := "(I)I" } : Jvm.MethodName) ({ cls := "FallingTermsModel", name := "step", desc := "(I)I" } : Jvm.MethodName)) ∈ tg := tg_in 868 (by decide +kernel) rfl
theorem tw_869 : (Jvm.Cond.code ({ cls := "FallingTermsModel", name := "step", desc := "(I)I" } : Jvm.MethodName) prog_8_method_54_code (3 : Nat) (Option.some Jvm.ClassFile.FieldType.int)) ∈ tg := tg_in 869 (by decide +kernel) rfl
theorem tw_870 : (Jvm.Cond.methodLink "FallingTermsModel" (249 : Nat) ({ cls := "FallingTermsModel", name := "walks", desc := "(I)I" } : Jvm.MethodName)) ∈ tg := tg_in 870 (by decide +kernel) rfl
theorem tw_872 : (Jvm.Cond.instanceMethod ({ cls := "FallingTermsModel", name := "walks", desc := "(I)I" } : Jvm.MethodName)) ∈ tg := tg_in 872 (by decide +kernel) rfl
theorem tw_873 : (Jvm.Cond.code ({ cls := "FallingTermsModel", name := "walks", desc := "(I)I" } : Jvm.MethodName) prog_8_method_52_code (4 : Nat) (Option.some Jvm.ClassFile.FieldType.int)) ∈ tg := tg_in 873 (by decide +kernel) rfl
theorem tw_874 : (Jvm.Cond.methodLink "FallingTermsModel" (243 : Nat) ({ cls := "FallingTermsModel", name := "goes", desc := "(II)Z" } : Jvm.MethodName)) ∈ tg := tg_in 874 (by decide +kernel) rfl
theorem tw_876 : (Jvm.Cond.instanceMethod ({ cls := "FallingTermsModel", name := "goes", desc := "(II)Z" } : Jvm.MethodName)) ∈ tg := tg_in 876 (by decide +kernel) rfl
theorem tw_877 : (Jvm.Cond.code ({ cls := "FallingTermsModel", name := "goes", desc := "(II)Z" } : Jvm.MethodName) prog_8_method_51_code (11 : Nat) (Option.some Jvm.ClassFile.FieldType.boolean)) ∈ tg := tg_in 877 (by decide +kernel) rfl
theorem tw_878 : (Jvm.Cond.methodLink "FallingTermsModel" (232 : Nat) ({ cls := "FallingTermsModel", name := "becomes", desc := "(II)J" } : Jvm.MethodName)) ∈ tg := tg_in 878 (by decide +kernel) rfl
theorem tw_880 : (Jvm.Cond.instanceMethod ({ cls := "FallingTermsModel", name := "becomes", desc := "(II)J" } : Jvm.MethodName)) ∈ tg := tg_in 880 (by decide +kernel) rfl
theorem tw_881 : (Jvm.Cond.code ({ cls := "FallingTermsModel", name := "becomes", desc := "(II)J" } : Jvm.MethodName) prog_8_method_49_code (4 : Nat) (Option.some Jvm.ClassFile.FieldType.long)) ∈ tg := tg_in 881 (by decide +kernel) rfl
theorem tw_882 : (Jvm.Cond.methodLink "FallingTermsModel" (236 : Nat) ({ cls := "FallingTermsModel", name := "isNear", desc := "(J)Z" } : Jvm.MethodName)) ∈ tg := tg_in 882 (by decide +kernel) rfl
theorem tw_883 : (Jvm.Cond.static ({ cls := "FallingTermsModel", name := "isNear", desc := "(J)Z" } : Jvm.MethodName)) ∈ tg := tg_in 883 (by decide +kernel) rfl
theorem tw_884 : (Jvm.Cond.code ({ cls := "FallingTermsModel", name := "isNear", desc := "(J)Z" } : Jvm.MethodName) prog_8_method_50_code (2 : Nat) (Option.some Jvm.ClassFile.FieldType.boolean)) ∈ tg := tg_in 884 (by decide +kernel) rfl
theorem tw_885 : (Jvm.Cond.constantLong "FallingTermsModel" (228 : Nat) (-1000000000000 : Int64)) ∈ tg := tg_in 885 (by decide +kernel) rfl
theorem tw_886 : (Jvm.Cond.constantLong "FallingTermsModel" (230 : Nat) (1000000000000 : Int64)) ∈ tg := tg_in 886 (by decide +kernel) rfl
theorem tw_887 : (Jvm.Cond.methodLink "FallingTermsModel" (252 : Nat) ({ cls := "FallingTermsModel", name := "stay", desc := "(I)V" } : Jvm.MethodName)) ∈ tg := tg_in 887 (by decide +kernel) rfl
theorem tw_889 : (Jvm.Cond.instanceMethod ({ cls := "FallingTermsModel", name := "stay", desc := "(I)V" } : Jvm.MethodName)) ∈ tg := tg_in 889 (by decide +kernel) rfl
theorem tw_890 : (Jvm.Cond.code ({ cls := "FallingTermsModel", name := "stay", desc := "(I)V" } : Jvm.MethodName) prog_8_method_46_code (2 : Nat) (Option.none : Option Jvm.ClassFile.FieldType)) ∈ tg := tg_in 890 (by decide +kernel) rfl
theorem tw_891 : (Jvm.Cond.methodLink "FallingTermsLaw" (104 : Nat) ({ cls := "FallingTermsModel", name := "go", desc := "(II)I" } : Jvm.MethodName)) ∈ tg := tg_in 891 (by decide +kernel) rfl
theorem tw_892 : (Jvm.Cond.instanceMethod ({ cls := "FallingTermsModel", name := "go", desc := "(II)I" } : Jvm.MethodName)) ∈ tg := tg_in 892 (by decide +kernel) rfl
theorem tw_893 : (Jvm.Cond.selects "FallingTermsModel" ({ cls := "FallingTermsModel", name := "go", desc := "(II)I" } : Jvm.MethodName) ({ cls := "FallingTermsModel", name := "go", desc := "(II)I" } : Jvm.MethodName)) ∈ tg := tg_in 893 (by decide +kernel) rfl
theorem tw_894 : (Jvm.Cond.code ({ cls := "FallingTermsModel", name := "go", desc := "(II)I" } : Jvm.MethodName) prog_8_method_55_code (4 : Nat) (Option.some Jvm.ClassFile.FieldType.int)) ∈ tg := tg_in 894 (by decide +kernel) rfl
theorem tw_895 : (Jvm.Cond.methodLink "FallingTermsLaw" (108 : Nat) ({ cls := "FallingTermsModel", name := "walk", desc := "(II)I" } : Jvm.MethodName)) ∈ tg := tg_in 895 (by decide +kernel) rfl
theorem tw_896 : (Jvm.Cond.instanceMethod ({ cls := "FallingTermsModel", name := "walk", desc := "(II)I" } : Jvm.MethodName)) ∈ tg := tg_in 896 (by decide +kernel) rfl
theorem tw_897 : (Jvm.Cond.selects "FallingTermsModel" ({ cls := "FallingTermsModel", name := "walk", desc := "(II)I" } : Jvm.MethodName) ({ cls := "FallingTermsModel", name := "walk", desc := "(II)I" } : Jvm.MethodName)) ∈ tg := tg_in 897 (by decide +kernel) rfl
theorem tw_898 : (Jvm.Cond.code ({ cls := "FallingTermsModel", name := "walk", desc := "(II)I" } : Jvm.MethodName) prog_8_method_56_code (4 : Nat) (Option.some Jvm.ClassFile.FieldType.int)) ∈ tg := tg_in 898 (by decide +kernel) rfl
theorem tw_899 : (Jvm.Cond.methodLink "FallingTermsLaw" (112 : Nat) ({ cls := "FallingTermsModel", name := "ring", desc := "(II)I" } : Jvm.MethodName)) ∈ tg := tg_in 899 (by decide +kernel) rfl
theorem tw_900 : (Jvm.Cond.instanceMethod ({ cls := "FallingTermsModel", name := "ring", desc := "(II)I" } : Jvm.MethodName)) ∈ tg := tg_in 900 (by decide +kernel) rfl
theorem tw_901 : (Jvm.Cond.selects "FallingTermsModel" ({ cls := "FallingTermsModel", name := "ring", desc := "(II)I" } : Jvm.MethodName) ({ cls := "FallingTermsModel", name := "ring", desc := "(II)I" } : Jvm.MethodName)) ∈ tg := tg_in 901 (by decide +kernel) rfl
theorem tw_902 : (Jvm.Cond.code ({ cls := "FallingTermsModel", name := "ring", desc := "(II)I" } : Jvm.MethodName) prog_8_method_57_code (10 : Nat) (Option.some Jvm.ClassFile.FieldType.int)) ∈ tg := tg_in 902 (by decide +kernel) rfl
theorem tw_903 : (Jvm.Cond.methodLink "FallingTermsModel" (255 : Nat) ({ cls := "FallingTermsModel", name := "comesBack", desc := "(IIII)I" } : Jvm.MethodName)) ∈ tg := tg_in 903 (by decide +kernel) rfl
theorem tw_905 : (Jvm.Cond.instanceMethod ({ cls := "FallingTermsModel", name := "comesBack", desc := "(IIII)I" } : Jvm.MethodName)) ∈ tg := tg_in 905 (by decide +kernel) rfl
theorem tw_906 : (Jvm.Cond.code ({ cls := "FallingTermsModel", name := "comesBack", desc := "(IIII)I" } : Jvm.MethodName) prog_8_method_58_code (6 : Nat) (Option.some Jvm.ClassFile.FieldType.int)) ∈ tg := tg_in 906 (by decide +kernel) rfl
theorem tw_907 : (Jvm.Cond.methodLink "FallingTermsLaw" (116 : Nat) ({ cls := "FallingTermsModel", name := "loops", desc := "()I" } : Jvm.MethodName)) ∈ tg := tg_in 907 (by decide +kernel) rfl
theorem tw_908 : (Jvm.Cond.instanceMethod ({ cls := "FallingTermsModel", name := "loops", desc := "()I" } : Jvm.MethodName)) ∈ tg := tg_in 908 (by decide +kernel) rfl
theorem tw_909 : (Jvm.Cond.selects "FallingTermsModel" ({ cls := "FallingTermsModel", name := "loops", desc := "()I" } : Jvm.MethodName) ({ cls := "FallingTermsModel", name := "loops", desc := "()I" } : Jvm.MethodName)) ∈ tg := tg_in 909 (by decide +kernel) rfl
theorem tw_910 : (Jvm.Cond.code ({ cls := "FallingTermsModel", name := "loops", desc := "()I" } : Jvm.MethodName) prog_8_method_59_code (1 : Nat) (Option.some Jvm.ClassFile.FieldType.int)) ∈ tg := tg_in 910 (by decide +kernel) rfl
theorem in_Lp : ∀ w ∈ u_ws R_Lp F_Lp 6, w ∈ tg := by decide +kernel
theorem in_Pf : ∀ w ∈ u_ws R_Pf F_Pf 3, w ∈ tg := by decide +kernel
theorem in_Rw : ∀ w ∈ u_ws R_Rw F_Rw 3, w ∈ tg := by decide +kernel
theorem in_Sp : ∀ w ∈ u_ws R_Sp F_Sp 8, w ∈ tg := by decide +kernel
theorem in_Wy : ∀ w ∈ u_ws R_Wy F_Wy 3, w ∈ tg := by decide +kernel
theorem in_FT : ∀ w ∈ u_ws R_FT F_FT 11, w ∈ tg := by decide +kernel
theorem in_Md : ∀ w ∈ u_ws R_Md F_Md 38, w ∈ tg := by decide +kernel
end
section
theorem d_Md_init_0 : decode b_Md_init 0 = .ok (.aload_n 0, 1) := by decide +kernel
theorem d_Md_init_1 : decode b_Md_init 1 = .ok (.invokespecial 1, 3) := by decide +kernel
theorem d_Md_init_4 : decode b_Md_init 4 = .ok (.aload_n 0, 1) := by decide +kernel
theorem d_Md_init_5 : decode b_Md_init 5 = .ok (.bipush 8, 2) := by decide +kernel
theorem d_Md_init_7 : decode b_Md_init 7 = .ok (.newarray .int, 2) := by decide +kernel
theorem d_Md_init_9 : decode b_Md_init 9 = .ok (.putfield 7, 3) := by decide +kernel
theorem d_Md_init_12 : decode b_Md_init 12 = .ok (.aload_n 0, 1) := by decide +kernel
theorem d_Md_init_13 : decode b_Md_init 13 = .ok (.bipush 8, 2) := by decide +kernel
theorem d_Md_init_15 : decode b_Md_init 15 = .ok (.newarray .int, 2) := by decide +kernel
theorem d_Md_init_17 : decode b_Md_init 17 = .ok (.putfield 13, 3) := by decide +kernel
theorem d_Md_init_20 : decode b_Md_init 20 = .ok (.aload_n 0, 1) := by decide +kernel
theorem d_Md_init_21 : decode b_Md_init 21 = .ok (.bipush 8, 2) := by decide +kernel
theorem d_Md_init_23 : decode b_Md_init 23 = .ok (.newarray .int, 2) := by decide +kernel
theorem d_Md_init_25 : decode b_Md_init 25 = .ok (.putfield 16, 3) := by decide +kernel
theorem d_Md_init_28 : decode b_Md_init 28 = .ok (.aload_n 0, 1) := by decide +kernel
theorem d_Md_init_29 : decode b_Md_init 29 = .ok (.sipush 128, 3) := by decide +kernel
theorem d_Md_init_32 : decode b_Md_init 32 = .ok (.newarray .int, 2) := by decide +kernel
theorem d_Md_init_34 : decode b_Md_init 34 = .ok (.putfield 19, 3) := by decide +kernel
theorem d_Md_init_37 : decode b_Md_init 37 = .ok (.aload_n 0, 1) := by decide +kernel
theorem d_Md_init_38 : decode b_Md_init 38 = .ok (.bipush 24, 2) := by decide +kernel
theorem d_Md_init_40 : decode b_Md_init 40 = .ok (.newarray .int, 2) := by decide +kernel
theorem d_Md_init_42 : decode b_Md_init 42 = .ok (.putfield 22, 3) := by decide +kernel
theorem d_Md_init_45 : decode b_Md_init 45 = .ok (.aload_n 0, 1) := by decide +kernel
theorem d_Md_init_46 : decode b_Md_init 46 = .ok (.sipush 192, 3) := by decide +kernel
theorem d_Md_init_49 : decode b_Md_init 49 = .ok (.newarray .int, 2) := by decide +kernel
theorem d_Md_init_51 : decode b_Md_init 51 = .ok (.putfield 25, 3) := by decide +kernel
theorem d_Md_init_54 : decode b_Md_init 54 = .ok (.aload_n 0, 1) := by decide +kernel
theorem d_Md_init_55 : decode b_Md_init 55 = .ok (.sipush 216, 3) := by decide +kernel
theorem d_Md_init_58 : decode b_Md_init 58 = .ok (.newarray .int, 2) := by decide +kernel
theorem d_Md_init_60 : decode b_Md_init 60 = .ok (.putfield 28, 3) := by decide +kernel
theorem d_Md_init_63 : decode b_Md_init 63 = .ok (.aload_n 0, 1) := by decide +kernel
theorem d_Md_init_64 : decode b_Md_init 64 = .ok (.bipush 72, 2) := by decide +kernel
theorem d_Md_init_66 : decode b_Md_init 66 = .ok (.newarray .int, 2) := by decide +kernel
theorem d_Md_init_68 : decode b_Md_init 68 = .ok (.putfield 31, 3) := by decide +kernel
theorem d_Md_init_71 : decode b_Md_init 71 = .ok (.aload_n 0, 1) := by decide +kernel
theorem d_Md_init_72 : decode b_Md_init 72 = .ok (.bipush 24, 2) := by decide +kernel
theorem d_Md_init_74 : decode b_Md_init 74 = .ok (.newarray .long, 2) := by decide +kernel
theorem d_Md_init_76 : decode b_Md_init 76 = .ok (.putfield 34, 3) := by decide +kernel
theorem d_Md_init_79 : decode b_Md_init 79 = .ok (.aload_n 0, 1) := by decide +kernel
theorem d_Md_init_80 : decode b_Md_init 80 = .ok (.bipush 12, 2) := by decide +kernel
theorem d_Md_init_82 : decode b_Md_init 82 = .ok (.newarray .int, 2) := by decide +kernel
theorem d_Md_init_84 : decode b_Md_init 84 = .ok (.putfield 38, 3) := by decide +kernel
theorem d_Md_init_87 : decode b_Md_init 87 = .ok (.aload_n 0, 1) := by decide +kernel
theorem d_Md_init_88 : decode b_Md_init 88 = .ok (.iconst 4, 1) := by decide +kernel
theorem d_Md_init_89 : decode b_Md_init 89 = .ok (.newarray .int, 2) := by decide +kernel
theorem d_Md_init_91 : decode b_Md_init 91 = .ok (.putfield 41, 3) := by decide +kernel
theorem d_Md_init_94 : decode b_Md_init 94 = .ok (.aload_n 0, 1) := by decide +kernel
theorem d_Md_init_95 : decode b_Md_init 95 = .ok (.bipush 8, 2) := by decide +kernel
theorem d_Md_init_97 : decode b_Md_init 97 = .ok (.newarray .long, 2) := by decide +kernel
theorem d_Md_init_99 : decode b_Md_init 99 = .ok (.putfield 44, 3) := by decide +kernel
theorem d_Md_init_102 : decode b_Md_init 102 = .ok (.aload_n 0, 1) := by decide +kernel
theorem d_Md_init_103 : decode b_Md_init 103 = .ok (.bipush 8, 2) := by decide +kernel
theorem d_Md_init_105 : decode b_Md_init 105 = .ok (.newarray .long, 2) := by decide +kernel
theorem d_Md_init_107 : decode b_Md_init 107 = .ok (.putfield 47, 3) := by decide +kernel
theorem d_Md_init_110 : decode b_Md_init 110 = .ok (.aload_n 0, 1) := by decide +kernel
theorem d_Md_init_111 : decode b_Md_init 111 = .ok (.bipush 8, 2) := by decide +kernel
theorem d_Md_init_113 : decode b_Md_init 113 = .ok (.newarray .long, 2) := by decide +kernel
theorem d_Md_init_115 : decode b_Md_init 115 = .ok (.putfield 50, 3) := by decide +kernel
theorem d_Md_init_118 : decode b_Md_init 118 = .ok (.aload_n 0, 1) := by decide +kernel
theorem d_Md_init_119 : decode b_Md_init 119 = .ok (.bipush 8, 2) := by decide +kernel
theorem d_Md_init_121 : decode b_Md_init 121 = .ok (.newarray .long, 2) := by decide +kernel
theorem d_Md_init_123 : decode b_Md_init 123 = .ok (.putfield 53, 3) := by decide +kernel
theorem d_Md_init_126 : decode b_Md_init 126 = .ok (.aload_n 0, 1) := by decide +kernel
theorem d_Md_init_127 : decode b_Md_init 127 = .ok (.bipush 12, 2) := by decide +kernel
theorem d_Md_init_129 : decode b_Md_init 129 = .ok (.newarray .int, 2) := by decide +kernel
theorem d_Md_init_131 : decode b_Md_init 131 = .ok (.putfield 56, 3) := by decide +kernel
theorem d_Md_init_134 : decode b_Md_init 134 = .ok (.return_, 1) := by decide +kernel
theorem d_Md_loop_0 : decode b_Md_loop 0 = .ok (.iload_n 1, 1) := by decide +kernel
theorem d_Md_loop_1 : decode b_Md_loop 1 = .ok (.iconst 1, 1) := by decide +kernel
theorem d_Md_loop_2 : decode b_Md_loop 2 = .ok (.iconst 3, 1) := by decide +kernel
theorem d_Md_loop_3 : decode b_Md_loop 3 = .ok (.invokestatic 63, 3) := by decide +kernel
theorem d_Md_loop_6 : decode b_Md_loop 6 = .ok (.ifCond .ne 6, 3) := by decide +kernel
theorem d_Md_loop_9 : decode b_Md_loop 9 = .ok (.bipush (-3), 2) := by decide +kernel
theorem d_Md_loop_11 : decode b_Md_loop 11 = .ok (.ireturn, 1) := by decide +kernel
theorem d_Md_loop_12 : decode b_Md_loop 12 = .ok (.aload_n 0, 1) := by decide +kernel
theorem d_Md_loop_13 : decode b_Md_loop 13 = .ok (.getfield 59, 3) := by decide +kernel
theorem d_Md_loop_16 : decode b_Md_loop 16 = .ok (.bipush 8, 2) := by decide +kernel
theorem d_Md_loop_18 : decode b_Md_loop 18 = .ok (.if_icmp .ne 6, 3) := by decide +kernel
theorem d_Md_loop_21 : decode b_Md_loop 21 = .ok (.bipush (-4), 2) := by decide +kernel
theorem d_Md_loop_23 : decode b_Md_loop 23 = .ok (.ireturn, 1) := by decide +kernel
theorem d_Md_loop_24 : decode b_Md_loop 24 = .ok (.aload_n 0, 1) := by decide +kernel
theorem d_Md_loop_25 : decode b_Md_loop 25 = .ok (.getfield 59, 3) := by decide +kernel
theorem d_Md_loop_28 : decode b_Md_loop 28 = .ok (.istore_n 2, 1) := by decide +kernel
theorem d_Md_loop_29 : decode b_Md_loop 29 = .ok (.aload_n 0, 1) := by decide +kernel
theorem d_Md_loop_30 : decode b_Md_loop 30 = .ok (.getfield 7, 3) := by decide +kernel
theorem d_Md_loop_33 : decode b_Md_loop 33 = .ok (.iload_n 2, 1) := by decide +kernel
theorem d_Md_loop_34 : decode b_Md_loop 34 = .ok (.iload_n 1, 1) := by decide +kernel
theorem d_Md_loop_35 : decode b_Md_loop 35 = .ok (.iastore, 1) := by decide +kernel
theorem d_Md_loop_36 : decode b_Md_loop 36 = .ok (.aload_n 0, 1) := by decide +kernel
theorem d_Md_loop_37 : decode b_Md_loop 37 = .ok (.getfield 13, 3) := by decide +kernel
theorem d_Md_loop_40 : decode b_Md_loop 40 = .ok (.iload_n 2, 1) := by decide +kernel
theorem d_Md_loop_41 : decode b_Md_loop 41 = .ok (.iconst 0, 1) := by decide +kernel
theorem d_Md_loop_42 : decode b_Md_loop 42 = .ok (.iastore, 1) := by decide +kernel
theorem d_Md_loop_43 : decode b_Md_loop 43 = .ok (.aload_n 0, 1) := by decide +kernel
theorem d_Md_loop_44 : decode b_Md_loop 44 = .ok (.getfield 16, 3) := by decide +kernel
theorem d_Md_loop_47 : decode b_Md_loop 47 = .ok (.iload_n 2, 1) := by decide +kernel
theorem d_Md_loop_48 : decode b_Md_loop 48 = .ok (.iconst 0, 1) := by decide +kernel
theorem d_Md_loop_49 : decode b_Md_loop 49 = .ok (.iastore, 1) := by decide +kernel
theorem d_Md_loop_50 : decode b_Md_loop 50 = .ok (.iconst 0, 1) := by decide +kernel
theorem d_Md_loop_51 : decode b_Md_loop 51 = .ok (.istore_n 3, 1) := by decide +kernel
theorem d_Md_loop_52 : decode b_Md_loop 52 = .ok (.iload_n 3, 1) := by decide +kernel
theorem d_Md_loop_53 : decode b_Md_loop 53 = .ok (.iconst 3, 1) := by decide +kernel
theorem d_Md_loop_54 : decode b_Md_loop 54 = .ok (.if_icmp .ge 20, 3) := by decide +kernel
theorem d_Md_loop_57 : decode b_Md_loop 57 = .ok (.aload_n 0, 1) := by decide +kernel
theorem d_Md_loop_58 : decode b_Md_loop 58 = .ok (.getfield 34, 3) := by decide +kernel
theorem d_Md_loop_61 : decode b_Md_loop 61 = .ok (.iconst 3, 1) := by decide +kernel
theorem d_Md_loop_62 : decode b_Md_loop 62 = .ok (.iload_n 2, 1) := by decide +kernel
theorem d_Md_loop_63 : decode b_Md_loop 63 = .ok (.imul, 1) := by decide +kernel
theorem d_Md_loop_64 : decode b_Md_loop 64 = .ok (.iload_n 3, 1) := by decide +kernel
theorem d_Md_loop_65 : decode b_Md_loop 65 = .ok (.iadd, 1) := by decide +kernel
theorem d_Md_loop_66 : decode b_Md_loop 66 = .ok (.lconst 0, 1) := by decide +kernel
theorem d_Md_loop_67 : decode b_Md_loop 67 = .ok (.lastore, 1) := by decide +kernel
theorem d_Md_loop_68 : decode b_Md_loop 68 = .ok (.iinc 3 1, 3) := by decide +kernel
theorem d_Md_loop_71 : decode b_Md_loop 71 = .ok (.goto (-19), 3) := by decide +kernel
theorem d_Md_loop_74 : decode b_Md_loop 74 = .ok (.aload_n 0, 1) := by decide +kernel
theorem d_Md_loop_75 : decode b_Md_loop 75 = .ok (.dup, 1) := by decide +kernel
theorem d_Md_loop_76 : decode b_Md_loop 76 = .ok (.getfield 59, 3) := by decide +kernel
theorem d_Md_loop_79 : decode b_Md_loop 79 = .ok (.iconst 1, 1) := by decide +kernel
theorem d_Md_loop_80 : decode b_Md_loop 80 = .ok (.iadd, 1) := by decide +kernel
theorem d_Md_loop_81 : decode b_Md_loop 81 = .ok (.putfield 59, 3) := by decide +kernel
theorem d_Md_loop_84 : decode b_Md_loop 84 = .ok (.iload_n 2, 1) := by decide +kernel
theorem d_Md_loop_85 : decode b_Md_loop 85 = .ok (.ireturn, 1) := by decide +kernel
theorem d_Md_isIn_0 : decode b_Md_isIn 0 = .ok (.iload_n 0, 1) := by decide +kernel
theorem d_Md_isIn_1 : decode b_Md_isIn 1 = .ok (.iload_n 1, 1) := by decide +kernel
theorem d_Md_isIn_2 : decode b_Md_isIn 2 = .ok (.if_icmp .lt 12, 3) := by decide +kernel
theorem d_Md_isIn_5 : decode b_Md_isIn 5 = .ok (.iload_n 0, 1) := by decide +kernel
theorem d_Md_isIn_6 : decode b_Md_isIn 6 = .ok (.iload_n 2, 1) := by decide +kernel
theorem d_Md_isIn_7 : decode b_Md_isIn 7 = .ok (.if_icmp .gt 7, 3) := by decide +kernel
theorem d_Md_isIn_10 : decode b_Md_isIn 10 = .ok (.iconst 1, 1) := by decide +kernel
theorem d_Md_isIn_11 : decode b_Md_isIn 11 = .ok (.goto 4, 3) := by decide +kernel
theorem d_Md_isIn_14 : decode b_Md_isIn 14 = .ok (.iconst 0, 1) := by decide +kernel
theorem d_Md_isIn_15 : decode b_Md_isIn 15 = .ok (.ireturn, 1) := by decide +kernel
theorem d_Md_clear_0 : decode b_Md_clear 0 = .ok (.aload_n 0, 1) := by decide +kernel
theorem d_Md_clear_1 : decode b_Md_clear 1 = .ok (.getfield 59, 3) := by decide +kernel
theorem d_Md_clear_4 : decode b_Md_clear 4 = .ok (.istore_n 1, 1) := by decide +kernel
theorem d_Md_clear_5 : decode b_Md_clear 5 = .ok (.aload_n 0, 1) := by decide +kernel
theorem d_Md_clear_6 : decode b_Md_clear 6 = .ok (.iconst 0, 1) := by decide +kernel
theorem d_Md_clear_7 : decode b_Md_clear 7 = .ok (.putfield 59, 3) := by decide +kernel
theorem d_Md_clear_10 : decode b_Md_clear 10 = .ok (.aload_n 0, 1) := by decide +kernel
theorem d_Md_clear_11 : decode b_Md_clear 11 = .ok (.iconst 0, 1) := by decide +kernel
theorem d_Md_clear_12 : decode b_Md_clear 12 = .ok (.putfield 75, 3) := by decide +kernel
theorem d_Md_clear_15 : decode b_Md_clear 15 = .ok (.aload_n 0, 1) := by decide +kernel
theorem d_Md_clear_16 : decode b_Md_clear 16 = .ok (.iconst 0, 1) := by decide +kernel
theorem d_Md_clear_17 : decode b_Md_clear 17 = .ok (.putfield 78, 3) := by decide +kernel
theorem d_Md_clear_20 : decode b_Md_clear 20 = .ok (.aload_n 0, 1) := by decide +kernel
theorem d_Md_clear_21 : decode b_Md_clear 21 = .ok (.iconst 0, 1) := by decide +kernel
theorem d_Md_clear_22 : decode b_Md_clear 22 = .ok (.putfield 81, 3) := by decide +kernel
theorem d_Md_clear_25 : decode b_Md_clear 25 = .ok (.iload_n 1, 1) := by decide +kernel
theorem d_Md_clear_26 : decode b_Md_clear 26 = .ok (.ireturn, 1) := by decide +kernel
theorem d_Md_guard_0 : decode b_Md_guard 0 = .ok (.aload_n 0, 1) := by decide +kernel
theorem d_Md_guard_1 : decode b_Md_guard 1 = .ok (.iload_n 1, 1) := by decide +kernel
theorem d_Md_guard_2 : decode b_Md_guard 2 = .ok (.invokevirtual 67, 3) := by decide +kernel
theorem d_Md_guard_5 : decode b_Md_guard 5 = .ok (.ifCond .ne 6, 3) := by decide +kernel
theorem d_Md_guard_8 : decode b_Md_guard 8 = .ok (.bipush (-2), 2) := by decide +kernel
theorem d_Md_guard_10 : decode b_Md_guard 10 = .ok (.ireturn, 1) := by decide +kernel
theorem d_Md_guard_11 : decode b_Md_guard 11 = .ok (.aload_n 0, 1) := by decide +kernel
theorem d_Md_guard_12 : decode b_Md_guard 12 = .ok (.iload_n 1, 1) := by decide +kernel
theorem d_Md_guard_13 : decode b_Md_guard 13 = .ok (.iload_n 2, 1) := by decide +kernel
theorem d_Md_guard_14 : decode b_Md_guard 14 = .ok (.iload_n 3, 1) := by decide +kernel
theorem d_Md_guard_15 : decode b_Md_guard 15 = .ok (.iload 4, 2) := by decide +kernel
theorem d_Md_guard_17 : decode b_Md_guard 17 = .ok (.iload 5, 2) := by decide +kernel
theorem d_Md_guard_19 : decode b_Md_guard 19 = .ok (.invokevirtual 85, 3) := by decide +kernel
theorem d_Md_guard_22 : decode b_Md_guard 22 = .ok (.ifCond .ne 6, 3) := by decide +kernel
theorem d_Md_guard_25 : decode b_Md_guard 25 = .ok (.bipush (-3), 2) := by decide +kernel
theorem d_Md_guard_27 : decode b_Md_guard 27 = .ok (.ireturn, 1) := by decide +kernel
theorem d_Md_guard_28 : decode b_Md_guard 28 = .ok (.aload_n 0, 1) := by decide +kernel
theorem d_Md_guard_29 : decode b_Md_guard 29 = .ok (.getfield 16, 3) := by decide +kernel
theorem d_Md_guard_32 : decode b_Md_guard 32 = .ok (.iload_n 1, 1) := by decide +kernel
theorem d_Md_guard_33 : decode b_Md_guard 33 = .ok (.iaload, 1) := by decide +kernel
theorem d_Md_guard_34 : decode b_Md_guard 34 = .ok (.iconst 4, 1) := by decide +kernel
theorem d_Md_guard_35 : decode b_Md_guard 35 = .ok (.if_icmp .ne 6, 3) := by decide +kernel
theorem d_Md_guard_38 : decode b_Md_guard 38 = .ok (.bipush (-4), 2) := by decide +kernel
theorem d_Md_guard_40 : decode b_Md_guard 40 = .ok (.ireturn, 1) := by decide +kernel
theorem d_Md_guard_41 : decode b_Md_guard 41 = .ok (.aload_n 0, 1) := by decide +kernel
theorem d_Md_guard_42 : decode b_Md_guard 42 = .ok (.getfield 19, 3) := by decide +kernel
theorem d_Md_guard_45 : decode b_Md_guard 45 = .ok (.bipush 16, 2) := by decide +kernel
theorem d_Md_guard_47 : decode b_Md_guard 47 = .ok (.iload_n 1, 1) := by decide +kernel
theorem d_Md_guard_48 : decode b_Md_guard 48 = .ok (.imul, 1) := by decide +kernel
theorem d_Md_guard_49 : decode b_Md_guard 49 = .ok (.iconst 4, 1) := by decide +kernel
theorem d_Md_guard_50 : decode b_Md_guard 50 = .ok (.aload_n 0, 1) := by decide +kernel
theorem d_Md_guard_51 : decode b_Md_guard 51 = .ok (.getfield 16, 3) := by decide +kernel
theorem d_Md_guard_54 : decode b_Md_guard 54 = .ok (.iload_n 1, 1) := by decide +kernel
theorem d_Md_guard_55 : decode b_Md_guard 55 = .ok (.iaload, 1) := by decide +kernel
theorem d_Md_guard_56 : decode b_Md_guard 56 = .ok (.imul, 1) := by decide +kernel
theorem d_Md_guard_57 : decode b_Md_guard 57 = .ok (.iadd, 1) := by decide +kernel
theorem d_Md_guard_58 : decode b_Md_guard 58 = .ok (.iload_n 2, 1) := by decide +kernel
theorem d_Md_guard_59 : decode b_Md_guard 59 = .ok (.iload_n 3, 1) := by decide +kernel
theorem d_Md_guard_60 : decode b_Md_guard 60 = .ok (.iload 4, 2) := by decide +kernel
theorem d_Md_guard_62 : decode b_Md_guard 62 = .ok (.iload 5, 2) := by decide +kernel
theorem d_Md_guard_64 : decode b_Md_guard 64 = .ok (.invokestatic 88, 3) := by decide +kernel
theorem d_Md_guard_67 : decode b_Md_guard 67 = .ok (.aload_n 0, 1) := by decide +kernel
theorem d_Md_guard_68 : decode b_Md_guard 68 = .ok (.getfield 16, 3) := by decide +kernel
theorem d_Md_guard_71 : decode b_Md_guard 71 = .ok (.iload_n 1, 1) := by decide +kernel
theorem d_Md_guard_72 : decode b_Md_guard 72 = .ok (.dup2, 1) := by decide +kernel
theorem d_Md_guard_73 : decode b_Md_guard 73 = .ok (.iaload, 1) := by decide +kernel
theorem d_Md_guard_74 : decode b_Md_guard 74 = .ok (.iconst 1, 1) := by decide +kernel
theorem d_Md_guard_75 : decode b_Md_guard 75 = .ok (.iadd, 1) := by decide +kernel
theorem d_Md_guard_76 : decode b_Md_guard 76 = .ok (.iastore, 1) := by decide +kernel
theorem d_Md_guard_77 : decode b_Md_guard 77 = .ok (.aload_n 0, 1) := by decide +kernel
theorem d_Md_guard_78 : decode b_Md_guard 78 = .ok (.getfield 16, 3) := by decide +kernel
theorem d_Md_guard_81 : decode b_Md_guard 81 = .ok (.iload_n 1, 1) := by decide +kernel
theorem d_Md_guard_82 : decode b_Md_guard 82 = .ok (.iaload, 1) := by decide +kernel
theorem d_Md_guard_83 : decode b_Md_guard 83 = .ok (.ireturn, 1) := by decide +kernel
theorem d_Md_isLoop_0 : decode b_Md_isLoop 0 = .ok (.iload_n 1, 1) := by decide +kernel
theorem d_Md_isLoop_1 : decode b_Md_isLoop 1 = .ok (.iconst 0, 1) := by decide +kernel
theorem d_Md_isLoop_2 : decode b_Md_isLoop 2 = .ok (.aload_n 0, 1) := by decide +kernel
theorem d_Md_isLoop_3 : decode b_Md_isLoop 3 = .ok (.getfield 59, 3) := by decide +kernel
theorem d_Md_isLoop_6 : decode b_Md_isLoop 6 = .ok (.iconst 1, 1) := by decide +kernel
theorem d_Md_isLoop_7 : decode b_Md_isLoop 7 = .ok (.isub, 1) := by decide +kernel
theorem d_Md_isLoop_8 : decode b_Md_isLoop 8 = .ok (.invokestatic 63, 3) := by decide +kernel
theorem d_Md_isLoop_11 : decode b_Md_isLoop 11 = .ok (.ireturn, 1) := by decide +kernel
theorem d_Md_isRow_0 : decode b_Md_isRow 0 = .ok (.aload_n 0, 1) := by decide +kernel
theorem d_Md_isRow_1 : decode b_Md_isRow 1 = .ok (.iload_n 1, 1) := by decide +kernel
theorem d_Md_isRow_2 : decode b_Md_isRow 2 = .ok (.iload_n 2, 1) := by decide +kernel
theorem d_Md_isRow_3 : decode b_Md_isRow 3 = .ok (.iload_n 3, 1) := by decide +kernel
theorem d_Md_isRow_4 : decode b_Md_isRow 4 = .ok (.iload 4, 2) := by decide +kernel
theorem d_Md_isRow_6 : decode b_Md_isRow 6 = .ok (.bipush 9, 2) := by decide +kernel
theorem d_Md_isRow_8 : decode b_Md_isRow 8 = .ok (.invokevirtual 71, 3) := by decide +kernel
theorem d_Md_isRow_11 : decode b_Md_isRow 11 = .ok (.ifCond .eq 21, 3) := by decide +kernel
theorem d_Md_isRow_14 : decode b_Md_isRow 14 = .ok (.iload 5, 2) := by decide +kernel
theorem d_Md_isRow_16 : decode b_Md_isRow 16 = .ok (.sipush (-1000), 3) := by decide +kernel
theorem d_Md_isRow_19 : decode b_Md_isRow 19 = .ok (.sipush 1000, 3) := by decide +kernel
theorem d_Md_isRow_22 : decode b_Md_isRow 22 = .ok (.invokestatic 63, 3) := by decide +kernel
theorem d_Md_isRow_25 : decode b_Md_isRow 25 = .ok (.ifCond .eq 7, 3) := by decide +kernel
theorem d_Md_isRow_28 : decode b_Md_isRow 28 = .ok (.iconst 1, 1) := by decide +kernel
theorem d_Md_isRow_29 : decode b_Md_isRow 29 = .ok (.goto 4, 3) := by decide +kernel
theorem d_Md_isRow_32 : decode b_Md_isRow 32 = .ok (.iconst 0, 1) := by decide +kernel
theorem d_Md_isRow_33 : decode b_Md_isRow 33 = .ok (.ireturn, 1) := by decide +kernel
theorem d_Md_areNumbers_0 : decode b_Md_areNumbers 0 = .ok (.iload_n 2, 1) := by decide +kernel
theorem d_Md_areNumbers_1 : decode b_Md_areNumbers 1 = .ok (.iload 5, 2) := by decide +kernel
theorem d_Md_areNumbers_3 : decode b_Md_areNumbers 3 = .ok (.ineg, 1) := by decide +kernel
theorem d_Md_areNumbers_4 : decode b_Md_areNumbers 4 = .ok (.iload 5, 2) := by decide +kernel
theorem d_Md_areNumbers_6 : decode b_Md_areNumbers 6 = .ok (.invokestatic 63, 3) := by decide +kernel
theorem d_Md_areNumbers_9 : decode b_Md_areNumbers 9 = .ok (.ifCond .eq 28, 3) := by decide +kernel
theorem d_Md_areNumbers_12 : decode b_Md_areNumbers 12 = .ok (.iload_n 3, 1) := by decide +kernel
theorem d_Md_areNumbers_13 : decode b_Md_areNumbers 13 = .ok (.iload 5, 2) := by decide +kernel
theorem d_Md_areNumbers_15 : decode b_Md_areNumbers 15 = .ok (.ineg, 1) := by decide +kernel
theorem d_Md_areNumbers_16 : decode b_Md_areNumbers 16 = .ok (.iload 5, 2) := by decide +kernel
theorem d_Md_areNumbers_18 : decode b_Md_areNumbers 18 = .ok (.invokestatic 63, 3) := by decide +kernel
theorem d_Md_areNumbers_21 : decode b_Md_areNumbers 21 = .ok (.ifCond .eq 16, 3) := by decide +kernel
theorem d_Md_areNumbers_24 : decode b_Md_areNumbers 24 = .ok (.iload 4, 2) := by decide +kernel
theorem d_Md_areNumbers_26 : decode b_Md_areNumbers 26 = .ok (.iload 5, 2) := by decide +kernel
theorem d_Md_areNumbers_28 : decode b_Md_areNumbers 28 = .ok (.ineg, 1) := by decide +kernel
theorem d_Md_areNumbers_29 : decode b_Md_areNumbers 29 = .ok (.iload 5, 2) := by decide +kernel
theorem d_Md_areNumbers_31 : decode b_Md_areNumbers 31 = .ok (.invokestatic 63, 3) := by decide +kernel
theorem d_Md_areNumbers_34 : decode b_Md_areNumbers 34 = .ok (.ifCond .ne 5, 3) := by decide +kernel
theorem d_Md_areNumbers_37 : decode b_Md_areNumbers 37 = .ok (.iconst 0, 1) := by decide +kernel
theorem d_Md_areNumbers_38 : decode b_Md_areNumbers 38 = .ok (.ireturn, 1) := by decide +kernel
theorem d_Md_areNumbers_39 : decode b_Md_areNumbers 39 = .ok (.iload_n 2, 1) := by decide +kernel
theorem d_Md_areNumbers_40 : decode b_Md_areNumbers 40 = .ok (.ifCond .ne 14, 3) := by decide +kernel
theorem d_Md_areNumbers_43 : decode b_Md_areNumbers 43 = .ok (.iload_n 3, 1) := by decide +kernel
theorem d_Md_areNumbers_44 : decode b_Md_areNumbers 44 = .ok (.ifCond .ne 10, 3) := by decide +kernel
theorem d_Md_areNumbers_47 : decode b_Md_areNumbers 47 = .ok (.iload 4, 2) := by decide +kernel
theorem d_Md_areNumbers_49 : decode b_Md_areNumbers 49 = .ok (.ifCond .ne 5, 3) := by decide +kernel
theorem d_Md_areNumbers_52 : decode b_Md_areNumbers 52 = .ok (.iconst 0, 1) := by decide +kernel
theorem d_Md_areNumbers_53 : decode b_Md_areNumbers 53 = .ok (.ireturn, 1) := by decide +kernel
theorem d_Md_areNumbers_54 : decode b_Md_areNumbers 54 = .ok (.iload_n 3, 1) := by decide +kernel
theorem d_Md_areNumbers_55 : decode b_Md_areNumbers 55 = .ok (.ifCond .eq 13, 3) := by decide +kernel
theorem d_Md_areNumbers_58 : decode b_Md_areNumbers 58 = .ok (.aload_n 0, 1) := by decide +kernel
theorem d_Md_areNumbers_59 : decode b_Md_areNumbers 59 = .ok (.getfield 7, 3) := by decide +kernel
theorem d_Md_areNumbers_62 : decode b_Md_areNumbers 62 = .ok (.iload_n 1, 1) := by decide +kernel
theorem d_Md_areNumbers_63 : decode b_Md_areNumbers 63 = .ok (.iaload, 1) := by decide +kernel
theorem d_Md_areNumbers_64 : decode b_Md_areNumbers 64 = .ok (.iconst 1, 1) := by decide +kernel
theorem d_Md_areNumbers_65 : decode b_Md_areNumbers 65 = .ok (.if_icmp .le 22, 3) := by decide +kernel
theorem d_Md_areNumbers_68 : decode b_Md_areNumbers 68 = .ok (.iload 4, 2) := by decide +kernel
theorem d_Md_areNumbers_70 : decode b_Md_areNumbers 70 = .ok (.ifCond .eq 13, 3) := by decide +kernel
theorem d_Md_areNumbers_73 : decode b_Md_areNumbers 73 = .ok (.aload_n 0, 1) := by decide +kernel
theorem d_Md_areNumbers_74 : decode b_Md_areNumbers 74 = .ok (.getfield 7, 3) := by decide +kernel
theorem d_Md_areNumbers_77 : decode b_Md_areNumbers 77 = .ok (.iload_n 1, 1) := by decide +kernel
theorem d_Md_areNumbers_78 : decode b_Md_areNumbers 78 = .ok (.iaload, 1) := by decide +kernel
theorem d_Md_areNumbers_79 : decode b_Md_areNumbers 79 = .ok (.iconst 2, 1) := by decide +kernel
theorem d_Md_areNumbers_80 : decode b_Md_areNumbers 80 = .ok (.if_icmp .le 7, 3) := by decide +kernel
theorem d_Md_areNumbers_83 : decode b_Md_areNumbers 83 = .ok (.iconst 1, 1) := by decide +kernel
theorem d_Md_areNumbers_84 : decode b_Md_areNumbers 84 = .ok (.goto 4, 3) := by decide +kernel
theorem d_Md_areNumbers_87 : decode b_Md_areNumbers 87 = .ok (.iconst 0, 1) := by decide +kernel
theorem d_Md_areNumbers_88 : decode b_Md_areNumbers 88 = .ok (.ireturn, 1) := by decide +kernel
theorem d_Md_lay_0 : decode b_Md_lay 0 = .ok (.aload_n 0, 1) := by decide +kernel
theorem d_Md_lay_1 : decode b_Md_lay 1 = .ok (.iload_n 1, 1) := by decide +kernel
theorem d_Md_lay_2 : decode b_Md_lay 2 = .ok (.iload_n 2, 1) := by decide +kernel
theorem d_Md_lay_3 : decode b_Md_lay 3 = .ok (.iastore, 1) := by decide +kernel
theorem d_Md_lay_4 : decode b_Md_lay 4 = .ok (.aload_n 0, 1) := by decide +kernel
theorem d_Md_lay_5 : decode b_Md_lay 5 = .ok (.iload_n 1, 1) := by decide +kernel
theorem d_Md_lay_6 : decode b_Md_lay 6 = .ok (.iconst 1, 1) := by decide +kernel
theorem d_Md_lay_7 : decode b_Md_lay 7 = .ok (.iadd, 1) := by decide +kernel
theorem d_Md_lay_8 : decode b_Md_lay 8 = .ok (.iload_n 3, 1) := by decide +kernel
theorem d_Md_lay_9 : decode b_Md_lay 9 = .ok (.iastore, 1) := by decide +kernel
theorem d_Md_lay_10 : decode b_Md_lay 10 = .ok (.aload_n 0, 1) := by decide +kernel
theorem d_Md_lay_11 : decode b_Md_lay 11 = .ok (.iload_n 1, 1) := by decide +kernel
theorem d_Md_lay_12 : decode b_Md_lay 12 = .ok (.iconst 2, 1) := by decide +kernel
theorem d_Md_lay_13 : decode b_Md_lay 13 = .ok (.iadd, 1) := by decide +kernel
theorem d_Md_lay_14 : decode b_Md_lay 14 = .ok (.iload 4, 2) := by decide +kernel
theorem d_Md_lay_16 : decode b_Md_lay 16 = .ok (.iastore, 1) := by decide +kernel
theorem d_Md_lay_17 : decode b_Md_lay 17 = .ok (.aload_n 0, 1) := by decide +kernel
theorem d_Md_lay_18 : decode b_Md_lay 18 = .ok (.iload_n 1, 1) := by decide +kernel
theorem d_Md_lay_19 : decode b_Md_lay 19 = .ok (.iconst 3, 1) := by decide +kernel
theorem d_Md_lay_20 : decode b_Md_lay 20 = .ok (.iadd, 1) := by decide +kernel
theorem d_Md_lay_21 : decode b_Md_lay 21 = .ok (.iload 5, 2) := by decide +kernel
theorem d_Md_lay_23 : decode b_Md_lay 23 = .ok (.iastore, 1) := by decide +kernel
theorem d_Md_lay_24 : decode b_Md_lay 24 = .ok (.return_, 1) := by decide +kernel
theorem d_Md_way_0 : decode b_Md_way 0 = .ok (.aload_n 0, 1) := by decide +kernel
theorem d_Md_way_1 : decode b_Md_way 1 = .ok (.iload_n 1, 1) := by decide +kernel
theorem d_Md_way_2 : decode b_Md_way 2 = .ok (.invokevirtual 67, 3) := by decide +kernel
theorem d_Md_way_5 : decode b_Md_way 5 = .ok (.ifCond .ne 6, 3) := by decide +kernel
theorem d_Md_way_8 : decode b_Md_way 8 = .ok (.bipush (-2), 2) := by decide +kernel
theorem d_Md_way_10 : decode b_Md_way 10 = .ok (.ireturn, 1) := by decide +kernel
theorem d_Md_way_11 : decode b_Md_way 11 = .ok (.aload_n 0, 1) := by decide +kernel
theorem d_Md_way_12 : decode b_Md_way 12 = .ok (.getfield 13, 3) := by decide +kernel
theorem d_Md_way_15 : decode b_Md_way 15 = .ok (.iload_n 1, 1) := by decide +kernel
theorem d_Md_way_16 : decode b_Md_way 16 = .ok (.iaload, 1) := by decide +kernel
theorem d_Md_way_17 : decode b_Md_way 17 = .ok (.iconst 3, 1) := by decide +kernel
theorem d_Md_way_18 : decode b_Md_way 18 = .ok (.if_icmp .ne 6, 3) := by decide +kernel
theorem d_Md_way_21 : decode b_Md_way 21 = .ok (.bipush (-4), 2) := by decide +kernel
theorem d_Md_way_23 : decode b_Md_way 23 = .ok (.ireturn, 1) := by decide +kernel
theorem d_Md_way_24 : decode b_Md_way 24 = .ok (.iconst 3, 1) := by decide +kernel
theorem d_Md_way_25 : decode b_Md_way 25 = .ok (.iload_n 1, 1) := by decide +kernel
theorem d_Md_way_26 : decode b_Md_way 26 = .ok (.imul, 1) := by decide +kernel
theorem d_Md_way_27 : decode b_Md_way 27 = .ok (.aload_n 0, 1) := by decide +kernel
theorem d_Md_way_28 : decode b_Md_way 28 = .ok (.getfield 13, 3) := by decide +kernel
theorem d_Md_way_31 : decode b_Md_way 31 = .ok (.iload_n 1, 1) := by decide +kernel
theorem d_Md_way_32 : decode b_Md_way 32 = .ok (.iaload, 1) := by decide +kernel
theorem d_Md_way_33 : decode b_Md_way 33 = .ok (.iadd, 1) := by decide +kernel
theorem d_Md_way_34 : decode b_Md_way 34 = .ok (.istore_n 2, 1) := by decide +kernel
theorem d_Md_way_35 : decode b_Md_way 35 = .ok (.aload_n 0, 1) := by decide +kernel
theorem d_Md_way_36 : decode b_Md_way 36 = .ok (.getfield 22, 3) := by decide +kernel
theorem d_Md_way_39 : decode b_Md_way 39 = .ok (.iload_n 2, 1) := by decide +kernel
theorem d_Md_way_40 : decode b_Md_way 40 = .ok (.iconst 0, 1) := by decide +kernel
theorem d_Md_way_41 : decode b_Md_way 41 = .ok (.iastore, 1) := by decide +kernel
theorem d_Md_way_42 : decode b_Md_way 42 = .ok (.iconst 0, 1) := by decide +kernel
theorem d_Md_way_43 : decode b_Md_way 43 = .ok (.istore_n 3, 1) := by decide +kernel
theorem d_Md_way_44 : decode b_Md_way 44 = .ok (.iload_n 3, 1) := by decide +kernel
theorem d_Md_way_45 : decode b_Md_way 45 = .ok (.bipush 9, 2) := by decide +kernel
theorem d_Md_way_47 : decode b_Md_way 47 = .ok (.if_icmp .ge 31, 3) := by decide +kernel
theorem d_Md_way_50 : decode b_Md_way 50 = .ok (.aload_n 0, 1) := by decide +kernel
theorem d_Md_way_51 : decode b_Md_way 51 = .ok (.getfield 28, 3) := by decide +kernel
theorem d_Md_way_54 : decode b_Md_way 54 = .ok (.bipush 9, 2) := by decide +kernel
theorem d_Md_way_56 : decode b_Md_way 56 = .ok (.iload_n 2, 1) := by decide +kernel
theorem d_Md_way_57 : decode b_Md_way 57 = .ok (.imul, 1) := by decide +kernel
theorem d_Md_way_58 : decode b_Md_way 58 = .ok (.iload_n 3, 1) := by decide +kernel
theorem d_Md_way_59 : decode b_Md_way 59 = .ok (.iadd, 1) := by decide +kernel
theorem d_Md_way_60 : decode b_Md_way 60 = .ok (.iload_n 3, 1) := by decide +kernel
theorem d_Md_way_61 : decode b_Md_way 61 = .ok (.iconst 4, 1) := by decide +kernel
theorem d_Md_way_62 : decode b_Md_way 62 = .ok (.irem, 1) := by decide +kernel
theorem d_Md_way_63 : decode b_Md_way 63 = .ok (.ifCond .ne 7, 3) := by decide +kernel
theorem d_Md_way_66 : decode b_Md_way 66 = .ok (.iconst 1, 1) := by decide +kernel
theorem d_Md_way_67 : decode b_Md_way 67 = .ok (.goto 4, 3) := by decide +kernel
theorem d_Md_way_70 : decode b_Md_way 70 = .ok (.iconst 0, 1) := by decide +kernel
theorem d_Md_way_71 : decode b_Md_way 71 = .ok (.iastore, 1) := by decide +kernel
theorem d_Md_way_72 : decode b_Md_way 72 = .ok (.iinc 3 1, 3) := by decide +kernel
theorem d_Md_way_75 : decode b_Md_way 75 = .ok (.goto (-31), 3) := by decide +kernel
theorem d_Md_way_78 : decode b_Md_way 78 = .ok (.iconst 0, 1) := by decide +kernel
theorem d_Md_way_79 : decode b_Md_way 79 = .ok (.istore_n 3, 1) := by decide +kernel
theorem d_Md_way_80 : decode b_Md_way 80 = .ok (.iload_n 3, 1) := by decide +kernel
theorem d_Md_way_81 : decode b_Md_way 81 = .ok (.iconst 3, 1) := by decide +kernel
theorem d_Md_way_82 : decode b_Md_way 82 = .ok (.if_icmp .ge 20, 3) := by decide +kernel
theorem d_Md_way_85 : decode b_Md_way 85 = .ok (.aload_n 0, 1) := by decide +kernel
theorem d_Md_way_86 : decode b_Md_way 86 = .ok (.getfield 31, 3) := by decide +kernel
theorem d_Md_way_89 : decode b_Md_way 89 = .ok (.iconst 3, 1) := by decide +kernel
theorem d_Md_way_90 : decode b_Md_way 90 = .ok (.iload_n 2, 1) := by decide +kernel
theorem d_Md_way_91 : decode b_Md_way 91 = .ok (.imul, 1) := by decide +kernel
theorem d_Md_way_92 : decode b_Md_way 92 = .ok (.iload_n 3, 1) := by decide +kernel
theorem d_Md_way_93 : decode b_Md_way 93 = .ok (.iadd, 1) := by decide +kernel
theorem d_Md_way_94 : decode b_Md_way 94 = .ok (.iconst 0, 1) := by decide +kernel
theorem d_Md_way_95 : decode b_Md_way 95 = .ok (.iastore, 1) := by decide +kernel
theorem d_Md_way_96 : decode b_Md_way 96 = .ok (.iinc 3 1, 3) := by decide +kernel
theorem d_Md_way_99 : decode b_Md_way 99 = .ok (.goto (-19), 3) := by decide +kernel
theorem d_Md_way_102 : decode b_Md_way 102 = .ok (.aload_n 0, 1) := by decide +kernel
theorem d_Md_way_103 : decode b_Md_way 103 = .ok (.getfield 13, 3) := by decide +kernel
theorem d_Md_way_106 : decode b_Md_way 106 = .ok (.iload_n 1, 1) := by decide +kernel
theorem d_Md_way_107 : decode b_Md_way 107 = .ok (.dup2, 1) := by decide +kernel
theorem d_Md_way_108 : decode b_Md_way 108 = .ok (.iaload, 1) := by decide +kernel
theorem d_Md_way_109 : decode b_Md_way 109 = .ok (.iconst 1, 1) := by decide +kernel
theorem d_Md_way_110 : decode b_Md_way 110 = .ok (.iadd, 1) := by decide +kernel
theorem d_Md_way_111 : decode b_Md_way 111 = .ok (.iastore, 1) := by decide +kernel
theorem d_Md_way_112 : decode b_Md_way 112 = .ok (.aload_n 0, 1) := by decide +kernel
theorem d_Md_way_113 : decode b_Md_way 113 = .ok (.getfield 13, 3) := by decide +kernel
theorem d_Md_way_116 : decode b_Md_way 116 = .ok (.iload_n 1, 1) := by decide +kernel
theorem d_Md_way_117 : decode b_Md_way 117 = .ok (.iaload, 1) := by decide +kernel
theorem d_Md_way_118 : decode b_Md_way 118 = .ok (.iconst 1, 1) := by decide +kernel
theorem d_Md_way_119 : decode b_Md_way 119 = .ok (.isub, 1) := by decide +kernel
theorem d_Md_way_120 : decode b_Md_way 120 = .ok (.ireturn, 1) := by decide +kernel
theorem d_Md_row_0 : decode b_Md_row 0 = .ok (.aload_n 0, 1) := by decide +kernel
theorem d_Md_row_1 : decode b_Md_row 1 = .ok (.iload_n 1, 1) := by decide +kernel
theorem d_Md_row_2 : decode b_Md_row 2 = .ok (.iload_n 2, 1) := by decide +kernel
theorem d_Md_row_3 : decode b_Md_row 3 = .ok (.invokevirtual 92, 3) := by decide +kernel
theorem d_Md_row_6 : decode b_Md_row 6 = .ok (.ifCond .ne 6, 3) := by decide +kernel
theorem d_Md_row_9 : decode b_Md_row 9 = .ok (.bipush (-2), 2) := by decide +kernel
theorem d_Md_row_11 : decode b_Md_row 11 = .ok (.ireturn, 1) := by decide +kernel
theorem d_Md_row_12 : decode b_Md_row 12 = .ok (.aload_n 0, 1) := by decide +kernel
theorem d_Md_row_13 : decode b_Md_row 13 = .ok (.iload_n 1, 1) := by decide +kernel
theorem d_Md_row_14 : decode b_Md_row 14 = .ok (.iload_n 3, 1) := by decide +kernel
theorem d_Md_row_15 : decode b_Md_row 15 = .ok (.iload 4, 2) := by decide +kernel
theorem d_Md_row_17 : decode b_Md_row 17 = .ok (.iload 5, 2) := by decide +kernel
theorem d_Md_row_19 : decode b_Md_row 19 = .ok (.iload 6, 2) := by decide +kernel
theorem d_Md_row_21 : decode b_Md_row 21 = .ok (.invokevirtual 85, 3) := by decide +kernel
theorem d_Md_row_24 : decode b_Md_row 24 = .ok (.ifCond .ne 6, 3) := by decide +kernel
theorem d_Md_row_27 : decode b_Md_row 27 = .ok (.bipush (-3), 2) := by decide +kernel
theorem d_Md_row_29 : decode b_Md_row 29 = .ok (.ireturn, 1) := by decide +kernel
theorem d_Md_row_30 : decode b_Md_row 30 = .ok (.iconst 3, 1) := by decide +kernel
theorem d_Md_row_31 : decode b_Md_row 31 = .ok (.iload_n 1, 1) := by decide +kernel
theorem d_Md_row_32 : decode b_Md_row 32 = .ok (.imul, 1) := by decide +kernel
theorem d_Md_row_33 : decode b_Md_row 33 = .ok (.iload_n 2, 1) := by decide +kernel
theorem d_Md_row_34 : decode b_Md_row 34 = .ok (.iadd, 1) := by decide +kernel
theorem d_Md_row_35 : decode b_Md_row 35 = .ok (.istore 7, 2) := by decide +kernel
theorem d_Md_row_37 : decode b_Md_row 37 = .ok (.aload_n 0, 1) := by decide +kernel
theorem d_Md_row_38 : decode b_Md_row 38 = .ok (.getfield 22, 3) := by decide +kernel
theorem d_Md_row_41 : decode b_Md_row 41 = .ok (.iload 7, 2) := by decide +kernel
theorem d_Md_row_43 : decode b_Md_row 43 = .ok (.iaload, 1) := by decide +kernel
theorem d_Md_row_44 : decode b_Md_row 44 = .ok (.iconst 2, 1) := by decide +kernel
theorem d_Md_row_45 : decode b_Md_row 45 = .ok (.if_icmp .ne 6, 3) := by decide +kernel
theorem d_Md_row_48 : decode b_Md_row 48 = .ok (.bipush (-4), 2) := by decide +kernel
theorem d_Md_row_50 : decode b_Md_row 50 = .ok (.ireturn, 1) := by decide +kernel
theorem d_Md_row_51 : decode b_Md_row 51 = .ok (.aload_n 0, 1) := by decide +kernel
theorem d_Md_row_52 : decode b_Md_row 52 = .ok (.getfield 25, 3) := by decide +kernel
theorem d_Md_row_55 : decode b_Md_row 55 = .ok (.bipush 8, 2) := by decide +kernel
theorem d_Md_row_57 : decode b_Md_row 57 = .ok (.iload 7, 2) := by decide +kernel
theorem d_Md_row_59 : decode b_Md_row 59 = .ok (.imul, 1) := by decide +kernel
theorem d_Md_row_60 : decode b_Md_row 60 = .ok (.iconst 4, 1) := by decide +kernel
theorem d_Md_row_61 : decode b_Md_row 61 = .ok (.aload_n 0, 1) := by decide +kernel
theorem d_Md_row_62 : decode b_Md_row 62 = .ok (.getfield 22, 3) := by decide +kernel
theorem d_Md_row_65 : decode b_Md_row 65 = .ok (.iload 7, 2) := by decide +kernel
theorem d_Md_row_67 : decode b_Md_row 67 = .ok (.iaload, 1) := by decide +kernel
theorem d_Md_row_68 : decode b_Md_row 68 = .ok (.imul, 1) := by decide +kernel
theorem d_Md_row_69 : decode b_Md_row 69 = .ok (.iadd, 1) := by decide +kernel
theorem d_Md_row_70 : decode b_Md_row 70 = .ok (.iload_n 3, 1) := by decide +kernel
theorem d_Md_row_71 : decode b_Md_row 71 = .ok (.iload 4, 2) := by decide +kernel
theorem d_Md_row_73 : decode b_Md_row 73 = .ok (.iload 5, 2) := by decide +kernel
theorem d_Md_row_75 : decode b_Md_row 75 = .ok (.iload 6, 2) := by decide +kernel
theorem d_Md_row_77 : decode b_Md_row 77 = .ok (.invokestatic 88, 3) := by decide +kernel
theorem d_Md_row_80 : decode b_Md_row 80 = .ok (.aload_n 0, 1) := by decide +kernel
theorem d_Md_row_81 : decode b_Md_row 81 = .ok (.getfield 22, 3) := by decide +kernel
theorem d_Md_row_84 : decode b_Md_row 84 = .ok (.iload 7, 2) := by decide +kernel
theorem d_Md_row_86 : decode b_Md_row 86 = .ok (.dup2, 1) := by decide +kernel
theorem d_Md_row_87 : decode b_Md_row 87 = .ok (.iaload, 1) := by decide +kernel
theorem d_Md_row_88 : decode b_Md_row 88 = .ok (.iconst 1, 1) := by decide +kernel
theorem d_Md_row_89 : decode b_Md_row 89 = .ok (.iadd, 1) := by decide +kernel
theorem d_Md_row_90 : decode b_Md_row 90 = .ok (.iastore, 1) := by decide +kernel
theorem d_Md_row_91 : decode b_Md_row 91 = .ok (.aload_n 0, 1) := by decide +kernel
theorem d_Md_row_92 : decode b_Md_row 92 = .ok (.getfield 22, 3) := by decide +kernel
theorem d_Md_row_95 : decode b_Md_row 95 = .ok (.iload 7, 2) := by decide +kernel
theorem d_Md_row_97 : decode b_Md_row 97 = .ok (.iaload, 1) := by decide +kernel
theorem d_Md_row_98 : decode b_Md_row 98 = .ok (.ireturn, 1) := by decide +kernel
theorem d_Md_isWay_0 : decode b_Md_isWay 0 = .ok (.aload_n 0, 1) := by decide +kernel
theorem d_Md_isWay_1 : decode b_Md_isWay 1 = .ok (.iload_n 1, 1) := by decide +kernel
theorem d_Md_isWay_2 : decode b_Md_isWay 2 = .ok (.invokevirtual 67, 3) := by decide +kernel
theorem d_Md_isWay_5 : decode b_Md_isWay 5 = .ok (.ifCond .eq 23, 3) := by decide +kernel
theorem d_Md_isWay_8 : decode b_Md_isWay 8 = .ok (.iload_n 2, 1) := by decide +kernel
theorem d_Md_isWay_9 : decode b_Md_isWay 9 = .ok (.iconst 0, 1) := by decide +kernel
theorem d_Md_isWay_10 : decode b_Md_isWay 10 = .ok (.aload_n 0, 1) := by decide +kernel
theorem d_Md_isWay_11 : decode b_Md_isWay 11 = .ok (.getfield 13, 3) := by decide +kernel
theorem d_Md_isWay_14 : decode b_Md_isWay 14 = .ok (.iload_n 1, 1) := by decide +kernel
theorem d_Md_isWay_15 : decode b_Md_isWay 15 = .ok (.iaload, 1) := by decide +kernel
theorem d_Md_isWay_16 : decode b_Md_isWay 16 = .ok (.iconst 1, 1) := by decide +kernel
theorem d_Md_isWay_17 : decode b_Md_isWay 17 = .ok (.isub, 1) := by decide +kernel
theorem d_Md_isWay_18 : decode b_Md_isWay 18 = .ok (.invokestatic 63, 3) := by decide +kernel
theorem d_Md_isWay_21 : decode b_Md_isWay 21 = .ok (.ifCond .eq 7, 3) := by decide +kernel
theorem d_Md_isWay_24 : decode b_Md_isWay 24 = .ok (.iconst 1, 1) := by decide +kernel
theorem d_Md_isWay_25 : decode b_Md_isWay 25 = .ok (.goto 4, 3) := by decide +kernel
theorem d_Md_isWay_28 : decode b_Md_isWay 28 = .ok (.iconst 0, 1) := by decide +kernel
theorem d_Md_isWay_29 : decode b_Md_isWay 29 = .ok (.ireturn, 1) := by decide +kernel
theorem d_Md_factor_0 : decode b_Md_factor 0 = .ok (.aload_n 0, 1) := by decide +kernel
theorem d_Md_factor_1 : decode b_Md_factor 1 = .ok (.iload_n 1, 1) := by decide +kernel
theorem d_Md_factor_2 : decode b_Md_factor 2 = .ok (.iload_n 2, 1) := by decide +kernel
theorem d_Md_factor_3 : decode b_Md_factor 3 = .ok (.invokevirtual 92, 3) := by decide +kernel
theorem d_Md_factor_6 : decode b_Md_factor 6 = .ok (.ifCond .eq 22, 3) := by decide +kernel
theorem d_Md_factor_9 : decode b_Md_factor 9 = .ok (.aload_n 0, 1) := by decide +kernel
theorem d_Md_factor_10 : decode b_Md_factor 10 = .ok (.iload_n 1, 1) := by decide +kernel
theorem d_Md_factor_11 : decode b_Md_factor 11 = .ok (.iload_n 3, 1) := by decide +kernel
theorem d_Md_factor_12 : decode b_Md_factor 12 = .ok (.invokevirtual 96, 3) := by decide +kernel
theorem d_Md_factor_15 : decode b_Md_factor 15 = .ok (.ifCond .eq 13, 3) := by decide +kernel
theorem d_Md_factor_18 : decode b_Md_factor 18 = .ok (.aload_n 0, 1) := by decide +kernel
theorem d_Md_factor_19 : decode b_Md_factor 19 = .ok (.iload_n 1, 1) := by decide +kernel
theorem d_Md_factor_20 : decode b_Md_factor 20 = .ok (.iload 4, 2) := by decide +kernel
theorem d_Md_factor_22 : decode b_Md_factor 22 = .ok (.invokevirtual 96, 3) := by decide +kernel
theorem d_Md_factor_25 : decode b_Md_factor 25 = .ok (.ifCond .ne 6, 3) := by decide +kernel
theorem d_Md_factor_28 : decode b_Md_factor 28 = .ok (.bipush (-2), 2) := by decide +kernel
theorem d_Md_factor_30 : decode b_Md_factor 30 = .ok (.ireturn, 1) := by decide +kernel
theorem d_Md_factor_31 : decode b_Md_factor 31 = .ok (.iload 5, 2) := by decide +kernel
theorem d_Md_factor_33 : decode b_Md_factor 33 = .ok (.bipush (-3), 2) := by decide +kernel
theorem d_Md_factor_35 : decode b_Md_factor 35 = .ok (.iconst 3, 1) := by decide +kernel
theorem d_Md_factor_36 : decode b_Md_factor 36 = .ok (.invokestatic 63, 3) := by decide +kernel
theorem d_Md_factor_39 : decode b_Md_factor 39 = .ok (.ifCond .ne 6, 3) := by decide +kernel
theorem d_Md_factor_42 : decode b_Md_factor 42 = .ok (.bipush (-3), 2) := by decide +kernel
theorem d_Md_factor_44 : decode b_Md_factor 44 = .ok (.ireturn, 1) := by decide +kernel
theorem d_Md_factor_45 : decode b_Md_factor 45 = .ok (.bipush 9, 2) := by decide +kernel
theorem d_Md_factor_47 : decode b_Md_factor 47 = .ok (.iconst 3, 1) := by decide +kernel
theorem d_Md_factor_48 : decode b_Md_factor 48 = .ok (.iload_n 1, 1) := by decide +kernel
theorem d_Md_factor_49 : decode b_Md_factor 49 = .ok (.imul, 1) := by decide +kernel
theorem d_Md_factor_50 : decode b_Md_factor 50 = .ok (.iload_n 2, 1) := by decide +kernel
theorem d_Md_factor_51 : decode b_Md_factor 51 = .ok (.iadd, 1) := by decide +kernel
theorem d_Md_factor_52 : decode b_Md_factor 52 = .ok (.imul, 1) := by decide +kernel
theorem d_Md_factor_53 : decode b_Md_factor 53 = .ok (.iconst 3, 1) := by decide +kernel
theorem d_Md_factor_54 : decode b_Md_factor 54 = .ok (.iload_n 3, 1) := by decide +kernel
theorem d_Md_factor_55 : decode b_Md_factor 55 = .ok (.imul, 1) := by decide +kernel
theorem d_Md_factor_56 : decode b_Md_factor 56 = .ok (.iadd, 1) := by decide +kernel
theorem d_Md_factor_57 : decode b_Md_factor 57 = .ok (.iload 4, 2) := by decide +kernel
theorem d_Md_factor_59 : decode b_Md_factor 59 = .ok (.iadd, 1) := by decide +kernel
theorem d_Md_factor_60 : decode b_Md_factor 60 = .ok (.istore 6, 2) := by decide +kernel
theorem d_Md_factor_62 : decode b_Md_factor 62 = .ok (.aload_n 0, 1) := by decide +kernel
theorem d_Md_factor_63 : decode b_Md_factor 63 = .ok (.getfield 28, 3) := by decide +kernel
theorem d_Md_factor_66 : decode b_Md_factor 66 = .ok (.iload 6, 2) := by decide +kernel
theorem d_Md_factor_68 : decode b_Md_factor 68 = .ok (.iaload, 1) := by decide +kernel
theorem d_Md_factor_69 : decode b_Md_factor 69 = .ok (.istore 7, 2) := by decide +kernel
theorem d_Md_factor_71 : decode b_Md_factor 71 = .ok (.aload_n 0, 1) := by decide +kernel
theorem d_Md_factor_72 : decode b_Md_factor 72 = .ok (.getfield 28, 3) := by decide +kernel
theorem d_Md_factor_75 : decode b_Md_factor 75 = .ok (.iload 6, 2) := by decide +kernel
theorem d_Md_factor_77 : decode b_Md_factor 77 = .ok (.iload 5, 2) := by decide +kernel
theorem d_Md_factor_79 : decode b_Md_factor 79 = .ok (.iastore, 1) := by decide +kernel
theorem d_Md_factor_80 : decode b_Md_factor 80 = .ok (.iload 7, 2) := by decide +kernel
theorem d_Md_factor_82 : decode b_Md_factor 82 = .ok (.iconst 3, 1) := by decide +kernel
theorem d_Md_factor_83 : decode b_Md_factor 83 = .ok (.iadd, 1) := by decide +kernel
theorem d_Md_factor_84 : decode b_Md_factor 84 = .ok (.ireturn, 1) := by decide +kernel
theorem d_Md_isName_0 : decode b_Md_isName 0 = .ok (.aload_n 0, 1) := by decide +kernel
theorem d_Md_isName_1 : decode b_Md_isName 1 = .ok (.iload_n 1, 1) := by decide +kernel
theorem d_Md_isName_2 : decode b_Md_isName 2 = .ok (.invokevirtual 67, 3) := by decide +kernel
theorem d_Md_isName_5 : decode b_Md_isName 5 = .ok (.ifCond .eq 23, 3) := by decide +kernel
theorem d_Md_isName_8 : decode b_Md_isName 8 = .ok (.iload_n 2, 1) := by decide +kernel
theorem d_Md_isName_9 : decode b_Md_isName 9 = .ok (.iconst 0, 1) := by decide +kernel
theorem d_Md_isName_10 : decode b_Md_isName 10 = .ok (.aload_n 0, 1) := by decide +kernel
theorem d_Md_isName_11 : decode b_Md_isName 11 = .ok (.getfield 7, 3) := by decide +kernel
theorem d_Md_isName_14 : decode b_Md_isName 14 = .ok (.iload_n 1, 1) := by decide +kernel
theorem d_Md_isName_15 : decode b_Md_isName 15 = .ok (.iaload, 1) := by decide +kernel
theorem d_Md_isName_16 : decode b_Md_isName 16 = .ok (.iconst 1, 1) := by decide +kernel
theorem d_Md_isName_17 : decode b_Md_isName 17 = .ok (.isub, 1) := by decide +kernel
theorem d_Md_isName_18 : decode b_Md_isName 18 = .ok (.invokestatic 63, 3) := by decide +kernel
theorem d_Md_isName_21 : decode b_Md_isName 21 = .ok (.ifCond .eq 7, 3) := by decide +kernel
theorem d_Md_isName_24 : decode b_Md_isName 24 = .ok (.iconst 1, 1) := by decide +kernel
theorem d_Md_isName_25 : decode b_Md_isName 25 = .ok (.goto 4, 3) := by decide +kernel
theorem d_Md_isName_28 : decode b_Md_isName 28 = .ok (.iconst 0, 1) := by decide +kernel
theorem d_Md_isName_29 : decode b_Md_isName 29 = .ok (.ireturn, 1) := by decide +kernel
theorem d_Md_constant_0 : decode b_Md_constant 0 = .ok (.aload_n 0, 1) := by decide +kernel
theorem d_Md_constant_1 : decode b_Md_constant 1 = .ok (.iload_n 1, 1) := by decide +kernel
theorem d_Md_constant_2 : decode b_Md_constant 2 = .ok (.iload_n 2, 1) := by decide +kernel
theorem d_Md_constant_3 : decode b_Md_constant 3 = .ok (.invokevirtual 92, 3) := by decide +kernel
theorem d_Md_constant_6 : decode b_Md_constant 6 = .ok (.ifCond .eq 12, 3) := by decide +kernel
theorem d_Md_constant_9 : decode b_Md_constant 9 = .ok (.aload_n 0, 1) := by decide +kernel
theorem d_Md_constant_10 : decode b_Md_constant 10 = .ok (.iload_n 1, 1) := by decide +kernel
theorem d_Md_constant_11 : decode b_Md_constant 11 = .ok (.iload_n 3, 1) := by decide +kernel
theorem d_Md_constant_12 : decode b_Md_constant 12 = .ok (.invokevirtual 96, 3) := by decide +kernel
theorem d_Md_constant_15 : decode b_Md_constant 15 = .ok (.ifCond .ne 6, 3) := by decide +kernel
theorem d_Md_constant_18 : decode b_Md_constant 18 = .ok (.bipush (-2), 2) := by decide +kernel
theorem d_Md_constant_20 : decode b_Md_constant 20 = .ok (.ireturn, 1) := by decide +kernel
theorem d_Md_constant_21 : decode b_Md_constant 21 = .ok (.iload 4, 2) := by decide +kernel
theorem d_Md_constant_23 : decode b_Md_constant 23 = .ok (.bipush (-99), 2) := by decide +kernel
theorem d_Md_constant_25 : decode b_Md_constant 25 = .ok (.bipush 99, 2) := by decide +kernel
theorem d_Md_constant_27 : decode b_Md_constant 27 = .ok (.invokestatic 63, 3) := by decide +kernel
theorem d_Md_constant_30 : decode b_Md_constant 30 = .ok (.ifCond .ne 6, 3) := by decide +kernel
theorem d_Md_constant_33 : decode b_Md_constant 33 = .ok (.bipush (-3), 2) := by decide +kernel
theorem d_Md_constant_35 : decode b_Md_constant 35 = .ok (.ireturn, 1) := by decide +kernel
theorem d_Md_constant_36 : decode b_Md_constant 36 = .ok (.iconst 3, 1) := by decide +kernel
theorem d_Md_constant_37 : decode b_Md_constant 37 = .ok (.iconst 3, 1) := by decide +kernel
theorem d_Md_constant_38 : decode b_Md_constant 38 = .ok (.iload_n 1, 1) := by decide +kernel
theorem d_Md_constant_39 : decode b_Md_constant 39 = .ok (.imul, 1) := by decide +kernel
theorem d_Md_constant_40 : decode b_Md_constant 40 = .ok (.iload_n 2, 1) := by decide +kernel
theorem d_Md_constant_41 : decode b_Md_constant 41 = .ok (.iadd, 1) := by decide +kernel
theorem d_Md_constant_42 : decode b_Md_constant 42 = .ok (.imul, 1) := by decide +kernel
theorem d_Md_constant_43 : decode b_Md_constant 43 = .ok (.iload_n 3, 1) := by decide +kernel
theorem d_Md_constant_44 : decode b_Md_constant 44 = .ok (.iadd, 1) := by decide +kernel
theorem d_Md_constant_45 : decode b_Md_constant 45 = .ok (.istore 5, 2) := by decide +kernel
theorem d_Md_constant_47 : decode b_Md_constant 47 = .ok (.aload_n 0, 1) := by decide +kernel
theorem d_Md_constant_48 : decode b_Md_constant 48 = .ok (.getfield 31, 3) := by decide +kernel
theorem d_Md_constant_51 : decode b_Md_constant 51 = .ok (.iload 5, 2) := by decide +kernel
theorem d_Md_constant_53 : decode b_Md_constant 53 = .ok (.iaload, 1) := by decide +kernel
theorem d_Md_constant_54 : decode b_Md_constant 54 = .ok (.istore 6, 2) := by decide +kernel
theorem d_Md_constant_56 : decode b_Md_constant 56 = .ok (.aload_n 0, 1) := by decide +kernel
theorem d_Md_constant_57 : decode b_Md_constant 57 = .ok (.getfield 31, 3) := by decide +kernel
theorem d_Md_constant_60 : decode b_Md_constant 60 = .ok (.iload 5, 2) := by decide +kernel
theorem d_Md_constant_62 : decode b_Md_constant 62 = .ok (.iload 4, 2) := by decide +kernel
theorem d_Md_constant_64 : decode b_Md_constant 64 = .ok (.iastore, 1) := by decide +kernel
theorem d_Md_constant_65 : decode b_Md_constant 65 = .ok (.iload 6, 2) := by decide +kernel
theorem d_Md_constant_67 : decode b_Md_constant 67 = .ok (.bipush 99, 2) := by decide +kernel
theorem d_Md_constant_69 : decode b_Md_constant 69 = .ok (.iadd, 1) := by decide +kernel
theorem d_Md_constant_70 : decode b_Md_constant 70 = .ok (.ireturn, 1) := by decide +kernel
theorem d_Md_told_0 : decode b_Md_told 0 = .ok (.aload_n 0, 1) := by decide +kernel
theorem d_Md_told_1 : decode b_Md_told 1 = .ok (.iload_n 1, 1) := by decide +kernel
theorem d_Md_told_2 : decode b_Md_told 2 = .ok (.invokevirtual 67, 3) := by decide +kernel
theorem d_Md_told_5 : decode b_Md_told 5 = .ok (.ifCond .ne 6, 3) := by decide +kernel
theorem d_Md_told_8 : decode b_Md_told 8 = .ok (.bipush (-2), 2) := by decide +kernel
theorem d_Md_told_10 : decode b_Md_told 10 = .ok (.ireturn, 1) := by decide +kernel
theorem d_Md_told_11 : decode b_Md_told 11 = .ok (.iload_n 2, 1) := by decide +kernel
theorem d_Md_told_12 : decode b_Md_told 12 = .ok (.ifCond .ne 12, 3) := by decide +kernel
theorem d_Md_told_15 : decode b_Md_told 15 = .ok (.aload_n 0, 1) := by decide +kernel
theorem d_Md_told_16 : decode b_Md_told 16 = .ok (.getfield 7, 3) := by decide +kernel
theorem d_Md_told_19 : decode b_Md_told 19 = .ok (.iload_n 1, 1) := by decide +kernel
theorem d_Md_told_20 : decode b_Md_told 20 = .ok (.iaload, 1) := by decide +kernel
theorem d_Md_told_21 : decode b_Md_told 21 = .ok (.goto 33, 3) := by decide +kernel
theorem d_Md_told_24 : decode b_Md_told 24 = .ok (.iload_n 2, 1) := by decide +kernel
theorem d_Md_told_25 : decode b_Md_told 25 = .ok (.iconst 1, 1) := by decide +kernel
theorem d_Md_told_26 : decode b_Md_told 26 = .ok (.if_icmp .ne 12, 3) := by decide +kernel
theorem d_Md_told_29 : decode b_Md_told 29 = .ok (.aload_n 0, 1) := by decide +kernel
theorem d_Md_told_30 : decode b_Md_told 30 = .ok (.getfield 13, 3) := by decide +kernel
theorem d_Md_told_33 : decode b_Md_told 33 = .ok (.iload_n 1, 1) := by decide +kernel
theorem d_Md_told_34 : decode b_Md_told 34 = .ok (.iaload, 1) := by decide +kernel
theorem d_Md_told_35 : decode b_Md_told 35 = .ok (.goto 19, 3) := by decide +kernel
theorem d_Md_told_38 : decode b_Md_told 38 = .ok (.iload_n 2, 1) := by decide +kernel
theorem d_Md_told_39 : decode b_Md_told 39 = .ok (.iconst 2, 1) := by decide +kernel
theorem d_Md_told_40 : decode b_Md_told 40 = .ok (.if_icmp .ne 12, 3) := by decide +kernel
theorem d_Md_told_43 : decode b_Md_told 43 = .ok (.aload_n 0, 1) := by decide +kernel
theorem d_Md_told_44 : decode b_Md_told 44 = .ok (.getfield 16, 3) := by decide +kernel
theorem d_Md_told_47 : decode b_Md_told 47 = .ok (.iload_n 1, 1) := by decide +kernel
theorem d_Md_told_48 : decode b_Md_told 48 = .ok (.iaload, 1) := by decide +kernel
theorem d_Md_told_49 : decode b_Md_told 49 = .ok (.goto 5, 3) := by decide +kernel
theorem d_Md_told_52 : decode b_Md_told 52 = .ok (.bipush (-3), 2) := by decide +kernel
theorem d_Md_told_54 : decode b_Md_told 54 = .ok (.ireturn, 1) := by decide +kernel
theorem d_Md_empty_0 : decode b_Md_empty 0 = .ok (.aload_n 0, 1) := by decide +kernel
theorem d_Md_empty_1 : decode b_Md_empty 1 = .ok (.iload_n 1, 1) := by decide +kernel
theorem d_Md_empty_2 : decode b_Md_empty 2 = .ok (.iload_n 2, 1) := by decide +kernel
theorem d_Md_empty_3 : decode b_Md_empty 3 = .ok (.invokevirtual 92, 3) := by decide +kernel
theorem d_Md_empty_6 : decode b_Md_empty 6 = .ok (.ifCond .ne 6, 3) := by decide +kernel
theorem d_Md_empty_9 : decode b_Md_empty 9 = .ok (.bipush (-2), 2) := by decide +kernel
theorem d_Md_empty_11 : decode b_Md_empty 11 = .ok (.ireturn, 1) := by decide +kernel
theorem d_Md_empty_12 : decode b_Md_empty 12 = .ok (.aload_n 0, 1) := by decide +kernel
theorem d_Md_empty_13 : decode b_Md_empty 13 = .ok (.iload_n 1, 1) := by decide +kernel
theorem d_Md_empty_14 : decode b_Md_empty 14 = .ok (.iload_n 2, 1) := by decide +kernel
theorem d_Md_empty_15 : decode b_Md_empty 15 = .ok (.iconst 0, 1) := by decide +kernel
theorem d_Md_empty_16 : decode b_Md_empty 16 = .ok (.invokevirtual 174, 3) := by decide +kernel
theorem d_Md_empty_19 : decode b_Md_empty 19 = .ok (.aload_n 0, 1) := by decide +kernel
theorem d_Md_empty_20 : decode b_Md_empty 20 = .ok (.invokevirtual 178, 3) := by decide +kernel
theorem d_Md_empty_23 : decode b_Md_empty 23 = .ok (.ifCond .eq 7, 3) := by decide +kernel
theorem d_Md_empty_26 : decode b_Md_empty 26 = .ok (.iconst 1, 1) := by decide +kernel
theorem d_Md_empty_27 : decode b_Md_empty 27 = .ok (.goto 4, 3) := by decide +kernel
theorem d_Md_empty_30 : decode b_Md_empty 30 = .ok (.iconst 0, 1) := by decide +kernel
theorem d_Md_empty_31 : decode b_Md_empty 31 = .ok (.ireturn, 1) := by decide +kernel
theorem d_Md_space_0 : decode b_Md_space 0 = .ok (.aload_n 0, 1) := by decide +kernel
theorem d_Md_space_1 : decode b_Md_space 1 = .ok (.iconst 0, 1) := by decide +kernel
theorem d_Md_space_2 : decode b_Md_space 2 = .ok (.putfield 99, 3) := by decide +kernel
theorem d_Md_space_5 : decode b_Md_space 5 = .ok (.iconst 0, 1) := by decide +kernel
theorem d_Md_space_6 : decode b_Md_space 6 = .ok (.istore 4, 2) := by decide +kernel
theorem d_Md_space_8 : decode b_Md_space 8 = .ok (.iload 4, 2) := by decide +kernel
theorem d_Md_space_10 : decode b_Md_space 10 = .ok (.aload_n 0, 1) := by decide +kernel
theorem d_Md_space_11 : decode b_Md_space 11 = .ok (.getfield 16, 3) := by decide +kernel
theorem d_Md_space_14 : decode b_Md_space 14 = .ok (.iload_n 1, 1) := by decide +kernel
theorem d_Md_space_15 : decode b_Md_space 15 = .ok (.iaload, 1) := by decide +kernel
theorem d_Md_space_16 : decode b_Md_space 16 = .ok (.if_icmp .ge 62, 3) := by decide +kernel
theorem d_Md_space_19 : decode b_Md_space 19 = .ok (.bipush 16, 2) := by decide +kernel
theorem d_Md_space_21 : decode b_Md_space 21 = .ok (.iload_n 1, 1) := by decide +kernel
theorem d_Md_space_22 : decode b_Md_space 22 = .ok (.imul, 1) := by decide +kernel
theorem d_Md_space_23 : decode b_Md_space 23 = .ok (.iconst 4, 1) := by decide +kernel
theorem d_Md_space_24 : decode b_Md_space 24 = .ok (.iload 4, 2) := by decide +kernel
theorem d_Md_space_26 : decode b_Md_space 26 = .ok (.imul, 1) := by decide +kernel
theorem d_Md_space_27 : decode b_Md_space 27 = .ok (.iadd, 1) := by decide +kernel
theorem d_Md_space_28 : decode b_Md_space 28 = .ok (.istore 5, 2) := by decide +kernel
theorem d_Md_space_30 : decode b_Md_space 30 = .ok (.aload_n 0, 1) := by decide +kernel
theorem d_Md_space_31 : decode b_Md_space 31 = .ok (.aload_n 0, 1) := by decide +kernel
theorem d_Md_space_32 : decode b_Md_space 32 = .ok (.getfield 19, 3) := by decide +kernel
theorem d_Md_space_35 : decode b_Md_space 35 = .ok (.iload 5, 2) := by decide +kernel
theorem d_Md_space_37 : decode b_Md_space 37 = .ok (.iaload, 1) := by decide +kernel
theorem d_Md_space_38 : decode b_Md_space 38 = .ok (.i2l, 1) := by decide +kernel
theorem d_Md_space_39 : decode b_Md_space 39 = .ok (.aload_n 0, 1) := by decide +kernel
theorem d_Md_space_40 : decode b_Md_space 40 = .ok (.getfield 19, 3) := by decide +kernel
theorem d_Md_space_43 : decode b_Md_space 43 = .ok (.iload 5, 2) := by decide +kernel
theorem d_Md_space_45 : decode b_Md_space 45 = .ok (.iconst 1, 1) := by decide +kernel
theorem d_Md_space_46 : decode b_Md_space 46 = .ok (.iadd, 1) := by decide +kernel
theorem d_Md_space_47 : decode b_Md_space 47 = .ok (.iaload, 1) := by decide +kernel
theorem d_Md_space_48 : decode b_Md_space 48 = .ok (.i2l, 1) := by decide +kernel
theorem d_Md_space_49 : decode b_Md_space 49 = .ok (.aload_n 0, 1) := by decide +kernel
theorem d_Md_space_50 : decode b_Md_space 50 = .ok (.getfield 19, 3) := by decide +kernel
theorem d_Md_space_53 : decode b_Md_space 53 = .ok (.iload 5, 2) := by decide +kernel
theorem d_Md_space_55 : decode b_Md_space 55 = .ok (.iconst 2, 1) := by decide +kernel
theorem d_Md_space_56 : decode b_Md_space 56 = .ok (.iadd, 1) := by decide +kernel
theorem d_Md_space_57 : decode b_Md_space 57 = .ok (.iaload, 1) := by decide +kernel
theorem d_Md_space_58 : decode b_Md_space 58 = .ok (.i2l, 1) := by decide +kernel
theorem d_Md_space_59 : decode b_Md_space 59 = .ok (.aload_n 0, 1) := by decide +kernel
theorem d_Md_space_60 : decode b_Md_space 60 = .ok (.getfield 19, 3) := by decide +kernel
theorem d_Md_space_63 : decode b_Md_space 63 = .ok (.iload 5, 2) := by decide +kernel
theorem d_Md_space_65 : decode b_Md_space 65 = .ok (.iconst 3, 1) := by decide +kernel
theorem d_Md_space_66 : decode b_Md_space 66 = .ok (.iadd, 1) := by decide +kernel
theorem d_Md_space_67 : decode b_Md_space 67 = .ok (.iaload, 1) := by decide +kernel
theorem d_Md_space_68 : decode b_Md_space 68 = .ok (.i2l, 1) := by decide +kernel
theorem d_Md_space_69 : decode b_Md_space 69 = .ok (.invokevirtual 102, 3) := by decide +kernel
theorem d_Md_space_72 : decode b_Md_space 72 = .ok (.iinc 4 1, 3) := by decide +kernel
theorem d_Md_space_75 : decode b_Md_space 75 = .ok (.goto (-67), 3) := by decide +kernel
theorem d_Md_space_78 : decode b_Md_space 78 = .ok (.iconst 3, 1) := by decide +kernel
theorem d_Md_space_79 : decode b_Md_space 79 = .ok (.iload_n 1, 1) := by decide +kernel
theorem d_Md_space_80 : decode b_Md_space 80 = .ok (.imul, 1) := by decide +kernel
theorem d_Md_space_81 : decode b_Md_space 81 = .ok (.iload_n 2, 1) := by decide +kernel
theorem d_Md_space_82 : decode b_Md_space 82 = .ok (.iadd, 1) := by decide +kernel
theorem d_Md_space_83 : decode b_Md_space 83 = .ok (.istore 4, 2) := by decide +kernel
theorem d_Md_space_85 : decode b_Md_space 85 = .ok (.iconst 0, 1) := by decide +kernel
theorem d_Md_space_86 : decode b_Md_space 86 = .ok (.istore 5, 2) := by decide +kernel
theorem d_Md_space_88 : decode b_Md_space 88 = .ok (.iload 5, 2) := by decide +kernel
theorem d_Md_space_90 : decode b_Md_space 90 = .ok (.aload_n 0, 1) := by decide +kernel
theorem d_Md_space_91 : decode b_Md_space 91 = .ok (.getfield 22, 3) := by decide +kernel
theorem d_Md_space_94 : decode b_Md_space 94 = .ok (.iload 4, 2) := by decide +kernel
theorem d_Md_space_96 : decode b_Md_space 96 = .ok (.iaload, 1) := by decide +kernel
theorem d_Md_space_97 : decode b_Md_space 97 = .ok (.if_icmp .ge 63, 3) := by decide +kernel
theorem d_Md_space_100 : decode b_Md_space 100 = .ok (.bipush 8, 2) := by decide +kernel
theorem d_Md_space_102 : decode b_Md_space 102 = .ok (.iload 4, 2) := by decide +kernel
theorem d_Md_space_104 : decode b_Md_space 104 = .ok (.imul, 1) := by decide +kernel
theorem d_Md_space_105 : decode b_Md_space 105 = .ok (.iconst 4, 1) := by decide +kernel
theorem d_Md_space_106 : decode b_Md_space 106 = .ok (.iload 5, 2) := by decide +kernel
theorem d_Md_space_108 : decode b_Md_space 108 = .ok (.imul, 1) := by decide +kernel
theorem d_Md_space_109 : decode b_Md_space 109 = .ok (.iadd, 1) := by decide +kernel
theorem d_Md_space_110 : decode b_Md_space 110 = .ok (.istore 6, 2) := by decide +kernel
theorem d_Md_space_112 : decode b_Md_space 112 = .ok (.aload_n 0, 1) := by decide +kernel
theorem d_Md_space_113 : decode b_Md_space 113 = .ok (.aload_n 0, 1) := by decide +kernel
theorem d_Md_space_114 : decode b_Md_space 114 = .ok (.getfield 25, 3) := by decide +kernel
theorem d_Md_space_117 : decode b_Md_space 117 = .ok (.iload 6, 2) := by decide +kernel
theorem d_Md_space_119 : decode b_Md_space 119 = .ok (.iaload, 1) := by decide +kernel
theorem d_Md_space_120 : decode b_Md_space 120 = .ok (.i2l, 1) := by decide +kernel
theorem d_Md_space_121 : decode b_Md_space 121 = .ok (.aload_n 0, 1) := by decide +kernel
end
section
theorem d_Md_space_122 : decode b_Md_space 122 = .ok (.getfield 25, 3) := by decide +kernel
theorem d_Md_space_125 : decode b_Md_space 125 = .ok (.iload 6, 2) := by decide +kernel
theorem d_Md_space_127 : decode b_Md_space 127 = .ok (.iconst 1, 1) := by decide +kernel
theorem d_Md_space_128 : decode b_Md_space 128 = .ok (.iadd, 1) := by decide +kernel
theorem d_Md_space_129 : decode b_Md_space 129 = .ok (.iaload, 1) := by decide +kernel
theorem d_Md_space_130 : decode b_Md_space 130 = .ok (.i2l, 1) := by decide +kernel
theorem d_Md_space_131 : decode b_Md_space 131 = .ok (.aload_n 0, 1) := by decide +kernel
theorem d_Md_space_132 : decode b_Md_space 132 = .ok (.getfield 25, 3) := by decide +kernel
theorem d_Md_space_135 : decode b_Md_space 135 = .ok (.iload 6, 2) := by decide +kernel
theorem d_Md_space_137 : decode b_Md_space 137 = .ok (.iconst 2, 1) := by decide +kernel
theorem d_Md_space_138 : decode b_Md_space 138 = .ok (.iadd, 1) := by decide +kernel
theorem d_Md_space_139 : decode b_Md_space 139 = .ok (.iaload, 1) := by decide +kernel
theorem d_Md_space_140 : decode b_Md_space 140 = .ok (.i2l, 1) := by decide +kernel
theorem d_Md_space_141 : decode b_Md_space 141 = .ok (.aload_n 0, 1) := by decide +kernel
theorem d_Md_space_142 : decode b_Md_space 142 = .ok (.getfield 25, 3) := by decide +kernel
theorem d_Md_space_145 : decode b_Md_space 145 = .ok (.iload 6, 2) := by decide +kernel
theorem d_Md_space_147 : decode b_Md_space 147 = .ok (.iconst 3, 1) := by decide +kernel
theorem d_Md_space_148 : decode b_Md_space 148 = .ok (.iadd, 1) := by decide +kernel
theorem d_Md_space_149 : decode b_Md_space 149 = .ok (.iaload, 1) := by decide +kernel
theorem d_Md_space_150 : decode b_Md_space 150 = .ok (.i2l, 1) := by decide +kernel
theorem d_Md_space_151 : decode b_Md_space 151 = .ok (.invokevirtual 102, 3) := by decide +kernel
theorem d_Md_space_154 : decode b_Md_space 154 = .ok (.iinc 5 1, 3) := by decide +kernel
theorem d_Md_space_157 : decode b_Md_space 157 = .ok (.goto (-69), 3) := by decide +kernel
theorem d_Md_space_160 : decode b_Md_space 160 = .ok (.iload_n 3, 1) := by decide +kernel
theorem d_Md_space_161 : decode b_Md_space 161 = .ok (.ifCond .eq 23, 3) := by decide +kernel
theorem d_Md_space_164 : decode b_Md_space 164 = .ok (.aload_n 0, 1) := by decide +kernel
theorem d_Md_space_165 : decode b_Md_space 165 = .ok (.aload_n 0, 1) := by decide +kernel
theorem d_Md_space_166 : decode b_Md_space 166 = .ok (.getfield 106, 3) := by decide +kernel
theorem d_Md_space_169 : decode b_Md_space 169 = .ok (.aload_n 0, 1) := by decide +kernel
theorem d_Md_space_170 : decode b_Md_space 170 = .ok (.getfield 110, 3) := by decide +kernel
theorem d_Md_space_173 : decode b_Md_space 173 = .ok (.aload_n 0, 1) := by decide +kernel
theorem d_Md_space_174 : decode b_Md_space 174 = .ok (.getfield 113, 3) := by decide +kernel
theorem d_Md_space_177 : decode b_Md_space 177 = .ok (.aload_n 0, 1) := by decide +kernel
theorem d_Md_space_178 : decode b_Md_space 178 = .ok (.getfield 116, 3) := by decide +kernel
theorem d_Md_space_181 : decode b_Md_space 181 = .ok (.invokevirtual 102, 3) := by decide +kernel
theorem d_Md_space_184 : decode b_Md_space 184 = .ok (.return_, 1) := by decide +kernel
theorem d_Md_comes_0 : decode b_Md_comes 0 = .ok (.aload_n 0, 1) := by decide +kernel
theorem d_Md_comes_1 : decode b_Md_comes 1 = .ok (.getfield 44, 3) := by decide +kernel
theorem d_Md_comes_4 : decode b_Md_comes 4 = .ok (.aload_n 0, 1) := by decide +kernel
theorem d_Md_comes_5 : decode b_Md_comes 5 = .ok (.getfield 99, 3) := by decide +kernel
theorem d_Md_comes_8 : decode b_Md_comes 8 = .ok (.lload_n 1, 1) := by decide +kernel
theorem d_Md_comes_9 : decode b_Md_comes 9 = .ok (.lastore, 1) := by decide +kernel
theorem d_Md_comes_10 : decode b_Md_comes 10 = .ok (.aload_n 0, 1) := by decide +kernel
theorem d_Md_comes_11 : decode b_Md_comes 11 = .ok (.getfield 47, 3) := by decide +kernel
theorem d_Md_comes_14 : decode b_Md_comes 14 = .ok (.aload_n 0, 1) := by decide +kernel
theorem d_Md_comes_15 : decode b_Md_comes 15 = .ok (.getfield 99, 3) := by decide +kernel
theorem d_Md_comes_18 : decode b_Md_comes 18 = .ok (.lload_n 3, 1) := by decide +kernel
theorem d_Md_comes_19 : decode b_Md_comes 19 = .ok (.lastore, 1) := by decide +kernel
theorem d_Md_comes_20 : decode b_Md_comes 20 = .ok (.aload_n 0, 1) := by decide +kernel
theorem d_Md_comes_21 : decode b_Md_comes 21 = .ok (.getfield 50, 3) := by decide +kernel
theorem d_Md_comes_24 : decode b_Md_comes 24 = .ok (.aload_n 0, 1) := by decide +kernel
theorem d_Md_comes_25 : decode b_Md_comes 25 = .ok (.getfield 99, 3) := by decide +kernel
theorem d_Md_comes_28 : decode b_Md_comes 28 = .ok (.lload 5, 2) := by decide +kernel
theorem d_Md_comes_30 : decode b_Md_comes 30 = .ok (.lastore, 1) := by decide +kernel
theorem d_Md_comes_31 : decode b_Md_comes 31 = .ok (.aload_n 0, 1) := by decide +kernel
theorem d_Md_comes_32 : decode b_Md_comes 32 = .ok (.getfield 53, 3) := by decide +kernel
theorem d_Md_comes_35 : decode b_Md_comes 35 = .ok (.aload_n 0, 1) := by decide +kernel
theorem d_Md_comes_36 : decode b_Md_comes 36 = .ok (.getfield 99, 3) := by decide +kernel
theorem d_Md_comes_39 : decode b_Md_comes 39 = .ok (.lload 7, 2) := by decide +kernel
theorem d_Md_comes_41 : decode b_Md_comes 41 = .ok (.lastore, 1) := by decide +kernel
theorem d_Md_comes_42 : decode b_Md_comes 42 = .ok (.aload_n 0, 1) := by decide +kernel
theorem d_Md_comes_43 : decode b_Md_comes 43 = .ok (.dup, 1) := by decide +kernel
theorem d_Md_comes_44 : decode b_Md_comes 44 = .ok (.getfield 99, 3) := by decide +kernel
theorem d_Md_comes_47 : decode b_Md_comes 47 = .ok (.iconst 1, 1) := by decide +kernel
theorem d_Md_comes_48 : decode b_Md_comes 48 = .ok (.iadd, 1) := by decide +kernel
theorem d_Md_comes_49 : decode b_Md_comes 49 = .ok (.putfield 99, 3) := by decide +kernel
theorem d_Md_comes_52 : decode b_Md_comes 52 = .ok (.return_, 1) := by decide +kernel
theorem d_Md_isNothing_0 : decode b_Md_isNothing 0 = .ok (.iconst 0, 1) := by decide +kernel
theorem d_Md_isNothing_1 : decode b_Md_isNothing 1 = .ok (.istore_n 1, 1) := by decide +kernel
theorem d_Md_isNothing_2 : decode b_Md_isNothing 2 = .ok (.iload_n 1, 1) := by decide +kernel
theorem d_Md_isNothing_3 : decode b_Md_isNothing 3 = .ok (.aload_n 0, 1) := by decide +kernel
theorem d_Md_isNothing_4 : decode b_Md_isNothing 4 = .ok (.getfield 99, 3) := by decide +kernel
theorem d_Md_isNothing_7 : decode b_Md_isNothing 7 = .ok (.if_icmp .ge 68, 3) := by decide +kernel
theorem d_Md_isNothing_10 : decode b_Md_isNothing 10 = .ok (.aload_n 0, 1) := by decide +kernel
theorem d_Md_isNothing_11 : decode b_Md_isNothing 11 = .ok (.aload_n 0, 1) := by decide +kernel
theorem d_Md_isNothing_12 : decode b_Md_isNothing 12 = .ok (.getfield 44, 3) := by decide +kernel
theorem d_Md_isNothing_15 : decode b_Md_isNothing 15 = .ok (.iload_n 1, 1) := by decide +kernel
theorem d_Md_isNothing_16 : decode b_Md_isNothing 16 = .ok (.laload, 1) := by decide +kernel
theorem d_Md_isNothing_17 : decode b_Md_isNothing 17 = .ok (.lneg, 1) := by decide +kernel
theorem d_Md_isNothing_18 : decode b_Md_isNothing 18 = .ok (.aload_n 0, 1) := by decide +kernel
theorem d_Md_isNothing_19 : decode b_Md_isNothing 19 = .ok (.getfield 47, 3) := by decide +kernel
theorem d_Md_isNothing_22 : decode b_Md_isNothing 22 = .ok (.iload_n 1, 1) := by decide +kernel
theorem d_Md_isNothing_23 : decode b_Md_isNothing 23 = .ok (.laload, 1) := by decide +kernel
theorem d_Md_isNothing_24 : decode b_Md_isNothing 24 = .ok (.lneg, 1) := by decide +kernel
theorem d_Md_isNothing_25 : decode b_Md_isNothing 25 = .ok (.aload_n 0, 1) := by decide +kernel
theorem d_Md_isNothing_26 : decode b_Md_isNothing 26 = .ok (.getfield 50, 3) := by decide +kernel
theorem d_Md_isNothing_29 : decode b_Md_isNothing 29 = .ok (.iload_n 1, 1) := by decide +kernel
theorem d_Md_isNothing_30 : decode b_Md_isNothing 30 = .ok (.laload, 1) := by decide +kernel
theorem d_Md_isNothing_31 : decode b_Md_isNothing 31 = .ok (.lneg, 1) := by decide +kernel
theorem d_Md_isNothing_32 : decode b_Md_isNothing 32 = .ok (.invokevirtual 167, 3) := by decide +kernel
theorem d_Md_isNothing_35 : decode b_Md_isNothing 35 = .ok (.aload_n 0, 1) := by decide +kernel
theorem d_Md_isNothing_36 : decode b_Md_isNothing 36 = .ok (.iload_n 1, 1) := by decide +kernel
theorem d_Md_isNothing_37 : decode b_Md_isNothing 37 = .ok (.invokevirtual 171, 3) := by decide +kernel
theorem d_Md_isNothing_40 : decode b_Md_isNothing 40 = .ok (.aload_n 0, 1) := by decide +kernel
theorem d_Md_isNothing_41 : decode b_Md_isNothing 41 = .ok (.getfield 128, 3) := by decide +kernel
theorem d_Md_isNothing_44 : decode b_Md_isNothing 44 = .ok (.ifCond .eq 25, 3) := by decide +kernel
theorem d_Md_isNothing_47 : decode b_Md_isNothing 47 = .ok (.aload_n 0, 1) := by decide +kernel
theorem d_Md_isNothing_48 : decode b_Md_isNothing 48 = .ok (.getfield 134, 3) := by decide +kernel
theorem d_Md_isNothing_51 : decode b_Md_isNothing 51 = .ok (.aload_n 0, 1) := by decide +kernel
theorem d_Md_isNothing_52 : decode b_Md_isNothing 52 = .ok (.getfield 53, 3) := by decide +kernel
theorem d_Md_isNothing_55 : decode b_Md_isNothing 55 = .ok (.iload_n 1, 1) := by decide +kernel
theorem d_Md_isNothing_56 : decode b_Md_isNothing 56 = .ok (.laload, 1) := by decide +kernel
theorem d_Md_isNothing_57 : decode b_Md_isNothing 57 = .ok (.lneg, 1) := by decide +kernel
theorem d_Md_isNothing_58 : decode b_Md_isNothing 58 = .ok (.aload_n 0, 1) := by decide +kernel
theorem d_Md_isNothing_59 : decode b_Md_isNothing 59 = .ok (.getfield 131, 3) := by decide +kernel
theorem d_Md_isNothing_62 : decode b_Md_isNothing 62 = .ok (.lmul, 1) := by decide +kernel
theorem d_Md_isNothing_63 : decode b_Md_isNothing 63 = .ok (.lcmp, 1) := by decide +kernel
theorem d_Md_isNothing_64 : decode b_Md_isNothing 64 = .ok (.ifCond .le 5, 3) := by decide +kernel
theorem d_Md_isNothing_67 : decode b_Md_isNothing 67 = .ok (.iconst 1, 1) := by decide +kernel
theorem d_Md_isNothing_68 : decode b_Md_isNothing 68 = .ok (.ireturn, 1) := by decide +kernel
theorem d_Md_isNothing_69 : decode b_Md_isNothing 69 = .ok (.iinc 1 1, 3) := by decide +kernel
theorem d_Md_isNothing_72 : decode b_Md_isNothing 72 = .ok (.goto (-70), 3) := by decide +kernel
theorem d_Md_isNothing_75 : decode b_Md_isNothing 75 = .ok (.iconst 0, 1) := by decide +kernel
theorem d_Md_isNothing_76 : decode b_Md_isNothing 76 = .ok (.ireturn, 1) := by decide +kernel
theorem d_Md_goal_0 : decode b_Md_goal 0 = .ok (.aload_n 0, 1) := by decide +kernel
theorem d_Md_goal_1 : decode b_Md_goal 1 = .ok (.lload_n 1, 1) := by decide +kernel
theorem d_Md_goal_2 : decode b_Md_goal 2 = .ok (.putfield 119, 3) := by decide +kernel
theorem d_Md_goal_5 : decode b_Md_goal 5 = .ok (.aload_n 0, 1) := by decide +kernel
theorem d_Md_goal_6 : decode b_Md_goal 6 = .ok (.lload_n 3, 1) := by decide +kernel
theorem d_Md_goal_7 : decode b_Md_goal 7 = .ok (.putfield 122, 3) := by decide +kernel
theorem d_Md_goal_10 : decode b_Md_goal 10 = .ok (.aload_n 0, 1) := by decide +kernel
theorem d_Md_goal_11 : decode b_Md_goal 11 = .ok (.lload 5, 2) := by decide +kernel
theorem d_Md_goal_13 : decode b_Md_goal 13 = .ok (.putfield 125, 3) := by decide +kernel
theorem d_Md_goal_16 : decode b_Md_goal 16 = .ok (.return_, 1) := by decide +kernel
theorem d_Md_least_0 : decode b_Md_least 0 = .ok (.aload_n 0, 1) := by decide +kernel
theorem d_Md_least_1 : decode b_Md_least 1 = .ok (.iconst 0, 1) := by decide +kernel
theorem d_Md_least_2 : decode b_Md_least 2 = .ok (.putfield 128, 3) := by decide +kernel
theorem d_Md_least_5 : decode b_Md_least 5 = .ok (.aload_n 0, 1) := by decide +kernel
theorem d_Md_least_6 : decode b_Md_least 6 = .ok (.getfield 119, 3) := by decide +kernel
theorem d_Md_least_9 : decode b_Md_least 9 = .ok (.lconst 0, 1) := by decide +kernel
theorem d_Md_least_10 : decode b_Md_least 10 = .ok (.lcmp, 1) := by decide +kernel
theorem d_Md_least_11 : decode b_Md_least 11 = .ok (.ifCond .ne 28, 3) := by decide +kernel
theorem d_Md_least_14 : decode b_Md_least 14 = .ok (.aload_n 0, 1) := by decide +kernel
theorem d_Md_least_15 : decode b_Md_least 15 = .ok (.getfield 122, 3) := by decide +kernel
theorem d_Md_least_18 : decode b_Md_least 18 = .ok (.lconst 0, 1) := by decide +kernel
theorem d_Md_least_19 : decode b_Md_least 19 = .ok (.lcmp, 1) := by decide +kernel
theorem d_Md_least_20 : decode b_Md_least 20 = .ok (.ifCond .ne 19, 3) := by decide +kernel
theorem d_Md_least_23 : decode b_Md_least 23 = .ok (.aload_n 0, 1) := by decide +kernel
theorem d_Md_least_24 : decode b_Md_least 24 = .ok (.getfield 125, 3) := by decide +kernel
theorem d_Md_least_27 : decode b_Md_least 27 = .ok (.lconst 0, 1) := by decide +kernel
theorem d_Md_least_28 : decode b_Md_least 28 = .ok (.lcmp, 1) := by decide +kernel
theorem d_Md_least_29 : decode b_Md_least 29 = .ok (.ifCond .ne 10, 3) := by decide +kernel
theorem d_Md_least_32 : decode b_Md_least 32 = .ok (.aload_n 0, 1) := by decide +kernel
theorem d_Md_least_33 : decode b_Md_least 33 = .ok (.lconst 0, 1) := by decide +kernel
theorem d_Md_least_34 : decode b_Md_least 34 = .ok (.lconst 1, 1) := by decide +kernel
theorem d_Md_least_35 : decode b_Md_least 35 = .ok (.invokevirtual 137, 3) := by decide +kernel
theorem d_Md_least_38 : decode b_Md_least 38 = .ok (.return_, 1) := by decide +kernel
theorem d_Md_least_39 : decode b_Md_least 39 = .ok (.iconst 0, 1) := by decide +kernel
theorem d_Md_least_40 : decode b_Md_least 40 = .ok (.istore_n 2, 1) := by decide +kernel
theorem d_Md_least_41 : decode b_Md_least 41 = .ok (.iload_n 2, 1) := by decide +kernel
theorem d_Md_least_42 : decode b_Md_least 42 = .ok (.iload_n 1, 1) := by decide +kernel
theorem d_Md_least_43 : decode b_Md_least 43 = .ok (.if_icmp .ge 56, 3) := by decide +kernel
theorem d_Md_least_46 : decode b_Md_least 46 = .ok (.aload_n 0, 1) := by decide +kernel
theorem d_Md_least_47 : decode b_Md_least 47 = .ok (.iload_n 2, 1) := by decide +kernel
theorem d_Md_least_48 : decode b_Md_least 48 = .ok (.invokevirtual 141, 3) := by decide +kernel
theorem d_Md_least_51 : decode b_Md_least 51 = .ok (.iconst 0, 1) := by decide +kernel
theorem d_Md_least_52 : decode b_Md_least 52 = .ok (.istore_n 3, 1) := by decide +kernel
theorem d_Md_least_53 : decode b_Md_least 53 = .ok (.iload_n 3, 1) := by decide +kernel
theorem d_Md_least_54 : decode b_Md_least 54 = .ok (.iload_n 2, 1) := by decide +kernel
theorem d_Md_least_55 : decode b_Md_least 55 = .ok (.if_icmp .ge 38, 3) := by decide +kernel
theorem d_Md_least_58 : decode b_Md_least 58 = .ok (.aload_n 0, 1) := by decide +kernel
theorem d_Md_least_59 : decode b_Md_least 59 = .ok (.iload_n 2, 1) := by decide +kernel
theorem d_Md_least_60 : decode b_Md_least 60 = .ok (.iload_n 3, 1) := by decide +kernel
theorem d_Md_least_61 : decode b_Md_least 61 = .ok (.invokevirtual 145, 3) := by decide +kernel
theorem d_Md_least_64 : decode b_Md_least 64 = .ok (.iconst 0, 1) := by decide +kernel
theorem d_Md_least_65 : decode b_Md_least 65 = .ok (.istore 4, 2) := by decide +kernel
theorem d_Md_least_67 : decode b_Md_least 67 = .ok (.iload 4, 2) := by decide +kernel
theorem d_Md_least_69 : decode b_Md_least 69 = .ok (.iload_n 3, 1) := by decide +kernel
theorem d_Md_least_70 : decode b_Md_least 70 = .ok (.if_icmp .ge 17, 3) := by decide +kernel
theorem d_Md_least_73 : decode b_Md_least 73 = .ok (.aload_n 0, 1) := by decide +kernel
theorem d_Md_least_74 : decode b_Md_least 74 = .ok (.iload_n 2, 1) := by decide +kernel
theorem d_Md_least_75 : decode b_Md_least 75 = .ok (.iload_n 3, 1) := by decide +kernel
theorem d_Md_least_76 : decode b_Md_least 76 = .ok (.iload 4, 2) := by decide +kernel
theorem d_Md_least_78 : decode b_Md_least 78 = .ok (.invokevirtual 149, 3) := by decide +kernel
theorem d_Md_least_81 : decode b_Md_least 81 = .ok (.iinc 4 1, 3) := by decide +kernel
theorem d_Md_least_84 : decode b_Md_least 84 = .ok (.goto (-17), 3) := by decide +kernel
theorem d_Md_least_87 : decode b_Md_least 87 = .ok (.iinc 3 1, 3) := by decide +kernel
theorem d_Md_least_90 : decode b_Md_least 90 = .ok (.goto (-37), 3) := by decide +kernel
theorem d_Md_least_93 : decode b_Md_least 93 = .ok (.iinc 2 1, 3) := by decide +kernel
theorem d_Md_least_96 : decode b_Md_least 96 = .ok (.goto (-55), 3) := by decide +kernel
theorem d_Md_least_99 : decode b_Md_least 99 = .ok (.return_, 1) := by decide +kernel
theorem d_Md_bears_0 : decode b_Md_bears 0 = .ok (.aload_n 0, 1) := by decide +kernel
theorem d_Md_bears_1 : decode b_Md_bears 1 = .ok (.getfield 128, 3) := by decide +kernel
theorem d_Md_bears_4 : decode b_Md_bears 4 = .ok (.ifCond .eq 19, 3) := by decide +kernel
theorem d_Md_bears_7 : decode b_Md_bears 7 = .ok (.lload_n 1, 1) := by decide +kernel
theorem d_Md_bears_8 : decode b_Md_bears 8 = .ok (.aload_n 0, 1) := by decide +kernel
theorem d_Md_bears_9 : decode b_Md_bears 9 = .ok (.getfield 131, 3) := by decide +kernel
theorem d_Md_bears_12 : decode b_Md_bears 12 = .ok (.lmul, 1) := by decide +kernel
theorem d_Md_bears_13 : decode b_Md_bears 13 = .ok (.aload_n 0, 1) := by decide +kernel
theorem d_Md_bears_14 : decode b_Md_bears 14 = .ok (.getfield 134, 3) := by decide +kernel
theorem d_Md_bears_17 : decode b_Md_bears 17 = .ok (.lload_n 3, 1) := by decide +kernel
theorem d_Md_bears_18 : decode b_Md_bears 18 = .ok (.lmul, 1) := by decide +kernel
theorem d_Md_bears_19 : decode b_Md_bears 19 = .ok (.lcmp, 1) := by decide +kernel
theorem d_Md_bears_20 : decode b_Md_bears 20 = .ok (.ifCond .le 18, 3) := by decide +kernel
theorem d_Md_bears_23 : decode b_Md_bears 23 = .ok (.aload_n 0, 1) := by decide +kernel
theorem d_Md_bears_24 : decode b_Md_bears 24 = .ok (.iconst 1, 1) := by decide +kernel
theorem d_Md_bears_25 : decode b_Md_bears 25 = .ok (.putfield 128, 3) := by decide +kernel
theorem d_Md_bears_28 : decode b_Md_bears 28 = .ok (.aload_n 0, 1) := by decide +kernel
theorem d_Md_bears_29 : decode b_Md_bears 29 = .ok (.lload_n 1, 1) := by decide +kernel
theorem d_Md_bears_30 : decode b_Md_bears 30 = .ok (.putfield 134, 3) := by decide +kernel
theorem d_Md_bears_33 : decode b_Md_bears 33 = .ok (.aload_n 0, 1) := by decide +kernel
theorem d_Md_bears_34 : decode b_Md_bears 34 = .ok (.lload_n 3, 1) := by decide +kernel
theorem d_Md_bears_35 : decode b_Md_bears 35 = .ok (.putfield 131, 3) := by decide +kernel
theorem d_Md_bears_38 : decode b_Md_bears 38 = .ok (.return_, 1) := by decide +kernel
theorem d_Md_byOne_0 : decode b_Md_byOne 0 = .ok (.aload_n 0, 1) := by decide +kernel
theorem d_Md_byOne_1 : decode b_Md_byOne 1 = .ok (.getfield 122, 3) := by decide +kernel
theorem d_Md_byOne_4 : decode b_Md_byOne 4 = .ok (.aload_n 0, 1) := by decide +kernel
theorem d_Md_byOne_5 : decode b_Md_byOne 5 = .ok (.getfield 50, 3) := by decide +kernel
theorem d_Md_byOne_8 : decode b_Md_byOne 8 = .ok (.iload_n 1, 1) := by decide +kernel
theorem d_Md_byOne_9 : decode b_Md_byOne 9 = .ok (.laload, 1) := by decide +kernel
theorem d_Md_byOne_10 : decode b_Md_byOne 10 = .ok (.lmul, 1) := by decide +kernel
theorem d_Md_byOne_11 : decode b_Md_byOne 11 = .ok (.aload_n 0, 1) := by decide +kernel
theorem d_Md_byOne_12 : decode b_Md_byOne 12 = .ok (.getfield 125, 3) := by decide +kernel
theorem d_Md_byOne_15 : decode b_Md_byOne 15 = .ok (.aload_n 0, 1) := by decide +kernel
theorem d_Md_byOne_16 : decode b_Md_byOne 16 = .ok (.getfield 47, 3) := by decide +kernel
theorem d_Md_byOne_19 : decode b_Md_byOne 19 = .ok (.iload_n 1, 1) := by decide +kernel
theorem d_Md_byOne_20 : decode b_Md_byOne 20 = .ok (.laload, 1) := by decide +kernel
theorem d_Md_byOne_21 : decode b_Md_byOne 21 = .ok (.lmul, 1) := by decide +kernel
theorem d_Md_byOne_22 : decode b_Md_byOne 22 = .ok (.lcmp, 1) := by decide +kernel
theorem d_Md_byOne_23 : decode b_Md_byOne 23 = .ok (.ifCond .ne 59, 3) := by decide +kernel
theorem d_Md_byOne_26 : decode b_Md_byOne 26 = .ok (.aload_n 0, 1) := by decide +kernel
theorem d_Md_byOne_27 : decode b_Md_byOne 27 = .ok (.getfield 125, 3) := by decide +kernel
theorem d_Md_byOne_30 : decode b_Md_byOne 30 = .ok (.aload_n 0, 1) := by decide +kernel
theorem d_Md_byOne_31 : decode b_Md_byOne 31 = .ok (.getfield 44, 3) := by decide +kernel
theorem d_Md_byOne_34 : decode b_Md_byOne 34 = .ok (.iload_n 1, 1) := by decide +kernel
theorem d_Md_byOne_35 : decode b_Md_byOne 35 = .ok (.laload, 1) := by decide +kernel
theorem d_Md_byOne_36 : decode b_Md_byOne 36 = .ok (.lmul, 1) := by decide +kernel
theorem d_Md_byOne_37 : decode b_Md_byOne 37 = .ok (.aload_n 0, 1) := by decide +kernel
theorem d_Md_byOne_38 : decode b_Md_byOne 38 = .ok (.getfield 119, 3) := by decide +kernel
theorem d_Md_byOne_41 : decode b_Md_byOne 41 = .ok (.aload_n 0, 1) := by decide +kernel
theorem d_Md_byOne_42 : decode b_Md_byOne 42 = .ok (.getfield 50, 3) := by decide +kernel
theorem d_Md_byOne_45 : decode b_Md_byOne 45 = .ok (.iload_n 1, 1) := by decide +kernel
theorem d_Md_byOne_46 : decode b_Md_byOne 46 = .ok (.laload, 1) := by decide +kernel
theorem d_Md_byOne_47 : decode b_Md_byOne 47 = .ok (.lmul, 1) := by decide +kernel
theorem d_Md_byOne_48 : decode b_Md_byOne 48 = .ok (.lcmp, 1) := by decide +kernel
theorem d_Md_byOne_49 : decode b_Md_byOne 49 = .ok (.ifCond .ne 33, 3) := by decide +kernel
theorem d_Md_byOne_52 : decode b_Md_byOne 52 = .ok (.aload_n 0, 1) := by decide +kernel
theorem d_Md_byOne_53 : decode b_Md_byOne 53 = .ok (.getfield 119, 3) := by decide +kernel
theorem d_Md_byOne_56 : decode b_Md_byOne 56 = .ok (.aload_n 0, 1) := by decide +kernel
theorem d_Md_byOne_57 : decode b_Md_byOne 57 = .ok (.getfield 47, 3) := by decide +kernel
theorem d_Md_byOne_60 : decode b_Md_byOne 60 = .ok (.iload_n 1, 1) := by decide +kernel
theorem d_Md_byOne_61 : decode b_Md_byOne 61 = .ok (.laload, 1) := by decide +kernel
theorem d_Md_byOne_62 : decode b_Md_byOne 62 = .ok (.lmul, 1) := by decide +kernel
theorem d_Md_byOne_63 : decode b_Md_byOne 63 = .ok (.aload_n 0, 1) := by decide +kernel
theorem d_Md_byOne_64 : decode b_Md_byOne 64 = .ok (.getfield 122, 3) := by decide +kernel
theorem d_Md_byOne_67 : decode b_Md_byOne 67 = .ok (.aload_n 0, 1) := by decide +kernel
theorem d_Md_byOne_68 : decode b_Md_byOne 68 = .ok (.getfield 44, 3) := by decide +kernel
theorem d_Md_byOne_71 : decode b_Md_byOne 71 = .ok (.iload_n 1, 1) := by decide +kernel
theorem d_Md_byOne_72 : decode b_Md_byOne 72 = .ok (.laload, 1) := by decide +kernel
theorem d_Md_byOne_73 : decode b_Md_byOne 73 = .ok (.lmul, 1) := by decide +kernel
theorem d_Md_byOne_74 : decode b_Md_byOne 74 = .ok (.lcmp, 1) := by decide +kernel
theorem d_Md_byOne_75 : decode b_Md_byOne 75 = .ok (.ifCond .ne 7, 3) := by decide +kernel
theorem d_Md_byOne_78 : decode b_Md_byOne 78 = .ok (.iconst 1, 1) := by decide +kernel
theorem d_Md_byOne_79 : decode b_Md_byOne 79 = .ok (.goto 4, 3) := by decide +kernel
theorem d_Md_byOne_82 : decode b_Md_byOne 82 = .ok (.iconst 0, 1) := by decide +kernel
theorem d_Md_byOne_83 : decode b_Md_byOne 83 = .ok (.istore_n 2, 1) := by decide +kernel
theorem d_Md_byOne_84 : decode b_Md_byOne 84 = .ok (.aload_n 0, 1) := by decide +kernel
theorem d_Md_byOne_85 : decode b_Md_byOne 85 = .ok (.getfield 119, 3) := by decide +kernel
theorem d_Md_byOne_88 : decode b_Md_byOne 88 = .ok (.aload_n 0, 1) := by decide +kernel
theorem d_Md_byOne_89 : decode b_Md_byOne 89 = .ok (.getfield 44, 3) := by decide +kernel
theorem d_Md_byOne_92 : decode b_Md_byOne 92 = .ok (.iload_n 1, 1) := by decide +kernel
theorem d_Md_byOne_93 : decode b_Md_byOne 93 = .ok (.laload, 1) := by decide +kernel
theorem d_Md_byOne_94 : decode b_Md_byOne 94 = .ok (.lmul, 1) := by decide +kernel
theorem d_Md_byOne_95 : decode b_Md_byOne 95 = .ok (.aload_n 0, 1) := by decide +kernel
theorem d_Md_byOne_96 : decode b_Md_byOne 96 = .ok (.getfield 122, 3) := by decide +kernel
theorem d_Md_byOne_99 : decode b_Md_byOne 99 = .ok (.aload_n 0, 1) := by decide +kernel
theorem d_Md_byOne_100 : decode b_Md_byOne 100 = .ok (.getfield 47, 3) := by decide +kernel
theorem d_Md_byOne_103 : decode b_Md_byOne 103 = .ok (.iload_n 1, 1) := by decide +kernel
theorem d_Md_byOne_104 : decode b_Md_byOne 104 = .ok (.laload, 1) := by decide +kernel
theorem d_Md_byOne_105 : decode b_Md_byOne 105 = .ok (.lmul, 1) := by decide +kernel
theorem d_Md_byOne_106 : decode b_Md_byOne 106 = .ok (.ladd, 1) := by decide +kernel
theorem d_Md_byOne_107 : decode b_Md_byOne 107 = .ok (.aload_n 0, 1) := by decide +kernel
theorem d_Md_byOne_108 : decode b_Md_byOne 108 = .ok (.getfield 125, 3) := by decide +kernel
theorem d_Md_byOne_111 : decode b_Md_byOne 111 = .ok (.aload_n 0, 1) := by decide +kernel
theorem d_Md_byOne_112 : decode b_Md_byOne 112 = .ok (.getfield 50, 3) := by decide +kernel
theorem d_Md_byOne_115 : decode b_Md_byOne 115 = .ok (.iload_n 1, 1) := by decide +kernel
theorem d_Md_byOne_116 : decode b_Md_byOne 116 = .ok (.laload, 1) := by decide +kernel
theorem d_Md_byOne_117 : decode b_Md_byOne 117 = .ok (.lmul, 1) := by decide +kernel
theorem d_Md_byOne_118 : decode b_Md_byOne 118 = .ok (.ladd, 1) := by decide +kernel
theorem d_Md_byOne_119 : decode b_Md_byOne 119 = .ok (.lstore_n 3, 1) := by decide +kernel
theorem d_Md_byOne_120 : decode b_Md_byOne 120 = .ok (.iload_n 2, 1) := by decide +kernel
theorem d_Md_byOne_121 : decode b_Md_byOne 121 = .ok (.ifCond .eq 62, 3) := by decide +kernel
theorem d_Md_byOne_124 : decode b_Md_byOne 124 = .ok (.lload_n 3, 1) := by decide +kernel
theorem d_Md_byOne_125 : decode b_Md_byOne 125 = .ok (.lconst 0, 1) := by decide +kernel
theorem d_Md_byOne_126 : decode b_Md_byOne 126 = .ok (.lcmp, 1) := by decide +kernel
theorem d_Md_byOne_127 : decode b_Md_byOne 127 = .ok (.ifCond .le 56, 3) := by decide +kernel
theorem d_Md_byOne_130 : decode b_Md_byOne 130 = .ok (.aload_n 0, 1) := by decide +kernel
theorem d_Md_byOne_131 : decode b_Md_byOne 131 = .ok (.lload_n 3, 1) := by decide +kernel
theorem d_Md_byOne_132 : decode b_Md_byOne 132 = .ok (.aload_n 0, 1) := by decide +kernel
theorem d_Md_byOne_133 : decode b_Md_byOne 133 = .ok (.getfield 53, 3) := by decide +kernel
theorem d_Md_byOne_136 : decode b_Md_byOne 136 = .ok (.iload_n 1, 1) := by decide +kernel
theorem d_Md_byOne_137 : decode b_Md_byOne 137 = .ok (.laload, 1) := by decide +kernel
theorem d_Md_byOne_138 : decode b_Md_byOne 138 = .ok (.lmul, 1) := by decide +kernel
theorem d_Md_byOne_139 : decode b_Md_byOne 139 = .ok (.aload_n 0, 1) := by decide +kernel
theorem d_Md_byOne_140 : decode b_Md_byOne 140 = .ok (.getfield 44, 3) := by decide +kernel
theorem d_Md_byOne_143 : decode b_Md_byOne 143 = .ok (.iload_n 1, 1) := by decide +kernel
theorem d_Md_byOne_144 : decode b_Md_byOne 144 = .ok (.laload, 1) := by decide +kernel
theorem d_Md_byOne_145 : decode b_Md_byOne 145 = .ok (.aload_n 0, 1) := by decide +kernel
theorem d_Md_byOne_146 : decode b_Md_byOne 146 = .ok (.getfield 44, 3) := by decide +kernel
theorem d_Md_byOne_149 : decode b_Md_byOne 149 = .ok (.iload_n 1, 1) := by decide +kernel
theorem d_Md_byOne_150 : decode b_Md_byOne 150 = .ok (.laload, 1) := by decide +kernel
theorem d_Md_byOne_151 : decode b_Md_byOne 151 = .ok (.lmul, 1) := by decide +kernel
theorem d_Md_byOne_152 : decode b_Md_byOne 152 = .ok (.aload_n 0, 1) := by decide +kernel
theorem d_Md_byOne_153 : decode b_Md_byOne 153 = .ok (.getfield 47, 3) := by decide +kernel
theorem d_Md_byOne_156 : decode b_Md_byOne 156 = .ok (.iload_n 1, 1) := by decide +kernel
theorem d_Md_byOne_157 : decode b_Md_byOne 157 = .ok (.laload, 1) := by decide +kernel
theorem d_Md_byOne_158 : decode b_Md_byOne 158 = .ok (.aload_n 0, 1) := by decide +kernel
theorem d_Md_byOne_159 : decode b_Md_byOne 159 = .ok (.getfield 47, 3) := by decide +kernel
theorem d_Md_byOne_162 : decode b_Md_byOne 162 = .ok (.iload_n 1, 1) := by decide +kernel
theorem d_Md_byOne_163 : decode b_Md_byOne 163 = .ok (.laload, 1) := by decide +kernel
theorem d_Md_byOne_164 : decode b_Md_byOne 164 = .ok (.lmul, 1) := by decide +kernel
theorem d_Md_byOne_165 : decode b_Md_byOne 165 = .ok (.ladd, 1) := by decide +kernel
theorem d_Md_byOne_166 : decode b_Md_byOne 166 = .ok (.aload_n 0, 1) := by decide +kernel
theorem d_Md_byOne_167 : decode b_Md_byOne 167 = .ok (.getfield 50, 3) := by decide +kernel
theorem d_Md_byOne_170 : decode b_Md_byOne 170 = .ok (.iload_n 1, 1) := by decide +kernel
theorem d_Md_byOne_171 : decode b_Md_byOne 171 = .ok (.laload, 1) := by decide +kernel
theorem d_Md_byOne_172 : decode b_Md_byOne 172 = .ok (.aload_n 0, 1) := by decide +kernel
theorem d_Md_byOne_173 : decode b_Md_byOne 173 = .ok (.getfield 50, 3) := by decide +kernel
theorem d_Md_byOne_176 : decode b_Md_byOne 176 = .ok (.iload_n 1, 1) := by decide +kernel
theorem d_Md_byOne_177 : decode b_Md_byOne 177 = .ok (.laload, 1) := by decide +kernel
theorem d_Md_byOne_178 : decode b_Md_byOne 178 = .ok (.lmul, 1) := by decide +kernel
theorem d_Md_byOne_179 : decode b_Md_byOne 179 = .ok (.ladd, 1) := by decide +kernel
theorem d_Md_byOne_180 : decode b_Md_byOne 180 = .ok (.invokevirtual 137, 3) := by decide +kernel
theorem d_Md_byOne_183 : decode b_Md_byOne 183 = .ok (.return_, 1) := by decide +kernel
theorem d_Md_byTwo_0 : decode b_Md_byTwo 0 = .ok (.aload_n 0, 1) := by decide +kernel
theorem d_Md_byTwo_1 : decode b_Md_byTwo 1 = .ok (.iload_n 1, 1) := by decide +kernel
theorem d_Md_byTwo_2 : decode b_Md_byTwo 2 = .ok (.iload_n 2, 1) := by decide +kernel
theorem d_Md_byTwo_3 : decode b_Md_byTwo 3 = .ok (.invokevirtual 162, 3) := by decide +kernel
theorem d_Md_byTwo_6 : decode b_Md_byTwo 6 = .ok (.aload_n 0, 1) := by decide +kernel
theorem d_Md_byTwo_7 : decode b_Md_byTwo 7 = .ok (.getfield 153, 3) := by decide +kernel
theorem d_Md_byTwo_10 : decode b_Md_byTwo 10 = .ok (.aload_n 0, 1) := by decide +kernel
theorem d_Md_byTwo_11 : decode b_Md_byTwo 11 = .ok (.getfield 153, 3) := by decide +kernel
theorem d_Md_byTwo_14 : decode b_Md_byTwo 14 = .ok (.lmul, 1) := by decide +kernel
theorem d_Md_byTwo_15 : decode b_Md_byTwo 15 = .ok (.aload_n 0, 1) := by decide +kernel
theorem d_Md_byTwo_16 : decode b_Md_byTwo 16 = .ok (.getfield 156, 3) := by decide +kernel
theorem d_Md_byTwo_19 : decode b_Md_byTwo 19 = .ok (.aload_n 0, 1) := by decide +kernel
theorem d_Md_byTwo_20 : decode b_Md_byTwo 20 = .ok (.getfield 156, 3) := by decide +kernel
theorem d_Md_byTwo_23 : decode b_Md_byTwo 23 = .ok (.lmul, 1) := by decide +kernel
theorem d_Md_byTwo_24 : decode b_Md_byTwo 24 = .ok (.ladd, 1) := by decide +kernel
theorem d_Md_byTwo_25 : decode b_Md_byTwo 25 = .ok (.aload_n 0, 1) := by decide +kernel
theorem d_Md_byTwo_26 : decode b_Md_byTwo 26 = .ok (.getfield 159, 3) := by decide +kernel
theorem d_Md_byTwo_29 : decode b_Md_byTwo 29 = .ok (.aload_n 0, 1) := by decide +kernel
theorem d_Md_byTwo_30 : decode b_Md_byTwo 30 = .ok (.getfield 159, 3) := by decide +kernel
theorem d_Md_byTwo_33 : decode b_Md_byTwo 33 = .ok (.lmul, 1) := by decide +kernel
theorem d_Md_byTwo_34 : decode b_Md_byTwo 34 = .ok (.ladd, 1) := by decide +kernel
theorem d_Md_byTwo_35 : decode b_Md_byTwo 35 = .ok (.lstore_n 3, 1) := by decide +kernel
theorem d_Md_byTwo_36 : decode b_Md_byTwo 36 = .ok (.lload_n 3, 1) := by decide +kernel
theorem d_Md_byTwo_37 : decode b_Md_byTwo 37 = .ok (.lconst 0, 1) := by decide +kernel
theorem d_Md_byTwo_38 : decode b_Md_byTwo 38 = .ok (.lcmp, 1) := by decide +kernel
theorem d_Md_byTwo_39 : decode b_Md_byTwo 39 = .ok (.ifCond .eq 37, 3) := by decide +kernel
theorem d_Md_byTwo_42 : decode b_Md_byTwo 42 = .ok (.aload_n 0, 1) := by decide +kernel
theorem d_Md_byTwo_43 : decode b_Md_byTwo 43 = .ok (.getfield 119, 3) := by decide +kernel
theorem d_Md_byTwo_46 : decode b_Md_byTwo 46 = .ok (.aload_n 0, 1) := by decide +kernel
theorem d_Md_byTwo_47 : decode b_Md_byTwo 47 = .ok (.getfield 153, 3) := by decide +kernel
theorem d_Md_byTwo_50 : decode b_Md_byTwo 50 = .ok (.lmul, 1) := by decide +kernel
theorem d_Md_byTwo_51 : decode b_Md_byTwo 51 = .ok (.aload_n 0, 1) := by decide +kernel
theorem d_Md_byTwo_52 : decode b_Md_byTwo 52 = .ok (.getfield 122, 3) := by decide +kernel
theorem d_Md_byTwo_55 : decode b_Md_byTwo 55 = .ok (.aload_n 0, 1) := by decide +kernel
theorem d_Md_byTwo_56 : decode b_Md_byTwo 56 = .ok (.getfield 156, 3) := by decide +kernel
theorem d_Md_byTwo_59 : decode b_Md_byTwo 59 = .ok (.lmul, 1) := by decide +kernel
theorem d_Md_byTwo_60 : decode b_Md_byTwo 60 = .ok (.ladd, 1) := by decide +kernel
theorem d_Md_byTwo_61 : decode b_Md_byTwo 61 = .ok (.aload_n 0, 1) := by decide +kernel
theorem d_Md_byTwo_62 : decode b_Md_byTwo 62 = .ok (.getfield 125, 3) := by decide +kernel
theorem d_Md_byTwo_65 : decode b_Md_byTwo 65 = .ok (.aload_n 0, 1) := by decide +kernel
theorem d_Md_byTwo_66 : decode b_Md_byTwo 66 = .ok (.getfield 159, 3) := by decide +kernel
theorem d_Md_byTwo_69 : decode b_Md_byTwo 69 = .ok (.lmul, 1) := by decide +kernel
theorem d_Md_byTwo_70 : decode b_Md_byTwo 70 = .ok (.ladd, 1) := by decide +kernel
theorem d_Md_byTwo_71 : decode b_Md_byTwo 71 = .ok (.lconst 0, 1) := by decide +kernel
theorem d_Md_byTwo_72 : decode b_Md_byTwo 72 = .ok (.lcmp, 1) := by decide +kernel
theorem d_Md_byTwo_73 : decode b_Md_byTwo 73 = .ok (.ifCond .eq 4, 3) := by decide +kernel
theorem d_Md_byTwo_76 : decode b_Md_byTwo 76 = .ok (.return_, 1) := by decide +kernel
theorem d_Md_byTwo_77 : decode b_Md_byTwo 77 = .ok (.aload_n 0, 1) := by decide +kernel
theorem d_Md_byTwo_78 : decode b_Md_byTwo 78 = .ok (.getfield 122, 3) := by decide +kernel
theorem d_Md_byTwo_81 : decode b_Md_byTwo 81 = .ok (.aload_n 0, 1) := by decide +kernel
theorem d_Md_byTwo_82 : decode b_Md_byTwo 82 = .ok (.getfield 50, 3) := by decide +kernel
theorem d_Md_byTwo_85 : decode b_Md_byTwo 85 = .ok (.iload_n 2, 1) := by decide +kernel
theorem d_Md_byTwo_86 : decode b_Md_byTwo 86 = .ok (.laload, 1) := by decide +kernel
theorem d_Md_byTwo_87 : decode b_Md_byTwo 87 = .ok (.lmul, 1) := by decide +kernel
theorem d_Md_byTwo_88 : decode b_Md_byTwo 88 = .ok (.aload_n 0, 1) := by decide +kernel
theorem d_Md_byTwo_89 : decode b_Md_byTwo 89 = .ok (.getfield 125, 3) := by decide +kernel
theorem d_Md_byTwo_92 : decode b_Md_byTwo 92 = .ok (.aload_n 0, 1) := by decide +kernel
theorem d_Md_byTwo_93 : decode b_Md_byTwo 93 = .ok (.getfield 47, 3) := by decide +kernel
theorem d_Md_byTwo_96 : decode b_Md_byTwo 96 = .ok (.iload_n 2, 1) := by decide +kernel
theorem d_Md_byTwo_97 : decode b_Md_byTwo 97 = .ok (.laload, 1) := by decide +kernel
theorem d_Md_byTwo_98 : decode b_Md_byTwo 98 = .ok (.lmul, 1) := by decide +kernel
theorem d_Md_byTwo_99 : decode b_Md_byTwo 99 = .ok (.lsub, 1) := by decide +kernel
theorem d_Md_byTwo_100 : decode b_Md_byTwo 100 = .ok (.aload_n 0, 1) := by decide +kernel
theorem d_Md_byTwo_101 : decode b_Md_byTwo 101 = .ok (.getfield 153, 3) := by decide +kernel
theorem d_Md_byTwo_104 : decode b_Md_byTwo 104 = .ok (.lmul, 1) := by decide +kernel
theorem d_Md_byTwo_105 : decode b_Md_byTwo 105 = .ok (.aload_n 0, 1) := by decide +kernel
theorem d_Md_byTwo_106 : decode b_Md_byTwo 106 = .ok (.getfield 125, 3) := by decide +kernel
theorem d_Md_byTwo_109 : decode b_Md_byTwo 109 = .ok (.aload_n 0, 1) := by decide +kernel
theorem d_Md_byTwo_110 : decode b_Md_byTwo 110 = .ok (.getfield 44, 3) := by decide +kernel
theorem d_Md_byTwo_113 : decode b_Md_byTwo 113 = .ok (.iload_n 2, 1) := by decide +kernel
theorem d_Md_byTwo_114 : decode b_Md_byTwo 114 = .ok (.laload, 1) := by decide +kernel
theorem d_Md_byTwo_115 : decode b_Md_byTwo 115 = .ok (.lmul, 1) := by decide +kernel
theorem d_Md_byTwo_116 : decode b_Md_byTwo 116 = .ok (.aload_n 0, 1) := by decide +kernel
theorem d_Md_byTwo_117 : decode b_Md_byTwo 117 = .ok (.getfield 119, 3) := by decide +kernel
theorem d_Md_byTwo_120 : decode b_Md_byTwo 120 = .ok (.aload_n 0, 1) := by decide +kernel
theorem d_Md_byTwo_121 : decode b_Md_byTwo 121 = .ok (.getfield 50, 3) := by decide +kernel
theorem d_Md_byTwo_124 : decode b_Md_byTwo 124 = .ok (.iload_n 2, 1) := by decide +kernel
theorem d_Md_byTwo_125 : decode b_Md_byTwo 125 = .ok (.laload, 1) := by decide +kernel
theorem d_Md_byTwo_126 : decode b_Md_byTwo 126 = .ok (.lmul, 1) := by decide +kernel
theorem d_Md_byTwo_127 : decode b_Md_byTwo 127 = .ok (.lsub, 1) := by decide +kernel
theorem d_Md_byTwo_128 : decode b_Md_byTwo 128 = .ok (.aload_n 0, 1) := by decide +kernel
theorem d_Md_byTwo_129 : decode b_Md_byTwo 129 = .ok (.getfield 156, 3) := by decide +kernel
theorem d_Md_byTwo_132 : decode b_Md_byTwo 132 = .ok (.lmul, 1) := by decide +kernel
theorem d_Md_byTwo_133 : decode b_Md_byTwo 133 = .ok (.ladd, 1) := by decide +kernel
theorem d_Md_byTwo_134 : decode b_Md_byTwo 134 = .ok (.aload_n 0, 1) := by decide +kernel
theorem d_Md_byTwo_135 : decode b_Md_byTwo 135 = .ok (.getfield 119, 3) := by decide +kernel
theorem d_Md_byTwo_138 : decode b_Md_byTwo 138 = .ok (.aload_n 0, 1) := by decide +kernel
theorem d_Md_byTwo_139 : decode b_Md_byTwo 139 = .ok (.getfield 47, 3) := by decide +kernel
theorem d_Md_byTwo_142 : decode b_Md_byTwo 142 = .ok (.iload_n 2, 1) := by decide +kernel
theorem d_Md_byTwo_143 : decode b_Md_byTwo 143 = .ok (.laload, 1) := by decide +kernel
theorem d_Md_byTwo_144 : decode b_Md_byTwo 144 = .ok (.lmul, 1) := by decide +kernel
theorem d_Md_byTwo_145 : decode b_Md_byTwo 145 = .ok (.aload_n 0, 1) := by decide +kernel
theorem d_Md_byTwo_146 : decode b_Md_byTwo 146 = .ok (.getfield 122, 3) := by decide +kernel
theorem d_Md_byTwo_149 : decode b_Md_byTwo 149 = .ok (.aload_n 0, 1) := by decide +kernel
theorem d_Md_byTwo_150 : decode b_Md_byTwo 150 = .ok (.getfield 44, 3) := by decide +kernel
theorem d_Md_byTwo_153 : decode b_Md_byTwo 153 = .ok (.iload_n 2, 1) := by decide +kernel
theorem d_Md_byTwo_154 : decode b_Md_byTwo 154 = .ok (.laload, 1) := by decide +kernel
theorem d_Md_byTwo_155 : decode b_Md_byTwo 155 = .ok (.lmul, 1) := by decide +kernel
theorem d_Md_byTwo_156 : decode b_Md_byTwo 156 = .ok (.lsub, 1) := by decide +kernel
theorem d_Md_byTwo_157 : decode b_Md_byTwo 157 = .ok (.aload_n 0, 1) := by decide +kernel
theorem d_Md_byTwo_158 : decode b_Md_byTwo 158 = .ok (.getfield 159, 3) := by decide +kernel
theorem d_Md_byTwo_161 : decode b_Md_byTwo 161 = .ok (.lmul, 1) := by decide +kernel
theorem d_Md_byTwo_162 : decode b_Md_byTwo 162 = .ok (.ladd, 1) := by decide +kernel
theorem d_Md_byTwo_163 : decode b_Md_byTwo 163 = .ok (.lstore 5, 2) := by decide +kernel
theorem d_Md_byTwo_165 : decode b_Md_byTwo 165 = .ok (.aload_n 0, 1) := by decide +kernel
theorem d_Md_byTwo_166 : decode b_Md_byTwo 166 = .ok (.getfield 47, 3) := by decide +kernel
theorem d_Md_byTwo_169 : decode b_Md_byTwo 169 = .ok (.iload_n 1, 1) := by decide +kernel
theorem d_Md_byTwo_170 : decode b_Md_byTwo 170 = .ok (.laload, 1) := by decide +kernel
theorem d_Md_byTwo_171 : decode b_Md_byTwo 171 = .ok (.aload_n 0, 1) := by decide +kernel
theorem d_Md_byTwo_172 : decode b_Md_byTwo 172 = .ok (.getfield 125, 3) := by decide +kernel
theorem d_Md_byTwo_175 : decode b_Md_byTwo 175 = .ok (.lmul, 1) := by decide +kernel
theorem d_Md_byTwo_176 : decode b_Md_byTwo 176 = .ok (.aload_n 0, 1) := by decide +kernel
theorem d_Md_byTwo_177 : decode b_Md_byTwo 177 = .ok (.getfield 50, 3) := by decide +kernel
theorem d_Md_byTwo_180 : decode b_Md_byTwo 180 = .ok (.iload_n 1, 1) := by decide +kernel
theorem d_Md_byTwo_181 : decode b_Md_byTwo 181 = .ok (.laload, 1) := by decide +kernel
theorem d_Md_byTwo_182 : decode b_Md_byTwo 182 = .ok (.aload_n 0, 1) := by decide +kernel
theorem d_Md_byTwo_183 : decode b_Md_byTwo 183 = .ok (.getfield 122, 3) := by decide +kernel
theorem d_Md_byTwo_186 : decode b_Md_byTwo 186 = .ok (.lmul, 1) := by decide +kernel
theorem d_Md_byTwo_187 : decode b_Md_byTwo 187 = .ok (.lsub, 1) := by decide +kernel
theorem d_Md_byTwo_188 : decode b_Md_byTwo 188 = .ok (.aload_n 0, 1) := by decide +kernel
theorem d_Md_byTwo_189 : decode b_Md_byTwo 189 = .ok (.getfield 153, 3) := by decide +kernel
theorem d_Md_byTwo_192 : decode b_Md_byTwo 192 = .ok (.lmul, 1) := by decide +kernel
theorem d_Md_byTwo_193 : decode b_Md_byTwo 193 = .ok (.aload_n 0, 1) := by decide +kernel
theorem d_Md_byTwo_194 : decode b_Md_byTwo 194 = .ok (.getfield 50, 3) := by decide +kernel
theorem d_Md_byTwo_197 : decode b_Md_byTwo 197 = .ok (.iload_n 1, 1) := by decide +kernel
theorem d_Md_byTwo_198 : decode b_Md_byTwo 198 = .ok (.laload, 1) := by decide +kernel
theorem d_Md_byTwo_199 : decode b_Md_byTwo 199 = .ok (.aload_n 0, 1) := by decide +kernel
theorem d_Md_byTwo_200 : decode b_Md_byTwo 200 = .ok (.getfield 119, 3) := by decide +kernel
theorem d_Md_byTwo_203 : decode b_Md_byTwo 203 = .ok (.lmul, 1) := by decide +kernel
theorem d_Md_byTwo_204 : decode b_Md_byTwo 204 = .ok (.aload_n 0, 1) := by decide +kernel
theorem d_Md_byTwo_205 : decode b_Md_byTwo 205 = .ok (.getfield 44, 3) := by decide +kernel
theorem d_Md_byTwo_208 : decode b_Md_byTwo 208 = .ok (.iload_n 1, 1) := by decide +kernel
theorem d_Md_byTwo_209 : decode b_Md_byTwo 209 = .ok (.laload, 1) := by decide +kernel
theorem d_Md_byTwo_210 : decode b_Md_byTwo 210 = .ok (.aload_n 0, 1) := by decide +kernel
theorem d_Md_byTwo_211 : decode b_Md_byTwo 211 = .ok (.getfield 125, 3) := by decide +kernel
theorem d_Md_byTwo_214 : decode b_Md_byTwo 214 = .ok (.lmul, 1) := by decide +kernel
theorem d_Md_byTwo_215 : decode b_Md_byTwo 215 = .ok (.lsub, 1) := by decide +kernel
theorem d_Md_byTwo_216 : decode b_Md_byTwo 216 = .ok (.aload_n 0, 1) := by decide +kernel
theorem d_Md_byTwo_217 : decode b_Md_byTwo 217 = .ok (.getfield 156, 3) := by decide +kernel
theorem d_Md_byTwo_220 : decode b_Md_byTwo 220 = .ok (.lmul, 1) := by decide +kernel
theorem d_Md_byTwo_221 : decode b_Md_byTwo 221 = .ok (.ladd, 1) := by decide +kernel
theorem d_Md_byTwo_222 : decode b_Md_byTwo 222 = .ok (.aload_n 0, 1) := by decide +kernel
theorem d_Md_byTwo_223 : decode b_Md_byTwo 223 = .ok (.getfield 44, 3) := by decide +kernel
theorem d_Md_byTwo_226 : decode b_Md_byTwo 226 = .ok (.iload_n 1, 1) := by decide +kernel
theorem d_Md_byTwo_227 : decode b_Md_byTwo 227 = .ok (.laload, 1) := by decide +kernel
theorem d_Md_byTwo_228 : decode b_Md_byTwo 228 = .ok (.aload_n 0, 1) := by decide +kernel
theorem d_Md_byTwo_229 : decode b_Md_byTwo 229 = .ok (.getfield 122, 3) := by decide +kernel
theorem d_Md_byTwo_232 : decode b_Md_byTwo 232 = .ok (.lmul, 1) := by decide +kernel
theorem d_Md_byTwo_233 : decode b_Md_byTwo 233 = .ok (.aload_n 0, 1) := by decide +kernel
theorem d_Md_byTwo_234 : decode b_Md_byTwo 234 = .ok (.getfield 47, 3) := by decide +kernel
theorem d_Md_byTwo_237 : decode b_Md_byTwo 237 = .ok (.iload_n 1, 1) := by decide +kernel
theorem d_Md_byTwo_238 : decode b_Md_byTwo 238 = .ok (.laload, 1) := by decide +kernel
theorem d_Md_byTwo_239 : decode b_Md_byTwo 239 = .ok (.aload_n 0, 1) := by decide +kernel
theorem d_Md_byTwo_240 : decode b_Md_byTwo 240 = .ok (.getfield 119, 3) := by decide +kernel
theorem d_Md_byTwo_243 : decode b_Md_byTwo 243 = .ok (.lmul, 1) := by decide +kernel
theorem d_Md_byTwo_244 : decode b_Md_byTwo 244 = .ok (.lsub, 1) := by decide +kernel
theorem d_Md_byTwo_245 : decode b_Md_byTwo 245 = .ok (.aload_n 0, 1) := by decide +kernel
theorem d_Md_byTwo_246 : decode b_Md_byTwo 246 = .ok (.getfield 159, 3) := by decide +kernel
theorem d_Md_byTwo_249 : decode b_Md_byTwo 249 = .ok (.lmul, 1) := by decide +kernel
theorem d_Md_byTwo_250 : decode b_Md_byTwo 250 = .ok (.ladd, 1) := by decide +kernel
theorem d_Md_byTwo_251 : decode b_Md_byTwo 251 = .ok (.lstore 7, 2) := by decide +kernel
theorem d_Md_byTwo_253 : decode b_Md_byTwo 253 = .ok (.lload 5, 2) := by decide +kernel
theorem d_Md_byTwo_255 : decode b_Md_byTwo 255 = .ok (.lconst 0, 1) := by decide +kernel
theorem d_Md_byTwo_256 : decode b_Md_byTwo 256 = .ok (.lcmp, 1) := by decide +kernel
theorem d_Md_byTwo_257 : decode b_Md_byTwo 257 = .ok (.ifCond .lt 34, 3) := by decide +kernel
theorem d_Md_byTwo_260 : decode b_Md_byTwo 260 = .ok (.lload 7, 2) := by decide +kernel
theorem d_Md_byTwo_262 : decode b_Md_byTwo 262 = .ok (.lconst 0, 1) := by decide +kernel
theorem d_Md_byTwo_263 : decode b_Md_byTwo 263 = .ok (.lcmp, 1) := by decide +kernel
theorem d_Md_byTwo_264 : decode b_Md_byTwo 264 = .ok (.ifCond .lt 27, 3) := by decide +kernel
theorem d_Md_byTwo_267 : decode b_Md_byTwo 267 = .ok (.aload_n 0, 1) := by decide +kernel
theorem d_Md_byTwo_268 : decode b_Md_byTwo 268 = .ok (.lload 5, 2) := by decide +kernel
theorem d_Md_byTwo_270 : decode b_Md_byTwo 270 = .ok (.aload_n 0, 1) := by decide +kernel
theorem d_Md_byTwo_271 : decode b_Md_byTwo 271 = .ok (.getfield 53, 3) := by decide +kernel
theorem d_Md_byTwo_274 : decode b_Md_byTwo 274 = .ok (.iload_n 1, 1) := by decide +kernel
theorem d_Md_byTwo_275 : decode b_Md_byTwo 275 = .ok (.laload, 1) := by decide +kernel
theorem d_Md_byTwo_276 : decode b_Md_byTwo 276 = .ok (.lmul, 1) := by decide +kernel
theorem d_Md_byTwo_277 : decode b_Md_byTwo 277 = .ok (.lload 7, 2) := by decide +kernel
theorem d_Md_byTwo_279 : decode b_Md_byTwo 279 = .ok (.aload_n 0, 1) := by decide +kernel
theorem d_Md_byTwo_280 : decode b_Md_byTwo 280 = .ok (.getfield 53, 3) := by decide +kernel
theorem d_Md_byTwo_283 : decode b_Md_byTwo 283 = .ok (.iload_n 2, 1) := by decide +kernel
theorem d_Md_byTwo_284 : decode b_Md_byTwo 284 = .ok (.laload, 1) := by decide +kernel
theorem d_Md_byTwo_285 : decode b_Md_byTwo 285 = .ok (.lmul, 1) := by decide +kernel
theorem d_Md_byTwo_286 : decode b_Md_byTwo 286 = .ok (.ladd, 1) := by decide +kernel
theorem d_Md_byTwo_287 : decode b_Md_byTwo 287 = .ok (.lload_n 3, 1) := by decide +kernel
theorem d_Md_byTwo_288 : decode b_Md_byTwo 288 = .ok (.invokevirtual 137, 3) := by decide +kernel
theorem d_Md_byTwo_291 : decode b_Md_byTwo 291 = .ok (.return_, 1) := by decide +kernel
theorem d_Md_upright_0 : decode b_Md_upright 0 = .ok (.aload_n 0, 1) := by decide +kernel
theorem d_Md_upright_1 : decode b_Md_upright 1 = .ok (.aload_n 0, 1) := by decide +kernel
theorem d_Md_upright_2 : decode b_Md_upright 2 = .ok (.getfield 47, 3) := by decide +kernel
theorem d_Md_upright_5 : decode b_Md_upright 5 = .ok (.iload_n 1, 1) := by decide +kernel
theorem d_Md_upright_6 : decode b_Md_upright 6 = .ok (.laload, 1) := by decide +kernel
theorem d_Md_upright_7 : decode b_Md_upright 7 = .ok (.aload_n 0, 1) := by decide +kernel
theorem d_Md_upright_8 : decode b_Md_upright 8 = .ok (.getfield 50, 3) := by decide +kernel
theorem d_Md_upright_11 : decode b_Md_upright 11 = .ok (.iload_n 2, 1) := by decide +kernel
theorem d_Md_upright_12 : decode b_Md_upright 12 = .ok (.laload, 1) := by decide +kernel
theorem d_Md_upright_13 : decode b_Md_upright 13 = .ok (.lmul, 1) := by decide +kernel
theorem d_Md_upright_14 : decode b_Md_upright 14 = .ok (.aload_n 0, 1) := by decide +kernel
theorem d_Md_upright_15 : decode b_Md_upright 15 = .ok (.getfield 50, 3) := by decide +kernel
theorem d_Md_upright_18 : decode b_Md_upright 18 = .ok (.iload_n 1, 1) := by decide +kernel
theorem d_Md_upright_19 : decode b_Md_upright 19 = .ok (.laload, 1) := by decide +kernel
theorem d_Md_upright_20 : decode b_Md_upright 20 = .ok (.aload_n 0, 1) := by decide +kernel
theorem d_Md_upright_21 : decode b_Md_upright 21 = .ok (.getfield 47, 3) := by decide +kernel
theorem d_Md_upright_24 : decode b_Md_upright 24 = .ok (.iload_n 2, 1) := by decide +kernel
theorem d_Md_upright_25 : decode b_Md_upright 25 = .ok (.laload, 1) := by decide +kernel
theorem d_Md_upright_26 : decode b_Md_upright 26 = .ok (.lmul, 1) := by decide +kernel
theorem d_Md_upright_27 : decode b_Md_upright 27 = .ok (.lsub, 1) := by decide +kernel
theorem d_Md_upright_28 : decode b_Md_upright 28 = .ok (.putfield 153, 3) := by decide +kernel
theorem d_Md_upright_31 : decode b_Md_upright 31 = .ok (.aload_n 0, 1) := by decide +kernel
theorem d_Md_upright_32 : decode b_Md_upright 32 = .ok (.aload_n 0, 1) := by decide +kernel
theorem d_Md_upright_33 : decode b_Md_upright 33 = .ok (.getfield 50, 3) := by decide +kernel
theorem d_Md_upright_36 : decode b_Md_upright 36 = .ok (.iload_n 1, 1) := by decide +kernel
theorem d_Md_upright_37 : decode b_Md_upright 37 = .ok (.laload, 1) := by decide +kernel
theorem d_Md_upright_38 : decode b_Md_upright 38 = .ok (.aload_n 0, 1) := by decide +kernel
theorem d_Md_upright_39 : decode b_Md_upright 39 = .ok (.getfield 44, 3) := by decide +kernel
theorem d_Md_upright_42 : decode b_Md_upright 42 = .ok (.iload_n 2, 1) := by decide +kernel
theorem d_Md_upright_43 : decode b_Md_upright 43 = .ok (.laload, 1) := by decide +kernel
theorem d_Md_upright_44 : decode b_Md_upright 44 = .ok (.lmul, 1) := by decide +kernel
theorem d_Md_upright_45 : decode b_Md_upright 45 = .ok (.aload_n 0, 1) := by decide +kernel
theorem d_Md_upright_46 : decode b_Md_upright 46 = .ok (.getfield 44, 3) := by decide +kernel
theorem d_Md_upright_49 : decode b_Md_upright 49 = .ok (.iload_n 1, 1) := by decide +kernel
theorem d_Md_upright_50 : decode b_Md_upright 50 = .ok (.laload, 1) := by decide +kernel
theorem d_Md_upright_51 : decode b_Md_upright 51 = .ok (.aload_n 0, 1) := by decide +kernel
theorem d_Md_upright_52 : decode b_Md_upright 52 = .ok (.getfield 50, 3) := by decide +kernel
theorem d_Md_upright_55 : decode b_Md_upright 55 = .ok (.iload_n 2, 1) := by decide +kernel
theorem d_Md_upright_56 : decode b_Md_upright 56 = .ok (.laload, 1) := by decide +kernel
theorem d_Md_upright_57 : decode b_Md_upright 57 = .ok (.lmul, 1) := by decide +kernel
theorem d_Md_upright_58 : decode b_Md_upright 58 = .ok (.lsub, 1) := by decide +kernel
theorem d_Md_upright_59 : decode b_Md_upright 59 = .ok (.putfield 156, 3) := by decide +kernel
theorem d_Md_upright_62 : decode b_Md_upright 62 = .ok (.aload_n 0, 1) := by decide +kernel
theorem d_Md_upright_63 : decode b_Md_upright 63 = .ok (.aload_n 0, 1) := by decide +kernel
theorem d_Md_upright_64 : decode b_Md_upright 64 = .ok (.getfield 44, 3) := by decide +kernel
theorem d_Md_upright_67 : decode b_Md_upright 67 = .ok (.iload_n 1, 1) := by decide +kernel
theorem d_Md_upright_68 : decode b_Md_upright 68 = .ok (.laload, 1) := by decide +kernel
theorem d_Md_upright_69 : decode b_Md_upright 69 = .ok (.aload_n 0, 1) := by decide +kernel
theorem d_Md_upright_70 : decode b_Md_upright 70 = .ok (.getfield 47, 3) := by decide +kernel
theorem d_Md_upright_73 : decode b_Md_upright 73 = .ok (.iload_n 2, 1) := by decide +kernel
theorem d_Md_upright_74 : decode b_Md_upright 74 = .ok (.laload, 1) := by decide +kernel
theorem d_Md_upright_75 : decode b_Md_upright 75 = .ok (.lmul, 1) := by decide +kernel
theorem d_Md_upright_76 : decode b_Md_upright 76 = .ok (.aload_n 0, 1) := by decide +kernel
theorem d_Md_upright_77 : decode b_Md_upright 77 = .ok (.getfield 47, 3) := by decide +kernel
theorem d_Md_upright_80 : decode b_Md_upright 80 = .ok (.iload_n 1, 1) := by decide +kernel
theorem d_Md_upright_81 : decode b_Md_upright 81 = .ok (.laload, 1) := by decide +kernel
theorem d_Md_upright_82 : decode b_Md_upright 82 = .ok (.aload_n 0, 1) := by decide +kernel
theorem d_Md_upright_83 : decode b_Md_upright 83 = .ok (.getfield 44, 3) := by decide +kernel
theorem d_Md_upright_86 : decode b_Md_upright 86 = .ok (.iload_n 2, 1) := by decide +kernel
theorem d_Md_upright_87 : decode b_Md_upright 87 = .ok (.laload, 1) := by decide +kernel
theorem d_Md_upright_88 : decode b_Md_upright 88 = .ok (.lmul, 1) := by decide +kernel
theorem d_Md_upright_89 : decode b_Md_upright 89 = .ok (.lsub, 1) := by decide +kernel
theorem d_Md_upright_90 : decode b_Md_upright 90 = .ok (.putfield 159, 3) := by decide +kernel
theorem d_Md_upright_93 : decode b_Md_upright 93 = .ok (.return_, 1) := by decide +kernel
theorem d_Md_byThree_0 : decode b_Md_byThree 0 = .ok (.aload_n 0, 1) := by decide +kernel
theorem d_Md_byThree_1 : decode b_Md_byThree 1 = .ok (.iload_n 1, 1) := by decide +kernel
theorem d_Md_byThree_2 : decode b_Md_byThree 2 = .ok (.iload_n 2, 1) := by decide +kernel
theorem d_Md_byThree_3 : decode b_Md_byThree 3 = .ok (.invokevirtual 162, 3) := by decide +kernel
theorem d_Md_byThree_6 : decode b_Md_byThree 6 = .ok (.aload_n 0, 1) := by decide +kernel
theorem d_Md_byThree_7 : decode b_Md_byThree 7 = .ok (.getfield 153, 3) := by decide +kernel
theorem d_Md_byThree_10 : decode b_Md_byThree 10 = .ok (.aload_n 0, 1) := by decide +kernel
theorem d_Md_byThree_11 : decode b_Md_byThree 11 = .ok (.getfield 44, 3) := by decide +kernel
theorem d_Md_byThree_14 : decode b_Md_byThree 14 = .ok (.iload_n 3, 1) := by decide +kernel
theorem d_Md_byThree_15 : decode b_Md_byThree 15 = .ok (.laload, 1) := by decide +kernel
theorem d_Md_byThree_16 : decode b_Md_byThree 16 = .ok (.lmul, 1) := by decide +kernel
theorem d_Md_byThree_17 : decode b_Md_byThree 17 = .ok (.aload_n 0, 1) := by decide +kernel
theorem d_Md_byThree_18 : decode b_Md_byThree 18 = .ok (.getfield 156, 3) := by decide +kernel
theorem d_Md_byThree_21 : decode b_Md_byThree 21 = .ok (.aload_n 0, 1) := by decide +kernel
theorem d_Md_byThree_22 : decode b_Md_byThree 22 = .ok (.getfield 47, 3) := by decide +kernel
theorem d_Md_byThree_25 : decode b_Md_byThree 25 = .ok (.iload_n 3, 1) := by decide +kernel
theorem d_Md_byThree_26 : decode b_Md_byThree 26 = .ok (.laload, 1) := by decide +kernel
theorem d_Md_byThree_27 : decode b_Md_byThree 27 = .ok (.lmul, 1) := by decide +kernel
theorem d_Md_byThree_28 : decode b_Md_byThree 28 = .ok (.ladd, 1) := by decide +kernel
theorem d_Md_byThree_29 : decode b_Md_byThree 29 = .ok (.aload_n 0, 1) := by decide +kernel
theorem d_Md_byThree_30 : decode b_Md_byThree 30 = .ok (.getfield 159, 3) := by decide +kernel
theorem d_Md_byThree_33 : decode b_Md_byThree 33 = .ok (.aload_n 0, 1) := by decide +kernel
theorem d_Md_byThree_34 : decode b_Md_byThree 34 = .ok (.getfield 50, 3) := by decide +kernel
theorem d_Md_byThree_37 : decode b_Md_byThree 37 = .ok (.iload_n 3, 1) := by decide +kernel
theorem d_Md_byThree_38 : decode b_Md_byThree 38 = .ok (.laload, 1) := by decide +kernel
theorem d_Md_byThree_39 : decode b_Md_byThree 39 = .ok (.lmul, 1) := by decide +kernel
theorem d_Md_byThree_40 : decode b_Md_byThree 40 = .ok (.ladd, 1) := by decide +kernel
theorem d_Md_byThree_41 : decode b_Md_byThree 41 = .ok (.lstore 4, 2) := by decide +kernel
theorem d_Md_byThree_43 : decode b_Md_byThree 43 = .ok (.lload 4, 2) := by decide +kernel
theorem d_Md_byThree_45 : decode b_Md_byThree 45 = .ok (.lconst 0, 1) := by decide +kernel
theorem d_Md_byThree_46 : decode b_Md_byThree 46 = .ok (.lcmp, 1) := by decide +kernel
theorem d_Md_byThree_47 : decode b_Md_byThree 47 = .ok (.ifCond .ne 4, 3) := by decide +kernel
theorem d_Md_byThree_50 : decode b_Md_byThree 50 = .ok (.return_, 1) := by decide +kernel
theorem d_Md_byThree_51 : decode b_Md_byThree 51 = .ok (.lload 4, 2) := by decide +kernel
theorem d_Md_byThree_53 : decode b_Md_byThree 53 = .ok (.lconst 0, 1) := by decide +kernel
theorem d_Md_byThree_54 : decode b_Md_byThree 54 = .ok (.lcmp, 1) := by decide +kernel
theorem d_Md_byThree_55 : decode b_Md_byThree 55 = .ok (.ifCond .le 7, 3) := by decide +kernel
theorem d_Md_byThree_58 : decode b_Md_byThree 58 = .ok (.lconst 1, 1) := by decide +kernel
theorem d_Md_byThree_59 : decode b_Md_byThree 59 = .ok (.goto 6, 3) := by decide +kernel
theorem d_Md_byThree_62 : decode b_Md_byThree 62 = .ok (.ldc2_w 165, 3) := by decide +kernel
theorem d_Md_byThree_65 : decode b_Md_byThree 65 = .ok (.lstore 6, 2) := by decide +kernel
theorem d_Md_byThree_67 : decode b_Md_byThree 67 = .ok (.lload 6, 2) := by decide +kernel
theorem d_Md_byThree_69 : decode b_Md_byThree 69 = .ok (.aload_n 0, 1) := by decide +kernel
theorem d_Md_byThree_70 : decode b_Md_byThree 70 = .ok (.getfield 153, 3) := by decide +kernel
theorem d_Md_byThree_73 : decode b_Md_byThree 73 = .ok (.aload_n 0, 1) := by decide +kernel
theorem d_Md_byThree_74 : decode b_Md_byThree 74 = .ok (.getfield 119, 3) := by decide +kernel
theorem d_Md_byThree_77 : decode b_Md_byThree 77 = .ok (.lmul, 1) := by decide +kernel
theorem d_Md_byThree_78 : decode b_Md_byThree 78 = .ok (.aload_n 0, 1) := by decide +kernel
theorem d_Md_byThree_79 : decode b_Md_byThree 79 = .ok (.getfield 156, 3) := by decide +kernel
theorem d_Md_byThree_82 : decode b_Md_byThree 82 = .ok (.aload_n 0, 1) := by decide +kernel
theorem d_Md_byThree_83 : decode b_Md_byThree 83 = .ok (.getfield 122, 3) := by decide +kernel
theorem d_Md_byThree_86 : decode b_Md_byThree 86 = .ok (.lmul, 1) := by decide +kernel
theorem d_Md_byThree_87 : decode b_Md_byThree 87 = .ok (.ladd, 1) := by decide +kernel
theorem d_Md_byThree_88 : decode b_Md_byThree 88 = .ok (.aload_n 0, 1) := by decide +kernel
theorem d_Md_byThree_89 : decode b_Md_byThree 89 = .ok (.getfield 159, 3) := by decide +kernel
theorem d_Md_byThree_92 : decode b_Md_byThree 92 = .ok (.aload_n 0, 1) := by decide +kernel
theorem d_Md_byThree_93 : decode b_Md_byThree 93 = .ok (.getfield 125, 3) := by decide +kernel
theorem d_Md_byThree_96 : decode b_Md_byThree 96 = .ok (.lmul, 1) := by decide +kernel
theorem d_Md_byThree_97 : decode b_Md_byThree 97 = .ok (.ladd, 1) := by decide +kernel
theorem d_Md_byThree_98 : decode b_Md_byThree 98 = .ok (.lmul, 1) := by decide +kernel
theorem d_Md_byThree_99 : decode b_Md_byThree 99 = .ok (.lstore 8, 2) := by decide +kernel
theorem d_Md_byThree_101 : decode b_Md_byThree 101 = .ok (.aload_n 0, 1) := by decide +kernel
theorem d_Md_byThree_102 : decode b_Md_byThree 102 = .ok (.iload_n 2, 1) := by decide +kernel
theorem d_Md_byThree_103 : decode b_Md_byThree 103 = .ok (.iload_n 3, 1) := by decide +kernel
theorem d_Md_byThree_104 : decode b_Md_byThree 104 = .ok (.invokevirtual 162, 3) := by decide +kernel
theorem d_Md_byThree_107 : decode b_Md_byThree 107 = .ok (.lload 6, 2) := by decide +kernel
theorem d_Md_byThree_109 : decode b_Md_byThree 109 = .ok (.aload_n 0, 1) := by decide +kernel
theorem d_Md_byThree_110 : decode b_Md_byThree 110 = .ok (.getfield 153, 3) := by decide +kernel
theorem d_Md_byThree_113 : decode b_Md_byThree 113 = .ok (.aload_n 0, 1) := by decide +kernel
theorem d_Md_byThree_114 : decode b_Md_byThree 114 = .ok (.getfield 119, 3) := by decide +kernel
theorem d_Md_byThree_117 : decode b_Md_byThree 117 = .ok (.lmul, 1) := by decide +kernel
theorem d_Md_byThree_118 : decode b_Md_byThree 118 = .ok (.aload_n 0, 1) := by decide +kernel
theorem d_Md_byThree_119 : decode b_Md_byThree 119 = .ok (.getfield 156, 3) := by decide +kernel
theorem d_Md_byThree_122 : decode b_Md_byThree 122 = .ok (.aload_n 0, 1) := by decide +kernel
theorem d_Md_byThree_123 : decode b_Md_byThree 123 = .ok (.getfield 122, 3) := by decide +kernel
theorem d_Md_byThree_126 : decode b_Md_byThree 126 = .ok (.lmul, 1) := by decide +kernel
theorem d_Md_byThree_127 : decode b_Md_byThree 127 = .ok (.ladd, 1) := by decide +kernel
theorem d_Md_byThree_128 : decode b_Md_byThree 128 = .ok (.aload_n 0, 1) := by decide +kernel
theorem d_Md_byThree_129 : decode b_Md_byThree 129 = .ok (.getfield 159, 3) := by decide +kernel
theorem d_Md_byThree_132 : decode b_Md_byThree 132 = .ok (.aload_n 0, 1) := by decide +kernel
theorem d_Md_byThree_133 : decode b_Md_byThree 133 = .ok (.getfield 125, 3) := by decide +kernel
theorem d_Md_byThree_136 : decode b_Md_byThree 136 = .ok (.lmul, 1) := by decide +kernel
theorem d_Md_byThree_137 : decode b_Md_byThree 137 = .ok (.ladd, 1) := by decide +kernel
theorem d_Md_byThree_138 : decode b_Md_byThree 138 = .ok (.lmul, 1) := by decide +kernel
theorem d_Md_byThree_139 : decode b_Md_byThree 139 = .ok (.lstore 10, 2) := by decide +kernel
theorem d_Md_byThree_141 : decode b_Md_byThree 141 = .ok (.aload_n 0, 1) := by decide +kernel
theorem d_Md_byThree_142 : decode b_Md_byThree 142 = .ok (.iload_n 3, 1) := by decide +kernel
theorem d_Md_byThree_143 : decode b_Md_byThree 143 = .ok (.iload_n 1, 1) := by decide +kernel
theorem d_Md_byThree_144 : decode b_Md_byThree 144 = .ok (.invokevirtual 162, 3) := by decide +kernel
theorem d_Md_byThree_147 : decode b_Md_byThree 147 = .ok (.lload 6, 2) := by decide +kernel
theorem d_Md_byThree_149 : decode b_Md_byThree 149 = .ok (.aload_n 0, 1) := by decide +kernel
theorem d_Md_byThree_150 : decode b_Md_byThree 150 = .ok (.getfield 153, 3) := by decide +kernel
theorem d_Md_byThree_153 : decode b_Md_byThree 153 = .ok (.aload_n 0, 1) := by decide +kernel
theorem d_Md_byThree_154 : decode b_Md_byThree 154 = .ok (.getfield 119, 3) := by decide +kernel
theorem d_Md_byThree_157 : decode b_Md_byThree 157 = .ok (.lmul, 1) := by decide +kernel
theorem d_Md_byThree_158 : decode b_Md_byThree 158 = .ok (.aload_n 0, 1) := by decide +kernel
theorem d_Md_byThree_159 : decode b_Md_byThree 159 = .ok (.getfield 156, 3) := by decide +kernel
theorem d_Md_byThree_162 : decode b_Md_byThree 162 = .ok (.aload_n 0, 1) := by decide +kernel
theorem d_Md_byThree_163 : decode b_Md_byThree 163 = .ok (.getfield 122, 3) := by decide +kernel
theorem d_Md_byThree_166 : decode b_Md_byThree 166 = .ok (.lmul, 1) := by decide +kernel
theorem d_Md_byThree_167 : decode b_Md_byThree 167 = .ok (.ladd, 1) := by decide +kernel
theorem d_Md_byThree_168 : decode b_Md_byThree 168 = .ok (.aload_n 0, 1) := by decide +kernel
theorem d_Md_byThree_169 : decode b_Md_byThree 169 = .ok (.getfield 159, 3) := by decide +kernel
theorem d_Md_byThree_172 : decode b_Md_byThree 172 = .ok (.aload_n 0, 1) := by decide +kernel
theorem d_Md_byThree_173 : decode b_Md_byThree 173 = .ok (.getfield 125, 3) := by decide +kernel
theorem d_Md_byThree_176 : decode b_Md_byThree 176 = .ok (.lmul, 1) := by decide +kernel
theorem d_Md_byThree_177 : decode b_Md_byThree 177 = .ok (.ladd, 1) := by decide +kernel
theorem d_Md_byThree_178 : decode b_Md_byThree 178 = .ok (.lmul, 1) := by decide +kernel
theorem d_Md_byThree_179 : decode b_Md_byThree 179 = .ok (.lstore 12, 2) := by decide +kernel
theorem d_Md_byThree_181 : decode b_Md_byThree 181 = .ok (.lload 10, 2) := by decide +kernel
theorem d_Md_byThree_183 : decode b_Md_byThree 183 = .ok (.lconst 0, 1) := by decide +kernel
theorem d_Md_byThree_184 : decode b_Md_byThree 184 = .ok (.lcmp, 1) := by decide +kernel
theorem d_Md_byThree_185 : decode b_Md_byThree 185 = .ok (.ifCond .lt 55, 3) := by decide +kernel
theorem d_Md_byThree_188 : decode b_Md_byThree 188 = .ok (.lload 12, 2) := by decide +kernel
theorem d_Md_byThree_190 : decode b_Md_byThree 190 = .ok (.lconst 0, 1) := by decide +kernel
theorem d_Md_byThree_191 : decode b_Md_byThree 191 = .ok (.lcmp, 1) := by decide +kernel
theorem d_Md_byThree_192 : decode b_Md_byThree 192 = .ok (.ifCond .lt 48, 3) := by decide +kernel
theorem d_Md_byThree_195 : decode b_Md_byThree 195 = .ok (.lload 8, 2) := by decide +kernel
theorem d_Md_byThree_197 : decode b_Md_byThree 197 = .ok (.lconst 0, 1) := by decide +kernel
theorem d_Md_byThree_198 : decode b_Md_byThree 198 = .ok (.lcmp, 1) := by decide +kernel
theorem d_Md_byThree_199 : decode b_Md_byThree 199 = .ok (.ifCond .lt 41, 3) := by decide +kernel
theorem d_Md_byThree_202 : decode b_Md_byThree 202 = .ok (.aload_n 0, 1) := by decide +kernel
theorem d_Md_byThree_203 : decode b_Md_byThree 203 = .ok (.lload 10, 2) := by decide +kernel
theorem d_Md_byThree_205 : decode b_Md_byThree 205 = .ok (.aload_n 0, 1) := by decide +kernel
theorem d_Md_byThree_206 : decode b_Md_byThree 206 = .ok (.getfield 53, 3) := by decide +kernel
theorem d_Md_byThree_209 : decode b_Md_byThree 209 = .ok (.iload_n 1, 1) := by decide +kernel
end
section
theorem d_Md_byThree_210 : decode b_Md_byThree 210 = .ok (.laload, 1) := by decide +kernel
theorem d_Md_byThree_211 : decode b_Md_byThree 211 = .ok (.lmul, 1) := by decide +kernel
theorem d_Md_byThree_212 : decode b_Md_byThree 212 = .ok (.lload 12, 2) := by decide +kernel
theorem d_Md_byThree_214 : decode b_Md_byThree 214 = .ok (.aload_n 0, 1) := by decide +kernel
theorem d_Md_byThree_215 : decode b_Md_byThree 215 = .ok (.getfield 53, 3) := by decide +kernel
theorem d_Md_byThree_218 : decode b_Md_byThree 218 = .ok (.iload_n 2, 1) := by decide +kernel
theorem d_Md_byThree_219 : decode b_Md_byThree 219 = .ok (.laload, 1) := by decide +kernel
theorem d_Md_byThree_220 : decode b_Md_byThree 220 = .ok (.lmul, 1) := by decide +kernel
theorem d_Md_byThree_221 : decode b_Md_byThree 221 = .ok (.ladd, 1) := by decide +kernel
theorem d_Md_byThree_222 : decode b_Md_byThree 222 = .ok (.lload 8, 2) := by decide +kernel
theorem d_Md_byThree_224 : decode b_Md_byThree 224 = .ok (.aload_n 0, 1) := by decide +kernel
theorem d_Md_byThree_225 : decode b_Md_byThree 225 = .ok (.getfield 53, 3) := by decide +kernel
theorem d_Md_byThree_228 : decode b_Md_byThree 228 = .ok (.iload_n 3, 1) := by decide +kernel
theorem d_Md_byThree_229 : decode b_Md_byThree 229 = .ok (.laload, 1) := by decide +kernel
theorem d_Md_byThree_230 : decode b_Md_byThree 230 = .ok (.lmul, 1) := by decide +kernel
theorem d_Md_byThree_231 : decode b_Md_byThree 231 = .ok (.ladd, 1) := by decide +kernel
theorem d_Md_byThree_232 : decode b_Md_byThree 232 = .ok (.lload 6, 2) := by decide +kernel
theorem d_Md_byThree_234 : decode b_Md_byThree 234 = .ok (.lload 4, 2) := by decide +kernel
theorem d_Md_byThree_236 : decode b_Md_byThree 236 = .ok (.lmul, 1) := by decide +kernel
theorem d_Md_byThree_237 : decode b_Md_byThree 237 = .ok (.invokevirtual 137, 3) := by decide +kernel
theorem d_Md_byThree_240 : decode b_Md_byThree 240 = .ok (.return_, 1) := by decide +kernel
theorem d_Md_holds_0 : decode b_Md_holds 0 = .ok (.aload_n 0, 1) := by decide +kernel
theorem d_Md_holds_1 : decode b_Md_holds 1 = .ok (.iload_n 1, 1) := by decide +kernel
theorem d_Md_holds_2 : decode b_Md_holds 2 = .ok (.iload_n 2, 1) := by decide +kernel
theorem d_Md_holds_3 : decode b_Md_holds 3 = .ok (.invokevirtual 92, 3) := by decide +kernel
theorem d_Md_holds_6 : decode b_Md_holds 6 = .ok (.ifCond .ne 6, 3) := by decide +kernel
theorem d_Md_holds_9 : decode b_Md_holds 9 = .ok (.bipush (-2), 2) := by decide +kernel
theorem d_Md_holds_11 : decode b_Md_holds 11 = .ok (.ireturn, 1) := by decide +kernel
theorem d_Md_holds_12 : decode b_Md_holds 12 = .ok (.aload_n 0, 1) := by decide +kernel
theorem d_Md_holds_13 : decode b_Md_holds 13 = .ok (.iload_n 1, 1) := by decide +kernel
theorem d_Md_holds_14 : decode b_Md_holds 14 = .ok (.iload_n 3, 1) := by decide +kernel
theorem d_Md_holds_15 : decode b_Md_holds 15 = .ok (.iload 4, 2) := by decide +kernel
theorem d_Md_holds_17 : decode b_Md_holds 17 = .ok (.iload 5, 2) := by decide +kernel
theorem d_Md_holds_19 : decode b_Md_holds 19 = .ok (.iload 6, 2) := by decide +kernel
theorem d_Md_holds_21 : decode b_Md_holds 21 = .ok (.invokevirtual 85, 3) := by decide +kernel
theorem d_Md_holds_24 : decode b_Md_holds 24 = .ok (.ifCond .ne 6, 3) := by decide +kernel
theorem d_Md_holds_27 : decode b_Md_holds 27 = .ok (.bipush (-3), 2) := by decide +kernel
theorem d_Md_holds_29 : decode b_Md_holds 29 = .ok (.ireturn, 1) := by decide +kernel
theorem d_Md_holds_30 : decode b_Md_holds 30 = .ok (.aload_n 0, 1) := by decide +kernel
theorem d_Md_holds_31 : decode b_Md_holds 31 = .ok (.iload_n 1, 1) := by decide +kernel
theorem d_Md_holds_32 : decode b_Md_holds 32 = .ok (.iload_n 2, 1) := by decide +kernel
theorem d_Md_holds_33 : decode b_Md_holds 33 = .ok (.iconst 0, 1) := by decide +kernel
theorem d_Md_holds_34 : decode b_Md_holds 34 = .ok (.invokevirtual 174, 3) := by decide +kernel
theorem d_Md_holds_37 : decode b_Md_holds 37 = .ok (.aload_n 0, 1) := by decide +kernel
theorem d_Md_holds_38 : decode b_Md_holds 38 = .ok (.invokevirtual 178, 3) := by decide +kernel
theorem d_Md_holds_41 : decode b_Md_holds 41 = .ok (.ifCond .eq 5, 3) := by decide +kernel
theorem d_Md_holds_44 : decode b_Md_holds 44 = .ok (.iconst 1, 1) := by decide +kernel
theorem d_Md_holds_45 : decode b_Md_holds 45 = .ok (.ireturn, 1) := by decide +kernel
theorem d_Md_holds_46 : decode b_Md_holds 46 = .ok (.aload_n 0, 1) := by decide +kernel
theorem d_Md_holds_47 : decode b_Md_holds 47 = .ok (.iload_n 3, 1) := by decide +kernel
theorem d_Md_holds_48 : decode b_Md_holds 48 = .ok (.i2l, 1) := by decide +kernel
theorem d_Md_holds_49 : decode b_Md_holds 49 = .ok (.iload 4, 2) := by decide +kernel
theorem d_Md_holds_51 : decode b_Md_holds 51 = .ok (.i2l, 1) := by decide +kernel
theorem d_Md_holds_52 : decode b_Md_holds 52 = .ok (.iload 5, 2) := by decide +kernel
theorem d_Md_holds_54 : decode b_Md_holds 54 = .ok (.i2l, 1) := by decide +kernel
theorem d_Md_holds_55 : decode b_Md_holds 55 = .ok (.invokevirtual 167, 3) := by decide +kernel
theorem d_Md_holds_58 : decode b_Md_holds 58 = .ok (.aload_n 0, 1) := by decide +kernel
theorem d_Md_holds_59 : decode b_Md_holds 59 = .ok (.iload 6, 2) := by decide +kernel
theorem d_Md_holds_61 : decode b_Md_holds 61 = .ok (.i2l, 1) := by decide +kernel
theorem d_Md_holds_62 : decode b_Md_holds 62 = .ok (.invokevirtual 182, 3) := by decide +kernel
theorem d_Md_holds_65 : decode b_Md_holds 65 = .ok (.ifCond .eq 7, 3) := by decide +kernel
theorem d_Md_holds_68 : decode b_Md_holds 68 = .ok (.iconst 1, 1) := by decide +kernel
theorem d_Md_holds_69 : decode b_Md_holds 69 = .ok (.goto 4, 3) := by decide +kernel
theorem d_Md_holds_72 : decode b_Md_holds 72 = .ok (.iconst 0, 1) := by decide +kernel
theorem d_Md_holds_73 : decode b_Md_holds 73 = .ok (.ireturn, 1) := by decide +kernel
theorem d_Md_isLeast_0 : decode b_Md_isLeast 0 = .ok (.aload_n 0, 1) := by decide +kernel
theorem d_Md_isLeast_1 : decode b_Md_isLeast 1 = .ok (.aload_n 0, 1) := by decide +kernel
theorem d_Md_isLeast_2 : decode b_Md_isLeast 2 = .ok (.getfield 99, 3) := by decide +kernel
theorem d_Md_isLeast_5 : decode b_Md_isLeast 5 = .ok (.invokevirtual 171, 3) := by decide +kernel
theorem d_Md_isLeast_8 : decode b_Md_isLeast 8 = .ok (.aload_n 0, 1) := by decide +kernel
theorem d_Md_isLeast_9 : decode b_Md_isLeast 9 = .ok (.getfield 128, 3) := by decide +kernel
theorem d_Md_isLeast_12 : decode b_Md_isLeast 12 = .ok (.ifCond .eq 21, 3) := by decide +kernel
theorem d_Md_isLeast_15 : decode b_Md_isLeast 15 = .ok (.aload_n 0, 1) := by decide +kernel
theorem d_Md_isLeast_16 : decode b_Md_isLeast 16 = .ok (.getfield 134, 3) := by decide +kernel
theorem d_Md_isLeast_19 : decode b_Md_isLeast 19 = .ok (.lload_n 1, 1) := by decide +kernel
theorem d_Md_isLeast_20 : decode b_Md_isLeast 20 = .ok (.aload_n 0, 1) := by decide +kernel
theorem d_Md_isLeast_21 : decode b_Md_isLeast 21 = .ok (.getfield 131, 3) := by decide +kernel
theorem d_Md_isLeast_24 : decode b_Md_isLeast 24 = .ok (.lmul, 1) := by decide +kernel
theorem d_Md_isLeast_25 : decode b_Md_isLeast 25 = .ok (.lcmp, 1) := by decide +kernel
theorem d_Md_isLeast_26 : decode b_Md_isLeast 26 = .ok (.ifCond .lt 7, 3) := by decide +kernel
theorem d_Md_isLeast_29 : decode b_Md_isLeast 29 = .ok (.iconst 1, 1) := by decide +kernel
theorem d_Md_isLeast_30 : decode b_Md_isLeast 30 = .ok (.goto 4, 3) := by decide +kernel
theorem d_Md_isLeast_33 : decode b_Md_isLeast 33 = .ok (.iconst 0, 1) := by decide +kernel
theorem d_Md_isLeast_34 : decode b_Md_isLeast 34 = .ok (.ireturn, 1) := by decide +kernel
theorem d_Md_term_0 : decode b_Md_term 0 = .ok (.aload_n 0, 1) := by decide +kernel
theorem d_Md_term_1 : decode b_Md_term 1 = .ok (.iload_n 1, 1) := by decide +kernel
theorem d_Md_term_2 : decode b_Md_term 2 = .ok (.iload_n 2, 1) := by decide +kernel
theorem d_Md_term_3 : decode b_Md_term 3 = .ok (.invokevirtual 92, 3) := by decide +kernel
theorem d_Md_term_6 : decode b_Md_term 6 = .ok (.ifCond .ne 6, 3) := by decide +kernel
theorem d_Md_term_9 : decode b_Md_term 9 = .ok (.bipush (-2), 2) := by decide +kernel
theorem d_Md_term_11 : decode b_Md_term 11 = .ok (.ireturn, 1) := by decide +kernel
theorem d_Md_term_12 : decode b_Md_term 12 = .ok (.aload_n 0, 1) := by decide +kernel
theorem d_Md_term_13 : decode b_Md_term 13 = .ok (.iload_n 1, 1) := by decide +kernel
theorem d_Md_term_14 : decode b_Md_term 14 = .ok (.iload_n 3, 1) := by decide +kernel
theorem d_Md_term_15 : decode b_Md_term 15 = .ok (.iload 4, 2) := by decide +kernel
theorem d_Md_term_17 : decode b_Md_term 17 = .ok (.iload 5, 2) := by decide +kernel
theorem d_Md_term_19 : decode b_Md_term 19 = .ok (.iconst 2, 1) := by decide +kernel
theorem d_Md_term_20 : decode b_Md_term 20 = .ok (.invokevirtual 71, 3) := by decide +kernel
theorem d_Md_term_23 : decode b_Md_term 23 = .ok (.ifCond .ne 6, 3) := by decide +kernel
theorem d_Md_term_26 : decode b_Md_term 26 = .ok (.bipush (-3), 2) := by decide +kernel
theorem d_Md_term_28 : decode b_Md_term 28 = .ok (.ireturn, 1) := by decide +kernel
theorem d_Md_term_29 : decode b_Md_term 29 = .ok (.aload_n 0, 1) := by decide +kernel
theorem d_Md_term_30 : decode b_Md_term 30 = .ok (.iload_n 1, 1) := by decide +kernel
theorem d_Md_term_31 : decode b_Md_term 31 = .ok (.iload_n 2, 1) := by decide +kernel
theorem d_Md_term_32 : decode b_Md_term 32 = .ok (.iconst 0, 1) := by decide +kernel
theorem d_Md_term_33 : decode b_Md_term 33 = .ok (.invokevirtual 174, 3) := by decide +kernel
theorem d_Md_term_36 : decode b_Md_term 36 = .ok (.aload_n 0, 1) := by decide +kernel
theorem d_Md_term_37 : decode b_Md_term 37 = .ok (.invokevirtual 178, 3) := by decide +kernel
theorem d_Md_term_40 : decode b_Md_term 40 = .ok (.ifCond .eq 6, 3) := by decide +kernel
theorem d_Md_term_43 : decode b_Md_term 43 = .ok (.bipush 7, 2) := by decide +kernel
theorem d_Md_term_45 : decode b_Md_term 45 = .ok (.ireturn, 1) := by decide +kernel
theorem d_Md_term_46 : decode b_Md_term 46 = .ok (.aload_n 0, 1) := by decide +kernel
theorem d_Md_term_47 : decode b_Md_term 47 = .ok (.iload_n 3, 1) := by decide +kernel
theorem d_Md_term_48 : decode b_Md_term 48 = .ok (.iload 4, 2) := by decide +kernel
theorem d_Md_term_50 : decode b_Md_term 50 = .ok (.iload 5, 2) := by decide +kernel
theorem d_Md_term_52 : decode b_Md_term 52 = .ok (.invokevirtual 190, 3) := by decide +kernel
theorem d_Md_term_55 : decode b_Md_term 55 = .ok (.ifCond .eq 7, 3) := by decide +kernel
theorem d_Md_term_58 : decode b_Md_term 58 = .ok (.iconst 1, 1) := by decide +kernel
theorem d_Md_term_59 : decode b_Md_term 59 = .ok (.goto 4, 3) := by decide +kernel
theorem d_Md_term_62 : decode b_Md_term 62 = .ok (.iconst 0, 1) := by decide +kernel
theorem d_Md_term_63 : decode b_Md_term 63 = .ok (.aload_n 0, 1) := by decide +kernel
theorem d_Md_term_64 : decode b_Md_term 64 = .ok (.iload_n 1, 1) := by decide +kernel
theorem d_Md_term_65 : decode b_Md_term 65 = .ok (.iload_n 2, 1) := by decide +kernel
theorem d_Md_term_66 : decode b_Md_term 66 = .ok (.iload_n 3, 1) := by decide +kernel
theorem d_Md_term_67 : decode b_Md_term 67 = .ok (.iload 4, 2) := by decide +kernel
theorem d_Md_term_69 : decode b_Md_term 69 = .ok (.iload 5, 2) := by decide +kernel
theorem d_Md_term_71 : decode b_Md_term 71 = .ok (.invokevirtual 193, 3) := by decide +kernel
theorem d_Md_term_74 : decode b_Md_term 74 = .ok (.iadd, 1) := by decide +kernel
theorem d_Md_term_75 : decode b_Md_term 75 = .ok (.ireturn, 1) := by decide +kernel
theorem d_Md_isBounded_0 : decode b_Md_isBounded 0 = .ok (.aload_n 0, 1) := by decide +kernel
theorem d_Md_isBounded_1 : decode b_Md_isBounded 1 = .ok (.iload_n 1, 1) := by decide +kernel
theorem d_Md_isBounded_2 : decode b_Md_isBounded 2 = .ok (.i2l, 1) := by decide +kernel
theorem d_Md_isBounded_3 : decode b_Md_isBounded 3 = .ok (.iload_n 2, 1) := by decide +kernel
theorem d_Md_isBounded_4 : decode b_Md_isBounded 4 = .ok (.i2l, 1) := by decide +kernel
theorem d_Md_isBounded_5 : decode b_Md_isBounded 5 = .ok (.iload_n 3, 1) := by decide +kernel
theorem d_Md_isBounded_6 : decode b_Md_isBounded 6 = .ok (.i2l, 1) := by decide +kernel
theorem d_Md_isBounded_7 : decode b_Md_isBounded 7 = .ok (.invokevirtual 167, 3) := by decide +kernel
theorem d_Md_isBounded_10 : decode b_Md_isBounded 10 = .ok (.aload_n 0, 1) := by decide +kernel
theorem d_Md_isBounded_11 : decode b_Md_isBounded 11 = .ok (.aload_n 0, 1) := by decide +kernel
theorem d_Md_isBounded_12 : decode b_Md_isBounded 12 = .ok (.getfield 99, 3) := by decide +kernel
theorem d_Md_isBounded_15 : decode b_Md_isBounded 15 = .ok (.invokevirtual 171, 3) := by decide +kernel
theorem d_Md_isBounded_18 : decode b_Md_isBounded 18 = .ok (.aload_n 0, 1) := by decide +kernel
theorem d_Md_isBounded_19 : decode b_Md_isBounded 19 = .ok (.getfield 128, 3) := by decide +kernel
theorem d_Md_isBounded_22 : decode b_Md_isBounded 22 = .ok (.ireturn, 1) := by decide +kernel
theorem d_Md_falls_0 : decode b_Md_falls 0 = .ok (.aload_n 0, 1) := by decide +kernel
theorem d_Md_falls_1 : decode b_Md_falls 1 = .ok (.iload_n 1, 1) := by decide +kernel
theorem d_Md_falls_2 : decode b_Md_falls 2 = .ok (.iload_n 2, 1) := by decide +kernel
theorem d_Md_falls_3 : decode b_Md_falls 3 = .ok (.iload_n 3, 1) := by decide +kernel
theorem d_Md_falls_4 : decode b_Md_falls 4 = .ok (.i2l, 1) := by decide +kernel
theorem d_Md_falls_5 : decode b_Md_falls 5 = .ok (.iload 4, 2) := by decide +kernel
theorem d_Md_falls_7 : decode b_Md_falls 7 = .ok (.i2l, 1) := by decide +kernel
theorem d_Md_falls_8 : decode b_Md_falls 8 = .ok (.iload 5, 2) := by decide +kernel
theorem d_Md_falls_10 : decode b_Md_falls 10 = .ok (.i2l, 1) := by decide +kernel
theorem d_Md_falls_11 : decode b_Md_falls 11 = .ok (.invokevirtual 186, 3) := by decide +kernel
theorem d_Md_falls_14 : decode b_Md_falls 14 = .ok (.lstore 6, 2) := by decide +kernel
theorem d_Md_falls_16 : decode b_Md_falls 16 = .ok (.aload_n 0, 1) := by decide +kernel
theorem d_Md_falls_17 : decode b_Md_falls 17 = .ok (.iload_n 3, 1) := by decide +kernel
theorem d_Md_falls_18 : decode b_Md_falls 18 = .ok (.i2l, 1) := by decide +kernel
theorem d_Md_falls_19 : decode b_Md_falls 19 = .ok (.aload_n 0, 1) := by decide +kernel
theorem d_Md_falls_20 : decode b_Md_falls 20 = .ok (.getfield 119, 3) := by decide +kernel
theorem d_Md_falls_23 : decode b_Md_falls 23 = .ok (.lsub, 1) := by decide +kernel
theorem d_Md_falls_24 : decode b_Md_falls 24 = .ok (.iload 4, 2) := by decide +kernel
theorem d_Md_falls_26 : decode b_Md_falls 26 = .ok (.i2l, 1) := by decide +kernel
theorem d_Md_falls_27 : decode b_Md_falls 27 = .ok (.aload_n 0, 1) := by decide +kernel
theorem d_Md_falls_28 : decode b_Md_falls 28 = .ok (.getfield 122, 3) := by decide +kernel
theorem d_Md_falls_31 : decode b_Md_falls 31 = .ok (.lsub, 1) := by decide +kernel
theorem d_Md_falls_32 : decode b_Md_falls 32 = .ok (.iload 5, 2) := by decide +kernel
theorem d_Md_falls_34 : decode b_Md_falls 34 = .ok (.i2l, 1) := by decide +kernel
theorem d_Md_falls_35 : decode b_Md_falls 35 = .ok (.aload_n 0, 1) := by decide +kernel
theorem d_Md_falls_36 : decode b_Md_falls 36 = .ok (.getfield 125, 3) := by decide +kernel
theorem d_Md_falls_39 : decode b_Md_falls 39 = .ok (.lsub, 1) := by decide +kernel
theorem d_Md_falls_40 : decode b_Md_falls 40 = .ok (.invokevirtual 167, 3) := by decide +kernel
theorem d_Md_falls_43 : decode b_Md_falls 43 = .ok (.aload_n 0, 1) := by decide +kernel
theorem d_Md_falls_44 : decode b_Md_falls 44 = .ok (.aload_n 0, 1) := by decide +kernel
theorem d_Md_falls_45 : decode b_Md_falls 45 = .ok (.getfield 99, 3) := by decide +kernel
theorem d_Md_falls_48 : decode b_Md_falls 48 = .ok (.invokevirtual 171, 3) := by decide +kernel
theorem d_Md_falls_51 : decode b_Md_falls 51 = .ok (.aload_n 0, 1) := by decide +kernel
theorem d_Md_falls_52 : decode b_Md_falls 52 = .ok (.getfield 128, 3) := by decide +kernel
theorem d_Md_falls_55 : decode b_Md_falls 55 = .ok (.ifCond .eq 18, 3) := by decide +kernel
theorem d_Md_falls_58 : decode b_Md_falls 58 = .ok (.aload_n 0, 1) := by decide +kernel
theorem d_Md_falls_59 : decode b_Md_falls 59 = .ok (.getfield 134, 3) := by decide +kernel
theorem d_Md_falls_62 : decode b_Md_falls 62 = .ok (.lload 6, 2) := by decide +kernel
theorem d_Md_falls_64 : decode b_Md_falls 64 = .ok (.aload_n 0, 1) := by decide +kernel
theorem d_Md_falls_65 : decode b_Md_falls 65 = .ok (.getfield 131, 3) := by decide +kernel
theorem d_Md_falls_68 : decode b_Md_falls 68 = .ok (.lmul, 1) := by decide +kernel
theorem d_Md_falls_69 : decode b_Md_falls 69 = .ok (.lcmp, 1) := by decide +kernel
theorem d_Md_falls_70 : decode b_Md_falls 70 = .ok (.ifCond .ge 5, 3) := by decide +kernel
theorem d_Md_falls_73 : decode b_Md_falls 73 = .ok (.iconst 0, 1) := by decide +kernel
theorem d_Md_falls_74 : decode b_Md_falls 74 = .ok (.ireturn, 1) := by decide +kernel
theorem d_Md_falls_75 : decode b_Md_falls 75 = .ok (.aload_n 0, 1) := by decide +kernel
theorem d_Md_falls_76 : decode b_Md_falls 76 = .ok (.getfield 134, 3) := by decide +kernel
theorem d_Md_falls_79 : decode b_Md_falls 79 = .ok (.lload 6, 2) := by decide +kernel
theorem d_Md_falls_81 : decode b_Md_falls 81 = .ok (.lconst 1, 1) := by decide +kernel
theorem d_Md_falls_82 : decode b_Md_falls 82 = .ok (.ladd, 1) := by decide +kernel
theorem d_Md_falls_83 : decode b_Md_falls 83 = .ok (.aload_n 0, 1) := by decide +kernel
theorem d_Md_falls_84 : decode b_Md_falls 84 = .ok (.getfield 131, 3) := by decide +kernel
theorem d_Md_falls_87 : decode b_Md_falls 87 = .ok (.lmul, 1) := by decide +kernel
theorem d_Md_falls_88 : decode b_Md_falls 88 = .ok (.lcmp, 1) := by decide +kernel
theorem d_Md_falls_89 : decode b_Md_falls 89 = .ok (.ifCond .lt 8, 3) := by decide +kernel
theorem d_Md_falls_92 : decode b_Md_falls 92 = .ok (.bipush 6, 2) := by decide +kernel
theorem d_Md_falls_94 : decode b_Md_falls 94 = .ok (.goto 4, 3) := by decide +kernel
theorem d_Md_falls_97 : decode b_Md_falls 97 = .ok (.iconst 2, 1) := by decide +kernel
theorem d_Md_falls_98 : decode b_Md_falls 98 = .ok (.ireturn, 1) := by decide +kernel
theorem d_Md_changed_0 : decode b_Md_changed 0 = .ok (.iconst 3, 1) := by decide +kernel
theorem d_Md_changed_1 : decode b_Md_changed 1 = .ok (.iload_n 1, 1) := by decide +kernel
theorem d_Md_changed_2 : decode b_Md_changed 2 = .ok (.imul, 1) := by decide +kernel
theorem d_Md_changed_3 : decode b_Md_changed 3 = .ok (.iload_n 2, 1) := by decide +kernel
theorem d_Md_changed_4 : decode b_Md_changed 4 = .ok (.iadd, 1) := by decide +kernel
theorem d_Md_changed_5 : decode b_Md_changed 5 = .ok (.istore 9, 2) := by decide +kernel
theorem d_Md_changed_7 : decode b_Md_changed 7 = .ok (.bipush 9, 2) := by decide +kernel
theorem d_Md_changed_9 : decode b_Md_changed 9 = .ok (.iload 9, 2) := by decide +kernel
theorem d_Md_changed_11 : decode b_Md_changed 11 = .ok (.imul, 1) := by decide +kernel
theorem d_Md_changed_12 : decode b_Md_changed 12 = .ok (.istore 10, 2) := by decide +kernel
theorem d_Md_changed_14 : decode b_Md_changed 14 = .ok (.aload_n 0, 1) := by decide +kernel
theorem d_Md_changed_15 : decode b_Md_changed 15 = .ok (.lload_n 3, 1) := by decide +kernel
theorem d_Md_changed_16 : decode b_Md_changed 16 = .ok (.aload_n 0, 1) := by decide +kernel
theorem d_Md_changed_17 : decode b_Md_changed 17 = .ok (.getfield 28, 3) := by decide +kernel
theorem d_Md_changed_20 : decode b_Md_changed 20 = .ok (.iload 10, 2) := by decide +kernel
theorem d_Md_changed_22 : decode b_Md_changed 22 = .ok (.iaload, 1) := by decide +kernel
theorem d_Md_changed_23 : decode b_Md_changed 23 = .ok (.i2l, 1) := by decide +kernel
theorem d_Md_changed_24 : decode b_Md_changed 24 = .ok (.lmul, 1) := by decide +kernel
theorem d_Md_changed_25 : decode b_Md_changed 25 = .ok (.lload 5, 2) := by decide +kernel
theorem d_Md_changed_27 : decode b_Md_changed 27 = .ok (.aload_n 0, 1) := by decide +kernel
theorem d_Md_changed_28 : decode b_Md_changed 28 = .ok (.getfield 28, 3) := by decide +kernel
theorem d_Md_changed_31 : decode b_Md_changed 31 = .ok (.iload 10, 2) := by decide +kernel
theorem d_Md_changed_33 : decode b_Md_changed 33 = .ok (.iconst 3, 1) := by decide +kernel
theorem d_Md_changed_34 : decode b_Md_changed 34 = .ok (.iadd, 1) := by decide +kernel
theorem d_Md_changed_35 : decode b_Md_changed 35 = .ok (.iaload, 1) := by decide +kernel
theorem d_Md_changed_36 : decode b_Md_changed 36 = .ok (.i2l, 1) := by decide +kernel
theorem d_Md_changed_37 : decode b_Md_changed 37 = .ok (.lmul, 1) := by decide +kernel
theorem d_Md_changed_38 : decode b_Md_changed 38 = .ok (.ladd, 1) := by decide +kernel
theorem d_Md_changed_39 : decode b_Md_changed 39 = .ok (.lload 7, 2) := by decide +kernel
theorem d_Md_changed_41 : decode b_Md_changed 41 = .ok (.aload_n 0, 1) := by decide +kernel
theorem d_Md_changed_42 : decode b_Md_changed 42 = .ok (.getfield 28, 3) := by decide +kernel
theorem d_Md_changed_45 : decode b_Md_changed 45 = .ok (.iload 10, 2) := by decide +kernel
theorem d_Md_changed_47 : decode b_Md_changed 47 = .ok (.bipush 6, 2) := by decide +kernel
theorem d_Md_changed_49 : decode b_Md_changed 49 = .ok (.iadd, 1) := by decide +kernel
theorem d_Md_changed_50 : decode b_Md_changed 50 = .ok (.iaload, 1) := by decide +kernel
theorem d_Md_changed_51 : decode b_Md_changed 51 = .ok (.i2l, 1) := by decide +kernel
theorem d_Md_changed_52 : decode b_Md_changed 52 = .ok (.lmul, 1) := by decide +kernel
theorem d_Md_changed_53 : decode b_Md_changed 53 = .ok (.ladd, 1) := by decide +kernel
theorem d_Md_changed_54 : decode b_Md_changed 54 = .ok (.lload_n 3, 1) := by decide +kernel
theorem d_Md_changed_55 : decode b_Md_changed 55 = .ok (.aload_n 0, 1) := by decide +kernel
theorem d_Md_changed_56 : decode b_Md_changed 56 = .ok (.getfield 28, 3) := by decide +kernel
theorem d_Md_changed_59 : decode b_Md_changed 59 = .ok (.iload 10, 2) := by decide +kernel
theorem d_Md_changed_61 : decode b_Md_changed 61 = .ok (.iconst 1, 1) := by decide +kernel
theorem d_Md_changed_62 : decode b_Md_changed 62 = .ok (.iadd, 1) := by decide +kernel
theorem d_Md_changed_63 : decode b_Md_changed 63 = .ok (.iaload, 1) := by decide +kernel
theorem d_Md_changed_64 : decode b_Md_changed 64 = .ok (.i2l, 1) := by decide +kernel
theorem d_Md_changed_65 : decode b_Md_changed 65 = .ok (.lmul, 1) := by decide +kernel
theorem d_Md_changed_66 : decode b_Md_changed 66 = .ok (.lload 5, 2) := by decide +kernel
theorem d_Md_changed_68 : decode b_Md_changed 68 = .ok (.aload_n 0, 1) := by decide +kernel
theorem d_Md_changed_69 : decode b_Md_changed 69 = .ok (.getfield 28, 3) := by decide +kernel
theorem d_Md_changed_72 : decode b_Md_changed 72 = .ok (.iload 10, 2) := by decide +kernel
theorem d_Md_changed_74 : decode b_Md_changed 74 = .ok (.iconst 4, 1) := by decide +kernel
theorem d_Md_changed_75 : decode b_Md_changed 75 = .ok (.iadd, 1) := by decide +kernel
theorem d_Md_changed_76 : decode b_Md_changed 76 = .ok (.iaload, 1) := by decide +kernel
theorem d_Md_changed_77 : decode b_Md_changed 77 = .ok (.i2l, 1) := by decide +kernel
theorem d_Md_changed_78 : decode b_Md_changed 78 = .ok (.lmul, 1) := by decide +kernel
theorem d_Md_changed_79 : decode b_Md_changed 79 = .ok (.ladd, 1) := by decide +kernel
theorem d_Md_changed_80 : decode b_Md_changed 80 = .ok (.lload 7, 2) := by decide +kernel
theorem d_Md_changed_82 : decode b_Md_changed 82 = .ok (.aload_n 0, 1) := by decide +kernel
theorem d_Md_changed_83 : decode b_Md_changed 83 = .ok (.getfield 28, 3) := by decide +kernel
theorem d_Md_changed_86 : decode b_Md_changed 86 = .ok (.iload 10, 2) := by decide +kernel
theorem d_Md_changed_88 : decode b_Md_changed 88 = .ok (.bipush 7, 2) := by decide +kernel
theorem d_Md_changed_90 : decode b_Md_changed 90 = .ok (.iadd, 1) := by decide +kernel
theorem d_Md_changed_91 : decode b_Md_changed 91 = .ok (.iaload, 1) := by decide +kernel
theorem d_Md_changed_92 : decode b_Md_changed 92 = .ok (.i2l, 1) := by decide +kernel
theorem d_Md_changed_93 : decode b_Md_changed 93 = .ok (.lmul, 1) := by decide +kernel
theorem d_Md_changed_94 : decode b_Md_changed 94 = .ok (.ladd, 1) := by decide +kernel
theorem d_Md_changed_95 : decode b_Md_changed 95 = .ok (.lload_n 3, 1) := by decide +kernel
theorem d_Md_changed_96 : decode b_Md_changed 96 = .ok (.aload_n 0, 1) := by decide +kernel
theorem d_Md_changed_97 : decode b_Md_changed 97 = .ok (.getfield 28, 3) := by decide +kernel
theorem d_Md_changed_100 : decode b_Md_changed 100 = .ok (.iload 10, 2) := by decide +kernel
theorem d_Md_changed_102 : decode b_Md_changed 102 = .ok (.iconst 2, 1) := by decide +kernel
theorem d_Md_changed_103 : decode b_Md_changed 103 = .ok (.iadd, 1) := by decide +kernel
theorem d_Md_changed_104 : decode b_Md_changed 104 = .ok (.iaload, 1) := by decide +kernel
theorem d_Md_changed_105 : decode b_Md_changed 105 = .ok (.i2l, 1) := by decide +kernel
theorem d_Md_changed_106 : decode b_Md_changed 106 = .ok (.lmul, 1) := by decide +kernel
theorem d_Md_changed_107 : decode b_Md_changed 107 = .ok (.lload 5, 2) := by decide +kernel
theorem d_Md_changed_109 : decode b_Md_changed 109 = .ok (.aload_n 0, 1) := by decide +kernel
theorem d_Md_changed_110 : decode b_Md_changed 110 = .ok (.getfield 28, 3) := by decide +kernel
theorem d_Md_changed_113 : decode b_Md_changed 113 = .ok (.iload 10, 2) := by decide +kernel
theorem d_Md_changed_115 : decode b_Md_changed 115 = .ok (.iconst 5, 1) := by decide +kernel
theorem d_Md_changed_116 : decode b_Md_changed 116 = .ok (.iadd, 1) := by decide +kernel
theorem d_Md_changed_117 : decode b_Md_changed 117 = .ok (.iaload, 1) := by decide +kernel
theorem d_Md_changed_118 : decode b_Md_changed 118 = .ok (.i2l, 1) := by decide +kernel
theorem d_Md_changed_119 : decode b_Md_changed 119 = .ok (.lmul, 1) := by decide +kernel
theorem d_Md_changed_120 : decode b_Md_changed 120 = .ok (.ladd, 1) := by decide +kernel
theorem d_Md_changed_121 : decode b_Md_changed 121 = .ok (.lload 7, 2) := by decide +kernel
theorem d_Md_changed_123 : decode b_Md_changed 123 = .ok (.aload_n 0, 1) := by decide +kernel
theorem d_Md_changed_124 : decode b_Md_changed 124 = .ok (.getfield 28, 3) := by decide +kernel
theorem d_Md_changed_127 : decode b_Md_changed 127 = .ok (.iload 10, 2) := by decide +kernel
theorem d_Md_changed_129 : decode b_Md_changed 129 = .ok (.bipush 8, 2) := by decide +kernel
theorem d_Md_changed_131 : decode b_Md_changed 131 = .ok (.iadd, 1) := by decide +kernel
theorem d_Md_changed_132 : decode b_Md_changed 132 = .ok (.iaload, 1) := by decide +kernel
theorem d_Md_changed_133 : decode b_Md_changed 133 = .ok (.i2l, 1) := by decide +kernel
theorem d_Md_changed_134 : decode b_Md_changed 134 = .ok (.lmul, 1) := by decide +kernel
theorem d_Md_changed_135 : decode b_Md_changed 135 = .ok (.ladd, 1) := by decide +kernel
theorem d_Md_changed_136 : decode b_Md_changed 136 = .ok (.invokevirtual 167, 3) := by decide +kernel
theorem d_Md_changed_139 : decode b_Md_changed 139 = .ok (.lload_n 3, 1) := by decide +kernel
theorem d_Md_changed_140 : decode b_Md_changed 140 = .ok (.aload_n 0, 1) := by decide +kernel
theorem d_Md_changed_141 : decode b_Md_changed 141 = .ok (.getfield 31, 3) := by decide +kernel
theorem d_Md_changed_144 : decode b_Md_changed 144 = .ok (.iconst 3, 1) := by decide +kernel
theorem d_Md_changed_145 : decode b_Md_changed 145 = .ok (.iload 9, 2) := by decide +kernel
theorem d_Md_changed_147 : decode b_Md_changed 147 = .ok (.imul, 1) := by decide +kernel
theorem d_Md_changed_148 : decode b_Md_changed 148 = .ok (.iaload, 1) := by decide +kernel
theorem d_Md_changed_149 : decode b_Md_changed 149 = .ok (.i2l, 1) := by decide +kernel
theorem d_Md_changed_150 : decode b_Md_changed 150 = .ok (.lmul, 1) := by decide +kernel
theorem d_Md_changed_151 : decode b_Md_changed 151 = .ok (.lload 5, 2) := by decide +kernel
theorem d_Md_changed_153 : decode b_Md_changed 153 = .ok (.aload_n 0, 1) := by decide +kernel
theorem d_Md_changed_154 : decode b_Md_changed 154 = .ok (.getfield 31, 3) := by decide +kernel
theorem d_Md_changed_157 : decode b_Md_changed 157 = .ok (.iconst 3, 1) := by decide +kernel
theorem d_Md_changed_158 : decode b_Md_changed 158 = .ok (.iload 9, 2) := by decide +kernel
theorem d_Md_changed_160 : decode b_Md_changed 160 = .ok (.imul, 1) := by decide +kernel
theorem d_Md_changed_161 : decode b_Md_changed 161 = .ok (.iconst 1, 1) := by decide +kernel
theorem d_Md_changed_162 : decode b_Md_changed 162 = .ok (.iadd, 1) := by decide +kernel
theorem d_Md_changed_163 : decode b_Md_changed 163 = .ok (.iaload, 1) := by decide +kernel
theorem d_Md_changed_164 : decode b_Md_changed 164 = .ok (.i2l, 1) := by decide +kernel
theorem d_Md_changed_165 : decode b_Md_changed 165 = .ok (.lmul, 1) := by decide +kernel
theorem d_Md_changed_166 : decode b_Md_changed 166 = .ok (.ladd, 1) := by decide +kernel
theorem d_Md_changed_167 : decode b_Md_changed 167 = .ok (.lload 7, 2) := by decide +kernel
theorem d_Md_changed_169 : decode b_Md_changed 169 = .ok (.aload_n 0, 1) := by decide +kernel
theorem d_Md_changed_170 : decode b_Md_changed 170 = .ok (.getfield 31, 3) := by decide +kernel
theorem d_Md_changed_173 : decode b_Md_changed 173 = .ok (.iconst 3, 1) := by decide +kernel
theorem d_Md_changed_174 : decode b_Md_changed 174 = .ok (.iload 9, 2) := by decide +kernel
theorem d_Md_changed_176 : decode b_Md_changed 176 = .ok (.imul, 1) := by decide +kernel
theorem d_Md_changed_177 : decode b_Md_changed 177 = .ok (.iconst 2, 1) := by decide +kernel
theorem d_Md_changed_178 : decode b_Md_changed 178 = .ok (.iadd, 1) := by decide +kernel
theorem d_Md_changed_179 : decode b_Md_changed 179 = .ok (.iaload, 1) := by decide +kernel
theorem d_Md_changed_180 : decode b_Md_changed 180 = .ok (.i2l, 1) := by decide +kernel
theorem d_Md_changed_181 : decode b_Md_changed 181 = .ok (.lmul, 1) := by decide +kernel
theorem d_Md_changed_182 : decode b_Md_changed 182 = .ok (.ladd, 1) := by decide +kernel
theorem d_Md_changed_183 : decode b_Md_changed 183 = .ok (.lreturn, 1) := by decide +kernel
theorem d_Md_prove_0 : decode b_Md_prove 0 = .ok (.aload_n 0, 1) := by decide +kernel
theorem d_Md_prove_1 : decode b_Md_prove 1 = .ok (.iload_n 1, 1) := by decide +kernel
theorem d_Md_prove_2 : decode b_Md_prove 2 = .ok (.invokevirtual 67, 3) := by decide +kernel
theorem d_Md_prove_5 : decode b_Md_prove 5 = .ok (.ifCond .ne 6, 3) := by decide +kernel
theorem d_Md_prove_8 : decode b_Md_prove 8 = .ok (.bipush (-2), 2) := by decide +kernel
theorem d_Md_prove_10 : decode b_Md_prove 10 = .ok (.ireturn, 1) := by decide +kernel
theorem d_Md_prove_11 : decode b_Md_prove 11 = .ok (.aload_n 0, 1) := by decide +kernel
theorem d_Md_prove_12 : decode b_Md_prove 12 = .ok (.aload_n 0, 1) := by decide +kernel
theorem d_Md_prove_13 : decode b_Md_prove 13 = .ok (.iload_n 1, 1) := by decide +kernel
theorem d_Md_prove_14 : decode b_Md_prove 14 = .ok (.iconst 0, 1) := by decide +kernel
theorem d_Md_prove_15 : decode b_Md_prove 15 = .ok (.invokevirtual 204, 3) := by decide +kernel
theorem d_Md_prove_18 : decode b_Md_prove 18 = .ok (.putfield 78, 3) := by decide +kernel
theorem d_Md_prove_21 : decode b_Md_prove 21 = .ok (.aload_n 0, 1) := by decide +kernel
theorem d_Md_prove_22 : decode b_Md_prove 22 = .ok (.aload_n 0, 1) := by decide +kernel
theorem d_Md_prove_23 : decode b_Md_prove 23 = .ok (.getfield 197, 3) := by decide +kernel
theorem d_Md_prove_26 : decode b_Md_prove 26 = .ok (.putfield 75, 3) := by decide +kernel
theorem d_Md_prove_29 : decode b_Md_prove 29 = .ok (.iconst 0, 1) := by decide +kernel
theorem d_Md_prove_30 : decode b_Md_prove 30 = .ok (.istore_n 2, 1) := by decide +kernel
theorem d_Md_prove_31 : decode b_Md_prove 31 = .ok (.iload_n 2, 1) := by decide +kernel
theorem d_Md_prove_32 : decode b_Md_prove 32 = .ok (.iconst 4, 1) := by decide +kernel
theorem d_Md_prove_33 : decode b_Md_prove 33 = .ok (.aload_n 0, 1) := by decide +kernel
theorem d_Md_prove_34 : decode b_Md_prove 34 = .ok (.getfield 197, 3) := by decide +kernel
theorem d_Md_prove_37 : decode b_Md_prove 37 = .ok (.imul, 1) := by decide +kernel
theorem d_Md_prove_38 : decode b_Md_prove 38 = .ok (.if_icmp .ge 21, 3) := by decide +kernel
theorem d_Md_prove_41 : decode b_Md_prove 41 = .ok (.aload_n 0, 1) := by decide +kernel
theorem d_Md_prove_42 : decode b_Md_prove 42 = .ok (.getfield 38, 3) := by decide +kernel
theorem d_Md_prove_45 : decode b_Md_prove 45 = .ok (.iload_n 2, 1) := by decide +kernel
theorem d_Md_prove_46 : decode b_Md_prove 46 = .ok (.aload_n 0, 1) := by decide +kernel
theorem d_Md_prove_47 : decode b_Md_prove 47 = .ok (.getfield 56, 3) := by decide +kernel
theorem d_Md_prove_50 : decode b_Md_prove 50 = .ok (.iload_n 2, 1) := by decide +kernel
theorem d_Md_prove_51 : decode b_Md_prove 51 = .ok (.iaload, 1) := by decide +kernel
theorem d_Md_prove_52 : decode b_Md_prove 52 = .ok (.iastore, 1) := by decide +kernel
theorem d_Md_prove_53 : decode b_Md_prove 53 = .ok (.iinc 2 1, 3) := by decide +kernel
theorem d_Md_prove_56 : decode b_Md_prove 56 = .ok (.goto (-25), 3) := by decide +kernel
theorem d_Md_prove_59 : decode b_Md_prove 59 = .ok (.aload_n 0, 1) := by decide +kernel
theorem d_Md_prove_60 : decode b_Md_prove 60 = .ok (.getfield 78, 3) := by decide +kernel
theorem d_Md_prove_63 : decode b_Md_prove 63 = .ok (.ifCond .ne 7, 3) := by decide +kernel
theorem d_Md_prove_66 : decode b_Md_prove 66 = .ok (.iconst 1, 1) := by decide +kernel
theorem d_Md_prove_67 : decode b_Md_prove 67 = .ok (.goto 4, 3) := by decide +kernel
theorem d_Md_prove_70 : decode b_Md_prove 70 = .ok (.iconst 0, 1) := by decide +kernel
theorem d_Md_prove_71 : decode b_Md_prove 71 = .ok (.ireturn, 1) := by decide +kernel
theorem d_Md_leftBy_0 : decode b_Md_leftBy 0 = .ok (.iconst 0, 1) := by decide +kernel
theorem d_Md_leftBy_1 : decode b_Md_leftBy 1 = .ok (.istore_n 3, 1) := by decide +kernel
theorem d_Md_leftBy_2 : decode b_Md_leftBy 2 = .ok (.aload_n 0, 1) := by decide +kernel
theorem d_Md_leftBy_3 : decode b_Md_leftBy 3 = .ok (.iconst 0, 1) := by decide +kernel
theorem d_Md_leftBy_4 : decode b_Md_leftBy 4 = .ok (.putfield 197, 3) := by decide +kernel
theorem d_Md_leftBy_7 : decode b_Md_leftBy 7 = .ok (.iconst 0, 1) := by decide +kernel
theorem d_Md_leftBy_8 : decode b_Md_leftBy 8 = .ok (.istore 4, 2) := by decide +kernel
theorem d_Md_leftBy_10 : decode b_Md_leftBy 10 = .ok (.iconst 0, 1) := by decide +kernel
theorem d_Md_leftBy_11 : decode b_Md_leftBy 11 = .ok (.istore 5, 2) := by decide +kernel
theorem d_Md_leftBy_13 : decode b_Md_leftBy 13 = .ok (.iload 5, 2) := by decide +kernel
theorem d_Md_leftBy_15 : decode b_Md_leftBy 15 = .ok (.aload_n 0, 1) := by decide +kernel
theorem d_Md_leftBy_16 : decode b_Md_leftBy 16 = .ok (.getfield 13, 3) := by decide +kernel
theorem d_Md_leftBy_19 : decode b_Md_leftBy 19 = .ok (.iload_n 1, 1) := by decide +kernel
theorem d_Md_leftBy_20 : decode b_Md_leftBy 20 = .ok (.iaload, 1) := by decide +kernel
theorem d_Md_leftBy_21 : decode b_Md_leftBy 21 = .ok (.if_icmp .ge 44, 3) := by decide +kernel
theorem d_Md_leftBy_24 : decode b_Md_leftBy 24 = .ok (.iload_n 3, 1) := by decide +kernel
theorem d_Md_leftBy_25 : decode b_Md_leftBy 25 = .ok (.iconst 1, 1) := by decide +kernel
theorem d_Md_leftBy_26 : decode b_Md_leftBy 26 = .ok (.iload 5, 2) := by decide +kernel
theorem d_Md_leftBy_28 : decode b_Md_leftBy 28 = .ok (.ishl, 1) := by decide +kernel
theorem d_Md_leftBy_29 : decode b_Md_leftBy 29 = .ok (.iadd, 1) := by decide +kernel
theorem d_Md_leftBy_30 : decode b_Md_leftBy 30 = .ok (.istore_n 3, 1) := by decide +kernel
theorem d_Md_leftBy_31 : decode b_Md_leftBy 31 = .ok (.aload_n 0, 1) := by decide +kernel
theorem d_Md_leftBy_32 : decode b_Md_leftBy 32 = .ok (.iload_n 1, 1) := by decide +kernel
theorem d_Md_leftBy_33 : decode b_Md_leftBy 33 = .ok (.iload 5, 2) := by decide +kernel
theorem d_Md_leftBy_35 : decode b_Md_leftBy 35 = .ok (.iload_n 2, 1) := by decide +kernel
theorem d_Md_leftBy_36 : decode b_Md_leftBy 36 = .ok (.invokevirtual 174, 3) := by decide +kernel
theorem d_Md_leftBy_39 : decode b_Md_leftBy 39 = .ok (.iload 4, 2) := by decide +kernel
theorem d_Md_leftBy_41 : decode b_Md_leftBy 41 = .ok (.aload_n 0, 1) := by decide +kernel
theorem d_Md_leftBy_42 : decode b_Md_leftBy 42 = .ok (.invokevirtual 178, 3) := by decide +kernel
theorem d_Md_leftBy_45 : decode b_Md_leftBy 45 = .ok (.ifCond .eq 10, 3) := by decide +kernel
theorem d_Md_leftBy_48 : decode b_Md_leftBy 48 = .ok (.iconst 1, 1) := by decide +kernel
theorem d_Md_leftBy_49 : decode b_Md_leftBy 49 = .ok (.iload 5, 2) := by decide +kernel
theorem d_Md_leftBy_51 : decode b_Md_leftBy 51 = .ok (.ishl, 1) := by decide +kernel
theorem d_Md_leftBy_52 : decode b_Md_leftBy 52 = .ok (.goto 4, 3) := by decide +kernel
theorem d_Md_leftBy_55 : decode b_Md_leftBy 55 = .ok (.iconst 0, 1) := by decide +kernel
theorem d_Md_leftBy_56 : decode b_Md_leftBy 56 = .ok (.iadd, 1) := by decide +kernel
theorem d_Md_leftBy_57 : decode b_Md_leftBy 57 = .ok (.istore 4, 2) := by decide +kernel
theorem d_Md_leftBy_59 : decode b_Md_leftBy 59 = .ok (.iinc 5 1, 3) := by decide +kernel
theorem d_Md_leftBy_62 : decode b_Md_leftBy 62 = .ok (.goto (-49), 3) := by decide +kernel
theorem d_Md_leftBy_65 : decode b_Md_leftBy 65 = .ok (.iconst 1, 1) := by decide +kernel
theorem d_Md_leftBy_66 : decode b_Md_leftBy 66 = .ok (.istore 5, 2) := by decide +kernel
theorem d_Md_leftBy_68 : decode b_Md_leftBy 68 = .ok (.iload 5, 2) := by decide +kernel
theorem d_Md_leftBy_70 : decode b_Md_leftBy 70 = .ok (.ifCond .eq 141, 3) := by decide +kernel
theorem d_Md_leftBy_73 : decode b_Md_leftBy 73 = .ok (.iload_n 3, 1) := by decide +kernel
theorem d_Md_leftBy_74 : decode b_Md_leftBy 74 = .ok (.ifCond .eq 137, 3) := by decide +kernel
theorem d_Md_leftBy_77 : decode b_Md_leftBy 77 = .ok (.iconst 0, 1) := by decide +kernel
theorem d_Md_leftBy_78 : decode b_Md_leftBy 78 = .ok (.istore 5, 2) := by decide +kernel
theorem d_Md_leftBy_80 : decode b_Md_leftBy 80 = .ok (.iconst 0, 1) := by decide +kernel
theorem d_Md_leftBy_81 : decode b_Md_leftBy 81 = .ok (.istore 6, 2) := by decide +kernel
theorem d_Md_leftBy_83 : decode b_Md_leftBy 83 = .ok (.iload 6, 2) := by decide +kernel
theorem d_Md_leftBy_85 : decode b_Md_leftBy 85 = .ok (.bipush 125, 2) := by decide +kernel
theorem d_Md_leftBy_87 : decode b_Md_leftBy 87 = .ok (.if_icmp .ge 121, 3) := by decide +kernel
theorem d_Md_leftBy_90 : decode b_Md_leftBy 90 = .ok (.iload 5, 2) := by decide +kernel
theorem d_Md_leftBy_92 : decode b_Md_leftBy 92 = .ok (.ifCond .ne 116, 3) := by decide +kernel
theorem d_Md_leftBy_95 : decode b_Md_leftBy 95 = .ok (.iload 6, 2) := by decide +kernel
theorem d_Md_leftBy_97 : decode b_Md_leftBy 97 = .ok (.bipush 25, 2) := by decide +kernel
theorem d_Md_leftBy_99 : decode b_Md_leftBy 99 = .ok (.idiv, 1) := by decide +kernel
theorem d_Md_leftBy_100 : decode b_Md_leftBy 100 = .ok (.iconst 2, 1) := by decide +kernel
theorem d_Md_leftBy_101 : decode b_Md_leftBy 101 = .ok (.isub, 1) := by decide +kernel
theorem d_Md_leftBy_102 : decode b_Md_leftBy 102 = .ok (.istore 7, 2) := by decide +kernel
theorem d_Md_leftBy_104 : decode b_Md_leftBy 104 = .ok (.iload 6, 2) := by decide +kernel
theorem d_Md_leftBy_106 : decode b_Md_leftBy 106 = .ok (.iconst 5, 1) := by decide +kernel
theorem d_Md_leftBy_107 : decode b_Md_leftBy 107 = .ok (.idiv, 1) := by decide +kernel
theorem d_Md_leftBy_108 : decode b_Md_leftBy 108 = .ok (.iconst 5, 1) := by decide +kernel
theorem d_Md_leftBy_109 : decode b_Md_leftBy 109 = .ok (.irem, 1) := by decide +kernel
theorem d_Md_leftBy_110 : decode b_Md_leftBy 110 = .ok (.iconst 2, 1) := by decide +kernel
theorem d_Md_leftBy_111 : decode b_Md_leftBy 111 = .ok (.isub, 1) := by decide +kernel
theorem d_Md_leftBy_112 : decode b_Md_leftBy 112 = .ok (.istore 8, 2) := by decide +kernel
theorem d_Md_leftBy_114 : decode b_Md_leftBy 114 = .ok (.iload 6, 2) := by decide +kernel
theorem d_Md_leftBy_116 : decode b_Md_leftBy 116 = .ok (.iconst 5, 1) := by decide +kernel
theorem d_Md_leftBy_117 : decode b_Md_leftBy 117 = .ok (.irem, 1) := by decide +kernel
theorem d_Md_leftBy_118 : decode b_Md_leftBy 118 = .ok (.iconst 2, 1) := by decide +kernel
theorem d_Md_leftBy_119 : decode b_Md_leftBy 119 = .ok (.isub, 1) := by decide +kernel
theorem d_Md_leftBy_120 : decode b_Md_leftBy 120 = .ok (.istore 9, 2) := by decide +kernel
theorem d_Md_leftBy_122 : decode b_Md_leftBy 122 = .ok (.aload_n 0, 1) := by decide +kernel
theorem d_Md_leftBy_123 : decode b_Md_leftBy 123 = .ok (.iload_n 1, 1) := by decide +kernel
theorem d_Md_leftBy_124 : decode b_Md_leftBy 124 = .ok (.iload 7, 2) := by decide +kernel
theorem d_Md_leftBy_126 : decode b_Md_leftBy 126 = .ok (.iload 8, 2) := by decide +kernel
theorem d_Md_leftBy_128 : decode b_Md_leftBy 128 = .ok (.iload 9, 2) := by decide +kernel
theorem d_Md_leftBy_130 : decode b_Md_leftBy 130 = .ok (.iconst 2, 1) := by decide +kernel
theorem d_Md_leftBy_131 : decode b_Md_leftBy 131 = .ok (.invokevirtual 71, 3) := by decide +kernel
theorem d_Md_leftBy_134 : decode b_Md_leftBy 134 = .ok (.ifCond .eq 21, 3) := by decide +kernel
theorem d_Md_leftBy_137 : decode b_Md_leftBy 137 = .ok (.aload_n 0, 1) := by decide +kernel
theorem d_Md_leftBy_138 : decode b_Md_leftBy 138 = .ok (.iload_n 1, 1) := by decide +kernel
theorem d_Md_leftBy_139 : decode b_Md_leftBy 139 = .ok (.iload_n 2, 1) := by decide +kernel
theorem d_Md_leftBy_140 : decode b_Md_leftBy 140 = .ok (.iload_n 3, 1) := by decide +kernel
theorem d_Md_leftBy_141 : decode b_Md_leftBy 141 = .ok (.iload 4, 2) := by decide +kernel
theorem d_Md_leftBy_143 : decode b_Md_leftBy 143 = .ok (.iload 7, 2) := by decide +kernel
theorem d_Md_leftBy_145 : decode b_Md_leftBy 145 = .ok (.iload 8, 2) := by decide +kernel
theorem d_Md_leftBy_147 : decode b_Md_leftBy 147 = .ok (.iload 9, 2) := by decide +kernel
theorem d_Md_leftBy_149 : decode b_Md_leftBy 149 = .ok (.invokevirtual 200, 3) := by decide +kernel
theorem d_Md_leftBy_152 : decode b_Md_leftBy 152 = .ok (.goto 4, 3) := by decide +kernel
theorem d_Md_leftBy_155 : decode b_Md_leftBy 155 = .ok (.iconst 0, 1) := by decide +kernel
theorem d_Md_leftBy_156 : decode b_Md_leftBy 156 = .ok (.istore 10, 2) := by decide +kernel
theorem d_Md_leftBy_158 : decode b_Md_leftBy 158 = .ok (.iload 10, 2) := by decide +kernel
theorem d_Md_leftBy_160 : decode b_Md_leftBy 160 = .ok (.ifCond .le 42, 3) := by decide +kernel
theorem d_Md_leftBy_163 : decode b_Md_leftBy 163 = .ok (.aload_n 0, 1) := by decide +kernel
theorem d_Md_leftBy_164 : decode b_Md_leftBy 164 = .ok (.getfield 56, 3) := by decide +kernel
theorem d_Md_leftBy_167 : decode b_Md_leftBy 167 = .ok (.iconst 4, 1) := by decide +kernel
theorem d_Md_leftBy_168 : decode b_Md_leftBy 168 = .ok (.aload_n 0, 1) := by decide +kernel
theorem d_Md_leftBy_169 : decode b_Md_leftBy 169 = .ok (.getfield 197, 3) := by decide +kernel
theorem d_Md_leftBy_172 : decode b_Md_leftBy 172 = .ok (.imul, 1) := by decide +kernel
theorem d_Md_leftBy_173 : decode b_Md_leftBy 173 = .ok (.iload 7, 2) := by decide +kernel
theorem d_Md_leftBy_175 : decode b_Md_leftBy 175 = .ok (.iload 8, 2) := by decide +kernel
theorem d_Md_leftBy_177 : decode b_Md_leftBy 177 = .ok (.iload 9, 2) := by decide +kernel
theorem d_Md_leftBy_179 : decode b_Md_leftBy 179 = .ok (.iload 10, 2) := by decide +kernel
theorem d_Md_leftBy_181 : decode b_Md_leftBy 181 = .ok (.invokestatic 88, 3) := by decide +kernel
theorem d_Md_leftBy_184 : decode b_Md_leftBy 184 = .ok (.aload_n 0, 1) := by decide +kernel
theorem d_Md_leftBy_185 : decode b_Md_leftBy 185 = .ok (.dup, 1) := by decide +kernel
theorem d_Md_leftBy_186 : decode b_Md_leftBy 186 = .ok (.getfield 197, 3) := by decide +kernel
theorem d_Md_leftBy_189 : decode b_Md_leftBy 189 = .ok (.iconst 1, 1) := by decide +kernel
theorem d_Md_leftBy_190 : decode b_Md_leftBy 190 = .ok (.iadd, 1) := by decide +kernel
theorem d_Md_leftBy_191 : decode b_Md_leftBy 191 = .ok (.putfield 197, 3) := by decide +kernel
theorem d_Md_leftBy_194 : decode b_Md_leftBy 194 = .ok (.iload_n 3, 1) := by decide +kernel
theorem d_Md_leftBy_195 : decode b_Md_leftBy 195 = .ok (.iload 10, 2) := by decide +kernel
theorem d_Md_leftBy_197 : decode b_Md_leftBy 197 = .ok (.isub, 1) := by decide +kernel
theorem d_Md_leftBy_198 : decode b_Md_leftBy 198 = .ok (.istore_n 3, 1) := by decide +kernel
theorem d_Md_leftBy_199 : decode b_Md_leftBy 199 = .ok (.iconst 1, 1) := by decide +kernel
theorem d_Md_leftBy_200 : decode b_Md_leftBy 200 = .ok (.istore 5, 2) := by decide +kernel
theorem d_Md_leftBy_202 : decode b_Md_leftBy 202 = .ok (.iinc 6 1, 3) := by decide +kernel
theorem d_Md_leftBy_205 : decode b_Md_leftBy 205 = .ok (.goto (-122), 3) := by decide +kernel
theorem d_Md_leftBy_208 : decode b_Md_leftBy 208 = .ok (.goto (-140), 3) := by decide +kernel
theorem d_Md_leftBy_211 : decode b_Md_leftBy 211 = .ok (.iload_n 3, 1) := by decide +kernel
theorem d_Md_leftBy_212 : decode b_Md_leftBy 212 = .ok (.ireturn, 1) := by decide +kernel
theorem d_Md_taken_0 : decode b_Md_taken 0 = .ok (.iconst 0, 1) := by decide +kernel
theorem d_Md_taken_1 : decode b_Md_taken 1 = .ok (.istore 8, 2) := by decide +kernel
theorem d_Md_taken_3 : decode b_Md_taken 3 = .ok (.iconst 0, 1) := by decide +kernel
theorem d_Md_taken_4 : decode b_Md_taken 4 = .ok (.istore 9, 2) := by decide +kernel
theorem d_Md_taken_6 : decode b_Md_taken 6 = .ok (.iload 9, 2) := by decide +kernel
theorem d_Md_taken_8 : decode b_Md_taken 8 = .ok (.aload_n 0, 1) := by decide +kernel
theorem d_Md_taken_9 : decode b_Md_taken 9 = .ok (.getfield 13, 3) := by decide +kernel
theorem d_Md_taken_12 : decode b_Md_taken 12 = .ok (.iload_n 1, 1) := by decide +kernel
theorem d_Md_taken_13 : decode b_Md_taken 13 = .ok (.iaload, 1) := by decide +kernel
theorem d_Md_taken_14 : decode b_Md_taken 14 = .ok (.if_icmp .ge 115, 3) := by decide +kernel
theorem d_Md_taken_17 : decode b_Md_taken 17 = .ok (.iload_n 3, 1) := by decide +kernel
theorem d_Md_taken_18 : decode b_Md_taken 18 = .ok (.iload 9, 2) := by decide +kernel
theorem d_Md_taken_20 : decode b_Md_taken 20 = .ok (.ishr, 1) := by decide +kernel
theorem d_Md_taken_21 : decode b_Md_taken 21 = .ok (.iconst 1, 1) := by decide +kernel
theorem d_Md_taken_22 : decode b_Md_taken 22 = .ok (.iand, 1) := by decide +kernel
theorem d_Md_taken_23 : decode b_Md_taken 23 = .ok (.iconst 1, 1) := by decide +kernel
theorem d_Md_taken_24 : decode b_Md_taken 24 = .ok (.if_icmp .ne 99, 3) := by decide +kernel
theorem d_Md_taken_27 : decode b_Md_taken 27 = .ok (.iload 4, 2) := by decide +kernel
theorem d_Md_taken_29 : decode b_Md_taken 29 = .ok (.iload 9, 2) := by decide +kernel
theorem d_Md_taken_31 : decode b_Md_taken 31 = .ok (.ishr, 1) := by decide +kernel
theorem d_Md_taken_32 : decode b_Md_taken 32 = .ok (.iconst 1, 1) := by decide +kernel
theorem d_Md_taken_33 : decode b_Md_taken 33 = .ok (.iand, 1) := by decide +kernel
theorem d_Md_taken_34 : decode b_Md_taken 34 = .ok (.iconst 1, 1) := by decide +kernel
theorem d_Md_taken_35 : decode b_Md_taken 35 = .ok (.if_icmp .ne 7, 3) := by decide +kernel
theorem d_Md_taken_38 : decode b_Md_taken 38 = .ok (.iconst 1, 1) := by decide +kernel
theorem d_Md_taken_39 : decode b_Md_taken 39 = .ok (.goto 4, 3) := by decide +kernel
theorem d_Md_taken_42 : decode b_Md_taken 42 = .ok (.iconst 0, 1) := by decide +kernel
theorem d_Md_taken_43 : decode b_Md_taken 43 = .ok (.istore 10, 2) := by decide +kernel
theorem d_Md_taken_45 : decode b_Md_taken 45 = .ok (.aload_n 0, 1) := by decide +kernel
theorem d_Md_taken_46 : decode b_Md_taken 46 = .ok (.iload_n 1, 1) := by decide +kernel
theorem d_Md_taken_47 : decode b_Md_taken 47 = .ok (.iload 9, 2) := by decide +kernel
theorem d_Md_taken_49 : decode b_Md_taken 49 = .ok (.iload_n 2, 1) := by decide +kernel
theorem d_Md_taken_50 : decode b_Md_taken 50 = .ok (.invokevirtual 174, 3) := by decide +kernel
theorem d_Md_taken_53 : decode b_Md_taken 53 = .ok (.iload 10, 2) := by decide +kernel
theorem d_Md_taken_55 : decode b_Md_taken 55 = .ok (.ifCond .eq 8, 3) := by decide +kernel
theorem d_Md_taken_58 : decode b_Md_taken 58 = .ok (.bipush 6, 2) := by decide +kernel
theorem d_Md_taken_60 : decode b_Md_taken 60 = .ok (.goto 16, 3) := by decide +kernel
theorem d_Md_taken_63 : decode b_Md_taken 63 = .ok (.aload_n 0, 1) := by decide +kernel
theorem d_Md_taken_64 : decode b_Md_taken 64 = .ok (.iload_n 1, 1) := by decide +kernel
theorem d_Md_taken_65 : decode b_Md_taken 65 = .ok (.iload 9, 2) := by decide +kernel
theorem d_Md_taken_67 : decode b_Md_taken 67 = .ok (.iload 5, 2) := by decide +kernel
theorem d_Md_taken_69 : decode b_Md_taken 69 = .ok (.iload 6, 2) := by decide +kernel
theorem d_Md_taken_71 : decode b_Md_taken 71 = .ok (.iload 7, 2) := by decide +kernel
theorem d_Md_taken_73 : decode b_Md_taken 73 = .ok (.invokevirtual 193, 3) := by decide +kernel
theorem d_Md_taken_76 : decode b_Md_taken 76 = .ok (.istore 11, 2) := by decide +kernel
theorem d_Md_taken_78 : decode b_Md_taken 78 = .ok (.iload 11, 2) := by decide +kernel
theorem d_Md_taken_80 : decode b_Md_taken 80 = .ok (.ifCond .ne 5, 3) := by decide +kernel
theorem d_Md_taken_83 : decode b_Md_taken 83 = .ok (.iconst 0, 1) := by decide +kernel
theorem d_Md_taken_84 : decode b_Md_taken 84 = .ok (.ireturn, 1) := by decide +kernel
theorem d_Md_taken_85 : decode b_Md_taken 85 = .ok (.iload 8, 2) := by decide +kernel
theorem d_Md_taken_87 : decode b_Md_taken 87 = .ok (.iload 11, 2) := by decide +kernel
theorem d_Md_taken_89 : decode b_Md_taken 89 = .ok (.bipush 6, 2) := by decide +kernel
theorem d_Md_taken_91 : decode b_Md_taken 91 = .ok (.if_icmp .ne 28, 3) := by decide +kernel
theorem d_Md_taken_94 : decode b_Md_taken 94 = .ok (.iload 10, 2) := by decide +kernel
theorem d_Md_taken_96 : decode b_Md_taken 96 = .ok (.ifCond .ne 16, 3) := by decide +kernel
theorem d_Md_taken_99 : decode b_Md_taken 99 = .ok (.aload_n 0, 1) := by decide +kernel
theorem d_Md_taken_100 : decode b_Md_taken 100 = .ok (.iload 5, 2) := by decide +kernel
theorem d_Md_taken_102 : decode b_Md_taken 102 = .ok (.iload 6, 2) := by decide +kernel
theorem d_Md_taken_104 : decode b_Md_taken 104 = .ok (.iload 7, 2) := by decide +kernel
theorem d_Md_taken_106 : decode b_Md_taken 106 = .ok (.invokevirtual 190, 3) := by decide +kernel
theorem d_Md_taken_109 : decode b_Md_taken 109 = .ok (.ifCond .eq 10, 3) := by decide +kernel
theorem d_Md_taken_112 : decode b_Md_taken 112 = .ok (.iconst 1, 1) := by decide +kernel
theorem d_Md_taken_113 : decode b_Md_taken 113 = .ok (.iload 9, 2) := by decide +kernel
theorem d_Md_taken_115 : decode b_Md_taken 115 = .ok (.ishl, 1) := by decide +kernel
theorem d_Md_taken_116 : decode b_Md_taken 116 = .ok (.goto 4, 3) := by decide +kernel
theorem d_Md_taken_119 : decode b_Md_taken 119 = .ok (.iconst 0, 1) := by decide +kernel
theorem d_Md_taken_120 : decode b_Md_taken 120 = .ok (.iadd, 1) := by decide +kernel
theorem d_Md_taken_121 : decode b_Md_taken 121 = .ok (.istore 8, 2) := by decide +kernel
theorem d_Md_taken_123 : decode b_Md_taken 123 = .ok (.iinc 9 1, 3) := by decide +kernel
theorem d_Md_taken_126 : decode b_Md_taken 126 = .ok (.goto (-120), 3) := by decide +kernel
theorem d_Md_taken_129 : decode b_Md_taken 129 = .ok (.iload 8, 2) := by decide +kernel
theorem d_Md_taken_131 : decode b_Md_taken 131 = .ok (.ireturn, 1) := by decide +kernel
theorem d_Md_proof_0 : decode b_Md_proof 0 = .ok (.iload_n 1, 1) := by decide +kernel
theorem d_Md_proof_1 : decode b_Md_proof 1 = .ok (.iconst 0, 1) := by decide +kernel
theorem d_Md_proof_2 : decode b_Md_proof 2 = .ok (.aload_n 0, 1) := by decide +kernel
theorem d_Md_proof_3 : decode b_Md_proof 3 = .ok (.getfield 75, 3) := by decide +kernel
theorem d_Md_proof_6 : decode b_Md_proof 6 = .ok (.iconst 1, 1) := by decide +kernel
theorem d_Md_proof_7 : decode b_Md_proof 7 = .ok (.isub, 1) := by decide +kernel
theorem d_Md_proof_8 : decode b_Md_proof 8 = .ok (.invokestatic 63, 3) := by decide +kernel
theorem d_Md_proof_11 : decode b_Md_proof 11 = .ok (.ifCond .eq 25, 3) := by decide +kernel
theorem d_Md_proof_14 : decode b_Md_proof 14 = .ok (.iload_n 2, 1) := by decide +kernel
theorem d_Md_proof_15 : decode b_Md_proof 15 = .ok (.iconst 0, 1) := by decide +kernel
theorem d_Md_proof_16 : decode b_Md_proof 16 = .ok (.iconst 3, 1) := by decide +kernel
theorem d_Md_proof_17 : decode b_Md_proof 17 = .ok (.invokestatic 63, 3) := by decide +kernel
theorem d_Md_proof_20 : decode b_Md_proof 20 = .ok (.ifCond .eq 16, 3) := by decide +kernel
theorem d_Md_proof_23 : decode b_Md_proof 23 = .ok (.aload_n 0, 1) := by decide +kernel
theorem d_Md_proof_24 : decode b_Md_proof 24 = .ok (.getfield 38, 3) := by decide +kernel
theorem d_Md_proof_27 : decode b_Md_proof 27 = .ok (.iconst 4, 1) := by decide +kernel
theorem d_Md_proof_28 : decode b_Md_proof 28 = .ok (.iload_n 1, 1) := by decide +kernel
theorem d_Md_proof_29 : decode b_Md_proof 29 = .ok (.imul, 1) := by decide +kernel
theorem d_Md_proof_30 : decode b_Md_proof 30 = .ok (.iload_n 2, 1) := by decide +kernel
theorem d_Md_proof_31 : decode b_Md_proof 31 = .ok (.iadd, 1) := by decide +kernel
theorem d_Md_proof_32 : decode b_Md_proof 32 = .ok (.iaload, 1) := by decide +kernel
theorem d_Md_proof_33 : decode b_Md_proof 33 = .ok (.goto 6, 3) := by decide +kernel
theorem d_Md_proof_36 : decode b_Md_proof 36 = .ok (.sipush (-1000), 3) := by decide +kernel
theorem d_Md_proof_39 : decode b_Md_proof 39 = .ok (.ireturn, 1) := by decide +kernel
theorem d_Md_left_0 : decode b_Md_left 0 = .ok (.aload_n 0, 1) := by decide +kernel
theorem d_Md_left_1 : decode b_Md_left 1 = .ok (.getfield 78, 3) := by decide +kernel
theorem d_Md_left_4 : decode b_Md_left 4 = .ok (.ireturn, 1) := by decide +kernel
theorem d_Md_need_0 : decode b_Md_need 0 = .ok (.aload_n 0, 1) := by decide +kernel
theorem d_Md_need_1 : decode b_Md_need 1 = .ok (.iload_n 1, 1) := by decide +kernel
theorem d_Md_need_2 : decode b_Md_need 2 = .ok (.invokevirtual 67, 3) := by decide +kernel
theorem d_Md_need_5 : decode b_Md_need 5 = .ok (.ifCond .ne 6, 3) := by decide +kernel
theorem d_Md_need_8 : decode b_Md_need 8 = .ok (.bipush (-2), 2) := by decide +kernel
theorem d_Md_need_10 : decode b_Md_need 10 = .ok (.ireturn, 1) := by decide +kernel
theorem d_Md_need_11 : decode b_Md_need 11 = .ok (.aload_n 0, 1) := by decide +kernel
theorem d_Md_need_12 : decode b_Md_need 12 = .ok (.iconst 0, 1) := by decide +kernel
theorem d_Md_need_13 : decode b_Md_need 13 = .ok (.putfield 81, 3) := by decide +kernel
theorem d_Md_need_16 : decode b_Md_need 16 = .ok (.aload_n 0, 1) := by decide +kernel
theorem d_Md_need_17 : decode b_Md_need 17 = .ok (.iload_n 1, 1) := by decide +kernel
theorem d_Md_need_18 : decode b_Md_need 18 = .ok (.iconst 0, 1) := by decide +kernel
theorem d_Md_need_19 : decode b_Md_need 19 = .ok (.invokevirtual 204, 3) := by decide +kernel
theorem d_Md_need_22 : decode b_Md_need 22 = .ok (.ifCond .ne 5, 3) := by decide +kernel
theorem d_Md_need_25 : decode b_Md_need 25 = .ok (.iconst 2, 1) := by decide +kernel
theorem d_Md_need_26 : decode b_Md_need 26 = .ok (.ireturn, 1) := by decide +kernel
theorem d_Md_need_27 : decode b_Md_need 27 = .ok (.iconst 0, 1) := by decide +kernel
theorem d_Md_need_28 : decode b_Md_need 28 = .ok (.istore_n 2, 1) := by decide +kernel
theorem d_Md_need_29 : decode b_Md_need 29 = .ok (.iload_n 2, 1) := by decide +kernel
theorem d_Md_need_30 : decode b_Md_need 30 = .ok (.sipush 135, 3) := by decide +kernel
theorem d_Md_need_33 : decode b_Md_need 33 = .ok (.if_icmp .ge 131, 3) := by decide +kernel
theorem d_Md_need_36 : decode b_Md_need 36 = .ok (.aload_n 0, 1) := by decide +kernel
theorem d_Md_need_37 : decode b_Md_need 37 = .ok (.getfield 81, 3) := by decide +kernel
theorem d_Md_need_40 : decode b_Md_need 40 = .ok (.ifCond .ne 124, 3) := by decide +kernel
theorem d_Md_need_43 : decode b_Md_need 43 = .ok (.iload_n 2, 1) := by decide +kernel
theorem d_Md_need_44 : decode b_Md_need 44 = .ok (.bipush 45, 2) := by decide +kernel
theorem d_Md_need_46 : decode b_Md_need 46 = .ok (.idiv, 1) := by decide +kernel
theorem d_Md_need_47 : decode b_Md_need 47 = .ok (.iconst 1, 1) := by decide +kernel
theorem d_Md_need_48 : decode b_Md_need 48 = .ok (.isub, 1) := by decide +kernel
theorem d_Md_need_49 : decode b_Md_need 49 = .ok (.istore_n 3, 1) := by decide +kernel
theorem d_Md_need_50 : decode b_Md_need 50 = .ok (.iload_n 2, 1) := by decide +kernel
theorem d_Md_need_51 : decode b_Md_need 51 = .ok (.bipush 15, 2) := by decide +kernel
theorem d_Md_need_53 : decode b_Md_need 53 = .ok (.idiv, 1) := by decide +kernel
theorem d_Md_need_54 : decode b_Md_need 54 = .ok (.iconst 3, 1) := by decide +kernel
theorem d_Md_need_55 : decode b_Md_need 55 = .ok (.irem, 1) := by decide +kernel
theorem d_Md_need_56 : decode b_Md_need 56 = .ok (.iconst 1, 1) := by decide +kernel
theorem d_Md_need_57 : decode b_Md_need 57 = .ok (.isub, 1) := by decide +kernel
theorem d_Md_need_58 : decode b_Md_need 58 = .ok (.istore 4, 2) := by decide +kernel
theorem d_Md_need_60 : decode b_Md_need 60 = .ok (.iload_n 2, 1) := by decide +kernel
theorem d_Md_need_61 : decode b_Md_need 61 = .ok (.iconst 5, 1) := by decide +kernel
theorem d_Md_need_62 : decode b_Md_need 62 = .ok (.idiv, 1) := by decide +kernel
theorem d_Md_need_63 : decode b_Md_need 63 = .ok (.iconst 3, 1) := by decide +kernel
theorem d_Md_need_64 : decode b_Md_need 64 = .ok (.irem, 1) := by decide +kernel
theorem d_Md_need_65 : decode b_Md_need 65 = .ok (.iconst 1, 1) := by decide +kernel
theorem d_Md_need_66 : decode b_Md_need 66 = .ok (.isub, 1) := by decide +kernel
theorem d_Md_need_67 : decode b_Md_need 67 = .ok (.istore 5, 2) := by decide +kernel
theorem d_Md_need_69 : decode b_Md_need 69 = .ok (.iload_n 2, 1) := by decide +kernel
theorem d_Md_need_70 : decode b_Md_need 70 = .ok (.iconst 5, 1) := by decide +kernel
theorem d_Md_need_71 : decode b_Md_need 71 = .ok (.irem, 1) := by decide +kernel
theorem d_Md_need_72 : decode b_Md_need 72 = .ok (.iconst 2, 1) := by decide +kernel
theorem d_Md_need_73 : decode b_Md_need 73 = .ok (.isub, 1) := by decide +kernel
theorem d_Md_need_74 : decode b_Md_need 74 = .ok (.istore 6, 2) := by decide +kernel
theorem d_Md_need_76 : decode b_Md_need 76 = .ok (.aload_n 0, 1) := by decide +kernel
theorem d_Md_need_77 : decode b_Md_need 77 = .ok (.iload_n 1, 1) := by decide +kernel
theorem d_Md_need_78 : decode b_Md_need 78 = .ok (.iload_n 3, 1) := by decide +kernel
theorem d_Md_need_79 : decode b_Md_need 79 = .ok (.iload 4, 2) := by decide +kernel
theorem d_Md_need_81 : decode b_Md_need 81 = .ok (.iload 5, 2) := by decide +kernel
theorem d_Md_need_83 : decode b_Md_need 83 = .ok (.iconst 1, 1) := by decide +kernel
theorem d_Md_need_84 : decode b_Md_need 84 = .ok (.invokevirtual 71, 3) := by decide +kernel
theorem d_Md_need_87 : decode b_Md_need 87 = .ok (.ifCond .eq 71, 3) := by decide +kernel
theorem d_Md_need_90 : decode b_Md_need 90 = .ok (.aload_n 0, 1) := by decide +kernel
theorem d_Md_need_91 : decode b_Md_need 91 = .ok (.iload_n 3, 1) := by decide +kernel
theorem d_Md_need_92 : decode b_Md_need 92 = .ok (.i2l, 1) := by decide +kernel
theorem d_Md_need_93 : decode b_Md_need 93 = .ok (.putfield 106, 3) := by decide +kernel
theorem d_Md_need_96 : decode b_Md_need 96 = .ok (.aload_n 0, 1) := by decide +kernel
theorem d_Md_need_97 : decode b_Md_need 97 = .ok (.iload 4, 2) := by decide +kernel
theorem d_Md_need_99 : decode b_Md_need 99 = .ok (.i2l, 1) := by decide +kernel
theorem d_Md_need_100 : decode b_Md_need 100 = .ok (.putfield 110, 3) := by decide +kernel
theorem d_Md_need_103 : decode b_Md_need 103 = .ok (.aload_n 0, 1) := by decide +kernel
theorem d_Md_need_104 : decode b_Md_need 104 = .ok (.iload 5, 2) := by decide +kernel
theorem d_Md_need_106 : decode b_Md_need 106 = .ok (.i2l, 1) := by decide +kernel
theorem d_Md_need_107 : decode b_Md_need 107 = .ok (.putfield 113, 3) := by decide +kernel
theorem d_Md_need_110 : decode b_Md_need 110 = .ok (.aload_n 0, 1) := by decide +kernel
theorem d_Md_need_111 : decode b_Md_need 111 = .ok (.iload 6, 2) := by decide +kernel
theorem d_Md_need_113 : decode b_Md_need 113 = .ok (.i2l, 1) := by decide +kernel
theorem d_Md_need_114 : decode b_Md_need 114 = .ok (.putfield 116, 3) := by decide +kernel
theorem d_Md_need_117 : decode b_Md_need 117 = .ok (.aload_n 0, 1) := by decide +kernel
theorem d_Md_need_118 : decode b_Md_need 118 = .ok (.aload_n 0, 1) := by decide +kernel
theorem d_Md_need_119 : decode b_Md_need 119 = .ok (.iload_n 1, 1) := by decide +kernel
theorem d_Md_need_120 : decode b_Md_need 120 = .ok (.invokevirtual 208, 3) := by decide +kernel
theorem d_Md_need_123 : decode b_Md_need 123 = .ok (.ifCond .eq 16, 3) := by decide +kernel
theorem d_Md_need_126 : decode b_Md_need 126 = .ok (.aload_n 0, 1) := by decide +kernel
theorem d_Md_need_127 : decode b_Md_need 127 = .ok (.iload_n 1, 1) := by decide +kernel
theorem d_Md_need_128 : decode b_Md_need 128 = .ok (.iconst 1, 1) := by decide +kernel
theorem d_Md_need_129 : decode b_Md_need 129 = .ok (.invokevirtual 204, 3) := by decide +kernel
theorem d_Md_need_132 : decode b_Md_need 132 = .ok (.ifCond .ne 7, 3) := by decide +kernel
theorem d_Md_need_135 : decode b_Md_need 135 = .ok (.iconst 1, 1) := by decide +kernel
theorem d_Md_need_136 : decode b_Md_need 136 = .ok (.goto 4, 3) := by decide +kernel
theorem d_Md_need_139 : decode b_Md_need 139 = .ok (.iconst 0, 1) := by decide +kernel
theorem d_Md_need_140 : decode b_Md_need 140 = .ok (.putfield 81, 3) := by decide +kernel
theorem d_Md_need_143 : decode b_Md_need 143 = .ok (.aload_n 0, 1) := by decide +kernel
theorem d_Md_need_144 : decode b_Md_need 144 = .ok (.getfield 41, 3) := by decide +kernel
theorem d_Md_need_147 : decode b_Md_need 147 = .ok (.iconst 0, 1) := by decide +kernel
theorem d_Md_need_148 : decode b_Md_need 148 = .ok (.iload_n 3, 1) := by decide +kernel
theorem d_Md_need_149 : decode b_Md_need 149 = .ok (.iload 4, 2) := by decide +kernel
theorem d_Md_need_151 : decode b_Md_need 151 = .ok (.iload 5, 2) := by decide +kernel
theorem d_Md_need_153 : decode b_Md_need 153 = .ok (.iload 6, 2) := by decide +kernel
theorem d_Md_need_155 : decode b_Md_need 155 = .ok (.invokestatic 88, 3) := by decide +kernel
theorem d_Md_need_158 : decode b_Md_need 158 = .ok (.iinc 2 1, 3) := by decide +kernel
theorem d_Md_need_161 : decode b_Md_need 161 = .ok (.goto (-132), 3) := by decide +kernel
theorem d_Md_need_164 : decode b_Md_need 164 = .ok (.aload_n 0, 1) := by decide +kernel
theorem d_Md_need_165 : decode b_Md_need 165 = .ok (.getfield 81, 3) := by decide +kernel
end
section
theorem d_Md_need_168 : decode b_Md_need 168 = .ok (.ifCond .eq 7, 3) := by decide +kernel
theorem d_Md_need_171 : decode b_Md_need 171 = .ok (.iconst 1, 1) := by decide +kernel
theorem d_Md_need_172 : decode b_Md_need 172 = .ok (.goto 4, 3) := by decide +kernel
theorem d_Md_need_175 : decode b_Md_need 175 = .ok (.iconst 0, 1) := by decide +kernel
theorem d_Md_need_176 : decode b_Md_need 176 = .ok (.ireturn, 1) := by decide +kernel
theorem d_Md_lasts_0 : decode b_Md_lasts 0 = .ok (.iconst 0, 1) := by decide +kernel
theorem d_Md_lasts_1 : decode b_Md_lasts 1 = .ok (.istore_n 2, 1) := by decide +kernel
theorem d_Md_lasts_2 : decode b_Md_lasts 2 = .ok (.iload_n 2, 1) := by decide +kernel
theorem d_Md_lasts_3 : decode b_Md_lasts 3 = .ok (.aload_n 0, 1) := by decide +kernel
theorem d_Md_lasts_4 : decode b_Md_lasts 4 = .ok (.getfield 13, 3) := by decide +kernel
theorem d_Md_lasts_7 : decode b_Md_lasts 7 = .ok (.iload_n 1, 1) := by decide +kernel
theorem d_Md_lasts_8 : decode b_Md_lasts 8 = .ok (.iaload, 1) := by decide +kernel
theorem d_Md_lasts_9 : decode b_Md_lasts 9 = .ok (.if_icmp .ge 57, 3) := by decide +kernel
theorem d_Md_lasts_12 : decode b_Md_lasts 12 = .ok (.aload_n 0, 1) := by decide +kernel
theorem d_Md_lasts_13 : decode b_Md_lasts 13 = .ok (.iload_n 1, 1) := by decide +kernel
theorem d_Md_lasts_14 : decode b_Md_lasts 14 = .ok (.iload_n 2, 1) := by decide +kernel
theorem d_Md_lasts_15 : decode b_Md_lasts 15 = .ok (.iconst 1, 1) := by decide +kernel
theorem d_Md_lasts_16 : decode b_Md_lasts 16 = .ok (.invokevirtual 174, 3) := by decide +kernel
theorem d_Md_lasts_19 : decode b_Md_lasts 19 = .ok (.aload_n 0, 1) := by decide +kernel
theorem d_Md_lasts_20 : decode b_Md_lasts 20 = .ok (.invokevirtual 178, 3) := by decide +kernel
theorem d_Md_lasts_23 : decode b_Md_lasts 23 = .ok (.ifCond .ne 37, 3) := by decide +kernel
theorem d_Md_lasts_26 : decode b_Md_lasts 26 = .ok (.aload_n 0, 1) := by decide +kernel
theorem d_Md_lasts_27 : decode b_Md_lasts 27 = .ok (.iload_n 1, 1) := by decide +kernel
theorem d_Md_lasts_28 : decode b_Md_lasts 28 = .ok (.iload_n 2, 1) := by decide +kernel
theorem d_Md_lasts_29 : decode b_Md_lasts 29 = .ok (.aload_n 0, 1) := by decide +kernel
theorem d_Md_lasts_30 : decode b_Md_lasts 30 = .ok (.getfield 106, 3) := by decide +kernel
theorem d_Md_lasts_33 : decode b_Md_lasts 33 = .ok (.aload_n 0, 1) := by decide +kernel
theorem d_Md_lasts_34 : decode b_Md_lasts 34 = .ok (.getfield 110, 3) := by decide +kernel
theorem d_Md_lasts_37 : decode b_Md_lasts 37 = .ok (.aload_n 0, 1) := by decide +kernel
theorem d_Md_lasts_38 : decode b_Md_lasts 38 = .ok (.getfield 113, 3) := by decide +kernel
theorem d_Md_lasts_41 : decode b_Md_lasts 41 = .ok (.invokevirtual 186, 3) := by decide +kernel
theorem d_Md_lasts_44 : decode b_Md_lasts 44 = .ok (.lstore_n 3, 1) := by decide +kernel
theorem d_Md_lasts_45 : decode b_Md_lasts 45 = .ok (.aload_n 0, 1) := by decide +kernel
theorem d_Md_lasts_46 : decode b_Md_lasts 46 = .ok (.aload_n 0, 1) := by decide +kernel
theorem d_Md_lasts_47 : decode b_Md_lasts 47 = .ok (.getfield 116, 3) := by decide +kernel
theorem d_Md_lasts_50 : decode b_Md_lasts 50 = .ok (.lload_n 3, 1) := by decide +kernel
theorem d_Md_lasts_51 : decode b_Md_lasts 51 = .ok (.lsub, 1) := by decide +kernel
theorem d_Md_lasts_52 : decode b_Md_lasts 52 = .ok (.invokevirtual 182, 3) := by decide +kernel
theorem d_Md_lasts_55 : decode b_Md_lasts 55 = .ok (.ifCond .ne 5, 3) := by decide +kernel
theorem d_Md_lasts_58 : decode b_Md_lasts 58 = .ok (.iconst 0, 1) := by decide +kernel
theorem d_Md_lasts_59 : decode b_Md_lasts 59 = .ok (.ireturn, 1) := by decide +kernel
theorem d_Md_lasts_60 : decode b_Md_lasts 60 = .ok (.iinc 2 1, 3) := by decide +kernel
theorem d_Md_lasts_63 : decode b_Md_lasts 63 = .ok (.goto (-61), 3) := by decide +kernel
theorem d_Md_lasts_66 : decode b_Md_lasts 66 = .ok (.iconst 1, 1) := by decide +kernel
theorem d_Md_lasts_67 : decode b_Md_lasts 67 = .ok (.ireturn, 1) := by decide +kernel
theorem d_Md_needed_0 : decode b_Md_needed 0 = .ok (.aload_n 0, 1) := by decide +kernel
theorem d_Md_needed_1 : decode b_Md_needed 1 = .ok (.getfield 81, 3) := by decide +kernel
theorem d_Md_needed_4 : decode b_Md_needed 4 = .ok (.ifCond .eq 21, 3) := by decide +kernel
theorem d_Md_needed_7 : decode b_Md_needed 7 = .ok (.iload_n 1, 1) := by decide +kernel
theorem d_Md_needed_8 : decode b_Md_needed 8 = .ok (.iconst 0, 1) := by decide +kernel
theorem d_Md_needed_9 : decode b_Md_needed 9 = .ok (.iconst 3, 1) := by decide +kernel
theorem d_Md_needed_10 : decode b_Md_needed 10 = .ok (.invokestatic 63, 3) := by decide +kernel
theorem d_Md_needed_13 : decode b_Md_needed 13 = .ok (.ifCond .eq 12, 3) := by decide +kernel
theorem d_Md_needed_16 : decode b_Md_needed 16 = .ok (.aload_n 0, 1) := by decide +kernel
theorem d_Md_needed_17 : decode b_Md_needed 17 = .ok (.getfield 41, 3) := by decide +kernel
theorem d_Md_needed_20 : decode b_Md_needed 20 = .ok (.iload_n 1, 1) := by decide +kernel
theorem d_Md_needed_21 : decode b_Md_needed 21 = .ok (.iaload, 1) := by decide +kernel
theorem d_Md_needed_22 : decode b_Md_needed 22 = .ok (.goto 6, 3) := by decide +kernel
theorem d_Md_needed_25 : decode b_Md_needed 25 = .ok (.sipush (-1000), 3) := by decide +kernel
theorem d_Md_needed_28 : decode b_Md_needed 28 = .ok (.ireturn, 1) := by decide +kernel
theorem d_Md_put_0 : decode b_Md_put 0 = .ok (.aload_n 0, 1) := by decide +kernel
theorem d_Md_put_1 : decode b_Md_put 1 = .ok (.iload_n 1, 1) := by decide +kernel
theorem d_Md_put_2 : decode b_Md_put 2 = .ok (.iload_n 2, 1) := by decide +kernel
theorem d_Md_put_3 : decode b_Md_put 3 = .ok (.invokevirtual 96, 3) := by decide +kernel
theorem d_Md_put_6 : decode b_Md_put 6 = .ok (.ifCond .ne 6, 3) := by decide +kernel
theorem d_Md_put_9 : decode b_Md_put 9 = .ok (.bipush (-2), 2) := by decide +kernel
theorem d_Md_put_11 : decode b_Md_put 11 = .ok (.ireturn, 1) := by decide +kernel
theorem d_Md_put_12 : decode b_Md_put 12 = .ok (.iload_n 3, 1) := by decide +kernel
theorem d_Md_put_13 : decode b_Md_put 13 = .ok (.ldc 211, 2) := by decide +kernel
theorem d_Md_put_15 : decode b_Md_put 15 = .ok (.ldc 212, 2) := by decide +kernel
theorem d_Md_put_17 : decode b_Md_put 17 = .ok (.invokestatic 63, 3) := by decide +kernel
theorem d_Md_put_20 : decode b_Md_put 20 = .ok (.ifCond .ne 6, 3) := by decide +kernel
theorem d_Md_put_23 : decode b_Md_put 23 = .ok (.bipush (-3), 2) := by decide +kernel
theorem d_Md_put_25 : decode b_Md_put 25 = .ok (.ireturn, 1) := by decide +kernel
theorem d_Md_put_26 : decode b_Md_put 26 = .ok (.aload_n 0, 1) := by decide +kernel
theorem d_Md_put_27 : decode b_Md_put 27 = .ok (.getfield 34, 3) := by decide +kernel
theorem d_Md_put_30 : decode b_Md_put 30 = .ok (.iconst 3, 1) := by decide +kernel
theorem d_Md_put_31 : decode b_Md_put 31 = .ok (.iload_n 1, 1) := by decide +kernel
theorem d_Md_put_32 : decode b_Md_put 32 = .ok (.imul, 1) := by decide +kernel
theorem d_Md_put_33 : decode b_Md_put 33 = .ok (.iload_n 2, 1) := by decide +kernel
theorem d_Md_put_34 : decode b_Md_put 34 = .ok (.iadd, 1) := by decide +kernel
theorem d_Md_put_35 : decode b_Md_put 35 = .ok (.iload_n 3, 1) := by decide +kernel
theorem d_Md_put_36 : decode b_Md_put 36 = .ok (.i2l, 1) := by decide +kernel
theorem d_Md_put_37 : decode b_Md_put 37 = .ok (.lastore, 1) := by decide +kernel
theorem d_Md_put_38 : decode b_Md_put 38 = .ok (.iconst 1, 1) := by decide +kernel
theorem d_Md_put_39 : decode b_Md_put 39 = .ok (.ireturn, 1) := by decide +kernel
theorem d_Md_at_0 : decode b_Md_at 0 = .ok (.aload_n 0, 1) := by decide +kernel
theorem d_Md_at_1 : decode b_Md_at 1 = .ok (.iload_n 1, 1) := by decide +kernel
theorem d_Md_at_2 : decode b_Md_at 2 = .ok (.iload_n 2, 1) := by decide +kernel
theorem d_Md_at_3 : decode b_Md_at 3 = .ok (.invokevirtual 96, 3) := by decide +kernel
theorem d_Md_at_6 : decode b_Md_at 6 = .ok (.ifCond .eq 16, 3) := by decide +kernel
theorem d_Md_at_9 : decode b_Md_at 9 = .ok (.aload_n 0, 1) := by decide +kernel
theorem d_Md_at_10 : decode b_Md_at 10 = .ok (.getfield 34, 3) := by decide +kernel
theorem d_Md_at_13 : decode b_Md_at 13 = .ok (.iconst 3, 1) := by decide +kernel
theorem d_Md_at_14 : decode b_Md_at 14 = .ok (.iload_n 1, 1) := by decide +kernel
theorem d_Md_at_15 : decode b_Md_at 15 = .ok (.imul, 1) := by decide +kernel
theorem d_Md_at_16 : decode b_Md_at 16 = .ok (.iload_n 2, 1) := by decide +kernel
theorem d_Md_at_17 : decode b_Md_at 17 = .ok (.iadd, 1) := by decide +kernel
theorem d_Md_at_18 : decode b_Md_at 18 = .ok (.laload, 1) := by decide +kernel
theorem d_Md_at_19 : decode b_Md_at 19 = .ok (.goto 6, 3) := by decide +kernel
theorem d_Md_at_22 : decode b_Md_at 22 = .ok (.ldc2_w 213, 3) := by decide +kernel
theorem d_Md_at_25 : decode b_Md_at 25 = .ok (.lreturn, 1) := by decide +kernel
theorem d_Md_open_0 : decode b_Md_open 0 = .ok (.aload_n 0, 1) := by decide +kernel
theorem d_Md_open_1 : decode b_Md_open 1 = .ok (.iload_n 1, 1) := by decide +kernel
theorem d_Md_open_2 : decode b_Md_open 2 = .ok (.invokevirtual 67, 3) := by decide +kernel
theorem d_Md_open_5 : decode b_Md_open 5 = .ok (.ifCond .ne 6, 3) := by decide +kernel
theorem d_Md_open_8 : decode b_Md_open 8 = .ok (.bipush (-2), 2) := by decide +kernel
theorem d_Md_open_10 : decode b_Md_open 10 = .ok (.ireturn, 1) := by decide +kernel
theorem d_Md_open_11 : decode b_Md_open 11 = .ok (.aload_n 0, 1) := by decide +kernel
theorem d_Md_open_12 : decode b_Md_open 12 = .ok (.iload_n 1, 1) := by decide +kernel
theorem d_Md_open_13 : decode b_Md_open 13 = .ok (.invokevirtual 246, 3) := by decide +kernel
theorem d_Md_open_16 : decode b_Md_open 16 = .ok (.aload_n 0, 1) := by decide +kernel
theorem d_Md_open_17 : decode b_Md_open 17 = .ok (.iload_n 1, 1) := by decide +kernel
theorem d_Md_open_18 : decode b_Md_open 18 = .ok (.invokevirtual 239, 3) := by decide +kernel
theorem d_Md_open_21 : decode b_Md_open 21 = .ok (.ireturn, 1) := by decide +kernel
theorem d_Md_stand_0 : decode b_Md_stand 0 = .ok (.aload_n 0, 1) := by decide +kernel
theorem d_Md_stand_1 : decode b_Md_stand 1 = .ok (.aload_n 0, 1) := by decide +kernel
theorem d_Md_stand_2 : decode b_Md_stand 2 = .ok (.getfield 34, 3) := by decide +kernel
theorem d_Md_stand_5 : decode b_Md_stand 5 = .ok (.iconst 3, 1) := by decide +kernel
theorem d_Md_stand_6 : decode b_Md_stand 6 = .ok (.iload_n 1, 1) := by decide +kernel
theorem d_Md_stand_7 : decode b_Md_stand 7 = .ok (.imul, 1) := by decide +kernel
theorem d_Md_stand_8 : decode b_Md_stand 8 = .ok (.laload, 1) := by decide +kernel
theorem d_Md_stand_9 : decode b_Md_stand 9 = .ok (.putfield 215, 3) := by decide +kernel
theorem d_Md_stand_12 : decode b_Md_stand 12 = .ok (.aload_n 0, 1) := by decide +kernel
theorem d_Md_stand_13 : decode b_Md_stand 13 = .ok (.aload_n 0, 1) := by decide +kernel
theorem d_Md_stand_14 : decode b_Md_stand 14 = .ok (.getfield 34, 3) := by decide +kernel
theorem d_Md_stand_17 : decode b_Md_stand 17 = .ok (.iconst 3, 1) := by decide +kernel
theorem d_Md_stand_18 : decode b_Md_stand 18 = .ok (.iload_n 1, 1) := by decide +kernel
theorem d_Md_stand_19 : decode b_Md_stand 19 = .ok (.imul, 1) := by decide +kernel
theorem d_Md_stand_20 : decode b_Md_stand 20 = .ok (.iconst 1, 1) := by decide +kernel
theorem d_Md_stand_21 : decode b_Md_stand 21 = .ok (.iadd, 1) := by decide +kernel
theorem d_Md_stand_22 : decode b_Md_stand 22 = .ok (.laload, 1) := by decide +kernel
theorem d_Md_stand_23 : decode b_Md_stand 23 = .ok (.putfield 218, 3) := by decide +kernel
theorem d_Md_stand_26 : decode b_Md_stand 26 = .ok (.aload_n 0, 1) := by decide +kernel
theorem d_Md_stand_27 : decode b_Md_stand 27 = .ok (.aload_n 0, 1) := by decide +kernel
theorem d_Md_stand_28 : decode b_Md_stand 28 = .ok (.getfield 34, 3) := by decide +kernel
theorem d_Md_stand_31 : decode b_Md_stand 31 = .ok (.iconst 3, 1) := by decide +kernel
theorem d_Md_stand_32 : decode b_Md_stand 32 = .ok (.iload_n 1, 1) := by decide +kernel
theorem d_Md_stand_33 : decode b_Md_stand 33 = .ok (.imul, 1) := by decide +kernel
theorem d_Md_stand_34 : decode b_Md_stand 34 = .ok (.iconst 2, 1) := by decide +kernel
theorem d_Md_stand_35 : decode b_Md_stand 35 = .ok (.iadd, 1) := by decide +kernel
theorem d_Md_stand_36 : decode b_Md_stand 36 = .ok (.laload, 1) := by decide +kernel
theorem d_Md_stand_37 : decode b_Md_stand 37 = .ok (.putfield 221, 3) := by decide +kernel
theorem d_Md_stand_40 : decode b_Md_stand 40 = .ok (.return_, 1) := by decide +kernel
theorem d_Md_openAt_0 : decode b_Md_openAt 0 = .ok (.iconst 0, 1) := by decide +kernel
theorem d_Md_openAt_1 : decode b_Md_openAt 1 = .ok (.istore_n 2, 1) := by decide +kernel
theorem d_Md_openAt_2 : decode b_Md_openAt 2 = .ok (.iload_n 2, 1) := by decide +kernel
theorem d_Md_openAt_3 : decode b_Md_openAt 3 = .ok (.aload_n 0, 1) := by decide +kernel
theorem d_Md_openAt_4 : decode b_Md_openAt 4 = .ok (.getfield 16, 3) := by decide +kernel
theorem d_Md_openAt_7 : decode b_Md_openAt 7 = .ok (.iload_n 1, 1) := by decide +kernel
theorem d_Md_openAt_8 : decode b_Md_openAt 8 = .ok (.iaload, 1) := by decide +kernel
theorem d_Md_openAt_9 : decode b_Md_openAt 9 = .ok (.if_icmp .ge 30, 3) := by decide +kernel
theorem d_Md_openAt_12 : decode b_Md_openAt 12 = .ok (.aload_n 0, 1) := by decide +kernel
theorem d_Md_openAt_13 : decode b_Md_openAt 13 = .ok (.aload_n 0, 1) := by decide +kernel
theorem d_Md_openAt_14 : decode b_Md_openAt 14 = .ok (.getfield 19, 3) := by decide +kernel
theorem d_Md_openAt_17 : decode b_Md_openAt 17 = .ok (.bipush 16, 2) := by decide +kernel
theorem d_Md_openAt_19 : decode b_Md_openAt 19 = .ok (.iload_n 1, 1) := by decide +kernel
theorem d_Md_openAt_20 : decode b_Md_openAt 20 = .ok (.imul, 1) := by decide +kernel
theorem d_Md_openAt_21 : decode b_Md_openAt 21 = .ok (.iconst 4, 1) := by decide +kernel
theorem d_Md_openAt_22 : decode b_Md_openAt 22 = .ok (.iload_n 2, 1) := by decide +kernel
theorem d_Md_openAt_23 : decode b_Md_openAt 23 = .ok (.imul, 1) := by decide +kernel
theorem d_Md_openAt_24 : decode b_Md_openAt 24 = .ok (.iadd, 1) := by decide +kernel
theorem d_Md_openAt_25 : decode b_Md_openAt 25 = .ok (.invokevirtual 224, 3) := by decide +kernel
theorem d_Md_openAt_28 : decode b_Md_openAt 28 = .ok (.ifCond .ne 5, 3) := by decide +kernel
theorem d_Md_openAt_31 : decode b_Md_openAt 31 = .ok (.iconst 0, 1) := by decide +kernel
theorem d_Md_openAt_32 : decode b_Md_openAt 32 = .ok (.ireturn, 1) := by decide +kernel
theorem d_Md_openAt_33 : decode b_Md_openAt 33 = .ok (.iinc 2 1, 3) := by decide +kernel
theorem d_Md_openAt_36 : decode b_Md_openAt 36 = .ok (.goto (-34), 3) := by decide +kernel
theorem d_Md_openAt_39 : decode b_Md_openAt 39 = .ok (.iconst 0, 1) := by decide +kernel
theorem d_Md_openAt_40 : decode b_Md_openAt 40 = .ok (.istore_n 2, 1) := by decide +kernel
theorem d_Md_openAt_41 : decode b_Md_openAt 41 = .ok (.iconst 0, 1) := by decide +kernel
theorem d_Md_openAt_42 : decode b_Md_openAt 42 = .ok (.istore_n 3, 1) := by decide +kernel
theorem d_Md_openAt_43 : decode b_Md_openAt 43 = .ok (.iload_n 3, 1) := by decide +kernel
theorem d_Md_openAt_44 : decode b_Md_openAt 44 = .ok (.aload_n 0, 1) := by decide +kernel
theorem d_Md_openAt_45 : decode b_Md_openAt 45 = .ok (.getfield 13, 3) := by decide +kernel
theorem d_Md_openAt_48 : decode b_Md_openAt 48 = .ok (.iload_n 1, 1) := by decide +kernel
theorem d_Md_openAt_49 : decode b_Md_openAt 49 = .ok (.iaload, 1) := by decide +kernel
theorem d_Md_openAt_50 : decode b_Md_openAt 50 = .ok (.if_icmp .ge 88, 3) := by decide +kernel
theorem d_Md_openAt_53 : decode b_Md_openAt 53 = .ok (.iconst 3, 1) := by decide +kernel
theorem d_Md_openAt_54 : decode b_Md_openAt 54 = .ok (.iload_n 1, 1) := by decide +kernel
theorem d_Md_openAt_55 : decode b_Md_openAt 55 = .ok (.imul, 1) := by decide +kernel
theorem d_Md_openAt_56 : decode b_Md_openAt 56 = .ok (.iload_n 3, 1) := by decide +kernel
theorem d_Md_openAt_57 : decode b_Md_openAt 57 = .ok (.iadd, 1) := by decide +kernel
theorem d_Md_openAt_58 : decode b_Md_openAt 58 = .ok (.istore 4, 2) := by decide +kernel
theorem d_Md_openAt_60 : decode b_Md_openAt 60 = .ok (.iconst 1, 1) := by decide +kernel
theorem d_Md_openAt_61 : decode b_Md_openAt 61 = .ok (.istore 5, 2) := by decide +kernel
theorem d_Md_openAt_63 : decode b_Md_openAt 63 = .ok (.iconst 0, 1) := by decide +kernel
theorem d_Md_openAt_64 : decode b_Md_openAt 64 = .ok (.istore 6, 2) := by decide +kernel
theorem d_Md_openAt_66 : decode b_Md_openAt 66 = .ok (.iload 6, 2) := by decide +kernel
theorem d_Md_openAt_68 : decode b_Md_openAt 68 = .ok (.aload_n 0, 1) := by decide +kernel
theorem d_Md_openAt_69 : decode b_Md_openAt 69 = .ok (.getfield 22, 3) := by decide +kernel
theorem d_Md_openAt_72 : decode b_Md_openAt 72 = .ok (.iload 4, 2) := by decide +kernel
theorem d_Md_openAt_74 : decode b_Md_openAt 74 = .ok (.iaload, 1) := by decide +kernel
theorem d_Md_openAt_75 : decode b_Md_openAt 75 = .ok (.if_icmp .ge 42, 3) := by decide +kernel
theorem d_Md_openAt_78 : decode b_Md_openAt 78 = .ok (.iload 5, 2) := by decide +kernel
theorem d_Md_openAt_80 : decode b_Md_openAt 80 = .ok (.ifCond .eq 28, 3) := by decide +kernel
theorem d_Md_openAt_83 : decode b_Md_openAt 83 = .ok (.aload_n 0, 1) := by decide +kernel
theorem d_Md_openAt_84 : decode b_Md_openAt 84 = .ok (.aload_n 0, 1) := by decide +kernel
theorem d_Md_openAt_85 : decode b_Md_openAt 85 = .ok (.getfield 25, 3) := by decide +kernel
theorem d_Md_openAt_88 : decode b_Md_openAt 88 = .ok (.bipush 8, 2) := by decide +kernel
theorem d_Md_openAt_90 : decode b_Md_openAt 90 = .ok (.iload 4, 2) := by decide +kernel
theorem d_Md_openAt_92 : decode b_Md_openAt 92 = .ok (.imul, 1) := by decide +kernel
theorem d_Md_openAt_93 : decode b_Md_openAt 93 = .ok (.iconst 4, 1) := by decide +kernel
theorem d_Md_openAt_94 : decode b_Md_openAt 94 = .ok (.iload 6, 2) := by decide +kernel
theorem d_Md_openAt_96 : decode b_Md_openAt 96 = .ok (.imul, 1) := by decide +kernel
theorem d_Md_openAt_97 : decode b_Md_openAt 97 = .ok (.iadd, 1) := by decide +kernel
theorem d_Md_openAt_98 : decode b_Md_openAt 98 = .ok (.invokevirtual 224, 3) := by decide +kernel
theorem d_Md_openAt_101 : decode b_Md_openAt 101 = .ok (.ifCond .eq 7, 3) := by decide +kernel
theorem d_Md_openAt_104 : decode b_Md_openAt 104 = .ok (.iconst 1, 1) := by decide +kernel
theorem d_Md_openAt_105 : decode b_Md_openAt 105 = .ok (.goto 4, 3) := by decide +kernel
theorem d_Md_openAt_108 : decode b_Md_openAt 108 = .ok (.iconst 0, 1) := by decide +kernel
theorem d_Md_openAt_109 : decode b_Md_openAt 109 = .ok (.istore 5, 2) := by decide +kernel
theorem d_Md_openAt_111 : decode b_Md_openAt 111 = .ok (.iinc 6 1, 3) := by decide +kernel
theorem d_Md_openAt_114 : decode b_Md_openAt 114 = .ok (.goto (-48), 3) := by decide +kernel
theorem d_Md_openAt_117 : decode b_Md_openAt 117 = .ok (.iload_n 2, 1) := by decide +kernel
theorem d_Md_openAt_118 : decode b_Md_openAt 118 = .ok (.iload 5, 2) := by decide +kernel
theorem d_Md_openAt_120 : decode b_Md_openAt 120 = .ok (.ifCond .eq 9, 3) := by decide +kernel
theorem d_Md_openAt_123 : decode b_Md_openAt 123 = .ok (.iconst 1, 1) := by decide +kernel
theorem d_Md_openAt_124 : decode b_Md_openAt 124 = .ok (.iload_n 3, 1) := by decide +kernel
theorem d_Md_openAt_125 : decode b_Md_openAt 125 = .ok (.ishl, 1) := by decide +kernel
theorem d_Md_openAt_126 : decode b_Md_openAt 126 = .ok (.goto 4, 3) := by decide +kernel
theorem d_Md_openAt_129 : decode b_Md_openAt 129 = .ok (.iconst 0, 1) := by decide +kernel
theorem d_Md_openAt_130 : decode b_Md_openAt 130 = .ok (.iadd, 1) := by decide +kernel
theorem d_Md_openAt_131 : decode b_Md_openAt 131 = .ok (.istore_n 2, 1) := by decide +kernel
theorem d_Md_openAt_132 : decode b_Md_openAt 132 = .ok (.iinc 3 1, 3) := by decide +kernel
theorem d_Md_openAt_135 : decode b_Md_openAt 135 = .ok (.goto (-92), 3) := by decide +kernel
theorem d_Md_openAt_138 : decode b_Md_openAt 138 = .ok (.iload_n 2, 1) := by decide +kernel
theorem d_Md_openAt_139 : decode b_Md_openAt 139 = .ok (.ireturn, 1) := by decide +kernel
theorem d_Md_isMet_0 : decode b_Md_isMet 0 = .ok (.aload_n 1, 1) := by decide +kernel
theorem d_Md_isMet_1 : decode b_Md_isMet 1 = .ok (.iload_n 2, 1) := by decide +kernel
theorem d_Md_isMet_2 : decode b_Md_isMet 2 = .ok (.iaload, 1) := by decide +kernel
theorem d_Md_isMet_3 : decode b_Md_isMet 3 = .ok (.i2l, 1) := by decide +kernel
theorem d_Md_isMet_4 : decode b_Md_isMet 4 = .ok (.aload_n 0, 1) := by decide +kernel
theorem d_Md_isMet_5 : decode b_Md_isMet 5 = .ok (.getfield 215, 3) := by decide +kernel
theorem d_Md_isMet_8 : decode b_Md_isMet 8 = .ok (.lmul, 1) := by decide +kernel
theorem d_Md_isMet_9 : decode b_Md_isMet 9 = .ok (.aload_n 1, 1) := by decide +kernel
theorem d_Md_isMet_10 : decode b_Md_isMet 10 = .ok (.iload_n 2, 1) := by decide +kernel
theorem d_Md_isMet_11 : decode b_Md_isMet 11 = .ok (.iconst 1, 1) := by decide +kernel
theorem d_Md_isMet_12 : decode b_Md_isMet 12 = .ok (.iadd, 1) := by decide +kernel
theorem d_Md_isMet_13 : decode b_Md_isMet 13 = .ok (.iaload, 1) := by decide +kernel
theorem d_Md_isMet_14 : decode b_Md_isMet 14 = .ok (.i2l, 1) := by decide +kernel
theorem d_Md_isMet_15 : decode b_Md_isMet 15 = .ok (.aload_n 0, 1) := by decide +kernel
theorem d_Md_isMet_16 : decode b_Md_isMet 16 = .ok (.getfield 218, 3) := by decide +kernel
theorem d_Md_isMet_19 : decode b_Md_isMet 19 = .ok (.lmul, 1) := by decide +kernel
theorem d_Md_isMet_20 : decode b_Md_isMet 20 = .ok (.ladd, 1) := by decide +kernel
theorem d_Md_isMet_21 : decode b_Md_isMet 21 = .ok (.aload_n 1, 1) := by decide +kernel
theorem d_Md_isMet_22 : decode b_Md_isMet 22 = .ok (.iload_n 2, 1) := by decide +kernel
theorem d_Md_isMet_23 : decode b_Md_isMet 23 = .ok (.iconst 2, 1) := by decide +kernel
theorem d_Md_isMet_24 : decode b_Md_isMet 24 = .ok (.iadd, 1) := by decide +kernel
theorem d_Md_isMet_25 : decode b_Md_isMet 25 = .ok (.iaload, 1) := by decide +kernel
theorem d_Md_isMet_26 : decode b_Md_isMet 26 = .ok (.i2l, 1) := by decide +kernel
theorem d_Md_isMet_27 : decode b_Md_isMet 27 = .ok (.aload_n 0, 1) := by decide +kernel
theorem d_Md_isMet_28 : decode b_Md_isMet 28 = .ok (.getfield 221, 3) := by decide +kernel
theorem d_Md_isMet_31 : decode b_Md_isMet 31 = .ok (.lmul, 1) := by decide +kernel
theorem d_Md_isMet_32 : decode b_Md_isMet 32 = .ok (.ladd, 1) := by decide +kernel
theorem d_Md_isMet_33 : decode b_Md_isMet 33 = .ok (.aload_n 1, 1) := by decide +kernel
theorem d_Md_isMet_34 : decode b_Md_isMet 34 = .ok (.iload_n 2, 1) := by decide +kernel
theorem d_Md_isMet_35 : decode b_Md_isMet 35 = .ok (.iconst 3, 1) := by decide +kernel
theorem d_Md_isMet_36 : decode b_Md_isMet 36 = .ok (.iadd, 1) := by decide +kernel
theorem d_Md_isMet_37 : decode b_Md_isMet 37 = .ok (.iaload, 1) := by decide +kernel
theorem d_Md_isMet_38 : decode b_Md_isMet 38 = .ok (.i2l, 1) := by decide +kernel
theorem d_Md_isMet_39 : decode b_Md_isMet 39 = .ok (.lcmp, 1) := by decide +kernel
theorem d_Md_isMet_40 : decode b_Md_isMet 40 = .ok (.ifCond .lt 7, 3) := by decide +kernel
theorem d_Md_isMet_43 : decode b_Md_isMet 43 = .ok (.iconst 1, 1) := by decide +kernel
theorem d_Md_isMet_44 : decode b_Md_isMet 44 = .ok (.goto 4, 3) := by decide +kernel
theorem d_Md_isMet_47 : decode b_Md_isMet 47 = .ok (.iconst 0, 1) := by decide +kernel
theorem d_Md_isMet_48 : decode b_Md_isMet 48 = .ok (.ireturn, 1) := by decide +kernel
theorem d_Md_step_0 : decode b_Md_step 0 = .ok (.aload_n 0, 1) := by decide +kernel
theorem d_Md_step_1 : decode b_Md_step 1 = .ok (.iload_n 1, 1) := by decide +kernel
theorem d_Md_step_2 : decode b_Md_step 2 = .ok (.invokevirtual 67, 3) := by decide +kernel
theorem d_Md_step_5 : decode b_Md_step 5 = .ok (.ifCond .ne 6, 3) := by decide +kernel
theorem d_Md_step_8 : decode b_Md_step 8 = .ok (.bipush (-2), 2) := by decide +kernel
theorem d_Md_step_10 : decode b_Md_step 10 = .ok (.ireturn, 1) := by decide +kernel
theorem d_Md_step_11 : decode b_Md_step 11 = .ok (.aload_n 0, 1) := by decide +kernel
theorem d_Md_step_12 : decode b_Md_step 12 = .ok (.iload_n 1, 1) := by decide +kernel
theorem d_Md_step_13 : decode b_Md_step 13 = .ok (.invokevirtual 246, 3) := by decide +kernel
theorem d_Md_step_16 : decode b_Md_step 16 = .ok (.aload_n 0, 1) := by decide +kernel
theorem d_Md_step_17 : decode b_Md_step 17 = .ok (.iload_n 1, 1) := by decide +kernel
theorem d_Md_step_18 : decode b_Md_step 18 = .ok (.invokevirtual 249, 3) := by decide +kernel
theorem d_Md_step_21 : decode b_Md_step 21 = .ok (.istore_n 2, 1) := by decide +kernel
theorem d_Md_step_22 : decode b_Md_step 22 = .ok (.aload_n 0, 1) := by decide +kernel
theorem d_Md_step_23 : decode b_Md_step 23 = .ok (.iload_n 1, 1) := by decide +kernel
theorem d_Md_step_24 : decode b_Md_step 24 = .ok (.invokevirtual 252, 3) := by decide +kernel
theorem d_Md_step_27 : decode b_Md_step 27 = .ok (.iload_n 2, 1) := by decide +kernel
theorem d_Md_step_28 : decode b_Md_step 28 = .ok (.ireturn, 1) := by decide +kernel
theorem d_Md_walks_0 : decode b_Md_walks 0 = .ok (.aload_n 0, 1) := by decide +kernel
theorem d_Md_walks_1 : decode b_Md_walks 1 = .ok (.iload_n 1, 1) := by decide +kernel
theorem d_Md_walks_2 : decode b_Md_walks 2 = .ok (.invokevirtual 239, 3) := by decide +kernel
theorem d_Md_walks_5 : decode b_Md_walks 5 = .ok (.istore_n 2, 1) := by decide +kernel
theorem d_Md_walks_6 : decode b_Md_walks 6 = .ok (.iload_n 2, 1) := by decide +kernel
theorem d_Md_walks_7 : decode b_Md_walks 7 = .ok (.ifCond .ne 5, 3) := by decide +kernel
theorem d_Md_walks_10 : decode b_Md_walks 10 = .ok (.iconst (-1), 1) := by decide +kernel
theorem d_Md_walks_11 : decode b_Md_walks 11 = .ok (.ireturn, 1) := by decide +kernel
theorem d_Md_walks_12 : decode b_Md_walks 12 = .ok (.iload_n 2, 1) := by decide +kernel
theorem d_Md_walks_13 : decode b_Md_walks 13 = .ok (.iconst 2, 1) := by decide +kernel
theorem d_Md_walks_14 : decode b_Md_walks 14 = .ok (.irem, 1) := by decide +kernel
theorem d_Md_walks_15 : decode b_Md_walks 15 = .ok (.iconst 1, 1) := by decide +kernel
theorem d_Md_walks_16 : decode b_Md_walks 16 = .ok (.if_icmp .ne 7, 3) := by decide +kernel
theorem d_Md_walks_19 : decode b_Md_walks 19 = .ok (.iconst 0, 1) := by decide +kernel
theorem d_Md_walks_20 : decode b_Md_walks 20 = .ok (.goto 15, 3) := by decide +kernel
theorem d_Md_walks_23 : decode b_Md_walks 23 = .ok (.iload_n 2, 1) := by decide +kernel
theorem d_Md_walks_24 : decode b_Md_walks 24 = .ok (.iconst 4, 1) := by decide +kernel
theorem d_Md_walks_25 : decode b_Md_walks 25 = .ok (.irem, 1) := by decide +kernel
theorem d_Md_walks_26 : decode b_Md_walks 26 = .ok (.iconst 2, 1) := by decide +kernel
theorem d_Md_walks_27 : decode b_Md_walks 27 = .ok (.if_icmp .ne 7, 3) := by decide +kernel
theorem d_Md_walks_30 : decode b_Md_walks 30 = .ok (.iconst 1, 1) := by decide +kernel
theorem d_Md_walks_31 : decode b_Md_walks 31 = .ok (.goto 4, 3) := by decide +kernel
theorem d_Md_walks_34 : decode b_Md_walks 34 = .ok (.iconst 2, 1) := by decide +kernel
theorem d_Md_walks_35 : decode b_Md_walks 35 = .ok (.istore_n 3, 1) := by decide +kernel
theorem d_Md_walks_36 : decode b_Md_walks 36 = .ok (.aload_n 0, 1) := by decide +kernel
theorem d_Md_walks_37 : decode b_Md_walks 37 = .ok (.iload_n 1, 1) := by decide +kernel
theorem d_Md_walks_38 : decode b_Md_walks 38 = .ok (.iload_n 3, 1) := by decide +kernel
theorem d_Md_walks_39 : decode b_Md_walks 39 = .ok (.invokevirtual 243, 3) := by decide +kernel
theorem d_Md_walks_42 : decode b_Md_walks 42 = .ok (.ifCond .eq 7, 3) := by decide +kernel
theorem d_Md_walks_45 : decode b_Md_walks 45 = .ok (.iload_n 3, 1) := by decide +kernel
theorem d_Md_walks_46 : decode b_Md_walks 46 = .ok (.goto 5, 3) := by decide +kernel
theorem d_Md_walks_49 : decode b_Md_walks 49 = .ok (.bipush (-5), 2) := by decide +kernel
theorem d_Md_walks_51 : decode b_Md_walks 51 = .ok (.ireturn, 1) := by decide +kernel
theorem d_Md_goes_0 : decode b_Md_goes 0 = .ok (.iconst 3, 1) := by decide +kernel
theorem d_Md_goes_1 : decode b_Md_goes 1 = .ok (.iload_n 1, 1) := by decide +kernel
theorem d_Md_goes_2 : decode b_Md_goes 2 = .ok (.imul, 1) := by decide +kernel
theorem d_Md_goes_3 : decode b_Md_goes 3 = .ok (.iload_n 2, 1) := by decide +kernel
theorem d_Md_goes_4 : decode b_Md_goes 4 = .ok (.iadd, 1) := by decide +kernel
theorem d_Md_goes_5 : decode b_Md_goes 5 = .ok (.istore_n 3, 1) := by decide +kernel
theorem d_Md_goes_6 : decode b_Md_goes 6 = .ok (.aload_n 0, 1) := by decide +kernel
theorem d_Md_goes_7 : decode b_Md_goes 7 = .ok (.iload_n 3, 1) := by decide +kernel
theorem d_Md_goes_8 : decode b_Md_goes 8 = .ok (.iconst 0, 1) := by decide +kernel
theorem d_Md_goes_9 : decode b_Md_goes 9 = .ok (.invokevirtual 232, 3) := by decide +kernel
theorem d_Md_goes_12 : decode b_Md_goes 12 = .ok (.lstore 4, 2) := by decide +kernel
theorem d_Md_goes_14 : decode b_Md_goes 14 = .ok (.aload_n 0, 1) := by decide +kernel
theorem d_Md_goes_15 : decode b_Md_goes 15 = .ok (.getfield 7, 3) := by decide +kernel
theorem d_Md_goes_18 : decode b_Md_goes 18 = .ok (.iload_n 1, 1) := by decide +kernel
theorem d_Md_goes_19 : decode b_Md_goes 19 = .ok (.iaload, 1) := by decide +kernel
theorem d_Md_goes_20 : decode b_Md_goes 20 = .ok (.iconst 1, 1) := by decide +kernel
theorem d_Md_goes_21 : decode b_Md_goes 21 = .ok (.if_icmp .le 12, 3) := by decide +kernel
theorem d_Md_goes_24 : decode b_Md_goes 24 = .ok (.aload_n 0, 1) := by decide +kernel
theorem d_Md_goes_25 : decode b_Md_goes 25 = .ok (.iload_n 3, 1) := by decide +kernel
theorem d_Md_goes_26 : decode b_Md_goes 26 = .ok (.iconst 1, 1) := by decide +kernel
theorem d_Md_goes_27 : decode b_Md_goes 27 = .ok (.invokevirtual 232, 3) := by decide +kernel
theorem d_Md_goes_30 : decode b_Md_goes 30 = .ok (.goto 4, 3) := by decide +kernel
theorem d_Md_goes_33 : decode b_Md_goes 33 = .ok (.lconst 0, 1) := by decide +kernel
theorem d_Md_goes_34 : decode b_Md_goes 34 = .ok (.lstore 6, 2) := by decide +kernel
theorem d_Md_goes_36 : decode b_Md_goes 36 = .ok (.aload_n 0, 1) := by decide +kernel
theorem d_Md_goes_37 : decode b_Md_goes 37 = .ok (.getfield 7, 3) := by decide +kernel
theorem d_Md_goes_40 : decode b_Md_goes 40 = .ok (.iload_n 1, 1) := by decide +kernel
theorem d_Md_goes_41 : decode b_Md_goes 41 = .ok (.iaload, 1) := by decide +kernel
theorem d_Md_goes_42 : decode b_Md_goes 42 = .ok (.iconst 2, 1) := by decide +kernel
theorem d_Md_goes_43 : decode b_Md_goes 43 = .ok (.if_icmp .le 12, 3) := by decide +kernel
theorem d_Md_goes_46 : decode b_Md_goes 46 = .ok (.aload_n 0, 1) := by decide +kernel
theorem d_Md_goes_47 : decode b_Md_goes 47 = .ok (.iload_n 3, 1) := by decide +kernel
theorem d_Md_goes_48 : decode b_Md_goes 48 = .ok (.iconst 2, 1) := by decide +kernel
theorem d_Md_goes_49 : decode b_Md_goes 49 = .ok (.invokevirtual 232, 3) := by decide +kernel
theorem d_Md_goes_52 : decode b_Md_goes 52 = .ok (.goto 4, 3) := by decide +kernel
theorem d_Md_goes_55 : decode b_Md_goes 55 = .ok (.lconst 0, 1) := by decide +kernel
theorem d_Md_goes_56 : decode b_Md_goes 56 = .ok (.lstore 8, 2) := by decide +kernel
theorem d_Md_goes_58 : decode b_Md_goes 58 = .ok (.lload 4, 2) := by decide +kernel
theorem d_Md_goes_60 : decode b_Md_goes 60 = .ok (.invokestatic 236, 3) := by decide +kernel
theorem d_Md_goes_63 : decode b_Md_goes 63 = .ok (.ifCond .eq 23, 3) := by decide +kernel
theorem d_Md_goes_66 : decode b_Md_goes 66 = .ok (.lload 6, 2) := by decide +kernel
theorem d_Md_goes_68 : decode b_Md_goes 68 = .ok (.invokestatic 236, 3) := by decide +kernel
theorem d_Md_goes_71 : decode b_Md_goes 71 = .ok (.ifCond .eq 15, 3) := by decide +kernel
theorem d_Md_goes_74 : decode b_Md_goes 74 = .ok (.lload 8, 2) := by decide +kernel
theorem d_Md_goes_76 : decode b_Md_goes 76 = .ok (.invokestatic 236, 3) := by decide +kernel
theorem d_Md_goes_79 : decode b_Md_goes 79 = .ok (.ifCond .eq 7, 3) := by decide +kernel
theorem d_Md_goes_82 : decode b_Md_goes 82 = .ok (.iconst 1, 1) := by decide +kernel
theorem d_Md_goes_83 : decode b_Md_goes 83 = .ok (.goto 4, 3) := by decide +kernel
theorem d_Md_goes_86 : decode b_Md_goes 86 = .ok (.iconst 0, 1) := by decide +kernel
theorem d_Md_goes_87 : decode b_Md_goes 87 = .ok (.istore 10, 2) := by decide +kernel
theorem d_Md_goes_89 : decode b_Md_goes 89 = .ok (.iload 10, 2) := by decide +kernel
theorem d_Md_goes_91 : decode b_Md_goes 91 = .ok (.ifCond .eq 21, 3) := by decide +kernel
theorem d_Md_goes_94 : decode b_Md_goes 94 = .ok (.aload_n 0, 1) := by decide +kernel
theorem d_Md_goes_95 : decode b_Md_goes 95 = .ok (.lload 4, 2) := by decide +kernel
theorem d_Md_goes_97 : decode b_Md_goes 97 = .ok (.putfield 215, 3) := by decide +kernel
theorem d_Md_goes_100 : decode b_Md_goes 100 = .ok (.aload_n 0, 1) := by decide +kernel
theorem d_Md_goes_101 : decode b_Md_goes 101 = .ok (.lload 6, 2) := by decide +kernel
theorem d_Md_goes_103 : decode b_Md_goes 103 = .ok (.putfield 218, 3) := by decide +kernel
theorem d_Md_goes_106 : decode b_Md_goes 106 = .ok (.aload_n 0, 1) := by decide +kernel
theorem d_Md_goes_107 : decode b_Md_goes 107 = .ok (.lload 8, 2) := by decide +kernel
theorem d_Md_goes_109 : decode b_Md_goes 109 = .ok (.putfield 221, 3) := by decide +kernel
theorem d_Md_goes_112 : decode b_Md_goes 112 = .ok (.iload 10, 2) := by decide +kernel
theorem d_Md_goes_114 : decode b_Md_goes 114 = .ok (.ireturn, 1) := by decide +kernel
theorem d_Md_becomes_0 : decode b_Md_becomes 0 = .ok (.bipush 9, 2) := by decide +kernel
theorem d_Md_becomes_2 : decode b_Md_becomes 2 = .ok (.iload_n 1, 1) := by decide +kernel
theorem d_Md_becomes_3 : decode b_Md_becomes 3 = .ok (.imul, 1) := by decide +kernel
theorem d_Md_becomes_4 : decode b_Md_becomes 4 = .ok (.iconst 3, 1) := by decide +kernel
theorem d_Md_becomes_5 : decode b_Md_becomes 5 = .ok (.iload_n 2, 1) := by decide +kernel
theorem d_Md_becomes_6 : decode b_Md_becomes 6 = .ok (.imul, 1) := by decide +kernel
theorem d_Md_becomes_7 : decode b_Md_becomes 7 = .ok (.iadd, 1) := by decide +kernel
theorem d_Md_becomes_8 : decode b_Md_becomes 8 = .ok (.istore_n 3, 1) := by decide +kernel
theorem d_Md_becomes_9 : decode b_Md_becomes 9 = .ok (.aload_n 0, 1) := by decide +kernel
theorem d_Md_becomes_10 : decode b_Md_becomes 10 = .ok (.getfield 28, 3) := by decide +kernel
theorem d_Md_becomes_13 : decode b_Md_becomes 13 = .ok (.iload_n 3, 1) := by decide +kernel
theorem d_Md_becomes_14 : decode b_Md_becomes 14 = .ok (.iaload, 1) := by decide +kernel
theorem d_Md_becomes_15 : decode b_Md_becomes 15 = .ok (.i2l, 1) := by decide +kernel
theorem d_Md_becomes_16 : decode b_Md_becomes 16 = .ok (.aload_n 0, 1) := by decide +kernel
theorem d_Md_becomes_17 : decode b_Md_becomes 17 = .ok (.getfield 215, 3) := by decide +kernel
theorem d_Md_becomes_20 : decode b_Md_becomes 20 = .ok (.lmul, 1) := by decide +kernel
theorem d_Md_becomes_21 : decode b_Md_becomes 21 = .ok (.aload_n 0, 1) := by decide +kernel
theorem d_Md_becomes_22 : decode b_Md_becomes 22 = .ok (.getfield 28, 3) := by decide +kernel
theorem d_Md_becomes_25 : decode b_Md_becomes 25 = .ok (.iload_n 3, 1) := by decide +kernel
theorem d_Md_becomes_26 : decode b_Md_becomes 26 = .ok (.iconst 1, 1) := by decide +kernel
theorem d_Md_becomes_27 : decode b_Md_becomes 27 = .ok (.iadd, 1) := by decide +kernel
theorem d_Md_becomes_28 : decode b_Md_becomes 28 = .ok (.iaload, 1) := by decide +kernel
theorem d_Md_becomes_29 : decode b_Md_becomes 29 = .ok (.i2l, 1) := by decide +kernel
theorem d_Md_becomes_30 : decode b_Md_becomes 30 = .ok (.aload_n 0, 1) := by decide +kernel
theorem d_Md_becomes_31 : decode b_Md_becomes 31 = .ok (.getfield 218, 3) := by decide +kernel
theorem d_Md_becomes_34 : decode b_Md_becomes 34 = .ok (.lmul, 1) := by decide +kernel
theorem d_Md_becomes_35 : decode b_Md_becomes 35 = .ok (.ladd, 1) := by decide +kernel
theorem d_Md_becomes_36 : decode b_Md_becomes 36 = .ok (.aload_n 0, 1) := by decide +kernel
theorem d_Md_becomes_37 : decode b_Md_becomes 37 = .ok (.getfield 28, 3) := by decide +kernel
theorem d_Md_becomes_40 : decode b_Md_becomes 40 = .ok (.iload_n 3, 1) := by decide +kernel
theorem d_Md_becomes_41 : decode b_Md_becomes 41 = .ok (.iconst 2, 1) := by decide +kernel
theorem d_Md_becomes_42 : decode b_Md_becomes 42 = .ok (.iadd, 1) := by decide +kernel
theorem d_Md_becomes_43 : decode b_Md_becomes 43 = .ok (.iaload, 1) := by decide +kernel
theorem d_Md_becomes_44 : decode b_Md_becomes 44 = .ok (.i2l, 1) := by decide +kernel
theorem d_Md_becomes_45 : decode b_Md_becomes 45 = .ok (.aload_n 0, 1) := by decide +kernel
theorem d_Md_becomes_46 : decode b_Md_becomes 46 = .ok (.getfield 221, 3) := by decide +kernel
theorem d_Md_becomes_49 : decode b_Md_becomes 49 = .ok (.lmul, 1) := by decide +kernel
theorem d_Md_becomes_50 : decode b_Md_becomes 50 = .ok (.ladd, 1) := by decide +kernel
theorem d_Md_becomes_51 : decode b_Md_becomes 51 = .ok (.aload_n 0, 1) := by decide +kernel
theorem d_Md_becomes_52 : decode b_Md_becomes 52 = .ok (.getfield 31, 3) := by decide +kernel
theorem d_Md_becomes_55 : decode b_Md_becomes 55 = .ok (.iconst 3, 1) := by decide +kernel
theorem d_Md_becomes_56 : decode b_Md_becomes 56 = .ok (.iload_n 1, 1) := by decide +kernel
theorem d_Md_becomes_57 : decode b_Md_becomes 57 = .ok (.imul, 1) := by decide +kernel
theorem d_Md_becomes_58 : decode b_Md_becomes 58 = .ok (.iload_n 2, 1) := by decide +kernel
theorem d_Md_becomes_59 : decode b_Md_becomes 59 = .ok (.iadd, 1) := by decide +kernel
theorem d_Md_becomes_60 : decode b_Md_becomes 60 = .ok (.iaload, 1) := by decide +kernel
theorem d_Md_becomes_61 : decode b_Md_becomes 61 = .ok (.i2l, 1) := by decide +kernel
theorem d_Md_becomes_62 : decode b_Md_becomes 62 = .ok (.ladd, 1) := by decide +kernel
theorem d_Md_becomes_63 : decode b_Md_becomes 63 = .ok (.lreturn, 1) := by decide +kernel
theorem d_Md_isNear_0 : decode b_Md_isNear 0 = .ok (.lload_n 0, 1) := by decide +kernel
theorem d_Md_isNear_1 : decode b_Md_isNear 1 = .ok (.ldc2_w 228, 3) := by decide +kernel
theorem d_Md_isNear_4 : decode b_Md_isNear 4 = .ok (.lcmp, 1) := by decide +kernel
theorem d_Md_isNear_5 : decode b_Md_isNear 5 = .ok (.ifCond .lt 15, 3) := by decide +kernel
theorem d_Md_isNear_8 : decode b_Md_isNear 8 = .ok (.lload_n 0, 1) := by decide +kernel
theorem d_Md_isNear_9 : decode b_Md_isNear 9 = .ok (.ldc2_w 230, 3) := by decide +kernel
theorem d_Md_isNear_12 : decode b_Md_isNear 12 = .ok (.lcmp, 1) := by decide +kernel
theorem d_Md_isNear_13 : decode b_Md_isNear 13 = .ok (.ifCond .gt 7, 3) := by decide +kernel
theorem d_Md_isNear_16 : decode b_Md_isNear 16 = .ok (.iconst 1, 1) := by decide +kernel
theorem d_Md_isNear_17 : decode b_Md_isNear 17 = .ok (.goto 4, 3) := by decide +kernel
theorem d_Md_isNear_20 : decode b_Md_isNear 20 = .ok (.iconst 0, 1) := by decide +kernel
theorem d_Md_isNear_21 : decode b_Md_isNear 21 = .ok (.ireturn, 1) := by decide +kernel
theorem d_Md_stay_0 : decode b_Md_stay 0 = .ok (.aload_n 0, 1) := by decide +kernel
theorem d_Md_stay_1 : decode b_Md_stay 1 = .ok (.getfield 34, 3) := by decide +kernel
theorem d_Md_stay_4 : decode b_Md_stay 4 = .ok (.iconst 3, 1) := by decide +kernel
theorem d_Md_stay_5 : decode b_Md_stay 5 = .ok (.iload_n 1, 1) := by decide +kernel
theorem d_Md_stay_6 : decode b_Md_stay 6 = .ok (.imul, 1) := by decide +kernel
theorem d_Md_stay_7 : decode b_Md_stay 7 = .ok (.aload_n 0, 1) := by decide +kernel
theorem d_Md_stay_8 : decode b_Md_stay 8 = .ok (.getfield 215, 3) := by decide +kernel
theorem d_Md_stay_11 : decode b_Md_stay 11 = .ok (.lastore, 1) := by decide +kernel
theorem d_Md_stay_12 : decode b_Md_stay 12 = .ok (.aload_n 0, 1) := by decide +kernel
theorem d_Md_stay_13 : decode b_Md_stay 13 = .ok (.getfield 34, 3) := by decide +kernel
theorem d_Md_stay_16 : decode b_Md_stay 16 = .ok (.iconst 3, 1) := by decide +kernel
theorem d_Md_stay_17 : decode b_Md_stay 17 = .ok (.iload_n 1, 1) := by decide +kernel
theorem d_Md_stay_18 : decode b_Md_stay 18 = .ok (.imul, 1) := by decide +kernel
theorem d_Md_stay_19 : decode b_Md_stay 19 = .ok (.iconst 1, 1) := by decide +kernel
theorem d_Md_stay_20 : decode b_Md_stay 20 = .ok (.iadd, 1) := by decide +kernel
theorem d_Md_stay_21 : decode b_Md_stay 21 = .ok (.aload_n 0, 1) := by decide +kernel
theorem d_Md_stay_22 : decode b_Md_stay 22 = .ok (.getfield 218, 3) := by decide +kernel
theorem d_Md_stay_25 : decode b_Md_stay 25 = .ok (.lastore, 1) := by decide +kernel
theorem d_Md_stay_26 : decode b_Md_stay 26 = .ok (.aload_n 0, 1) := by decide +kernel
theorem d_Md_stay_27 : decode b_Md_stay 27 = .ok (.getfield 34, 3) := by decide +kernel
theorem d_Md_stay_30 : decode b_Md_stay 30 = .ok (.iconst 3, 1) := by decide +kernel
theorem d_Md_stay_31 : decode b_Md_stay 31 = .ok (.iload_n 1, 1) := by decide +kernel
theorem d_Md_stay_32 : decode b_Md_stay 32 = .ok (.imul, 1) := by decide +kernel
theorem d_Md_stay_33 : decode b_Md_stay 33 = .ok (.iconst 2, 1) := by decide +kernel
theorem d_Md_stay_34 : decode b_Md_stay 34 = .ok (.iadd, 1) := by decide +kernel
theorem d_Md_stay_35 : decode b_Md_stay 35 = .ok (.aload_n 0, 1) := by decide +kernel
theorem d_Md_stay_36 : decode b_Md_stay 36 = .ok (.getfield 221, 3) := by decide +kernel
theorem d_Md_stay_39 : decode b_Md_stay 39 = .ok (.lastore, 1) := by decide +kernel
theorem d_Md_stay_40 : decode b_Md_stay 40 = .ok (.return_, 1) := by decide +kernel
theorem d_Md_go_0 : decode b_Md_go 0 = .ok (.aload_n 0, 1) := by decide +kernel
theorem d_Md_go_1 : decode b_Md_go 1 = .ok (.iload_n 1, 1) := by decide +kernel
theorem d_Md_go_2 : decode b_Md_go 2 = .ok (.iload_n 2, 1) := by decide +kernel
theorem d_Md_go_3 : decode b_Md_go 3 = .ok (.invokevirtual 92, 3) := by decide +kernel
theorem d_Md_go_6 : decode b_Md_go 6 = .ok (.ifCond .ne 6, 3) := by decide +kernel
theorem d_Md_go_9 : decode b_Md_go 9 = .ok (.bipush (-2), 2) := by decide +kernel
theorem d_Md_go_11 : decode b_Md_go 11 = .ok (.ireturn, 1) := by decide +kernel
theorem d_Md_go_12 : decode b_Md_go 12 = .ok (.aload_n 0, 1) := by decide +kernel
theorem d_Md_go_13 : decode b_Md_go 13 = .ok (.iload_n 1, 1) := by decide +kernel
theorem d_Md_go_14 : decode b_Md_go 14 = .ok (.invokevirtual 246, 3) := by decide +kernel
theorem d_Md_go_17 : decode b_Md_go 17 = .ok (.aload_n 0, 1) := by decide +kernel
theorem d_Md_go_18 : decode b_Md_go 18 = .ok (.iload_n 1, 1) := by decide +kernel
theorem d_Md_go_19 : decode b_Md_go 19 = .ok (.invokevirtual 239, 3) := by decide +kernel
theorem d_Md_go_22 : decode b_Md_go 22 = .ok (.iload_n 2, 1) := by decide +kernel
theorem d_Md_go_23 : decode b_Md_go 23 = .ok (.ishr, 1) := by decide +kernel
theorem d_Md_go_24 : decode b_Md_go 24 = .ok (.iconst 1, 1) := by decide +kernel
theorem d_Md_go_25 : decode b_Md_go 25 = .ok (.iand, 1) := by decide +kernel
theorem d_Md_go_26 : decode b_Md_go 26 = .ok (.ifCond .ne 5, 3) := by decide +kernel
theorem d_Md_go_29 : decode b_Md_go 29 = .ok (.iconst 0, 1) := by decide +kernel
theorem d_Md_go_30 : decode b_Md_go 30 = .ok (.ireturn, 1) := by decide +kernel
theorem d_Md_go_31 : decode b_Md_go 31 = .ok (.aload_n 0, 1) := by decide +kernel
theorem d_Md_go_32 : decode b_Md_go 32 = .ok (.iload_n 1, 1) := by decide +kernel
theorem d_Md_go_33 : decode b_Md_go 33 = .ok (.iload_n 2, 1) := by decide +kernel
theorem d_Md_go_34 : decode b_Md_go 34 = .ok (.invokevirtual 243, 3) := by decide +kernel
theorem d_Md_go_37 : decode b_Md_go 37 = .ok (.istore_n 3, 1) := by decide +kernel
theorem d_Md_go_38 : decode b_Md_go 38 = .ok (.aload_n 0, 1) := by decide +kernel
theorem d_Md_go_39 : decode b_Md_go 39 = .ok (.iload_n 1, 1) := by decide +kernel
theorem d_Md_go_40 : decode b_Md_go 40 = .ok (.invokevirtual 252, 3) := by decide +kernel
theorem d_Md_go_43 : decode b_Md_go 43 = .ok (.iload_n 3, 1) := by decide +kernel
theorem d_Md_go_44 : decode b_Md_go 44 = .ok (.ifCond .eq 7, 3) := by decide +kernel
theorem d_Md_go_47 : decode b_Md_go 47 = .ok (.iconst 1, 1) := by decide +kernel
theorem d_Md_go_48 : decode b_Md_go 48 = .ok (.goto 5, 3) := by decide +kernel
theorem d_Md_go_51 : decode b_Md_go 51 = .ok (.bipush (-5), 2) := by decide +kernel
theorem d_Md_go_53 : decode b_Md_go 53 = .ok (.ireturn, 1) := by decide +kernel
theorem d_Md_walk_0 : decode b_Md_walk 0 = .ok (.aload_n 0, 1) := by decide +kernel
theorem d_Md_walk_1 : decode b_Md_walk 1 = .ok (.iload_n 1, 1) := by decide +kernel
theorem d_Md_walk_2 : decode b_Md_walk 2 = .ok (.invokevirtual 67, 3) := by decide +kernel
theorem d_Md_walk_5 : decode b_Md_walk 5 = .ok (.ifCond .ne 6, 3) := by decide +kernel
theorem d_Md_walk_8 : decode b_Md_walk 8 = .ok (.bipush (-2), 2) := by decide +kernel
theorem d_Md_walk_10 : decode b_Md_walk 10 = .ok (.ireturn, 1) := by decide +kernel
theorem d_Md_walk_11 : decode b_Md_walk 11 = .ok (.iload_n 2, 1) := by decide +kernel
theorem d_Md_walk_12 : decode b_Md_walk 12 = .ok (.iconst 0, 1) := by decide +kernel
theorem d_Md_walk_13 : decode b_Md_walk 13 = .ok (.sipush 1000, 3) := by decide +kernel
theorem d_Md_walk_16 : decode b_Md_walk 16 = .ok (.invokestatic 63, 3) := by decide +kernel
theorem d_Md_walk_19 : decode b_Md_walk 19 = .ok (.ifCond .ne 6, 3) := by decide +kernel
theorem d_Md_walk_22 : decode b_Md_walk 22 = .ok (.bipush (-3), 2) := by decide +kernel
theorem d_Md_walk_24 : decode b_Md_walk 24 = .ok (.ireturn, 1) := by decide +kernel
theorem d_Md_walk_25 : decode b_Md_walk 25 = .ok (.aload_n 0, 1) := by decide +kernel
theorem d_Md_walk_26 : decode b_Md_walk 26 = .ok (.iload_n 1, 1) := by decide +kernel
theorem d_Md_walk_27 : decode b_Md_walk 27 = .ok (.invokevirtual 246, 3) := by decide +kernel
theorem d_Md_walk_30 : decode b_Md_walk 30 = .ok (.iconst 0, 1) := by decide +kernel
theorem d_Md_walk_31 : decode b_Md_walk 31 = .ok (.istore_n 3, 1) := by decide +kernel
theorem d_Md_walk_32 : decode b_Md_walk 32 = .ok (.iload_n 3, 1) := by decide +kernel
theorem d_Md_walk_33 : decode b_Md_walk 33 = .ok (.iload_n 2, 1) := by decide +kernel
theorem d_Md_walk_34 : decode b_Md_walk 34 = .ok (.if_icmp .ge 17, 3) := by decide +kernel
theorem d_Md_walk_37 : decode b_Md_walk 37 = .ok (.aload_n 0, 1) := by decide +kernel
theorem d_Md_walk_38 : decode b_Md_walk 38 = .ok (.iload_n 1, 1) := by decide +kernel
theorem d_Md_walk_39 : decode b_Md_walk 39 = .ok (.invokevirtual 249, 3) := by decide +kernel
theorem d_Md_walk_42 : decode b_Md_walk 42 = .ok (.ifCond .lt 9, 3) := by decide +kernel
theorem d_Md_walk_45 : decode b_Md_walk 45 = .ok (.iinc 3 1, 3) := by decide +kernel
theorem d_Md_walk_48 : decode b_Md_walk 48 = .ok (.goto (-16), 3) := by decide +kernel
theorem d_Md_walk_51 : decode b_Md_walk 51 = .ok (.aload_n 0, 1) := by decide +kernel
theorem d_Md_walk_52 : decode b_Md_walk 52 = .ok (.iload_n 1, 1) := by decide +kernel
theorem d_Md_walk_53 : decode b_Md_walk 53 = .ok (.invokevirtual 252, 3) := by decide +kernel
theorem d_Md_walk_56 : decode b_Md_walk 56 = .ok (.iload_n 3, 1) := by decide +kernel
theorem d_Md_walk_57 : decode b_Md_walk 57 = .ok (.ireturn, 1) := by decide +kernel
theorem d_Md_ring_0 : decode b_Md_ring 0 = .ok (.aload_n 0, 1) := by decide +kernel
theorem d_Md_ring_1 : decode b_Md_ring 1 = .ok (.iload_n 1, 1) := by decide +kernel
theorem d_Md_ring_2 : decode b_Md_ring 2 = .ok (.invokevirtual 67, 3) := by decide +kernel
theorem d_Md_ring_5 : decode b_Md_ring 5 = .ok (.ifCond .ne 6, 3) := by decide +kernel
theorem d_Md_ring_8 : decode b_Md_ring 8 = .ok (.bipush (-2), 2) := by decide +kernel
theorem d_Md_ring_10 : decode b_Md_ring 10 = .ok (.ireturn, 1) := by decide +kernel
theorem d_Md_ring_11 : decode b_Md_ring 11 = .ok (.iload_n 2, 1) := by decide +kernel
theorem d_Md_ring_12 : decode b_Md_ring 12 = .ok (.iconst 0, 1) := by decide +kernel
theorem d_Md_ring_13 : decode b_Md_ring 13 = .ok (.bipush 6, 2) := by decide +kernel
theorem d_Md_ring_15 : decode b_Md_ring 15 = .ok (.invokestatic 63, 3) := by decide +kernel
theorem d_Md_ring_18 : decode b_Md_ring 18 = .ok (.ifCond .ne 6, 3) := by decide +kernel
theorem d_Md_ring_21 : decode b_Md_ring 21 = .ok (.bipush (-3), 2) := by decide +kernel
theorem d_Md_ring_23 : decode b_Md_ring 23 = .ok (.ireturn, 1) := by decide +kernel
theorem d_Md_ring_24 : decode b_Md_ring 24 = .ok (.iload_n 2, 1) := by decide +kernel
theorem d_Md_ring_25 : decode b_Md_ring 25 = .ok (.ineg, 1) := by decide +kernel
theorem d_Md_ring_26 : decode b_Md_ring 26 = .ok (.istore_n 3, 1) := by decide +kernel
theorem d_Md_ring_27 : decode b_Md_ring 27 = .ok (.aload_n 0, 1) := by decide +kernel
theorem d_Md_ring_28 : decode b_Md_ring 28 = .ok (.getfield 7, 3) := by decide +kernel
theorem d_Md_ring_31 : decode b_Md_ring 31 = .ok (.iload_n 1, 1) := by decide +kernel
theorem d_Md_ring_32 : decode b_Md_ring 32 = .ok (.iaload, 1) := by decide +kernel
theorem d_Md_ring_33 : decode b_Md_ring 33 = .ok (.iconst 1, 1) := by decide +kernel
theorem d_Md_ring_34 : decode b_Md_ring 34 = .ok (.if_icmp .le 7, 3) := by decide +kernel
theorem d_Md_ring_37 : decode b_Md_ring 37 = .ok (.iload_n 2, 1) := by decide +kernel
theorem d_Md_ring_38 : decode b_Md_ring 38 = .ok (.goto 4, 3) := by decide +kernel
theorem d_Md_ring_41 : decode b_Md_ring 41 = .ok (.iconst 0, 1) := by decide +kernel
theorem d_Md_ring_42 : decode b_Md_ring 42 = .ok (.istore 4, 2) := by decide +kernel
theorem d_Md_ring_44 : decode b_Md_ring 44 = .ok (.aload_n 0, 1) := by decide +kernel
theorem d_Md_ring_45 : decode b_Md_ring 45 = .ok (.getfield 7, 3) := by decide +kernel
theorem d_Md_ring_48 : decode b_Md_ring 48 = .ok (.iload_n 1, 1) := by decide +kernel
theorem d_Md_ring_49 : decode b_Md_ring 49 = .ok (.iaload, 1) := by decide +kernel
theorem d_Md_ring_50 : decode b_Md_ring 50 = .ok (.iconst 2, 1) := by decide +kernel
theorem d_Md_ring_51 : decode b_Md_ring 51 = .ok (.if_icmp .le 7, 3) := by decide +kernel
theorem d_Md_ring_54 : decode b_Md_ring 54 = .ok (.iload_n 2, 1) := by decide +kernel
theorem d_Md_ring_55 : decode b_Md_ring 55 = .ok (.goto 4, 3) := by decide +kernel
theorem d_Md_ring_58 : decode b_Md_ring 58 = .ok (.iconst 0, 1) := by decide +kernel
theorem d_Md_ring_59 : decode b_Md_ring 59 = .ok (.istore 5, 2) := by decide +kernel
theorem d_Md_ring_61 : decode b_Md_ring 61 = .ok (.iload_n 3, 1) := by decide +kernel
theorem d_Md_ring_62 : decode b_Md_ring 62 = .ok (.istore 6, 2) := by decide +kernel
theorem d_Md_ring_64 : decode b_Md_ring 64 = .ok (.iload 6, 2) := by decide +kernel
theorem d_Md_ring_66 : decode b_Md_ring 66 = .ok (.iload_n 2, 1) := by decide +kernel
theorem d_Md_ring_67 : decode b_Md_ring 67 = .ok (.if_icmp .gt 92, 3) := by decide +kernel
theorem d_Md_ring_70 : decode b_Md_ring 70 = .ok (.iload 4, 2) := by decide +kernel
theorem d_Md_ring_72 : decode b_Md_ring 72 = .ok (.ineg, 1) := by decide +kernel
theorem d_Md_ring_73 : decode b_Md_ring 73 = .ok (.istore 7, 2) := by decide +kernel
theorem d_Md_ring_75 : decode b_Md_ring 75 = .ok (.iload 7, 2) := by decide +kernel
theorem d_Md_ring_77 : decode b_Md_ring 77 = .ok (.iload 4, 2) := by decide +kernel
theorem d_Md_ring_79 : decode b_Md_ring 79 = .ok (.if_icmp .gt 74, 3) := by decide +kernel
theorem d_Md_ring_82 : decode b_Md_ring 82 = .ok (.iload 5, 2) := by decide +kernel
theorem d_Md_ring_84 : decode b_Md_ring 84 = .ok (.ineg, 1) := by decide +kernel
theorem d_Md_ring_85 : decode b_Md_ring 85 = .ok (.istore 8, 2) := by decide +kernel
theorem d_Md_ring_87 : decode b_Md_ring 87 = .ok (.iload 8, 2) := by decide +kernel
theorem d_Md_ring_89 : decode b_Md_ring 89 = .ok (.iload 5, 2) := by decide +kernel
theorem d_Md_ring_91 : decode b_Md_ring 91 = .ok (.if_icmp .gt 56, 3) := by decide +kernel
theorem d_Md_ring_94 : decode b_Md_ring 94 = .ok (.aload_n 0, 1) := by decide +kernel
theorem d_Md_ring_95 : decode b_Md_ring 95 = .ok (.iload_n 1, 1) := by decide +kernel
theorem d_Md_ring_96 : decode b_Md_ring 96 = .ok (.iload 6, 2) := by decide +kernel
theorem d_Md_ring_98 : decode b_Md_ring 98 = .ok (.iload 7, 2) := by decide +kernel
theorem d_Md_ring_100 : decode b_Md_ring 100 = .ok (.iload 8, 2) := by decide +kernel
theorem d_Md_ring_102 : decode b_Md_ring 102 = .ok (.invokevirtual 255, 3) := by decide +kernel
theorem d_Md_ring_105 : decode b_Md_ring 105 = .ok (.istore 9, 2) := by decide +kernel
theorem d_Md_ring_107 : decode b_Md_ring 107 = .ok (.iload 9, 2) := by decide +kernel
theorem d_Md_ring_109 : decode b_Md_ring 109 = .ok (.ifCond .le 32, 3) := by decide +kernel
theorem d_Md_ring_112 : decode b_Md_ring 112 = .ok (.aload_n 0, 1) := by decide +kernel
theorem d_Md_ring_113 : decode b_Md_ring 113 = .ok (.iload 6, 2) := by decide +kernel
theorem d_Md_ring_115 : decode b_Md_ring 115 = .ok (.i2l, 1) := by decide +kernel
theorem d_Md_ring_116 : decode b_Md_ring 116 = .ok (.putfield 215, 3) := by decide +kernel
theorem d_Md_ring_119 : decode b_Md_ring 119 = .ok (.aload_n 0, 1) := by decide +kernel
theorem d_Md_ring_120 : decode b_Md_ring 120 = .ok (.iload 7, 2) := by decide +kernel
theorem d_Md_ring_122 : decode b_Md_ring 122 = .ok (.i2l, 1) := by decide +kernel
theorem d_Md_ring_123 : decode b_Md_ring 123 = .ok (.putfield 218, 3) := by decide +kernel
theorem d_Md_ring_126 : decode b_Md_ring 126 = .ok (.aload_n 0, 1) := by decide +kernel
theorem d_Md_ring_127 : decode b_Md_ring 127 = .ok (.iload 8, 2) := by decide +kernel
theorem d_Md_ring_129 : decode b_Md_ring 129 = .ok (.i2l, 1) := by decide +kernel
theorem d_Md_ring_130 : decode b_Md_ring 130 = .ok (.putfield 221, 3) := by decide +kernel
theorem d_Md_ring_133 : decode b_Md_ring 133 = .ok (.aload_n 0, 1) := by decide +kernel
theorem d_Md_ring_134 : decode b_Md_ring 134 = .ok (.iload_n 1, 1) := by decide +kernel
theorem d_Md_ring_135 : decode b_Md_ring 135 = .ok (.invokevirtual 252, 3) := by decide +kernel
theorem d_Md_ring_138 : decode b_Md_ring 138 = .ok (.iload 9, 2) := by decide +kernel
theorem d_Md_ring_140 : decode b_Md_ring 140 = .ok (.ireturn, 1) := by decide +kernel
theorem d_Md_ring_141 : decode b_Md_ring 141 = .ok (.iinc 8 1, 3) := by decide +kernel
theorem d_Md_ring_144 : decode b_Md_ring 144 = .ok (.goto (-57), 3) := by decide +kernel
theorem d_Md_ring_147 : decode b_Md_ring 147 = .ok (.iinc 7 1, 3) := by decide +kernel
theorem d_Md_ring_150 : decode b_Md_ring 150 = .ok (.goto (-75), 3) := by decide +kernel
theorem d_Md_ring_153 : decode b_Md_ring 153 = .ok (.iinc 6 1, 3) := by decide +kernel
theorem d_Md_ring_156 : decode b_Md_ring 156 = .ok (.goto (-92), 3) := by decide +kernel
theorem d_Md_ring_159 : decode b_Md_ring 159 = .ok (.iconst 0, 1) := by decide +kernel
theorem d_Md_ring_160 : decode b_Md_ring 160 = .ok (.ireturn, 1) := by decide +kernel
theorem d_Md_comesBack_0 : decode b_Md_comesBack 0 = .ok (.aload_n 0, 1) := by decide +kernel
theorem d_Md_comesBack_1 : decode b_Md_comesBack 1 = .ok (.iload_n 2, 1) := by decide +kernel
theorem d_Md_comesBack_2 : decode b_Md_comesBack 2 = .ok (.i2l, 1) := by decide +kernel
theorem d_Md_comesBack_3 : decode b_Md_comesBack 3 = .ok (.putfield 215, 3) := by decide +kernel
theorem d_Md_comesBack_6 : decode b_Md_comesBack 6 = .ok (.aload_n 0, 1) := by decide +kernel
theorem d_Md_comesBack_7 : decode b_Md_comesBack 7 = .ok (.iload_n 3, 1) := by decide +kernel
theorem d_Md_comesBack_8 : decode b_Md_comesBack 8 = .ok (.i2l, 1) := by decide +kernel
theorem d_Md_comesBack_9 : decode b_Md_comesBack 9 = .ok (.putfield 218, 3) := by decide +kernel
theorem d_Md_comesBack_12 : decode b_Md_comesBack 12 = .ok (.aload_n 0, 1) := by decide +kernel
theorem d_Md_comesBack_13 : decode b_Md_comesBack 13 = .ok (.iload 4, 2) := by decide +kernel
theorem d_Md_comesBack_15 : decode b_Md_comesBack 15 = .ok (.i2l, 1) := by decide +kernel
theorem d_Md_comesBack_16 : decode b_Md_comesBack 16 = .ok (.putfield 221, 3) := by decide +kernel
theorem d_Md_comesBack_19 : decode b_Md_comesBack 19 = .ok (.iconst 1, 1) := by decide +kernel
theorem d_Md_comesBack_20 : decode b_Md_comesBack 20 = .ok (.istore 5, 2) := by decide +kernel
theorem d_Md_comesBack_22 : decode b_Md_comesBack 22 = .ok (.iload 5, 2) := by decide +kernel
theorem d_Md_comesBack_24 : decode b_Md_comesBack 24 = .ok (.sipush 200, 3) := by decide +kernel
theorem d_Md_comesBack_27 : decode b_Md_comesBack 27 = .ok (.if_icmp .gt 53, 3) := by decide +kernel
theorem d_Md_comesBack_30 : decode b_Md_comesBack 30 = .ok (.aload_n 0, 1) := by decide +kernel
theorem d_Md_comesBack_31 : decode b_Md_comesBack 31 = .ok (.iload_n 1, 1) := by decide +kernel
theorem d_Md_comesBack_32 : decode b_Md_comesBack 32 = .ok (.invokevirtual 249, 3) := by decide +kernel
theorem d_Md_comesBack_35 : decode b_Md_comesBack 35 = .ok (.ifCond .ge 5, 3) := by decide +kernel
theorem d_Md_comesBack_38 : decode b_Md_comesBack 38 = .ok (.iconst 0, 1) := by decide +kernel
theorem d_Md_comesBack_39 : decode b_Md_comesBack 39 = .ok (.ireturn, 1) := by decide +kernel
theorem d_Md_comesBack_40 : decode b_Md_comesBack 40 = .ok (.aload_n 0, 1) := by decide +kernel
theorem d_Md_comesBack_41 : decode b_Md_comesBack 41 = .ok (.getfield 215, 3) := by decide +kernel
theorem d_Md_comesBack_44 : decode b_Md_comesBack 44 = .ok (.iload_n 2, 1) := by decide +kernel
theorem d_Md_comesBack_45 : decode b_Md_comesBack 45 = .ok (.i2l, 1) := by decide +kernel
theorem d_Md_comesBack_46 : decode b_Md_comesBack 46 = .ok (.lcmp, 1) := by decide +kernel
theorem d_Md_comesBack_47 : decode b_Md_comesBack 47 = .ok (.ifCond .ne 27, 3) := by decide +kernel
theorem d_Md_comesBack_50 : decode b_Md_comesBack 50 = .ok (.aload_n 0, 1) := by decide +kernel
theorem d_Md_comesBack_51 : decode b_Md_comesBack 51 = .ok (.getfield 218, 3) := by decide +kernel
theorem d_Md_comesBack_54 : decode b_Md_comesBack 54 = .ok (.iload_n 3, 1) := by decide +kernel
theorem d_Md_comesBack_55 : decode b_Md_comesBack 55 = .ok (.i2l, 1) := by decide +kernel
theorem d_Md_comesBack_56 : decode b_Md_comesBack 56 = .ok (.lcmp, 1) := by decide +kernel
theorem d_Md_comesBack_57 : decode b_Md_comesBack 57 = .ok (.ifCond .ne 17, 3) := by decide +kernel
theorem d_Md_comesBack_60 : decode b_Md_comesBack 60 = .ok (.aload_n 0, 1) := by decide +kernel
theorem d_Md_comesBack_61 : decode b_Md_comesBack 61 = .ok (.getfield 221, 3) := by decide +kernel
theorem d_Md_comesBack_64 : decode b_Md_comesBack 64 = .ok (.iload 4, 2) := by decide +kernel
theorem d_Md_comesBack_66 : decode b_Md_comesBack 66 = .ok (.i2l, 1) := by decide +kernel
theorem d_Md_comesBack_67 : decode b_Md_comesBack 67 = .ok (.lcmp, 1) := by decide +kernel
theorem d_Md_comesBack_68 : decode b_Md_comesBack 68 = .ok (.ifCond .ne 6, 3) := by decide +kernel
theorem d_Md_comesBack_71 : decode b_Md_comesBack 71 = .ok (.iload 5, 2) := by decide +kernel
theorem d_Md_comesBack_73 : decode b_Md_comesBack 73 = .ok (.ireturn, 1) := by decide +kernel
theorem d_Md_comesBack_74 : decode b_Md_comesBack 74 = .ok (.iinc 5 1, 3) := by decide +kernel
theorem d_Md_comesBack_77 : decode b_Md_comesBack 77 = .ok (.goto (-55), 3) := by decide +kernel
theorem d_Md_comesBack_80 : decode b_Md_comesBack 80 = .ok (.iconst 0, 1) := by decide +kernel
theorem d_Md_comesBack_81 : decode b_Md_comesBack 81 = .ok (.ireturn, 1) := by decide +kernel
theorem d_Md_loops_0 : decode b_Md_loops 0 = .ok (.aload_n 0, 1) := by decide +kernel
theorem d_Md_loops_1 : decode b_Md_loops 1 = .ok (.getfield 59, 3) := by decide +kernel
theorem d_Md_loops_4 : decode b_Md_loops 4 = .ok (.ireturn, 1) := by decide +kernel
end
section
theorem d_FT_init_0 : decode b_FT_init 0 = .ok (.aload_n 0, 1) := by decide +kernel
theorem d_FT_init_1 : decode b_FT_init 1 = .ok (.invokespecial 1, 3) := by decide +kernel
theorem d_FT_init_4 : decode b_FT_init 4 = .ok (.aload_n 0, 1) := by decide +kernel
theorem d_FT_init_5 : decode b_FT_init 5 = .ok (.bipush 8, 2) := by decide +kernel
theorem d_FT_init_7 : decode b_FT_init 7 = .ok (.anewarray 9, 3) := by decide +kernel
theorem d_FT_init_10 : decode b_FT_init 10 = .ok (.putfield 11, 3) := by decide +kernel
theorem d_FT_init_13 : decode b_FT_init 13 = .ok (.aload_n 0, 1) := by decide +kernel
theorem d_FT_init_14 : decode b_FT_init 14 = .ok (.iconst 3, 1) := by decide +kernel
theorem d_FT_init_15 : decode b_FT_init 15 = .ok (.anewarray 15, 3) := by decide +kernel
theorem d_FT_init_18 : decode b_FT_init 18 = .ok (.putfield 17, 3) := by decide +kernel
theorem d_FT_init_21 : decode b_FT_init 21 = .ok (.aload_n 0, 1) := by decide +kernel
theorem d_FT_init_22 : decode b_FT_init 22 = .ok (.iconst 3, 1) := by decide +kernel
theorem d_FT_init_23 : decode b_FT_init 23 = .ok (.anewarray 15, 3) := by decide +kernel
theorem d_FT_init_26 : decode b_FT_init 26 = .ok (.putfield 21, 3) := by decide +kernel
theorem d_FT_init_29 : decode b_FT_init 29 = .ok (.aload_n 0, 1) := by decide +kernel
theorem d_FT_init_30 : decode b_FT_init 30 = .ok (.new 24, 3) := by decide +kernel
theorem d_FT_init_33 : decode b_FT_init 33 = .ok (.dup, 1) := by decide +kernel
theorem d_FT_init_34 : decode b_FT_init 34 = .ok (.invokespecial 26, 3) := by decide +kernel
theorem d_FT_init_37 : decode b_FT_init 37 = .ok (.putfield 27, 3) := by decide +kernel
theorem d_FT_init_40 : decode b_FT_init 40 = .ok (.aload_n 0, 1) := by decide +kernel
theorem d_FT_init_41 : decode b_FT_init 41 = .ok (.new 24, 3) := by decide +kernel
theorem d_FT_init_44 : decode b_FT_init 44 = .ok (.dup, 1) := by decide +kernel
theorem d_FT_init_45 : decode b_FT_init 45 = .ok (.invokespecial 26, 3) := by decide +kernel
theorem d_FT_init_48 : decode b_FT_init 48 = .ok (.putfield 31, 3) := by decide +kernel
theorem d_FT_init_51 : decode b_FT_init 51 = .ok (.aload_n 0, 1) := by decide +kernel
theorem d_FT_init_52 : decode b_FT_init 52 = .ok (.iconst 4, 1) := by decide +kernel
theorem d_FT_init_53 : decode b_FT_init 53 = .ok (.newarray .int, 2) := by decide +kernel
theorem d_FT_init_55 : decode b_FT_init 55 = .ok (.putfield 34, 3) := by decide +kernel
theorem d_FT_init_58 : decode b_FT_init 58 = .ok (.aload_n 0, 1) := by decide +kernel
theorem d_FT_init_59 : decode b_FT_init 59 = .ok (.iconst 3, 1) := by decide +kernel
theorem d_FT_init_60 : decode b_FT_init 60 = .ok (.newarray .long, 2) := by decide +kernel
theorem d_FT_init_62 : decode b_FT_init 62 = .ok (.putfield 38, 3) := by decide +kernel
theorem d_FT_init_65 : decode b_FT_init 65 = .ok (.aload_n 0, 1) := by decide +kernel
theorem d_FT_init_66 : decode b_FT_init 66 = .ok (.iconst 3, 1) := by decide +kernel
theorem d_FT_init_67 : decode b_FT_init 67 = .ok (.newarray .long, 2) := by decide +kernel
theorem d_FT_init_69 : decode b_FT_init 69 = .ok (.putfield 42, 3) := by decide +kernel
theorem d_FT_init_72 : decode b_FT_init 72 = .ok (.aload_n 0, 1) := by decide +kernel
theorem d_FT_init_73 : decode b_FT_init 73 = .ok (.iconst 3, 1) := by decide +kernel
theorem d_FT_init_74 : decode b_FT_init 74 = .ok (.newarray .long, 2) := by decide +kernel
theorem d_FT_init_76 : decode b_FT_init 76 = .ok (.putfield 45, 3) := by decide +kernel
theorem d_FT_init_79 : decode b_FT_init 79 = .ok (.iconst 0, 1) := by decide +kernel
theorem d_FT_init_80 : decode b_FT_init 80 = .ok (.istore_n 1, 1) := by decide +kernel
theorem d_FT_init_81 : decode b_FT_init 81 = .ok (.iload_n 1, 1) := by decide +kernel
theorem d_FT_init_82 : decode b_FT_init 82 = .ok (.bipush 8, 2) := by decide +kernel
theorem d_FT_init_84 : decode b_FT_init 84 = .ok (.if_icmp .ge 22, 3) := by decide +kernel
theorem d_FT_init_87 : decode b_FT_init 87 = .ok (.aload_n 0, 1) := by decide +kernel
theorem d_FT_init_88 : decode b_FT_init 88 = .ok (.getfield 11, 3) := by decide +kernel
theorem d_FT_init_91 : decode b_FT_init 91 = .ok (.iload_n 1, 1) := by decide +kernel
theorem d_FT_init_92 : decode b_FT_init 92 = .ok (.new 9, 3) := by decide +kernel
theorem d_FT_init_95 : decode b_FT_init 95 = .ok (.dup, 1) := by decide +kernel
theorem d_FT_init_96 : decode b_FT_init 96 = .ok (.invokespecial 48, 3) := by decide +kernel
theorem d_FT_init_99 : decode b_FT_init 99 = .ok (.aastore, 1) := by decide +kernel
theorem d_FT_init_100 : decode b_FT_init 100 = .ok (.iinc 1 1, 3) := by decide +kernel
theorem d_FT_init_103 : decode b_FT_init 103 = .ok (.goto (-22), 3) := by decide +kernel
theorem d_FT_init_106 : decode b_FT_init 106 = .ok (.iconst 0, 1) := by decide +kernel
theorem d_FT_init_107 : decode b_FT_init 107 = .ok (.istore_n 1, 1) := by decide +kernel
theorem d_FT_init_108 : decode b_FT_init 108 = .ok (.iload_n 1, 1) := by decide +kernel
theorem d_FT_init_109 : decode b_FT_init 109 = .ok (.iconst 3, 1) := by decide +kernel
theorem d_FT_init_110 : decode b_FT_init 110 = .ok (.if_icmp .ge 35, 3) := by decide +kernel
theorem d_FT_init_113 : decode b_FT_init 113 = .ok (.aload_n 0, 1) := by decide +kernel
theorem d_FT_init_114 : decode b_FT_init 114 = .ok (.getfield 17, 3) := by decide +kernel
theorem d_FT_init_117 : decode b_FT_init 117 = .ok (.iload_n 1, 1) := by decide +kernel
theorem d_FT_init_118 : decode b_FT_init 118 = .ok (.new 15, 3) := by decide +kernel
theorem d_FT_init_121 : decode b_FT_init 121 = .ok (.dup, 1) := by decide +kernel
theorem d_FT_init_122 : decode b_FT_init 122 = .ok (.invokespecial 49, 3) := by decide +kernel
theorem d_FT_init_125 : decode b_FT_init 125 = .ok (.aastore, 1) := by decide +kernel
theorem d_FT_init_126 : decode b_FT_init 126 = .ok (.aload_n 0, 1) := by decide +kernel
theorem d_FT_init_127 : decode b_FT_init 127 = .ok (.getfield 21, 3) := by decide +kernel
theorem d_FT_init_130 : decode b_FT_init 130 = .ok (.iload_n 1, 1) := by decide +kernel
theorem d_FT_init_131 : decode b_FT_init 131 = .ok (.new 15, 3) := by decide +kernel
theorem d_FT_init_134 : decode b_FT_init 134 = .ok (.dup, 1) := by decide +kernel
theorem d_FT_init_135 : decode b_FT_init 135 = .ok (.invokespecial 49, 3) := by decide +kernel
theorem d_FT_init_138 : decode b_FT_init 138 = .ok (.aastore, 1) := by decide +kernel
theorem d_FT_init_139 : decode b_FT_init 139 = .ok (.iinc 1 1, 3) := by decide +kernel
theorem d_FT_init_142 : decode b_FT_init 142 = .ok (.goto (-34), 3) := by decide +kernel
theorem d_FT_init_145 : decode b_FT_init 145 = .ok (.return_, 1) := by decide +kernel
theorem d_Pf_init_0 : decode b_Pf_init 0 = .ok (.aload_n 0, 1) := by decide +kernel
theorem d_Pf_init_1 : decode b_Pf_init 1 = .ok (.invokespecial 3, 3) := by decide +kernel
theorem d_Pf_init_4 : decode b_Pf_init 4 = .ok (.aload_n 0, 1) := by decide +kernel
theorem d_Pf_init_5 : decode b_Pf_init 5 = .ok (.bipush 12, 2) := by decide +kernel
theorem d_Pf_init_7 : decode b_Pf_init 7 = .ok (.newarray .int, 2) := by decide +kernel
theorem d_Pf_init_9 : decode b_Pf_init 9 = .ok (.putfield 9, 3) := by decide +kernel
theorem d_Pf_init_12 : decode b_Pf_init 12 = .ok (.return_, 1) := by decide +kernel
theorem d_Lp_init_0 : decode b_Lp_init 0 = .ok (.aload_n 0, 1) := by decide +kernel
theorem d_Lp_init_1 : decode b_Lp_init 1 = .ok (.invokespecial 3, 3) := by decide +kernel
theorem d_Lp_init_4 : decode b_Lp_init 4 = .ok (.aload_n 0, 1) := by decide +kernel
theorem d_Lp_init_5 : decode b_Lp_init 5 = .ok (.new 9, 3) := by decide +kernel
theorem d_Lp_init_8 : decode b_Lp_init 8 = .ok (.dup, 1) := by decide +kernel
theorem d_Lp_init_9 : decode b_Lp_init 9 = .ok (.iconst 4, 1) := by decide +kernel
theorem d_Lp_init_10 : decode b_Lp_init 10 = .ok (.invokespecial 11, 3) := by decide +kernel
theorem d_Lp_init_13 : decode b_Lp_init 13 = .ok (.putfield 14, 3) := by decide +kernel
theorem d_Lp_init_16 : decode b_Lp_init 16 = .ok (.aload_n 0, 1) := by decide +kernel
theorem d_Lp_init_17 : decode b_Lp_init 17 = .ok (.iconst 3, 1) := by decide +kernel
theorem d_Lp_init_18 : decode b_Lp_init 18 = .ok (.anewarray 20, 3) := by decide +kernel
theorem d_Lp_init_21 : decode b_Lp_init 21 = .ok (.putfield 22, 3) := by decide +kernel
theorem d_Lp_init_24 : decode b_Lp_init 24 = .ok (.aload_n 0, 1) := by decide +kernel
theorem d_Lp_init_25 : decode b_Lp_init 25 = .ok (.iconst 3, 1) := by decide +kernel
theorem d_Lp_init_26 : decode b_Lp_init 26 = .ok (.newarray .long, 2) := by decide +kernel
theorem d_Lp_init_28 : decode b_Lp_init 28 = .ok (.putfield 26, 3) := by decide +kernel
theorem d_Lp_init_31 : decode b_Lp_init 31 = .ok (.aload_n 0, 1) := by decide +kernel
theorem d_Lp_init_32 : decode b_Lp_init 32 = .ok (.iconst 3, 1) := by decide +kernel
theorem d_Lp_init_33 : decode b_Lp_init 33 = .ok (.newarray .long, 2) := by decide +kernel
theorem d_Lp_init_35 : decode b_Lp_init 35 = .ok (.putfield 30, 3) := by decide +kernel
theorem d_Lp_init_38 : decode b_Lp_init 38 = .ok (.iconst 0, 1) := by decide +kernel
theorem d_Lp_init_39 : decode b_Lp_init 39 = .ok (.istore_n 1, 1) := by decide +kernel
theorem d_Lp_init_40 : decode b_Lp_init 40 = .ok (.iload_n 1, 1) := by decide +kernel
theorem d_Lp_init_41 : decode b_Lp_init 41 = .ok (.iconst 3, 1) := by decide +kernel
theorem d_Lp_init_42 : decode b_Lp_init 42 = .ok (.if_icmp .ge 22, 3) := by decide +kernel
theorem d_Lp_init_45 : decode b_Lp_init 45 = .ok (.aload_n 0, 1) := by decide +kernel
theorem d_Lp_init_46 : decode b_Lp_init 46 = .ok (.getfield 22, 3) := by decide +kernel
theorem d_Lp_init_49 : decode b_Lp_init 49 = .ok (.iload_n 1, 1) := by decide +kernel
theorem d_Lp_init_50 : decode b_Lp_init 50 = .ok (.new 20, 3) := by decide +kernel
theorem d_Lp_init_53 : decode b_Lp_init 53 = .ok (.dup, 1) := by decide +kernel
theorem d_Lp_init_54 : decode b_Lp_init 54 = .ok (.invokespecial 33, 3) := by decide +kernel
theorem d_Lp_init_57 : decode b_Lp_init 57 = .ok (.aastore, 1) := by decide +kernel
theorem d_Lp_init_58 : decode b_Lp_init 58 = .ok (.iinc 1 1, 3) := by decide +kernel
theorem d_Lp_init_61 : decode b_Lp_init 61 = .ok (.goto (-21), 3) := by decide +kernel
theorem d_Lp_init_64 : decode b_Lp_init 64 = .ok (.return_, 1) := by decide +kernel
theorem d_Rw_init_0 : decode b_Rw_init 0 = .ok (.aload_n 0, 1) := by decide +kernel
theorem d_Rw_init_1 : decode b_Rw_init 1 = .ok (.invokespecial 3, 3) := by decide +kernel
theorem d_Rw_init_4 : decode b_Rw_init 4 = .ok (.aload_n 0, 1) := by decide +kernel
theorem d_Rw_init_5 : decode b_Rw_init 5 = .ok (.iconst 0, 1) := by decide +kernel
theorem d_Rw_init_6 : decode b_Rw_init 6 = .ok (.iload_n 1, 1) := by decide +kernel
theorem d_Rw_init_7 : decode b_Rw_init 7 = .ok (.invokestatic 9, 3) := by decide +kernel
theorem d_Rw_init_10 : decode b_Rw_init 10 = .ok (.putfield 15, 3) := by decide +kernel
theorem d_Rw_init_13 : decode b_Rw_init 13 = .ok (.aload_n 0, 1) := by decide +kernel
theorem d_Rw_init_14 : decode b_Rw_init 14 = .ok (.iconst 4, 1) := by decide +kernel
theorem d_Rw_init_15 : decode b_Rw_init 15 = .ok (.aload_n 0, 1) := by decide +kernel
theorem d_Rw_init_16 : decode b_Rw_init 16 = .ok (.getfield 15, 3) := by decide +kernel
theorem d_Rw_init_19 : decode b_Rw_init 19 = .ok (.imul, 1) := by decide +kernel
theorem d_Rw_init_20 : decode b_Rw_init 20 = .ok (.newarray .int, 2) := by decide +kernel
theorem d_Rw_init_22 : decode b_Rw_init 22 = .ok (.putfield 21, 3) := by decide +kernel
theorem d_Rw_init_25 : decode b_Rw_init 25 = .ok (.return_, 1) := by decide +kernel
theorem d_Wy_init_0 : decode b_Wy_init 0 = .ok (.aload_n 0, 1) := by decide +kernel
theorem d_Wy_init_1 : decode b_Wy_init 1 = .ok (.invokespecial 3, 3) := by decide +kernel
theorem d_Wy_init_4 : decode b_Wy_init 4 = .ok (.aload_n 0, 1) := by decide +kernel
theorem d_Wy_init_5 : decode b_Wy_init 5 = .ok (.new 9, 3) := by decide +kernel
theorem d_Wy_init_8 : decode b_Wy_init 8 = .ok (.dup, 1) := by decide +kernel
theorem d_Wy_init_9 : decode b_Wy_init 9 = .ok (.iconst 2, 1) := by decide +kernel
theorem d_Wy_init_10 : decode b_Wy_init 10 = .ok (.invokespecial 11, 3) := by decide +kernel
theorem d_Wy_init_13 : decode b_Wy_init 13 = .ok (.putfield 14, 3) := by decide +kernel
theorem d_Wy_init_16 : decode b_Wy_init 16 = .ok (.aload_n 0, 1) := by decide +kernel
theorem d_Wy_init_17 : decode b_Wy_init 17 = .ok (.bipush 9, 2) := by decide +kernel
theorem d_Wy_init_19 : decode b_Wy_init 19 = .ok (.newarray .int, 2) := by decide +kernel
theorem d_Wy_init_21 : decode b_Wy_init 21 = .ok (.putfield 20, 3) := by decide +kernel
theorem d_Wy_init_24 : decode b_Wy_init 24 = .ok (.aload_n 0, 1) := by decide +kernel
theorem d_Wy_init_25 : decode b_Wy_init 25 = .ok (.iconst 3, 1) := by decide +kernel
theorem d_Wy_init_26 : decode b_Wy_init 26 = .ok (.newarray .int, 2) := by decide +kernel
theorem d_Wy_init_28 : decode b_Wy_init 28 = .ok (.putfield 24, 3) := by decide +kernel
theorem d_Wy_init_31 : decode b_Wy_init 31 = .ok (.return_, 1) := by decide +kernel
theorem d_Sp_init_0 : decode b_Sp_init 0 = .ok (.aload_n 0, 1) := by decide +kernel
theorem d_Sp_init_1 : decode b_Sp_init 1 = .ok (.invokespecial 3, 3) := by decide +kernel
theorem d_Sp_init_4 : decode b_Sp_init 4 = .ok (.aload_n 0, 1) := by decide +kernel
theorem d_Sp_init_5 : decode b_Sp_init 5 = .ok (.bipush 12, 2) := by decide +kernel
theorem d_Sp_init_7 : decode b_Sp_init 7 = .ok (.newarray .long, 2) := by decide +kernel
theorem d_Sp_init_9 : decode b_Sp_init 9 = .ok (.putfield 9, 3) := by decide +kernel
theorem d_Sp_init_12 : decode b_Sp_init 12 = .ok (.aload_n 0, 1) := by decide +kernel
theorem d_Sp_init_13 : decode b_Sp_init 13 = .ok (.sipush 128, 3) := by decide +kernel
theorem d_Sp_init_16 : decode b_Sp_init 16 = .ok (.newarray .long, 2) := by decide +kernel
theorem d_Sp_init_18 : decode b_Sp_init 18 = .ok (.putfield 15, 3) := by decide +kernel
theorem d_Sp_init_21 : decode b_Sp_init 21 = .ok (.aload_n 0, 1) := by decide +kernel
theorem d_Sp_init_22 : decode b_Sp_init 22 = .ok (.bipush 32, 2) := by decide +kernel
theorem d_Sp_init_24 : decode b_Sp_init 24 = .ok (.newarray .int, 2) := by decide +kernel
theorem d_Sp_init_26 : decode b_Sp_init 26 = .ok (.putfield 18, 3) := by decide +kernel
theorem d_Sp_init_29 : decode b_Sp_init 29 = .ok (.aload_n 0, 1) := by decide +kernel
theorem d_Sp_init_30 : decode b_Sp_init 30 = .ok (.bipush 32, 2) := by decide +kernel
theorem d_Sp_init_32 : decode b_Sp_init 32 = .ok (.newarray .long, 2) := by decide +kernel
theorem d_Sp_init_34 : decode b_Sp_init 34 = .ok (.putfield 22, 3) := by decide +kernel
theorem d_Sp_init_37 : decode b_Sp_init 37 = .ok (.aload_n 0, 1) := by decide +kernel
theorem d_Sp_init_38 : decode b_Sp_init 38 = .ok (.iconst 4, 1) := by decide +kernel
theorem d_Sp_init_39 : decode b_Sp_init 39 = .ok (.newarray .long, 2) := by decide +kernel
theorem d_Sp_init_41 : decode b_Sp_init 41 = .ok (.putfield 25, 3) := by decide +kernel
theorem d_Sp_init_44 : decode b_Sp_init 44 = .ok (.return_, 1) := by decide +kernel
theorem d_FT_loop_0 : decode b_FT_loop 0 = .ok (.iload_n 1, 1) := by decide +kernel
theorem d_FT_loop_1 : decode b_FT_loop 1 = .ok (.iconst 1, 1) := by decide +kernel
theorem d_FT_loop_2 : decode b_FT_loop 2 = .ok (.if_icmp .lt 8, 3) := by decide +kernel
theorem d_FT_loop_5 : decode b_FT_loop 5 = .ok (.iload_n 1, 1) := by decide +kernel
theorem d_FT_loop_6 : decode b_FT_loop 6 = .ok (.iconst 3, 1) := by decide +kernel
theorem d_FT_loop_7 : decode b_FT_loop 7 = .ok (.if_icmp .le 6, 3) := by decide +kernel
theorem d_FT_loop_10 : decode b_FT_loop 10 = .ok (.bipush (-3), 2) := by decide +kernel
theorem d_FT_loop_12 : decode b_FT_loop 12 = .ok (.ireturn, 1) := by decide +kernel
theorem d_FT_loop_13 : decode b_FT_loop 13 = .ok (.aload_n 0, 1) := by decide +kernel
theorem d_FT_loop_14 : decode b_FT_loop 14 = .ok (.getfield 50, 3) := by decide +kernel
theorem d_FT_loop_17 : decode b_FT_loop 17 = .ok (.bipush 8, 2) := by decide +kernel
theorem d_FT_loop_19 : decode b_FT_loop 19 = .ok (.if_icmp .lt 6, 3) := by decide +kernel
theorem d_FT_loop_22 : decode b_FT_loop 22 = .ok (.bipush (-4), 2) := by decide +kernel
theorem d_FT_loop_24 : decode b_FT_loop 24 = .ok (.ireturn, 1) := by decide +kernel
theorem d_FT_loop_25 : decode b_FT_loop 25 = .ok (.aload_n 0, 1) := by decide +kernel
theorem d_FT_loop_26 : decode b_FT_loop 26 = .ok (.getfield 11, 3) := by decide +kernel
theorem d_FT_loop_29 : decode b_FT_loop 29 = .ok (.aload_n 0, 1) := by decide +kernel
theorem d_FT_loop_30 : decode b_FT_loop 30 = .ok (.getfield 50, 3) := by decide +kernel
theorem d_FT_loop_33 : decode b_FT_loop 33 = .ok (.aaload, 1) := by decide +kernel
theorem d_FT_loop_34 : decode b_FT_loop 34 = .ok (.iload_n 1, 1) := by decide +kernel
theorem d_FT_loop_35 : decode b_FT_loop 35 = .ok (.invokevirtual 54, 3) := by decide +kernel
theorem d_FT_loop_38 : decode b_FT_loop 38 = .ok (.aload_n 0, 1) := by decide +kernel
theorem d_FT_loop_39 : decode b_FT_loop 39 = .ok (.dup, 1) := by decide +kernel
theorem d_FT_loop_40 : decode b_FT_loop 40 = .ok (.getfield 50, 3) := by decide +kernel
theorem d_FT_loop_43 : decode b_FT_loop 43 = .ok (.iconst 1, 1) := by decide +kernel
theorem d_FT_loop_44 : decode b_FT_loop 44 = .ok (.iadd, 1) := by decide +kernel
theorem d_FT_loop_45 : decode b_FT_loop 45 = .ok (.putfield 50, 3) := by decide +kernel
theorem d_FT_loop_48 : decode b_FT_loop 48 = .ok (.aload_n 0, 1) := by decide +kernel
theorem d_FT_loop_49 : decode b_FT_loop 49 = .ok (.getfield 50, 3) := by decide +kernel
theorem d_FT_loop_52 : decode b_FT_loop 52 = .ok (.iconst 1, 1) := by decide +kernel
theorem d_FT_loop_53 : decode b_FT_loop 53 = .ok (.isub, 1) := by decide +kernel
theorem d_FT_loop_54 : decode b_FT_loop 54 = .ok (.ireturn, 1) := by decide +kernel
theorem d_Lp_begin_0 : decode b_Lp_begin 0 = .ok (.aload_n 0, 1) := by decide +kernel
theorem d_Lp_begin_1 : decode b_Lp_begin 1 = .ok (.iload_n 1, 1) := by decide +kernel
theorem d_Lp_begin_2 : decode b_Lp_begin 2 = .ok (.putfield 34, 3) := by decide +kernel
theorem d_Lp_begin_5 : decode b_Lp_begin 5 = .ok (.aload_n 0, 1) := by decide +kernel
theorem d_Lp_begin_6 : decode b_Lp_begin 6 = .ok (.getfield 14, 3) := by decide +kernel
theorem d_Lp_begin_9 : decode b_Lp_begin 9 = .ok (.iconst 0, 1) := by decide +kernel
theorem d_Lp_begin_10 : decode b_Lp_begin 10 = .ok (.putfield 38, 3) := by decide +kernel
theorem d_Lp_begin_13 : decode b_Lp_begin 13 = .ok (.aload_n 0, 1) := by decide +kernel
theorem d_Lp_begin_14 : decode b_Lp_begin 14 = .ok (.iconst 0, 1) := by decide +kernel
theorem d_Lp_begin_15 : decode b_Lp_begin 15 = .ok (.putfield 41, 3) := by decide +kernel
theorem d_Lp_begin_18 : decode b_Lp_begin 18 = .ok (.iconst 0, 1) := by decide +kernel
theorem d_Lp_begin_19 : decode b_Lp_begin 19 = .ok (.istore_n 2, 1) := by decide +kernel
theorem d_Lp_begin_20 : decode b_Lp_begin 20 = .ok (.iload_n 2, 1) := by decide +kernel
theorem d_Lp_begin_21 : decode b_Lp_begin 21 = .ok (.iconst 3, 1) := by decide +kernel
theorem d_Lp_begin_22 : decode b_Lp_begin 22 = .ok (.if_icmp .ge 16, 3) := by decide +kernel
theorem d_Lp_begin_25 : decode b_Lp_begin 25 = .ok (.aload_n 0, 1) := by decide +kernel
theorem d_Lp_begin_26 : decode b_Lp_begin 26 = .ok (.getfield 26, 3) := by decide +kernel
theorem d_Lp_begin_29 : decode b_Lp_begin 29 = .ok (.iload_n 2, 1) := by decide +kernel
theorem d_Lp_begin_30 : decode b_Lp_begin 30 = .ok (.lconst 0, 1) := by decide +kernel
theorem d_Lp_begin_31 : decode b_Lp_begin 31 = .ok (.lastore, 1) := by decide +kernel
theorem d_Lp_begin_32 : decode b_Lp_begin 32 = .ok (.iinc 2 1, 3) := by decide +kernel
theorem d_Lp_begin_35 : decode b_Lp_begin 35 = .ok (.goto (-15), 3) := by decide +kernel
theorem d_Lp_begin_38 : decode b_Lp_begin 38 = .ok (.return_, 1) := by decide +kernel
theorem d_FT_clear_0 : decode b_FT_clear 0 = .ok (.aload_n 0, 1) := by decide +kernel
theorem d_FT_clear_1 : decode b_FT_clear 1 = .ok (.getfield 50, 3) := by decide +kernel
theorem d_FT_clear_4 : decode b_FT_clear 4 = .ok (.istore_n 1, 1) := by decide +kernel
theorem d_FT_clear_5 : decode b_FT_clear 5 = .ok (.aload_n 0, 1) := by decide +kernel
theorem d_FT_clear_6 : decode b_FT_clear 6 = .ok (.iconst 0, 1) := by decide +kernel
theorem d_FT_clear_7 : decode b_FT_clear 7 = .ok (.putfield 50, 3) := by decide +kernel
theorem d_FT_clear_10 : decode b_FT_clear 10 = .ok (.aload_n 0, 1) := by decide +kernel
theorem d_FT_clear_11 : decode b_FT_clear 11 = .ok (.getfield 27, 3) := by decide +kernel
theorem d_FT_clear_14 : decode b_FT_clear 14 = .ok (.invokevirtual 58, 3) := by decide +kernel
theorem d_FT_clear_17 : decode b_FT_clear 17 = .ok (.iload_n 1, 1) := by decide +kernel
theorem d_FT_clear_18 : decode b_FT_clear 18 = .ok (.ireturn, 1) := by decide +kernel
theorem d_Pf_forget_0 : decode b_Pf_forget 0 = .ok (.aload_n 0, 1) := by decide +kernel
theorem d_Pf_forget_1 : decode b_Pf_forget 1 = .ok (.iconst 0, 1) := by decide +kernel
theorem d_Pf_forget_2 : decode b_Pf_forget 2 = .ok (.putfield 15, 3) := by decide +kernel
theorem d_Pf_forget_5 : decode b_Pf_forget 5 = .ok (.aload_n 0, 1) := by decide +kernel
theorem d_Pf_forget_6 : decode b_Pf_forget 6 = .ok (.iconst 0, 1) := by decide +kernel
theorem d_Pf_forget_7 : decode b_Pf_forget 7 = .ok (.putfield 19, 3) := by decide +kernel
theorem d_Pf_forget_10 : decode b_Pf_forget 10 = .ok (.return_, 1) := by decide +kernel
theorem d_FT_guard_0 : decode b_FT_guard 0 = .ok (.aload_n 0, 1) := by decide +kernel
theorem d_FT_guard_1 : decode b_FT_guard 1 = .ok (.iload_n 1, 1) := by decide +kernel
theorem d_FT_guard_2 : decode b_FT_guard 2 = .ok (.invokevirtual 61, 3) := by decide +kernel
theorem d_FT_guard_5 : decode b_FT_guard 5 = .ok (.ifCond .ne 6, 3) := by decide +kernel
theorem d_FT_guard_8 : decode b_FT_guard 8 = .ok (.bipush (-2), 2) := by decide +kernel
theorem d_FT_guard_10 : decode b_FT_guard 10 = .ok (.ireturn, 1) := by decide +kernel
theorem d_FT_guard_11 : decode b_FT_guard 11 = .ok (.aload_n 0, 1) := by decide +kernel
theorem d_FT_guard_12 : decode b_FT_guard 12 = .ok (.iload_n 1, 1) := by decide +kernel
theorem d_FT_guard_13 : decode b_FT_guard 13 = .ok (.iload_n 2, 1) := by decide +kernel
theorem d_FT_guard_14 : decode b_FT_guard 14 = .ok (.iload_n 3, 1) := by decide +kernel
theorem d_FT_guard_15 : decode b_FT_guard 15 = .ok (.iload 4, 2) := by decide +kernel
theorem d_FT_guard_17 : decode b_FT_guard 17 = .ok (.iload 5, 2) := by decide +kernel
theorem d_FT_guard_19 : decode b_FT_guard 19 = .ok (.invokevirtual 65, 3) := by decide +kernel
theorem d_FT_guard_22 : decode b_FT_guard 22 = .ok (.ifCond .ne 6, 3) := by decide +kernel
theorem d_FT_guard_25 : decode b_FT_guard 25 = .ok (.bipush (-3), 2) := by decide +kernel
theorem d_FT_guard_27 : decode b_FT_guard 27 = .ok (.ireturn, 1) := by decide +kernel
theorem d_FT_guard_28 : decode b_FT_guard 28 = .ok (.aload_n 0, 1) := by decide +kernel
theorem d_FT_guard_29 : decode b_FT_guard 29 = .ok (.getfield 11, 3) := by decide +kernel
theorem d_FT_guard_32 : decode b_FT_guard 32 = .ok (.iload_n 1, 1) := by decide +kernel
theorem d_FT_guard_33 : decode b_FT_guard 33 = .ok (.aaload, 1) := by decide +kernel
theorem d_FT_guard_34 : decode b_FT_guard 34 = .ok (.getfield 69, 3) := by decide +kernel
theorem d_FT_guard_37 : decode b_FT_guard 37 = .ok (.iload_n 2, 1) := by decide +kernel
theorem d_FT_guard_38 : decode b_FT_guard 38 = .ok (.iload_n 3, 1) := by decide +kernel
theorem d_FT_guard_39 : decode b_FT_guard 39 = .ok (.iload 4, 2) := by decide +kernel
theorem d_FT_guard_41 : decode b_FT_guard 41 = .ok (.iload 5, 2) := by decide +kernel
theorem d_FT_guard_43 : decode b_FT_guard 43 = .ok (.invokevirtual 73, 3) := by decide +kernel
theorem d_FT_guard_46 : decode b_FT_guard 46 = .ok (.ireturn, 1) := by decide +kernel
theorem d_FT_isLoop_0 : decode b_FT_isLoop 0 = .ok (.iload_n 1, 1) := by decide +kernel
theorem d_FT_isLoop_1 : decode b_FT_isLoop 1 = .ok (.ifCond .lt 15, 3) := by decide +kernel
theorem d_FT_isLoop_4 : decode b_FT_isLoop 4 = .ok (.iload_n 1, 1) := by decide +kernel
theorem d_FT_isLoop_5 : decode b_FT_isLoop 5 = .ok (.aload_n 0, 1) := by decide +kernel
theorem d_FT_isLoop_6 : decode b_FT_isLoop 6 = .ok (.getfield 50, 3) := by decide +kernel
theorem d_FT_isLoop_9 : decode b_FT_isLoop 9 = .ok (.if_icmp .ge 7, 3) := by decide +kernel
theorem d_FT_isLoop_12 : decode b_FT_isLoop 12 = .ok (.iconst 1, 1) := by decide +kernel
theorem d_FT_isLoop_13 : decode b_FT_isLoop 13 = .ok (.goto 4, 3) := by decide +kernel
theorem d_FT_isLoop_16 : decode b_FT_isLoop 16 = .ok (.iconst 0, 1) := by decide +kernel
theorem d_FT_isLoop_17 : decode b_FT_isLoop 17 = .ok (.ireturn, 1) := by decide +kernel
theorem d_FT_rowFits_0 : decode b_FT_rowFits 0 = .ok (.aload_n 0, 1) := by decide +kernel
theorem d_FT_rowFits_1 : decode b_FT_rowFits 1 = .ok (.getfield 11, 3) := by decide +kernel
theorem d_FT_rowFits_4 : decode b_FT_rowFits 4 = .ok (.iload_n 1, 1) := by decide +kernel
theorem d_FT_rowFits_5 : decode b_FT_rowFits 5 = .ok (.aaload, 1) := by decide +kernel
theorem d_FT_rowFits_6 : decode b_FT_rowFits 6 = .ok (.getfield 108, 3) := by decide +kernel
theorem d_FT_rowFits_9 : decode b_FT_rowFits 9 = .ok (.iload_n 2, 1) := by decide +kernel
theorem d_FT_rowFits_10 : decode b_FT_rowFits 10 = .ok (.iload_n 3, 1) := by decide +kernel
theorem d_FT_rowFits_11 : decode b_FT_rowFits 11 = .ok (.iload 4, 2) := by decide +kernel
theorem d_FT_rowFits_13 : decode b_FT_rowFits 13 = .ok (.bipush 9, 2) := by decide +kernel
theorem d_FT_rowFits_15 : decode b_FT_rowFits 15 = .ok (.invokestatic 129, 3) := by decide +kernel
theorem d_FT_rowFits_18 : decode b_FT_rowFits 18 = .ok (.ifCond .eq 18, 3) := by decide +kernel
theorem d_FT_rowFits_21 : decode b_FT_rowFits 21 = .ok (.iload 5, 2) := by decide +kernel
theorem d_FT_rowFits_23 : decode b_FT_rowFits 23 = .ok (.sipush 1000, 3) := by decide +kernel
theorem d_FT_rowFits_26 : decode b_FT_rowFits 26 = .ok (.invokestatic 99, 3) := by decide +kernel
theorem d_FT_rowFits_29 : decode b_FT_rowFits 29 = .ok (.ifCond .eq 7, 3) := by decide +kernel
theorem d_FT_rowFits_32 : decode b_FT_rowFits 32 = .ok (.iconst 1, 1) := by decide +kernel
theorem d_FT_rowFits_33 : decode b_FT_rowFits 33 = .ok (.goto 4, 3) := by decide +kernel
theorem d_FT_rowFits_36 : decode b_FT_rowFits 36 = .ok (.iconst 0, 1) := by decide +kernel
theorem d_FT_rowFits_37 : decode b_FT_rowFits 37 = .ok (.ireturn, 1) := by decide +kernel
theorem d_FT_weightsFit_0 : decode b_FT_weightsFit 0 = .ok (.iload_n 1, 1) := by decide +kernel
theorem d_FT_weightsFit_1 : decode b_FT_weightsFit 1 = .ok (.iload 4, 2) := by decide +kernel
theorem d_FT_weightsFit_3 : decode b_FT_weightsFit 3 = .ok (.invokestatic 99, 3) := by decide +kernel
theorem d_FT_weightsFit_6 : decode b_FT_weightsFit 6 = .ok (.ifCond .eq 25, 3) := by decide +kernel
theorem d_FT_weightsFit_9 : decode b_FT_weightsFit 9 = .ok (.iload_n 2, 1) := by decide +kernel
theorem d_FT_weightsFit_10 : decode b_FT_weightsFit 10 = .ok (.iload 4, 2) := by decide +kernel
theorem d_FT_weightsFit_12 : decode b_FT_weightsFit 12 = .ok (.invokestatic 99, 3) := by decide +kernel
theorem d_FT_weightsFit_15 : decode b_FT_weightsFit 15 = .ok (.ifCond .eq 16, 3) := by decide +kernel
theorem d_FT_weightsFit_18 : decode b_FT_weightsFit 18 = .ok (.iload_n 3, 1) := by decide +kernel
theorem d_FT_weightsFit_19 : decode b_FT_weightsFit 19 = .ok (.iload 4, 2) := by decide +kernel
theorem d_FT_weightsFit_21 : decode b_FT_weightsFit 21 = .ok (.invokestatic 99, 3) := by decide +kernel
theorem d_FT_weightsFit_24 : decode b_FT_weightsFit 24 = .ok (.ifCond .eq 7, 3) := by decide +kernel
theorem d_FT_weightsFit_27 : decode b_FT_weightsFit 27 = .ok (.iconst 1, 1) := by decide +kernel
theorem d_FT_weightsFit_28 : decode b_FT_weightsFit 28 = .ok (.goto 4, 3) := by decide +kernel
theorem d_FT_weightsFit_31 : decode b_FT_weightsFit 31 = .ok (.iconst 0, 1) := by decide +kernel
theorem d_FT_weightsFit_32 : decode b_FT_weightsFit 32 = .ok (.istore 5, 2) := by decide +kernel
theorem d_FT_weightsFit_34 : decode b_FT_weightsFit 34 = .ok (.iload_n 2, 1) := by decide +kernel
theorem d_FT_weightsFit_35 : decode b_FT_weightsFit 35 = .ok (.ifCond .eq 8, 3) := by decide +kernel
theorem d_FT_weightsFit_38 : decode b_FT_weightsFit 38 = .ok (.iload_n 0, 1) := by decide +kernel
theorem d_FT_weightsFit_39 : decode b_FT_weightsFit 39 = .ok (.iconst 1, 1) := by decide +kernel
theorem d_FT_weightsFit_40 : decode b_FT_weightsFit 40 = .ok (.if_icmp .le 16, 3) := by decide +kernel
theorem d_FT_weightsFit_43 : decode b_FT_weightsFit 43 = .ok (.iload_n 3, 1) := by decide +kernel
theorem d_FT_weightsFit_44 : decode b_FT_weightsFit 44 = .ok (.ifCond .eq 8, 3) := by decide +kernel
theorem d_FT_weightsFit_47 : decode b_FT_weightsFit 47 = .ok (.iload_n 0, 1) := by decide +kernel
theorem d_FT_weightsFit_48 : decode b_FT_weightsFit 48 = .ok (.iconst 2, 1) := by decide +kernel
theorem d_FT_weightsFit_49 : decode b_FT_weightsFit 49 = .ok (.if_icmp .le 7, 3) := by decide +kernel
theorem d_FT_weightsFit_52 : decode b_FT_weightsFit 52 = .ok (.iconst 1, 1) := by decide +kernel
theorem d_FT_weightsFit_53 : decode b_FT_weightsFit 53 = .ok (.goto 4, 3) := by decide +kernel
theorem d_FT_weightsFit_56 : decode b_FT_weightsFit 56 = .ok (.iconst 0, 1) := by decide +kernel
theorem d_FT_weightsFit_57 : decode b_FT_weightsFit 57 = .ok (.istore 6, 2) := by decide +kernel
theorem d_FT_weightsFit_59 : decode b_FT_weightsFit 59 = .ok (.iload 5, 2) := by decide +kernel
theorem d_FT_weightsFit_61 : decode b_FT_weightsFit 61 = .ok (.ifCond .eq 24, 3) := by decide +kernel
theorem d_FT_weightsFit_64 : decode b_FT_weightsFit 64 = .ok (.iload 6, 2) := by decide +kernel
theorem d_FT_weightsFit_66 : decode b_FT_weightsFit 66 = .ok (.ifCond .eq 19, 3) := by decide +kernel
theorem d_FT_weightsFit_69 : decode b_FT_weightsFit 69 = .ok (.iload_n 1, 1) := by decide +kernel
theorem d_FT_weightsFit_70 : decode b_FT_weightsFit 70 = .ok (.ifCond .ne 11, 3) := by decide +kernel
theorem d_FT_weightsFit_73 : decode b_FT_weightsFit 73 = .ok (.iload_n 2, 1) := by decide +kernel
theorem d_FT_weightsFit_74 : decode b_FT_weightsFit 74 = .ok (.ifCond .ne 7, 3) := by decide +kernel
theorem d_FT_weightsFit_77 : decode b_FT_weightsFit 77 = .ok (.iload_n 3, 1) := by decide +kernel
theorem d_FT_weightsFit_78 : decode b_FT_weightsFit 78 = .ok (.ifCond .eq 7, 3) := by decide +kernel
theorem d_FT_weightsFit_81 : decode b_FT_weightsFit 81 = .ok (.iconst 1, 1) := by decide +kernel
theorem d_FT_weightsFit_82 : decode b_FT_weightsFit 82 = .ok (.goto 4, 3) := by decide +kernel
theorem d_FT_weightsFit_85 : decode b_FT_weightsFit 85 = .ok (.iconst 0, 1) := by decide +kernel
theorem d_FT_weightsFit_86 : decode b_FT_weightsFit 86 = .ok (.ireturn, 1) := by decide +kernel
theorem d_FT_within_0 : decode b_FT_within 0 = .ok (.iload_n 0, 1) := by decide +kernel
theorem d_FT_within_1 : decode b_FT_within 1 = .ok (.iload_n 1, 1) := by decide +kernel
theorem d_FT_within_2 : decode b_FT_within 2 = .ok (.ineg, 1) := by decide +kernel
theorem d_FT_within_3 : decode b_FT_within 3 = .ok (.if_icmp .lt 12, 3) := by decide +kernel
theorem d_FT_within_6 : decode b_FT_within 6 = .ok (.iload_n 0, 1) := by decide +kernel
theorem d_FT_within_7 : decode b_FT_within 7 = .ok (.iload_n 1, 1) := by decide +kernel
theorem d_FT_within_8 : decode b_FT_within 8 = .ok (.if_icmp .gt 7, 3) := by decide +kernel
theorem d_FT_within_11 : decode b_FT_within 11 = .ok (.iconst 1, 1) := by decide +kernel
theorem d_FT_within_12 : decode b_FT_within 12 = .ok (.goto 4, 3) := by decide +kernel
theorem d_FT_within_15 : decode b_FT_within 15 = .ok (.iconst 0, 1) := by decide +kernel
theorem d_FT_within_16 : decode b_FT_within 16 = .ok (.ireturn, 1) := by decide +kernel
theorem d_Rw_append_0 : decode b_Rw_append 0 = .ok (.aload_n 0, 1) := by decide +kernel
theorem d_Rw_append_1 : decode b_Rw_append 1 = .ok (.getfield 25, 3) := by decide +kernel
theorem d_Rw_append_4 : decode b_Rw_append 4 = .ok (.aload_n 0, 1) := by decide +kernel
theorem d_Rw_append_5 : decode b_Rw_append 5 = .ok (.getfield 15, 3) := by decide +kernel
theorem d_Rw_append_8 : decode b_Rw_append 8 = .ok (.if_icmp .lt 6, 3) := by decide +kernel
theorem d_Rw_append_11 : decode b_Rw_append 11 = .ok (.bipush (-4), 2) := by decide +kernel
theorem d_Rw_append_13 : decode b_Rw_append 13 = .ok (.ireturn, 1) := by decide +kernel
theorem d_Rw_append_14 : decode b_Rw_append 14 = .ok (.iconst 4, 1) := by decide +kernel
theorem d_Rw_append_15 : decode b_Rw_append 15 = .ok (.aload_n 0, 1) := by decide +kernel
theorem d_Rw_append_16 : decode b_Rw_append 16 = .ok (.getfield 25, 3) := by decide +kernel
theorem d_Rw_append_19 : decode b_Rw_append 19 = .ok (.imul, 1) := by decide +kernel
theorem d_Rw_append_20 : decode b_Rw_append 20 = .ok (.istore 5, 2) := by decide +kernel
theorem d_Rw_append_22 : decode b_Rw_append 22 = .ok (.aload_n 0, 1) := by decide +kernel
theorem d_Rw_append_23 : decode b_Rw_append 23 = .ok (.getfield 21, 3) := by decide +kernel
theorem d_Rw_append_26 : decode b_Rw_append 26 = .ok (.iload 5, 2) := by decide +kernel
theorem d_Rw_append_28 : decode b_Rw_append 28 = .ok (.iload_n 1, 1) := by decide +kernel
theorem d_Rw_append_29 : decode b_Rw_append 29 = .ok (.iastore, 1) := by decide +kernel
theorem d_Rw_append_30 : decode b_Rw_append 30 = .ok (.aload_n 0, 1) := by decide +kernel
theorem d_Rw_append_31 : decode b_Rw_append 31 = .ok (.getfield 21, 3) := by decide +kernel
theorem d_Rw_append_34 : decode b_Rw_append 34 = .ok (.iload 5, 2) := by decide +kernel
theorem d_Rw_append_36 : decode b_Rw_append 36 = .ok (.iconst 1, 1) := by decide +kernel
theorem d_Rw_append_37 : decode b_Rw_append 37 = .ok (.iadd, 1) := by decide +kernel
theorem d_Rw_append_38 : decode b_Rw_append 38 = .ok (.iload_n 2, 1) := by decide +kernel
theorem d_Rw_append_39 : decode b_Rw_append 39 = .ok (.iastore, 1) := by decide +kernel
theorem d_Rw_append_40 : decode b_Rw_append 40 = .ok (.aload_n 0, 1) := by decide +kernel
theorem d_Rw_append_41 : decode b_Rw_append 41 = .ok (.getfield 21, 3) := by decide +kernel
theorem d_Rw_append_44 : decode b_Rw_append 44 = .ok (.iload 5, 2) := by decide +kernel
theorem d_Rw_append_46 : decode b_Rw_append 46 = .ok (.iconst 2, 1) := by decide +kernel
theorem d_Rw_append_47 : decode b_Rw_append 47 = .ok (.iadd, 1) := by decide +kernel
theorem d_Rw_append_48 : decode b_Rw_append 48 = .ok (.iload_n 3, 1) := by decide +kernel
theorem d_Rw_append_49 : decode b_Rw_append 49 = .ok (.iastore, 1) := by decide +kernel
theorem d_Rw_append_50 : decode b_Rw_append 50 = .ok (.aload_n 0, 1) := by decide +kernel
theorem d_Rw_append_51 : decode b_Rw_append 51 = .ok (.getfield 21, 3) := by decide +kernel
theorem d_Rw_append_54 : decode b_Rw_append 54 = .ok (.iload 5, 2) := by decide +kernel
theorem d_Rw_append_56 : decode b_Rw_append 56 = .ok (.iconst 3, 1) := by decide +kernel
theorem d_Rw_append_57 : decode b_Rw_append 57 = .ok (.iadd, 1) := by decide +kernel
theorem d_Rw_append_58 : decode b_Rw_append 58 = .ok (.iload 4, 2) := by decide +kernel
theorem d_Rw_append_60 : decode b_Rw_append 60 = .ok (.iastore, 1) := by decide +kernel
theorem d_Rw_append_61 : decode b_Rw_append 61 = .ok (.aload_n 0, 1) := by decide +kernel
theorem d_Rw_append_62 : decode b_Rw_append 62 = .ok (.dup, 1) := by decide +kernel
theorem d_Rw_append_63 : decode b_Rw_append 63 = .ok (.getfield 25, 3) := by decide +kernel
theorem d_Rw_append_66 : decode b_Rw_append 66 = .ok (.iconst 1, 1) := by decide +kernel
theorem d_Rw_append_67 : decode b_Rw_append 67 = .ok (.iadd, 1) := by decide +kernel
theorem d_Rw_append_68 : decode b_Rw_append 68 = .ok (.putfield 25, 3) := by decide +kernel
theorem d_Rw_append_71 : decode b_Rw_append 71 = .ok (.aload_n 0, 1) := by decide +kernel
theorem d_Rw_append_72 : decode b_Rw_append 72 = .ok (.getfield 25, 3) := by decide +kernel
theorem d_Rw_append_75 : decode b_Rw_append 75 = .ok (.ireturn, 1) := by decide +kernel
theorem d_FT_way_0 : decode b_FT_way 0 = .ok (.aload_n 0, 1) := by decide +kernel
theorem d_FT_way_1 : decode b_FT_way 1 = .ok (.iload_n 1, 1) := by decide +kernel
theorem d_FT_way_2 : decode b_FT_way 2 = .ok (.invokevirtual 61, 3) := by decide +kernel
theorem d_FT_way_5 : decode b_FT_way 5 = .ok (.ifCond .eq 15, 3) := by decide +kernel
theorem d_FT_way_8 : decode b_FT_way 8 = .ok (.aload_n 0, 1) := by decide +kernel
theorem d_FT_way_9 : decode b_FT_way 9 = .ok (.getfield 11, 3) := by decide +kernel
theorem d_FT_way_12 : decode b_FT_way 12 = .ok (.iload_n 1, 1) := by decide +kernel
theorem d_FT_way_13 : decode b_FT_way 13 = .ok (.aaload, 1) := by decide +kernel
theorem d_FT_way_14 : decode b_FT_way 14 = .ok (.invokevirtual 79, 3) := by decide +kernel
theorem d_FT_way_17 : decode b_FT_way 17 = .ok (.goto 5, 3) := by decide +kernel
theorem d_FT_way_20 : decode b_FT_way 20 = .ok (.bipush (-2), 2) := by decide +kernel
theorem d_FT_way_22 : decode b_FT_way 22 = .ok (.ireturn, 1) := by decide +kernel
theorem d_Lp_appendWay_0 : decode b_Lp_appendWay 0 = .ok (.aload_n 0, 1) := by decide +kernel
theorem d_Lp_appendWay_1 : decode b_Lp_appendWay 1 = .ok (.getfield 41, 3) := by decide +kernel
theorem d_Lp_appendWay_4 : decode b_Lp_appendWay 4 = .ok (.iconst 3, 1) := by decide +kernel
theorem d_Lp_appendWay_5 : decode b_Lp_appendWay 5 = .ok (.if_icmp .lt 6, 3) := by decide +kernel
theorem d_Lp_appendWay_8 : decode b_Lp_appendWay 8 = .ok (.bipush (-4), 2) := by decide +kernel
theorem d_Lp_appendWay_10 : decode b_Lp_appendWay 10 = .ok (.ireturn, 1) := by decide +kernel
theorem d_Lp_appendWay_11 : decode b_Lp_appendWay 11 = .ok (.aload_n 0, 1) := by decide +kernel
theorem d_Lp_appendWay_12 : decode b_Lp_appendWay 12 = .ok (.getfield 22, 3) := by decide +kernel
theorem d_Lp_appendWay_15 : decode b_Lp_appendWay 15 = .ok (.aload_n 0, 1) := by decide +kernel
theorem d_Lp_appendWay_16 : decode b_Lp_appendWay 16 = .ok (.getfield 41, 3) := by decide +kernel
theorem d_Lp_appendWay_19 : decode b_Lp_appendWay 19 = .ok (.aaload, 1) := by decide +kernel
theorem d_Lp_appendWay_20 : decode b_Lp_appendWay 20 = .ok (.invokevirtual 44, 3) := by decide +kernel
theorem d_Lp_appendWay_23 : decode b_Lp_appendWay 23 = .ok (.aload_n 0, 1) := by decide +kernel
theorem d_Lp_appendWay_24 : decode b_Lp_appendWay 24 = .ok (.dup, 1) := by decide +kernel
theorem d_Lp_appendWay_25 : decode b_Lp_appendWay 25 = .ok (.getfield 41, 3) := by decide +kernel
theorem d_Lp_appendWay_28 : decode b_Lp_appendWay 28 = .ok (.iconst 1, 1) := by decide +kernel
theorem d_Lp_appendWay_29 : decode b_Lp_appendWay 29 = .ok (.iadd, 1) := by decide +kernel
theorem d_Lp_appendWay_30 : decode b_Lp_appendWay 30 = .ok (.putfield 41, 3) := by decide +kernel
theorem d_Lp_appendWay_33 : decode b_Lp_appendWay 33 = .ok (.aload_n 0, 1) := by decide +kernel
theorem d_Lp_appendWay_34 : decode b_Lp_appendWay 34 = .ok (.getfield 41, 3) := by decide +kernel
theorem d_Lp_appendWay_37 : decode b_Lp_appendWay 37 = .ok (.iconst 1, 1) := by decide +kernel
theorem d_Lp_appendWay_38 : decode b_Lp_appendWay 38 = .ok (.isub, 1) := by decide +kernel
theorem d_Lp_appendWay_39 : decode b_Lp_appendWay 39 = .ok (.ireturn, 1) := by decide +kernel
theorem d_Wy_begin_0 : decode b_Wy_begin 0 = .ok (.aload_n 0, 1) := by decide +kernel
theorem d_Wy_begin_1 : decode b_Wy_begin 1 = .ok (.getfield 14, 3) := by decide +kernel
theorem d_Wy_begin_4 : decode b_Wy_begin 4 = .ok (.iconst 0, 1) := by decide +kernel
theorem d_Wy_begin_5 : decode b_Wy_begin 5 = .ok (.putfield 27, 3) := by decide +kernel
theorem d_Wy_begin_8 : decode b_Wy_begin 8 = .ok (.iconst 0, 1) := by decide +kernel
theorem d_Wy_begin_9 : decode b_Wy_begin 9 = .ok (.istore_n 1, 1) := by decide +kernel
theorem d_Wy_begin_10 : decode b_Wy_begin 10 = .ok (.iload_n 1, 1) := by decide +kernel
theorem d_Wy_begin_11 : decode b_Wy_begin 11 = .ok (.iconst 3, 1) := by decide +kernel
theorem d_Wy_begin_12 : decode b_Wy_begin 12 = .ok (.if_icmp .ge 49, 3) := by decide +kernel
theorem d_Wy_begin_15 : decode b_Wy_begin 15 = .ok (.aload_n 0, 1) := by decide +kernel
theorem d_Wy_begin_16 : decode b_Wy_begin 16 = .ok (.getfield 24, 3) := by decide +kernel
theorem d_Wy_begin_19 : decode b_Wy_begin 19 = .ok (.iload_n 1, 1) := by decide +kernel
theorem d_Wy_begin_20 : decode b_Wy_begin 20 = .ok (.iconst 0, 1) := by decide +kernel
theorem d_Wy_begin_21 : decode b_Wy_begin 21 = .ok (.iastore, 1) := by decide +kernel
theorem d_Wy_begin_22 : decode b_Wy_begin 22 = .ok (.iconst 0, 1) := by decide +kernel
theorem d_Wy_begin_23 : decode b_Wy_begin 23 = .ok (.istore_n 2, 1) := by decide +kernel
theorem d_Wy_begin_24 : decode b_Wy_begin 24 = .ok (.iload_n 2, 1) := by decide +kernel
theorem d_Wy_begin_25 : decode b_Wy_begin 25 = .ok (.iconst 3, 1) := by decide +kernel
theorem d_Wy_begin_26 : decode b_Wy_begin 26 = .ok (.if_icmp .ge 29, 3) := by decide +kernel
theorem d_Wy_begin_29 : decode b_Wy_begin 29 = .ok (.aload_n 0, 1) := by decide +kernel
theorem d_Wy_begin_30 : decode b_Wy_begin 30 = .ok (.getfield 20, 3) := by decide +kernel
theorem d_Wy_begin_33 : decode b_Wy_begin 33 = .ok (.iconst 3, 1) := by decide +kernel
theorem d_Wy_begin_34 : decode b_Wy_begin 34 = .ok (.iload_n 1, 1) := by decide +kernel
theorem d_Wy_begin_35 : decode b_Wy_begin 35 = .ok (.imul, 1) := by decide +kernel
theorem d_Wy_begin_36 : decode b_Wy_begin 36 = .ok (.iload_n 2, 1) := by decide +kernel
theorem d_Wy_begin_37 : decode b_Wy_begin 37 = .ok (.iadd, 1) := by decide +kernel
theorem d_Wy_begin_38 : decode b_Wy_begin 38 = .ok (.iload_n 1, 1) := by decide +kernel
theorem d_Wy_begin_39 : decode b_Wy_begin 39 = .ok (.iload_n 2, 1) := by decide +kernel
theorem d_Wy_begin_40 : decode b_Wy_begin 40 = .ok (.if_icmp .ne 7, 3) := by decide +kernel
theorem d_Wy_begin_43 : decode b_Wy_begin 43 = .ok (.iconst 1, 1) := by decide +kernel
theorem d_Wy_begin_44 : decode b_Wy_begin 44 = .ok (.goto 4, 3) := by decide +kernel
theorem d_Wy_begin_47 : decode b_Wy_begin 47 = .ok (.iconst 0, 1) := by decide +kernel
theorem d_Wy_begin_48 : decode b_Wy_begin 48 = .ok (.iastore, 1) := by decide +kernel
theorem d_Wy_begin_49 : decode b_Wy_begin 49 = .ok (.iinc 2 1, 3) := by decide +kernel
theorem d_Wy_begin_52 : decode b_Wy_begin 52 = .ok (.goto (-28), 3) := by decide +kernel
theorem d_Wy_begin_55 : decode b_Wy_begin 55 = .ok (.iinc 1 1, 3) := by decide +kernel
theorem d_Wy_begin_58 : decode b_Wy_begin 58 = .ok (.goto (-48), 3) := by decide +kernel
theorem d_Wy_begin_61 : decode b_Wy_begin 61 = .ok (.return_, 1) := by decide +kernel
theorem d_FT_row_0 : decode b_FT_row 0 = .ok (.aload_n 0, 1) := by decide +kernel
theorem d_FT_row_1 : decode b_FT_row 1 = .ok (.iload_n 1, 1) := by decide +kernel
theorem d_FT_row_2 : decode b_FT_row 2 = .ok (.iload_n 2, 1) := by decide +kernel
theorem d_FT_row_3 : decode b_FT_row 3 = .ok (.invokevirtual 83, 3) := by decide +kernel
theorem d_FT_row_6 : decode b_FT_row 6 = .ok (.ifCond .ne 6, 3) := by decide +kernel
theorem d_FT_row_9 : decode b_FT_row 9 = .ok (.bipush (-2), 2) := by decide +kernel
theorem d_FT_row_11 : decode b_FT_row 11 = .ok (.ireturn, 1) := by decide +kernel
theorem d_FT_row_12 : decode b_FT_row 12 = .ok (.aload_n 0, 1) := by decide +kernel
theorem d_FT_row_13 : decode b_FT_row 13 = .ok (.iload_n 1, 1) := by decide +kernel
theorem d_FT_row_14 : decode b_FT_row 14 = .ok (.iload_n 3, 1) := by decide +kernel
theorem d_FT_row_15 : decode b_FT_row 15 = .ok (.iload 4, 2) := by decide +kernel
theorem d_FT_row_17 : decode b_FT_row 17 = .ok (.iload 5, 2) := by decide +kernel
theorem d_FT_row_19 : decode b_FT_row 19 = .ok (.iload 6, 2) := by decide +kernel
theorem d_FT_row_21 : decode b_FT_row 21 = .ok (.invokevirtual 65, 3) := by decide +kernel
theorem d_FT_row_24 : decode b_FT_row 24 = .ok (.ifCond .ne 6, 3) := by decide +kernel
theorem d_FT_row_27 : decode b_FT_row 27 = .ok (.bipush (-3), 2) := by decide +kernel
theorem d_FT_row_29 : decode b_FT_row 29 = .ok (.ireturn, 1) := by decide +kernel
theorem d_FT_row_30 : decode b_FT_row 30 = .ok (.aload_n 0, 1) := by decide +kernel
theorem d_FT_row_31 : decode b_FT_row 31 = .ok (.getfield 11, 3) := by decide +kernel
theorem d_FT_row_34 : decode b_FT_row 34 = .ok (.iload_n 1, 1) := by decide +kernel
theorem d_FT_row_35 : decode b_FT_row 35 = .ok (.aaload, 1) := by decide +kernel
theorem d_FT_row_36 : decode b_FT_row 36 = .ok (.getfield 87, 3) := by decide +kernel
theorem d_FT_row_39 : decode b_FT_row 39 = .ok (.iload_n 2, 1) := by decide +kernel
theorem d_FT_row_40 : decode b_FT_row 40 = .ok (.aaload, 1) := by decide +kernel
theorem d_FT_row_41 : decode b_FT_row 41 = .ok (.getfield 91, 3) := by decide +kernel
theorem d_FT_row_44 : decode b_FT_row 44 = .ok (.iload_n 3, 1) := by decide +kernel
theorem d_FT_row_45 : decode b_FT_row 45 = .ok (.iload 4, 2) := by decide +kernel
theorem d_FT_row_47 : decode b_FT_row 47 = .ok (.iload 5, 2) := by decide +kernel
theorem d_FT_row_49 : decode b_FT_row 49 = .ok (.iload 6, 2) := by decide +kernel
theorem d_FT_row_51 : decode b_FT_row 51 = .ok (.invokevirtual 73, 3) := by decide +kernel
theorem d_FT_row_54 : decode b_FT_row 54 = .ok (.ireturn, 1) := by decide +kernel
theorem d_FT_isWay_0 : decode b_FT_isWay 0 = .ok (.aload_n 0, 1) := by decide +kernel
theorem d_FT_isWay_1 : decode b_FT_isWay 1 = .ok (.iload_n 1, 1) := by decide +kernel
theorem d_FT_isWay_2 : decode b_FT_isWay 2 = .ok (.invokevirtual 61, 3) := by decide +kernel
theorem d_FT_isWay_5 : decode b_FT_isWay 5 = .ok (.ifCond .eq 24, 3) := by decide +kernel
theorem d_FT_isWay_8 : decode b_FT_isWay 8 = .ok (.iload_n 2, 1) := by decide +kernel
theorem d_FT_isWay_9 : decode b_FT_isWay 9 = .ok (.ifCond .lt 20, 3) := by decide +kernel
theorem d_FT_isWay_12 : decode b_FT_isWay 12 = .ok (.iload_n 2, 1) := by decide +kernel
theorem d_FT_isWay_13 : decode b_FT_isWay 13 = .ok (.aload_n 0, 1) := by decide +kernel
theorem d_FT_isWay_14 : decode b_FT_isWay 14 = .ok (.getfield 11, 3) := by decide +kernel
theorem d_FT_isWay_17 : decode b_FT_isWay 17 = .ok (.iload_n 1, 1) := by decide +kernel
theorem d_FT_isWay_18 : decode b_FT_isWay 18 = .ok (.aaload, 1) := by decide +kernel
theorem d_FT_isWay_19 : decode b_FT_isWay 19 = .ok (.getfield 111, 3) := by decide +kernel
theorem d_FT_isWay_22 : decode b_FT_isWay 22 = .ok (.if_icmp .ge 7, 3) := by decide +kernel
theorem d_FT_isWay_25 : decode b_FT_isWay 25 = .ok (.iconst 1, 1) := by decide +kernel
theorem d_FT_isWay_26 : decode b_FT_isWay 26 = .ok (.goto 4, 3) := by decide +kernel
theorem d_FT_isWay_29 : decode b_FT_isWay 29 = .ok (.iconst 0, 1) := by decide +kernel
theorem d_FT_isWay_30 : decode b_FT_isWay 30 = .ok (.ireturn, 1) := by decide +kernel
theorem d_FT_factor_0 : decode b_FT_factor 0 = .ok (.aload_n 0, 1) := by decide +kernel
theorem d_FT_factor_1 : decode b_FT_factor 1 = .ok (.iload_n 1, 1) := by decide +kernel
theorem d_FT_factor_2 : decode b_FT_factor 2 = .ok (.iload_n 2, 1) := by decide +kernel
theorem d_FT_factor_3 : decode b_FT_factor 3 = .ok (.invokevirtual 83, 3) := by decide +kernel
theorem d_FT_factor_6 : decode b_FT_factor 6 = .ok (.ifCond .eq 22, 3) := by decide +kernel
theorem d_FT_factor_9 : decode b_FT_factor 9 = .ok (.aload_n 0, 1) := by decide +kernel
theorem d_FT_factor_10 : decode b_FT_factor 10 = .ok (.iload_n 1, 1) := by decide +kernel
theorem d_FT_factor_11 : decode b_FT_factor 11 = .ok (.iload_n 3, 1) := by decide +kernel
theorem d_FT_factor_12 : decode b_FT_factor 12 = .ok (.invokevirtual 96, 3) := by decide +kernel
theorem d_FT_factor_15 : decode b_FT_factor 15 = .ok (.ifCond .eq 13, 3) := by decide +kernel
theorem d_FT_factor_18 : decode b_FT_factor 18 = .ok (.aload_n 0, 1) := by decide +kernel
theorem d_FT_factor_19 : decode b_FT_factor 19 = .ok (.iload_n 1, 1) := by decide +kernel
theorem d_FT_factor_20 : decode b_FT_factor 20 = .ok (.iload 4, 2) := by decide +kernel
theorem d_FT_factor_22 : decode b_FT_factor 22 = .ok (.invokevirtual 96, 3) := by decide +kernel
theorem d_FT_factor_25 : decode b_FT_factor 25 = .ok (.ifCond .ne 6, 3) := by decide +kernel
theorem d_FT_factor_28 : decode b_FT_factor 28 = .ok (.bipush (-2), 2) := by decide +kernel
theorem d_FT_factor_30 : decode b_FT_factor 30 = .ok (.ireturn, 1) := by decide +kernel
theorem d_FT_factor_31 : decode b_FT_factor 31 = .ok (.iload 5, 2) := by decide +kernel
theorem d_FT_factor_33 : decode b_FT_factor 33 = .ok (.iconst 3, 1) := by decide +kernel
theorem d_FT_factor_34 : decode b_FT_factor 34 = .ok (.invokestatic 99, 3) := by decide +kernel
theorem d_FT_factor_37 : decode b_FT_factor 37 = .ok (.ifCond .ne 6, 3) := by decide +kernel
theorem d_FT_factor_40 : decode b_FT_factor 40 = .ok (.bipush (-3), 2) := by decide +kernel
theorem d_FT_factor_42 : decode b_FT_factor 42 = .ok (.ireturn, 1) := by decide +kernel
theorem d_FT_factor_43 : decode b_FT_factor 43 = .ok (.aload_n 0, 1) := by decide +kernel
theorem d_FT_factor_44 : decode b_FT_factor 44 = .ok (.getfield 11, 3) := by decide +kernel
theorem d_FT_factor_47 : decode b_FT_factor 47 = .ok (.iload_n 1, 1) := by decide +kernel
theorem d_FT_factor_48 : decode b_FT_factor 48 = .ok (.aaload, 1) := by decide +kernel
theorem d_FT_factor_49 : decode b_FT_factor 49 = .ok (.getfield 87, 3) := by decide +kernel
theorem d_FT_factor_52 : decode b_FT_factor 52 = .ok (.iload_n 2, 1) := by decide +kernel
theorem d_FT_factor_53 : decode b_FT_factor 53 = .ok (.aaload, 1) := by decide +kernel
theorem d_FT_factor_54 : decode b_FT_factor 54 = .ok (.getfield 102, 3) := by decide +kernel
theorem d_FT_factor_57 : decode b_FT_factor 57 = .ok (.astore 6, 2) := by decide +kernel
theorem d_FT_factor_59 : decode b_FT_factor 59 = .ok (.iconst 3, 1) := by decide +kernel
theorem d_FT_factor_60 : decode b_FT_factor 60 = .ok (.iload_n 3, 1) := by decide +kernel
theorem d_FT_factor_61 : decode b_FT_factor 61 = .ok (.imul, 1) := by decide +kernel
theorem d_FT_factor_62 : decode b_FT_factor 62 = .ok (.iload 4, 2) := by decide +kernel
theorem d_FT_factor_64 : decode b_FT_factor 64 = .ok (.iadd, 1) := by decide +kernel
theorem d_FT_factor_65 : decode b_FT_factor 65 = .ok (.istore 7, 2) := by decide +kernel
theorem d_FT_factor_67 : decode b_FT_factor 67 = .ok (.aload 6, 2) := by decide +kernel
theorem d_FT_factor_69 : decode b_FT_factor 69 = .ok (.iload 7, 2) := by decide +kernel
theorem d_FT_factor_71 : decode b_FT_factor 71 = .ok (.iaload, 1) := by decide +kernel
theorem d_FT_factor_72 : decode b_FT_factor 72 = .ok (.istore 8, 2) := by decide +kernel
theorem d_FT_factor_74 : decode b_FT_factor 74 = .ok (.aload 6, 2) := by decide +kernel
theorem d_FT_factor_76 : decode b_FT_factor 76 = .ok (.iload 7, 2) := by decide +kernel
theorem d_FT_factor_78 : decode b_FT_factor 78 = .ok (.iload 5, 2) := by decide +kernel
theorem d_FT_factor_80 : decode b_FT_factor 80 = .ok (.iastore, 1) := by decide +kernel
theorem d_FT_factor_81 : decode b_FT_factor 81 = .ok (.iload 8, 2) := by decide +kernel
theorem d_FT_factor_83 : decode b_FT_factor 83 = .ok (.iconst 3, 1) := by decide +kernel
theorem d_FT_factor_84 : decode b_FT_factor 84 = .ok (.iadd, 1) := by decide +kernel
theorem d_FT_factor_85 : decode b_FT_factor 85 = .ok (.ireturn, 1) := by decide +kernel
theorem d_FT_isName_0 : decode b_FT_isName 0 = .ok (.aload_n 0, 1) := by decide +kernel
theorem d_FT_isName_1 : decode b_FT_isName 1 = .ok (.iload_n 1, 1) := by decide +kernel
theorem d_FT_isName_2 : decode b_FT_isName 2 = .ok (.invokevirtual 61, 3) := by decide +kernel
theorem d_FT_isName_5 : decode b_FT_isName 5 = .ok (.ifCond .eq 24, 3) := by decide +kernel
theorem d_FT_isName_8 : decode b_FT_isName 8 = .ok (.iload_n 2, 1) := by decide +kernel
theorem d_FT_isName_9 : decode b_FT_isName 9 = .ok (.ifCond .lt 20, 3) := by decide +kernel
theorem d_FT_isName_12 : decode b_FT_isName 12 = .ok (.iload_n 2, 1) := by decide +kernel
theorem d_FT_isName_13 : decode b_FT_isName 13 = .ok (.aload_n 0, 1) := by decide +kernel
theorem d_FT_isName_14 : decode b_FT_isName 14 = .ok (.getfield 11, 3) := by decide +kernel
theorem d_FT_isName_17 : decode b_FT_isName 17 = .ok (.iload_n 1, 1) := by decide +kernel
theorem d_FT_isName_18 : decode b_FT_isName 18 = .ok (.aaload, 1) := by decide +kernel
theorem d_FT_isName_19 : decode b_FT_isName 19 = .ok (.getfield 108, 3) := by decide +kernel
theorem d_FT_isName_22 : decode b_FT_isName 22 = .ok (.if_icmp .ge 7, 3) := by decide +kernel
theorem d_FT_isName_25 : decode b_FT_isName 25 = .ok (.iconst 1, 1) := by decide +kernel
theorem d_FT_isName_26 : decode b_FT_isName 26 = .ok (.goto 4, 3) := by decide +kernel
theorem d_FT_isName_29 : decode b_FT_isName 29 = .ok (.iconst 0, 1) := by decide +kernel
theorem d_FT_isName_30 : decode b_FT_isName 30 = .ok (.ireturn, 1) := by decide +kernel
theorem d_FT_constant_0 : decode b_FT_constant 0 = .ok (.aload_n 0, 1) := by decide +kernel
theorem d_FT_constant_1 : decode b_FT_constant 1 = .ok (.iload_n 1, 1) := by decide +kernel
theorem d_FT_constant_2 : decode b_FT_constant 2 = .ok (.iload_n 2, 1) := by decide +kernel
theorem d_FT_constant_3 : decode b_FT_constant 3 = .ok (.invokevirtual 83, 3) := by decide +kernel
theorem d_FT_constant_6 : decode b_FT_constant 6 = .ok (.ifCond .eq 12, 3) := by decide +kernel
theorem d_FT_constant_9 : decode b_FT_constant 9 = .ok (.aload_n 0, 1) := by decide +kernel
theorem d_FT_constant_10 : decode b_FT_constant 10 = .ok (.iload_n 1, 1) := by decide +kernel
theorem d_FT_constant_11 : decode b_FT_constant 11 = .ok (.iload_n 3, 1) := by decide +kernel
theorem d_FT_constant_12 : decode b_FT_constant 12 = .ok (.invokevirtual 96, 3) := by decide +kernel
theorem d_FT_constant_15 : decode b_FT_constant 15 = .ok (.ifCond .ne 6, 3) := by decide +kernel
theorem d_FT_constant_18 : decode b_FT_constant 18 = .ok (.bipush (-2), 2) := by decide +kernel
theorem d_FT_constant_20 : decode b_FT_constant 20 = .ok (.ireturn, 1) := by decide +kernel
theorem d_FT_constant_21 : decode b_FT_constant 21 = .ok (.iload 4, 2) := by decide +kernel
theorem d_FT_constant_23 : decode b_FT_constant 23 = .ok (.bipush 99, 2) := by decide +kernel
theorem d_FT_constant_25 : decode b_FT_constant 25 = .ok (.invokestatic 99, 3) := by decide +kernel
theorem d_FT_constant_28 : decode b_FT_constant 28 = .ok (.ifCond .ne 6, 3) := by decide +kernel
theorem d_FT_constant_31 : decode b_FT_constant 31 = .ok (.bipush (-3), 2) := by decide +kernel
theorem d_FT_constant_33 : decode b_FT_constant 33 = .ok (.ireturn, 1) := by decide +kernel
theorem d_FT_constant_34 : decode b_FT_constant 34 = .ok (.aload_n 0, 1) := by decide +kernel
theorem d_FT_constant_35 : decode b_FT_constant 35 = .ok (.getfield 11, 3) := by decide +kernel
theorem d_FT_constant_38 : decode b_FT_constant 38 = .ok (.iload_n 1, 1) := by decide +kernel
theorem d_FT_constant_39 : decode b_FT_constant 39 = .ok (.aaload, 1) := by decide +kernel
theorem d_FT_constant_40 : decode b_FT_constant 40 = .ok (.getfield 87, 3) := by decide +kernel
theorem d_FT_constant_43 : decode b_FT_constant 43 = .ok (.iload_n 2, 1) := by decide +kernel
theorem d_FT_constant_44 : decode b_FT_constant 44 = .ok (.aaload, 1) := by decide +kernel
theorem d_FT_constant_45 : decode b_FT_constant 45 = .ok (.getfield 105, 3) := by decide +kernel
theorem d_FT_constant_48 : decode b_FT_constant 48 = .ok (.astore 5, 2) := by decide +kernel
theorem d_FT_constant_50 : decode b_FT_constant 50 = .ok (.aload 5, 2) := by decide +kernel
theorem d_FT_constant_52 : decode b_FT_constant 52 = .ok (.iload_n 3, 1) := by decide +kernel
theorem d_FT_constant_53 : decode b_FT_constant 53 = .ok (.iaload, 1) := by decide +kernel
theorem d_FT_constant_54 : decode b_FT_constant 54 = .ok (.istore 6, 2) := by decide +kernel
theorem d_FT_constant_56 : decode b_FT_constant 56 = .ok (.aload 5, 2) := by decide +kernel
theorem d_FT_constant_58 : decode b_FT_constant 58 = .ok (.iload_n 3, 1) := by decide +kernel
theorem d_FT_constant_59 : decode b_FT_constant 59 = .ok (.iload 4, 2) := by decide +kernel
theorem d_FT_constant_61 : decode b_FT_constant 61 = .ok (.iastore, 1) := by decide +kernel
theorem d_FT_constant_62 : decode b_FT_constant 62 = .ok (.iload 6, 2) := by decide +kernel
theorem d_FT_constant_64 : decode b_FT_constant 64 = .ok (.bipush 99, 2) := by decide +kernel
theorem d_FT_constant_66 : decode b_FT_constant 66 = .ok (.iadd, 1) := by decide +kernel
theorem d_FT_constant_67 : decode b_FT_constant 67 = .ok (.ireturn, 1) := by decide +kernel
theorem d_FT_told_0 : decode b_FT_told 0 = .ok (.aload_n 0, 1) := by decide +kernel
theorem d_FT_told_1 : decode b_FT_told 1 = .ok (.iload_n 1, 1) := by decide +kernel
theorem d_FT_told_2 : decode b_FT_told 2 = .ok (.invokevirtual 61, 3) := by decide +kernel
theorem d_FT_told_5 : decode b_FT_told 5 = .ok (.ifCond .ne 6, 3) := by decide +kernel
theorem d_FT_told_8 : decode b_FT_told 8 = .ok (.bipush (-2), 2) := by decide +kernel
theorem d_FT_told_10 : decode b_FT_told 10 = .ok (.ireturn, 1) := by decide +kernel
theorem d_FT_told_11 : decode b_FT_told 11 = .ok (.iload_n 2, 1) := by decide +kernel
theorem d_FT_told_12 : decode b_FT_told 12 = .ok (.tableswitch 61 0 2 #[28, 38, 48], 28) := by decide +kernel
theorem d_FT_told_40 : decode b_FT_told 40 = .ok (.aload_n 0, 1) := by decide +kernel
theorem d_FT_told_41 : decode b_FT_told 41 = .ok (.getfield 11, 3) := by decide +kernel
theorem d_FT_told_44 : decode b_FT_told 44 = .ok (.iload_n 1, 1) := by decide +kernel
theorem d_FT_told_45 : decode b_FT_told 45 = .ok (.aaload, 1) := by decide +kernel
theorem d_FT_told_46 : decode b_FT_told 46 = .ok (.getfield 108, 3) := by decide +kernel
theorem d_FT_told_49 : decode b_FT_told 49 = .ok (.ireturn, 1) := by decide +kernel
theorem d_FT_told_50 : decode b_FT_told 50 = .ok (.aload_n 0, 1) := by decide +kernel
theorem d_FT_told_51 : decode b_FT_told 51 = .ok (.getfield 11, 3) := by decide +kernel
theorem d_FT_told_54 : decode b_FT_told 54 = .ok (.iload_n 1, 1) := by decide +kernel
theorem d_FT_told_55 : decode b_FT_told 55 = .ok (.aaload, 1) := by decide +kernel
theorem d_FT_told_56 : decode b_FT_told 56 = .ok (.getfield 111, 3) := by decide +kernel
theorem d_FT_told_59 : decode b_FT_told 59 = .ok (.ireturn, 1) := by decide +kernel
theorem d_FT_told_60 : decode b_FT_told 60 = .ok (.aload_n 0, 1) := by decide +kernel
theorem d_FT_told_61 : decode b_FT_told 61 = .ok (.getfield 11, 3) := by decide +kernel
theorem d_FT_told_64 : decode b_FT_told 64 = .ok (.iload_n 1, 1) := by decide +kernel
theorem d_FT_told_65 : decode b_FT_told 65 = .ok (.aaload, 1) := by decide +kernel
theorem d_FT_told_66 : decode b_FT_told 66 = .ok (.getfield 69, 3) := by decide +kernel
theorem d_FT_told_69 : decode b_FT_told 69 = .ok (.getfield 114, 3) := by decide +kernel
theorem d_FT_told_72 : decode b_FT_told 72 = .ok (.ireturn, 1) := by decide +kernel
theorem d_FT_told_73 : decode b_FT_told 73 = .ok (.bipush (-3), 2) := by decide +kernel
theorem d_FT_told_75 : decode b_FT_told 75 = .ok (.ireturn, 1) := by decide +kernel
theorem d_FT_empty_0 : decode b_FT_empty 0 = .ok (.aload_n 0, 1) := by decide +kernel
theorem d_FT_empty_1 : decode b_FT_empty 1 = .ok (.iload_n 1, 1) := by decide +kernel
theorem d_FT_empty_2 : decode b_FT_empty 2 = .ok (.iload_n 2, 1) := by decide +kernel
theorem d_FT_empty_3 : decode b_FT_empty 3 = .ok (.invokevirtual 83, 3) := by decide +kernel
theorem d_FT_empty_6 : decode b_FT_empty 6 = .ok (.ifCond .ne 6, 3) := by decide +kernel
theorem d_FT_empty_9 : decode b_FT_empty 9 = .ok (.bipush (-2), 2) := by decide +kernel
theorem d_FT_empty_11 : decode b_FT_empty 11 = .ok (.ireturn, 1) := by decide +kernel
theorem d_FT_empty_12 : decode b_FT_empty 12 = .ok (.aload_n 0, 1) := by decide +kernel
theorem d_FT_empty_13 : decode b_FT_empty 13 = .ok (.iload_n 1, 1) := by decide +kernel
theorem d_FT_empty_14 : decode b_FT_empty 14 = .ok (.iload_n 2, 1) := by decide +kernel
theorem d_FT_empty_15 : decode b_FT_empty 15 = .ok (.invokevirtual 117, 3) := by decide +kernel
theorem d_FT_empty_18 : decode b_FT_empty 18 = .ok (.invokevirtual 121, 3) := by decide +kernel
theorem d_FT_empty_21 : decode b_FT_empty 21 = .ok (.ifCond .eq 7, 3) := by decide +kernel
theorem d_FT_empty_24 : decode b_FT_empty 24 = .ok (.iconst 1, 1) := by decide +kernel
theorem d_FT_empty_25 : decode b_FT_empty 25 = .ok (.goto 4, 3) := by decide +kernel
theorem d_FT_empty_28 : decode b_FT_empty 28 = .ok (.iconst 0, 1) := by decide +kernel
theorem d_FT_empty_29 : decode b_FT_empty 29 = .ok (.ireturn, 1) := by decide +kernel
theorem d_FT_spaceOf_0 : decode b_FT_spaceOf 0 = .ok (.aload_n 0, 1) := by decide +kernel
theorem d_FT_spaceOf_1 : decode b_FT_spaceOf 1 = .ok (.getfield 17, 3) := by decide +kernel
theorem d_FT_spaceOf_4 : decode b_FT_spaceOf 4 = .ok (.iload_n 2, 1) := by decide +kernel
theorem d_FT_spaceOf_5 : decode b_FT_spaceOf 5 = .ok (.aaload, 1) := by decide +kernel
theorem d_FT_spaceOf_6 : decode b_FT_spaceOf 6 = .ok (.aload_n 0, 1) := by decide +kernel
theorem d_FT_spaceOf_7 : decode b_FT_spaceOf 7 = .ok (.getfield 11, 3) := by decide +kernel
theorem d_FT_spaceOf_10 : decode b_FT_spaceOf 10 = .ok (.iload_n 1, 1) := by decide +kernel
theorem d_FT_spaceOf_11 : decode b_FT_spaceOf 11 = .ok (.aaload, 1) := by decide +kernel
theorem d_FT_spaceOf_12 : decode b_FT_spaceOf 12 = .ok (.iload_n 2, 1) := by decide +kernel
theorem d_FT_spaceOf_13 : decode b_FT_spaceOf 13 = .ok (.invokevirtual 192, 3) := by decide +kernel
theorem d_FT_spaceOf_16 : decode b_FT_spaceOf 16 = .ok (.aload_n 0, 1) := by decide +kernel
theorem d_FT_spaceOf_17 : decode b_FT_spaceOf 17 = .ok (.getfield 17, 3) := by decide +kernel
theorem d_FT_spaceOf_20 : decode b_FT_spaceOf 20 = .ok (.iload_n 2, 1) := by decide +kernel
theorem d_FT_spaceOf_21 : decode b_FT_spaceOf 21 = .ok (.aaload, 1) := by decide +kernel
theorem d_FT_spaceOf_22 : decode b_FT_spaceOf 22 = .ok (.areturn, 1) := by decide +kernel
theorem d_Sp_fill_0 : decode b_Sp_fill 0 = .ok (.aload_n 0, 1) := by decide +kernel
theorem d_Sp_fill_1 : decode b_Sp_fill 1 = .ok (.aload_n 1, 1) := by decide +kernel
theorem d_Sp_fill_2 : decode b_Sp_fill 2 = .ok (.getfield 28, 3) := by decide +kernel
theorem d_Sp_fill_5 : decode b_Sp_fill 5 = .ok (.invokevirtual 34, 3) := by decide +kernel
theorem d_Sp_fill_8 : decode b_Sp_fill 8 = .ok (.aload_n 1, 1) := by decide +kernel
theorem d_Sp_fill_9 : decode b_Sp_fill 9 = .ok (.getfield 38, 3) := by decide +kernel
theorem d_Sp_fill_12 : decode b_Sp_fill 12 = .ok (.getfield 42, 3) := by decide +kernel
theorem d_Sp_fill_15 : decode b_Sp_fill 15 = .ok (.astore_n 3, 1) := by decide +kernel
end
section
theorem d_Sp_fill_16 : decode b_Sp_fill 16 = .ok (.iconst 0, 1) := by decide +kernel
theorem d_Sp_fill_17 : decode b_Sp_fill 17 = .ok (.istore 4, 2) := by decide +kernel
theorem d_Sp_fill_19 : decode b_Sp_fill 19 = .ok (.iload 4, 2) := by decide +kernel
theorem d_Sp_fill_21 : decode b_Sp_fill 21 = .ok (.iconst 4, 1) := by decide +kernel
theorem d_Sp_fill_22 : decode b_Sp_fill 22 = .ok (.aload_n 1, 1) := by decide +kernel
theorem d_Sp_fill_23 : decode b_Sp_fill 23 = .ok (.getfield 38, 3) := by decide +kernel
theorem d_Sp_fill_26 : decode b_Sp_fill 26 = .ok (.getfield 47, 3) := by decide +kernel
theorem d_Sp_fill_29 : decode b_Sp_fill 29 = .ok (.imul, 1) := by decide +kernel
theorem d_Sp_fill_30 : decode b_Sp_fill 30 = .ok (.if_icmp .ge 35, 3) := by decide +kernel
theorem d_Sp_fill_33 : decode b_Sp_fill 33 = .ok (.aload_n 0, 1) := by decide +kernel
theorem d_Sp_fill_34 : decode b_Sp_fill 34 = .ok (.aload_n 3, 1) := by decide +kernel
theorem d_Sp_fill_35 : decode b_Sp_fill 35 = .ok (.iload 4, 2) := by decide +kernel
theorem d_Sp_fill_37 : decode b_Sp_fill 37 = .ok (.iaload, 1) := by decide +kernel
theorem d_Sp_fill_38 : decode b_Sp_fill 38 = .ok (.aload_n 3, 1) := by decide +kernel
theorem d_Sp_fill_39 : decode b_Sp_fill 39 = .ok (.iload 4, 2) := by decide +kernel
theorem d_Sp_fill_41 : decode b_Sp_fill 41 = .ok (.iconst 1, 1) := by decide +kernel
theorem d_Sp_fill_42 : decode b_Sp_fill 42 = .ok (.iadd, 1) := by decide +kernel
theorem d_Sp_fill_43 : decode b_Sp_fill 43 = .ok (.iaload, 1) := by decide +kernel
theorem d_Sp_fill_44 : decode b_Sp_fill 44 = .ok (.aload_n 3, 1) := by decide +kernel
theorem d_Sp_fill_45 : decode b_Sp_fill 45 = .ok (.iload 4, 2) := by decide +kernel
theorem d_Sp_fill_47 : decode b_Sp_fill 47 = .ok (.iconst 2, 1) := by decide +kernel
theorem d_Sp_fill_48 : decode b_Sp_fill 48 = .ok (.iadd, 1) := by decide +kernel
theorem d_Sp_fill_49 : decode b_Sp_fill 49 = .ok (.iaload, 1) := by decide +kernel
theorem d_Sp_fill_50 : decode b_Sp_fill 50 = .ok (.aload_n 3, 1) := by decide +kernel
theorem d_Sp_fill_51 : decode b_Sp_fill 51 = .ok (.iload 4, 2) := by decide +kernel
theorem d_Sp_fill_53 : decode b_Sp_fill 53 = .ok (.iconst 3, 1) := by decide +kernel
theorem d_Sp_fill_54 : decode b_Sp_fill 54 = .ok (.iadd, 1) := by decide +kernel
theorem d_Sp_fill_55 : decode b_Sp_fill 55 = .ok (.iaload, 1) := by decide +kernel
theorem d_Sp_fill_56 : decode b_Sp_fill 56 = .ok (.invokevirtual 50, 3) := by decide +kernel
theorem d_Sp_fill_59 : decode b_Sp_fill 59 = .ok (.iinc 4 4, 3) := by decide +kernel
theorem d_Sp_fill_62 : decode b_Sp_fill 62 = .ok (.goto (-43), 3) := by decide +kernel
theorem d_Sp_fill_65 : decode b_Sp_fill 65 = .ok (.aload_n 1, 1) := by decide +kernel
theorem d_Sp_fill_66 : decode b_Sp_fill 66 = .ok (.getfield 54, 3) := by decide +kernel
theorem d_Sp_fill_69 : decode b_Sp_fill 69 = .ok (.iload_n 2, 1) := by decide +kernel
theorem d_Sp_fill_70 : decode b_Sp_fill 70 = .ok (.aaload, 1) := by decide +kernel
theorem d_Sp_fill_71 : decode b_Sp_fill 71 = .ok (.getfield 58, 3) := by decide +kernel
theorem d_Sp_fill_74 : decode b_Sp_fill 74 = .ok (.astore 4, 2) := by decide +kernel
theorem d_Sp_fill_76 : decode b_Sp_fill 76 = .ok (.aload 4, 2) := by decide +kernel
theorem d_Sp_fill_78 : decode b_Sp_fill 78 = .ok (.getfield 42, 3) := by decide +kernel
theorem d_Sp_fill_81 : decode b_Sp_fill 81 = .ok (.astore 5, 2) := by decide +kernel
theorem d_Sp_fill_83 : decode b_Sp_fill 83 = .ok (.iconst 0, 1) := by decide +kernel
theorem d_Sp_fill_84 : decode b_Sp_fill 84 = .ok (.istore 6, 2) := by decide +kernel
theorem d_Sp_fill_86 : decode b_Sp_fill 86 = .ok (.iload 6, 2) := by decide +kernel
theorem d_Sp_fill_88 : decode b_Sp_fill 88 = .ok (.iconst 4, 1) := by decide +kernel
theorem d_Sp_fill_89 : decode b_Sp_fill 89 = .ok (.aload 4, 2) := by decide +kernel
theorem d_Sp_fill_91 : decode b_Sp_fill 91 = .ok (.getfield 47, 3) := by decide +kernel
theorem d_Sp_fill_94 : decode b_Sp_fill 94 = .ok (.imul, 1) := by decide +kernel
theorem d_Sp_fill_95 : decode b_Sp_fill 95 = .ok (.if_icmp .ge 39, 3) := by decide +kernel
theorem d_Sp_fill_98 : decode b_Sp_fill 98 = .ok (.aload_n 0, 1) := by decide +kernel
theorem d_Sp_fill_99 : decode b_Sp_fill 99 = .ok (.aload 5, 2) := by decide +kernel
theorem d_Sp_fill_101 : decode b_Sp_fill 101 = .ok (.iload 6, 2) := by decide +kernel
theorem d_Sp_fill_103 : decode b_Sp_fill 103 = .ok (.iaload, 1) := by decide +kernel
theorem d_Sp_fill_104 : decode b_Sp_fill 104 = .ok (.aload 5, 2) := by decide +kernel
theorem d_Sp_fill_106 : decode b_Sp_fill 106 = .ok (.iload 6, 2) := by decide +kernel
theorem d_Sp_fill_108 : decode b_Sp_fill 108 = .ok (.iconst 1, 1) := by decide +kernel
theorem d_Sp_fill_109 : decode b_Sp_fill 109 = .ok (.iadd, 1) := by decide +kernel
theorem d_Sp_fill_110 : decode b_Sp_fill 110 = .ok (.iaload, 1) := by decide +kernel
theorem d_Sp_fill_111 : decode b_Sp_fill 111 = .ok (.aload 5, 2) := by decide +kernel
theorem d_Sp_fill_113 : decode b_Sp_fill 113 = .ok (.iload 6, 2) := by decide +kernel
theorem d_Sp_fill_115 : decode b_Sp_fill 115 = .ok (.iconst 2, 1) := by decide +kernel
theorem d_Sp_fill_116 : decode b_Sp_fill 116 = .ok (.iadd, 1) := by decide +kernel
theorem d_Sp_fill_117 : decode b_Sp_fill 117 = .ok (.iaload, 1) := by decide +kernel
theorem d_Sp_fill_118 : decode b_Sp_fill 118 = .ok (.aload 5, 2) := by decide +kernel
theorem d_Sp_fill_120 : decode b_Sp_fill 120 = .ok (.iload 6, 2) := by decide +kernel
theorem d_Sp_fill_122 : decode b_Sp_fill 122 = .ok (.iconst 3, 1) := by decide +kernel
theorem d_Sp_fill_123 : decode b_Sp_fill 123 = .ok (.iadd, 1) := by decide +kernel
theorem d_Sp_fill_124 : decode b_Sp_fill 124 = .ok (.iaload, 1) := by decide +kernel
theorem d_Sp_fill_125 : decode b_Sp_fill 125 = .ok (.invokevirtual 50, 3) := by decide +kernel
theorem d_Sp_fill_128 : decode b_Sp_fill 128 = .ok (.iinc 6 4, 3) := by decide +kernel
theorem d_Sp_fill_131 : decode b_Sp_fill 131 = .ok (.goto (-45), 3) := by decide +kernel
theorem d_Sp_fill_134 : decode b_Sp_fill 134 = .ok (.return_, 1) := by decide +kernel
theorem d_Sp_begin_0 : decode b_Sp_begin 0 = .ok (.aload_n 0, 1) := by decide +kernel
theorem d_Sp_begin_1 : decode b_Sp_begin 1 = .ok (.iload_n 1, 1) := by decide +kernel
theorem d_Sp_begin_2 : decode b_Sp_begin 2 = .ok (.putfield 63, 3) := by decide +kernel
theorem d_Sp_begin_5 : decode b_Sp_begin 5 = .ok (.iconst 0, 1) := by decide +kernel
theorem d_Sp_begin_6 : decode b_Sp_begin 6 = .ok (.istore_n 2, 1) := by decide +kernel
theorem d_Sp_begin_7 : decode b_Sp_begin 7 = .ok (.iload_n 2, 1) := by decide +kernel
theorem d_Sp_begin_8 : decode b_Sp_begin 8 = .ok (.iconst 4, 1) := by decide +kernel
theorem d_Sp_begin_9 : decode b_Sp_begin 9 = .ok (.iload_n 1, 1) := by decide +kernel
theorem d_Sp_begin_10 : decode b_Sp_begin 10 = .ok (.imul, 1) := by decide +kernel
theorem d_Sp_begin_11 : decode b_Sp_begin 11 = .ok (.if_icmp .ge 29, 3) := by decide +kernel
theorem d_Sp_begin_14 : decode b_Sp_begin 14 = .ok (.aload_n 0, 1) := by decide +kernel
theorem d_Sp_begin_15 : decode b_Sp_begin 15 = .ok (.getfield 9, 3) := by decide +kernel
theorem d_Sp_begin_18 : decode b_Sp_begin 18 = .ok (.iload_n 2, 1) := by decide +kernel
theorem d_Sp_begin_19 : decode b_Sp_begin 19 = .ok (.iload_n 2, 1) := by decide +kernel
theorem d_Sp_begin_20 : decode b_Sp_begin 20 = .ok (.iconst 4, 1) := by decide +kernel
theorem d_Sp_begin_21 : decode b_Sp_begin 21 = .ok (.irem, 1) := by decide +kernel
theorem d_Sp_begin_22 : decode b_Sp_begin 22 = .ok (.iload_n 2, 1) := by decide +kernel
theorem d_Sp_begin_23 : decode b_Sp_begin 23 = .ok (.iconst 4, 1) := by decide +kernel
theorem d_Sp_begin_24 : decode b_Sp_begin 24 = .ok (.idiv, 1) := by decide +kernel
theorem d_Sp_begin_25 : decode b_Sp_begin 25 = .ok (.if_icmp .ne 7, 3) := by decide +kernel
theorem d_Sp_begin_28 : decode b_Sp_begin 28 = .ok (.lconst 1, 1) := by decide +kernel
theorem d_Sp_begin_29 : decode b_Sp_begin 29 = .ok (.goto 4, 3) := by decide +kernel
theorem d_Sp_begin_32 : decode b_Sp_begin 32 = .ok (.lconst 0, 1) := by decide +kernel
theorem d_Sp_begin_33 : decode b_Sp_begin 33 = .ok (.lastore, 1) := by decide +kernel
theorem d_Sp_begin_34 : decode b_Sp_begin 34 = .ok (.iinc 2 1, 3) := by decide +kernel
theorem d_Sp_begin_37 : decode b_Sp_begin 37 = .ok (.goto (-30), 3) := by decide +kernel
theorem d_Sp_begin_40 : decode b_Sp_begin 40 = .ok (.aload_n 0, 1) := by decide +kernel
theorem d_Sp_begin_41 : decode b_Sp_begin 41 = .ok (.iconst 0, 1) := by decide +kernel
theorem d_Sp_begin_42 : decode b_Sp_begin 42 = .ok (.putfield 66, 3) := by decide +kernel
theorem d_Sp_begin_45 : decode b_Sp_begin 45 = .ok (.iconst 0, 1) := by decide +kernel
theorem d_Sp_begin_46 : decode b_Sp_begin 46 = .ok (.istore_n 2, 1) := by decide +kernel
theorem d_Sp_begin_47 : decode b_Sp_begin 47 = .ok (.iload_n 2, 1) := by decide +kernel
theorem d_Sp_begin_48 : decode b_Sp_begin 48 = .ok (.iconst 4, 1) := by decide +kernel
theorem d_Sp_begin_49 : decode b_Sp_begin 49 = .ok (.if_icmp .ge 25, 3) := by decide +kernel
theorem d_Sp_begin_52 : decode b_Sp_begin 52 = .ok (.aload_n 0, 1) := by decide +kernel
theorem d_Sp_begin_53 : decode b_Sp_begin 53 = .ok (.getfield 25, 3) := by decide +kernel
theorem d_Sp_begin_56 : decode b_Sp_begin 56 = .ok (.iload_n 2, 1) := by decide +kernel
theorem d_Sp_begin_57 : decode b_Sp_begin 57 = .ok (.iload_n 2, 1) := by decide +kernel
theorem d_Sp_begin_58 : decode b_Sp_begin 58 = .ok (.iconst 3, 1) := by decide +kernel
theorem d_Sp_begin_59 : decode b_Sp_begin 59 = .ok (.if_icmp .ne 7, 3) := by decide +kernel
theorem d_Sp_begin_62 : decode b_Sp_begin 62 = .ok (.lconst 1, 1) := by decide +kernel
theorem d_Sp_begin_63 : decode b_Sp_begin 63 = .ok (.goto 4, 3) := by decide +kernel
theorem d_Sp_begin_66 : decode b_Sp_begin 66 = .ok (.lconst 0, 1) := by decide +kernel
theorem d_Sp_begin_67 : decode b_Sp_begin 67 = .ok (.lastore, 1) := by decide +kernel
theorem d_Sp_begin_68 : decode b_Sp_begin 68 = .ok (.iinc 2 1, 3) := by decide +kernel
theorem d_Sp_begin_71 : decode b_Sp_begin 71 = .ok (.goto (-24), 3) := by decide +kernel
theorem d_Sp_begin_74 : decode b_Sp_begin 74 = .ok (.aload_n 0, 1) := by decide +kernel
theorem d_Sp_begin_75 : decode b_Sp_begin 75 = .ok (.iconst 0, 1) := by decide +kernel
theorem d_Sp_begin_76 : decode b_Sp_begin 76 = .ok (.invokevirtual 90, 3) := by decide +kernel
theorem d_Sp_begin_79 : decode b_Sp_begin 79 = .ok (.aload_n 0, 1) := by decide +kernel
theorem d_Sp_begin_80 : decode b_Sp_begin 80 = .ok (.iconst 2, 1) := by decide +kernel
theorem d_Sp_begin_81 : decode b_Sp_begin 81 = .ok (.putfield 69, 3) := by decide +kernel
theorem d_Sp_begin_84 : decode b_Sp_begin 84 = .ok (.return_, 1) := by decide +kernel
theorem d_Sp_appendPivot_0 : decode b_Sp_appendPivot 0 = .ok (.aload_n 0, 1) := by decide +kernel
theorem d_Sp_appendPivot_1 : decode b_Sp_appendPivot 1 = .ok (.getfield 66, 3) := by decide +kernel
theorem d_Sp_appendPivot_4 : decode b_Sp_appendPivot 4 = .ok (.bipush 32, 2) := by decide +kernel
theorem d_Sp_appendPivot_6 : decode b_Sp_appendPivot 6 = .ok (.if_icmp .lt 4, 3) := by decide +kernel
theorem d_Sp_appendPivot_9 : decode b_Sp_appendPivot 9 = .ok (.return_, 1) := by decide +kernel
theorem d_Sp_appendPivot_10 : decode b_Sp_appendPivot 10 = .ok (.iconst 0, 1) := by decide +kernel
theorem d_Sp_appendPivot_11 : decode b_Sp_appendPivot 11 = .ok (.istore_n 2, 1) := by decide +kernel
theorem d_Sp_appendPivot_12 : decode b_Sp_appendPivot 12 = .ok (.iload_n 2, 1) := by decide +kernel
theorem d_Sp_appendPivot_13 : decode b_Sp_appendPivot 13 = .ok (.iconst 4, 1) := by decide +kernel
theorem d_Sp_appendPivot_14 : decode b_Sp_appendPivot 14 = .ok (.if_icmp .ge 28, 3) := by decide +kernel
theorem d_Sp_appendPivot_17 : decode b_Sp_appendPivot 17 = .ok (.aload_n 0, 1) := by decide +kernel
theorem d_Sp_appendPivot_18 : decode b_Sp_appendPivot 18 = .ok (.getfield 15, 3) := by decide +kernel
theorem d_Sp_appendPivot_21 : decode b_Sp_appendPivot 21 = .ok (.iconst 4, 1) := by decide +kernel
theorem d_Sp_appendPivot_22 : decode b_Sp_appendPivot 22 = .ok (.aload_n 0, 1) := by decide +kernel
theorem d_Sp_appendPivot_23 : decode b_Sp_appendPivot 23 = .ok (.getfield 66, 3) := by decide +kernel
theorem d_Sp_appendPivot_26 : decode b_Sp_appendPivot 26 = .ok (.imul, 1) := by decide +kernel
theorem d_Sp_appendPivot_27 : decode b_Sp_appendPivot 27 = .ok (.iload_n 2, 1) := by decide +kernel
theorem d_Sp_appendPivot_28 : decode b_Sp_appendPivot 28 = .ok (.iadd, 1) := by decide +kernel
theorem d_Sp_appendPivot_29 : decode b_Sp_appendPivot 29 = .ok (.aload_n 0, 1) := by decide +kernel
theorem d_Sp_appendPivot_30 : decode b_Sp_appendPivot 30 = .ok (.getfield 25, 3) := by decide +kernel
theorem d_Sp_appendPivot_33 : decode b_Sp_appendPivot 33 = .ok (.iload_n 2, 1) := by decide +kernel
theorem d_Sp_appendPivot_34 : decode b_Sp_appendPivot 34 = .ok (.laload, 1) := by decide +kernel
theorem d_Sp_appendPivot_35 : decode b_Sp_appendPivot 35 = .ok (.lastore, 1) := by decide +kernel
theorem d_Sp_appendPivot_36 : decode b_Sp_appendPivot 36 = .ok (.iinc 2 1, 3) := by decide +kernel
theorem d_Sp_appendPivot_39 : decode b_Sp_appendPivot 39 = .ok (.goto (-27), 3) := by decide +kernel
theorem d_Sp_appendPivot_42 : decode b_Sp_appendPivot 42 = .ok (.aload_n 0, 1) := by decide +kernel
theorem d_Sp_appendPivot_43 : decode b_Sp_appendPivot 43 = .ok (.getfield 18, 3) := by decide +kernel
theorem d_Sp_appendPivot_46 : decode b_Sp_appendPivot 46 = .ok (.aload_n 0, 1) := by decide +kernel
theorem d_Sp_appendPivot_47 : decode b_Sp_appendPivot 47 = .ok (.getfield 66, 3) := by decide +kernel
theorem d_Sp_appendPivot_50 : decode b_Sp_appendPivot 50 = .ok (.iload_n 1, 1) := by decide +kernel
theorem d_Sp_appendPivot_51 : decode b_Sp_appendPivot 51 = .ok (.iastore, 1) := by decide +kernel
theorem d_Sp_appendPivot_52 : decode b_Sp_appendPivot 52 = .ok (.aload_n 0, 1) := by decide +kernel
theorem d_Sp_appendPivot_53 : decode b_Sp_appendPivot 53 = .ok (.dup, 1) := by decide +kernel
theorem d_Sp_appendPivot_54 : decode b_Sp_appendPivot 54 = .ok (.getfield 66, 3) := by decide +kernel
theorem d_Sp_appendPivot_57 : decode b_Sp_appendPivot 57 = .ok (.iconst 1, 1) := by decide +kernel
theorem d_Sp_appendPivot_58 : decode b_Sp_appendPivot 58 = .ok (.iadd, 1) := by decide +kernel
theorem d_Sp_appendPivot_59 : decode b_Sp_appendPivot 59 = .ok (.putfield 66, 3) := by decide +kernel
theorem d_Sp_appendPivot_62 : decode b_Sp_appendPivot 62 = .ok (.return_, 1) := by decide +kernel
theorem d_Sp_narrow_0 : decode b_Sp_narrow 0 = .ok (.aload_n 0, 1) := by decide +kernel
theorem d_Sp_narrow_1 : decode b_Sp_narrow 1 = .ok (.iload_n 1, 1) := by decide +kernel
theorem d_Sp_narrow_2 : decode b_Sp_narrow 2 = .ok (.iload_n 2, 1) := by decide +kernel
theorem d_Sp_narrow_3 : decode b_Sp_narrow 3 = .ok (.iload_n 3, 1) := by decide +kernel
theorem d_Sp_narrow_4 : decode b_Sp_narrow 4 = .ok (.invokevirtual 72, 3) := by decide +kernel
theorem d_Sp_narrow_7 : decode b_Sp_narrow 7 = .ok (.istore 5, 2) := by decide +kernel
theorem d_Sp_narrow_9 : decode b_Sp_narrow 9 = .ok (.iload 5, 2) := by decide +kernel
theorem d_Sp_narrow_11 : decode b_Sp_narrow 11 = .ok (.ifCond .lt 17, 3) := by decide +kernel
theorem d_Sp_narrow_14 : decode b_Sp_narrow 14 = .ok (.aload_n 0, 1) := by decide +kernel
theorem d_Sp_narrow_15 : decode b_Sp_narrow 15 = .ok (.iload 5, 2) := by decide +kernel
theorem d_Sp_narrow_17 : decode b_Sp_narrow 17 = .ok (.iload_n 1, 1) := by decide +kernel
theorem d_Sp_narrow_18 : decode b_Sp_narrow 18 = .ok (.iload_n 2, 1) := by decide +kernel
theorem d_Sp_narrow_19 : decode b_Sp_narrow 19 = .ok (.iload_n 3, 1) := by decide +kernel
theorem d_Sp_narrow_20 : decode b_Sp_narrow 20 = .ok (.iload 4, 2) := by decide +kernel
theorem d_Sp_narrow_22 : decode b_Sp_narrow 22 = .ok (.invokevirtual 80, 3) := by decide +kernel
theorem d_Sp_narrow_25 : decode b_Sp_narrow 25 = .ok (.goto 12, 3) := by decide +kernel
theorem d_Sp_narrow_28 : decode b_Sp_narrow 28 = .ok (.aload_n 0, 1) := by decide +kernel
theorem d_Sp_narrow_29 : decode b_Sp_narrow 29 = .ok (.iload_n 1, 1) := by decide +kernel
theorem d_Sp_narrow_30 : decode b_Sp_narrow 30 = .ok (.iload_n 2, 1) := by decide +kernel
theorem d_Sp_narrow_31 : decode b_Sp_narrow 31 = .ok (.iload_n 3, 1) := by decide +kernel
theorem d_Sp_narrow_32 : decode b_Sp_narrow 32 = .ok (.iload 4, 2) := by decide +kernel
theorem d_Sp_narrow_34 : decode b_Sp_narrow 34 = .ok (.invokevirtual 84, 3) := by decide +kernel
theorem d_Sp_narrow_37 : decode b_Sp_narrow 37 = .ok (.aload_n 0, 1) := by decide +kernel
theorem d_Sp_narrow_38 : decode b_Sp_narrow 38 = .ok (.dup, 1) := by decide +kernel
theorem d_Sp_narrow_39 : decode b_Sp_narrow 39 = .ok (.getfield 69, 3) := by decide +kernel
theorem d_Sp_narrow_42 : decode b_Sp_narrow 42 = .ok (.iconst 1, 1) := by decide +kernel
theorem d_Sp_narrow_43 : decode b_Sp_narrow 43 = .ok (.ishl, 1) := by decide +kernel
theorem d_Sp_narrow_44 : decode b_Sp_narrow 44 = .ok (.putfield 69, 3) := by decide +kernel
theorem d_Sp_narrow_47 : decode b_Sp_narrow 47 = .ok (.aload_n 0, 1) := by decide +kernel
theorem d_Sp_narrow_48 : decode b_Sp_narrow 48 = .ok (.invokevirtual 87, 3) := by decide +kernel
theorem d_Sp_narrow_51 : decode b_Sp_narrow 51 = .ok (.return_, 1) := by decide +kernel
theorem d_Sp_lineAcross_0 : decode b_Sp_lineAcross 0 = .ok (.iconst 0, 1) := by decide +kernel
theorem d_Sp_lineAcross_1 : decode b_Sp_lineAcross 1 = .ok (.istore 4, 2) := by decide +kernel
theorem d_Sp_lineAcross_3 : decode b_Sp_lineAcross 3 = .ok (.iload 4, 2) := by decide +kernel
theorem d_Sp_lineAcross_5 : decode b_Sp_lineAcross 5 = .ok (.aload_n 0, 1) := by decide +kernel
theorem d_Sp_lineAcross_6 : decode b_Sp_lineAcross 6 = .ok (.getfield 63, 3) := by decide +kernel
theorem d_Sp_lineAcross_9 : decode b_Sp_lineAcross 9 = .ok (.if_icmp .ge 26, 3) := by decide +kernel
theorem d_Sp_lineAcross_12 : decode b_Sp_lineAcross 12 = .ok (.aload_n 0, 1) := by decide +kernel
theorem d_Sp_lineAcross_13 : decode b_Sp_lineAcross 13 = .ok (.iload 4, 2) := by decide +kernel
theorem d_Sp_lineAcross_15 : decode b_Sp_lineAcross 15 = .ok (.iload_n 1, 1) := by decide +kernel
theorem d_Sp_lineAcross_16 : decode b_Sp_lineAcross 16 = .ok (.iload_n 2, 1) := by decide +kernel
theorem d_Sp_lineAcross_17 : decode b_Sp_lineAcross 17 = .ok (.iload_n 3, 1) := by decide +kernel
theorem d_Sp_lineAcross_18 : decode b_Sp_lineAcross 18 = .ok (.invokevirtual 93, 3) := by decide +kernel
theorem d_Sp_lineAcross_21 : decode b_Sp_lineAcross 21 = .ok (.lconst 0, 1) := by decide +kernel
theorem d_Sp_lineAcross_22 : decode b_Sp_lineAcross 22 = .ok (.lcmp, 1) := by decide +kernel
theorem d_Sp_lineAcross_23 : decode b_Sp_lineAcross 23 = .ok (.ifCond .eq 6, 3) := by decide +kernel
theorem d_Sp_lineAcross_26 : decode b_Sp_lineAcross 26 = .ok (.iload 4, 2) := by decide +kernel
theorem d_Sp_lineAcross_28 : decode b_Sp_lineAcross 28 = .ok (.ireturn, 1) := by decide +kernel
theorem d_Sp_lineAcross_29 : decode b_Sp_lineAcross 29 = .ok (.iinc 4 1, 3) := by decide +kernel
theorem d_Sp_lineAcross_32 : decode b_Sp_lineAcross 32 = .ok (.goto (-29), 3) := by decide +kernel
theorem d_Sp_lineAcross_35 : decode b_Sp_lineAcross 35 = .ok (.iconst (-1), 1) := by decide +kernel
theorem d_Sp_lineAcross_36 : decode b_Sp_lineAcross 36 = .ok (.ireturn, 1) := by decide +kernel
theorem d_Sp_slope_0 : decode b_Sp_slope 0 = .ok (.iconst 4, 1) := by decide +kernel
theorem d_Sp_slope_1 : decode b_Sp_slope 1 = .ok (.iload_n 1, 1) := by decide +kernel
theorem d_Sp_slope_2 : decode b_Sp_slope 2 = .ok (.imul, 1) := by decide +kernel
theorem d_Sp_slope_3 : decode b_Sp_slope 3 = .ok (.istore 5, 2) := by decide +kernel
theorem d_Sp_slope_5 : decode b_Sp_slope 5 = .ok (.iload_n 2, 1) := by decide +kernel
theorem d_Sp_slope_6 : decode b_Sp_slope 6 = .ok (.i2l, 1) := by decide +kernel
theorem d_Sp_slope_7 : decode b_Sp_slope 7 = .ok (.aload_n 0, 1) := by decide +kernel
theorem d_Sp_slope_8 : decode b_Sp_slope 8 = .ok (.getfield 9, 3) := by decide +kernel
theorem d_Sp_slope_11 : decode b_Sp_slope 11 = .ok (.iload 5, 2) := by decide +kernel
theorem d_Sp_slope_13 : decode b_Sp_slope 13 = .ok (.laload, 1) := by decide +kernel
theorem d_Sp_slope_14 : decode b_Sp_slope 14 = .ok (.lmul, 1) := by decide +kernel
theorem d_Sp_slope_15 : decode b_Sp_slope 15 = .ok (.iload_n 3, 1) := by decide +kernel
theorem d_Sp_slope_16 : decode b_Sp_slope 16 = .ok (.i2l, 1) := by decide +kernel
theorem d_Sp_slope_17 : decode b_Sp_slope 17 = .ok (.aload_n 0, 1) := by decide +kernel
theorem d_Sp_slope_18 : decode b_Sp_slope 18 = .ok (.getfield 9, 3) := by decide +kernel
theorem d_Sp_slope_21 : decode b_Sp_slope 21 = .ok (.iload 5, 2) := by decide +kernel
theorem d_Sp_slope_23 : decode b_Sp_slope 23 = .ok (.iconst 1, 1) := by decide +kernel
theorem d_Sp_slope_24 : decode b_Sp_slope 24 = .ok (.iadd, 1) := by decide +kernel
theorem d_Sp_slope_25 : decode b_Sp_slope 25 = .ok (.laload, 1) := by decide +kernel
theorem d_Sp_slope_26 : decode b_Sp_slope 26 = .ok (.lmul, 1) := by decide +kernel
theorem d_Sp_slope_27 : decode b_Sp_slope 27 = .ok (.ladd, 1) := by decide +kernel
theorem d_Sp_slope_28 : decode b_Sp_slope 28 = .ok (.iload 4, 2) := by decide +kernel
theorem d_Sp_slope_30 : decode b_Sp_slope 30 = .ok (.i2l, 1) := by decide +kernel
theorem d_Sp_slope_31 : decode b_Sp_slope 31 = .ok (.aload_n 0, 1) := by decide +kernel
theorem d_Sp_slope_32 : decode b_Sp_slope 32 = .ok (.getfield 9, 3) := by decide +kernel
theorem d_Sp_slope_35 : decode b_Sp_slope 35 = .ok (.iload 5, 2) := by decide +kernel
theorem d_Sp_slope_37 : decode b_Sp_slope 37 = .ok (.iconst 2, 1) := by decide +kernel
theorem d_Sp_slope_38 : decode b_Sp_slope 38 = .ok (.iadd, 1) := by decide +kernel
theorem d_Sp_slope_39 : decode b_Sp_slope 39 = .ok (.laload, 1) := by decide +kernel
theorem d_Sp_slope_40 : decode b_Sp_slope 40 = .ok (.lmul, 1) := by decide +kernel
theorem d_Sp_slope_41 : decode b_Sp_slope 41 = .ok (.ladd, 1) := by decide +kernel
theorem d_Sp_slope_42 : decode b_Sp_slope 42 = .ok (.lreturn, 1) := by decide +kernel
theorem d_Sp_turn_0 : decode b_Sp_turn 0 = .ok (.aload_n 0, 1) := by decide +kernel
theorem d_Sp_turn_1 : decode b_Sp_turn 1 = .ok (.iload_n 1, 1) := by decide +kernel
theorem d_Sp_turn_2 : decode b_Sp_turn 2 = .ok (.iload_n 2, 1) := by decide +kernel
theorem d_Sp_turn_3 : decode b_Sp_turn 3 = .ok (.iload_n 3, 1) := by decide +kernel
theorem d_Sp_turn_4 : decode b_Sp_turn 4 = .ok (.iload 4, 2) := by decide +kernel
theorem d_Sp_turn_6 : decode b_Sp_turn 6 = .ok (.invokevirtual 93, 3) := by decide +kernel
theorem d_Sp_turn_9 : decode b_Sp_turn 9 = .ok (.lstore 6, 2) := by decide +kernel
theorem d_Sp_turn_11 : decode b_Sp_turn 11 = .ok (.lload 6, 2) := by decide +kernel
theorem d_Sp_turn_13 : decode b_Sp_turn 13 = .ok (.lconst 0, 1) := by decide +kernel
theorem d_Sp_turn_14 : decode b_Sp_turn 14 = .ok (.lcmp, 1) := by decide +kernel
theorem d_Sp_turn_15 : decode b_Sp_turn 15 = .ok (.ifCond .ge 9, 3) := by decide +kernel
theorem d_Sp_turn_18 : decode b_Sp_turn 18 = .ok (.ldc2_w 97, 3) := by decide +kernel
theorem d_Sp_turn_21 : decode b_Sp_turn 21 = .ok (.goto 4, 3) := by decide +kernel
theorem d_Sp_turn_24 : decode b_Sp_turn 24 = .ok (.lconst 1, 1) := by decide +kernel
theorem d_Sp_turn_25 : decode b_Sp_turn 25 = .ok (.lstore 8, 2) := by decide +kernel
theorem d_Sp_turn_27 : decode b_Sp_turn 27 = .ok (.lload 6, 2) := by decide +kernel
theorem d_Sp_turn_29 : decode b_Sp_turn 29 = .ok (.lload 8, 2) := by decide +kernel
theorem d_Sp_turn_31 : decode b_Sp_turn 31 = .ok (.lmul, 1) := by decide +kernel
theorem d_Sp_turn_32 : decode b_Sp_turn 32 = .ok (.lstore 6, 2) := by decide +kernel
theorem d_Sp_turn_34 : decode b_Sp_turn 34 = .ok (.aload_n 0, 1) := by decide +kernel
theorem d_Sp_turn_35 : decode b_Sp_turn 35 = .ok (.dup, 1) := by decide +kernel
theorem d_Sp_turn_36 : decode b_Sp_turn 36 = .ok (.getfield 63, 3) := by decide +kernel
theorem d_Sp_turn_39 : decode b_Sp_turn 39 = .ok (.iconst 1, 1) := by decide +kernel
theorem d_Sp_turn_40 : decode b_Sp_turn 40 = .ok (.isub, 1) := by decide +kernel
theorem d_Sp_turn_41 : decode b_Sp_turn 41 = .ok (.putfield 63, 3) := by decide +kernel
theorem d_Sp_turn_44 : decode b_Sp_turn 44 = .ok (.iconst 0, 1) := by decide +kernel
theorem d_Sp_turn_45 : decode b_Sp_turn 45 = .ok (.istore 10, 2) := by decide +kernel
theorem d_Sp_turn_47 : decode b_Sp_turn 47 = .ok (.iload 10, 2) := by decide +kernel
theorem d_Sp_turn_49 : decode b_Sp_turn 49 = .ok (.iconst 4, 1) := by decide +kernel
theorem d_Sp_turn_50 : decode b_Sp_turn 50 = .ok (.if_icmp .ge 55, 3) := by decide +kernel
theorem d_Sp_turn_53 : decode b_Sp_turn 53 = .ok (.aload_n 0, 1) := by decide +kernel
theorem d_Sp_turn_54 : decode b_Sp_turn 54 = .ok (.getfield 25, 3) := by decide +kernel
theorem d_Sp_turn_57 : decode b_Sp_turn 57 = .ok (.iload 10, 2) := by decide +kernel
theorem d_Sp_turn_59 : decode b_Sp_turn 59 = .ok (.lload 8, 2) := by decide +kernel
theorem d_Sp_turn_61 : decode b_Sp_turn 61 = .ok (.aload_n 0, 1) := by decide +kernel
theorem d_Sp_turn_62 : decode b_Sp_turn 62 = .ok (.getfield 9, 3) := by decide +kernel
theorem d_Sp_turn_65 : decode b_Sp_turn 65 = .ok (.iconst 4, 1) := by decide +kernel
theorem d_Sp_turn_66 : decode b_Sp_turn 66 = .ok (.iload_n 1, 1) := by decide +kernel
theorem d_Sp_turn_67 : decode b_Sp_turn 67 = .ok (.imul, 1) := by decide +kernel
theorem d_Sp_turn_68 : decode b_Sp_turn 68 = .ok (.iload 10, 2) := by decide +kernel
theorem d_Sp_turn_70 : decode b_Sp_turn 70 = .ok (.iadd, 1) := by decide +kernel
theorem d_Sp_turn_71 : decode b_Sp_turn 71 = .ok (.laload, 1) := by decide +kernel
theorem d_Sp_turn_72 : decode b_Sp_turn 72 = .ok (.lmul, 1) := by decide +kernel
theorem d_Sp_turn_73 : decode b_Sp_turn 73 = .ok (.lastore, 1) := by decide +kernel
theorem d_Sp_turn_74 : decode b_Sp_turn 74 = .ok (.aload_n 0, 1) := by decide +kernel
theorem d_Sp_turn_75 : decode b_Sp_turn 75 = .ok (.getfield 9, 3) := by decide +kernel
theorem d_Sp_turn_78 : decode b_Sp_turn 78 = .ok (.iconst 4, 1) := by decide +kernel
theorem d_Sp_turn_79 : decode b_Sp_turn 79 = .ok (.iload_n 1, 1) := by decide +kernel
theorem d_Sp_turn_80 : decode b_Sp_turn 80 = .ok (.imul, 1) := by decide +kernel
theorem d_Sp_turn_81 : decode b_Sp_turn 81 = .ok (.iload 10, 2) := by decide +kernel
theorem d_Sp_turn_83 : decode b_Sp_turn 83 = .ok (.iadd, 1) := by decide +kernel
theorem d_Sp_turn_84 : decode b_Sp_turn 84 = .ok (.aload_n 0, 1) := by decide +kernel
theorem d_Sp_turn_85 : decode b_Sp_turn 85 = .ok (.getfield 9, 3) := by decide +kernel
theorem d_Sp_turn_88 : decode b_Sp_turn 88 = .ok (.iconst 4, 1) := by decide +kernel
theorem d_Sp_turn_89 : decode b_Sp_turn 89 = .ok (.aload_n 0, 1) := by decide +kernel
theorem d_Sp_turn_90 : decode b_Sp_turn 90 = .ok (.getfield 63, 3) := by decide +kernel
theorem d_Sp_turn_93 : decode b_Sp_turn 93 = .ok (.imul, 1) := by decide +kernel
theorem d_Sp_turn_94 : decode b_Sp_turn 94 = .ok (.iload 10, 2) := by decide +kernel
theorem d_Sp_turn_96 : decode b_Sp_turn 96 = .ok (.iadd, 1) := by decide +kernel
theorem d_Sp_turn_97 : decode b_Sp_turn 97 = .ok (.laload, 1) := by decide +kernel
theorem d_Sp_turn_98 : decode b_Sp_turn 98 = .ok (.lastore, 1) := by decide +kernel
theorem d_Sp_turn_99 : decode b_Sp_turn 99 = .ok (.iinc 10 1, 3) := by decide +kernel
theorem d_Sp_turn_102 : decode b_Sp_turn 102 = .ok (.goto (-55), 3) := by decide +kernel
theorem d_Sp_turn_105 : decode b_Sp_turn 105 = .ok (.iconst 0, 1) := by decide +kernel
theorem d_Sp_turn_106 : decode b_Sp_turn 106 = .ok (.istore 10, 2) := by decide +kernel
theorem d_Sp_turn_108 : decode b_Sp_turn 108 = .ok (.iload 10, 2) := by decide +kernel
theorem d_Sp_turn_110 : decode b_Sp_turn 110 = .ok (.aload_n 0, 1) := by decide +kernel
theorem d_Sp_turn_111 : decode b_Sp_turn 111 = .ok (.getfield 63, 3) := by decide +kernel
theorem d_Sp_turn_114 : decode b_Sp_turn 114 = .ok (.if_icmp .ge 33, 3) := by decide +kernel
theorem d_Sp_turn_117 : decode b_Sp_turn 117 = .ok (.aload_n 0, 1) := by decide +kernel
theorem d_Sp_turn_118 : decode b_Sp_turn 118 = .ok (.aload_n 0, 1) := by decide +kernel
theorem d_Sp_turn_119 : decode b_Sp_turn 119 = .ok (.getfield 9, 3) := by decide +kernel
theorem d_Sp_turn_122 : decode b_Sp_turn 122 = .ok (.iconst 4, 1) := by decide +kernel
theorem d_Sp_turn_123 : decode b_Sp_turn 123 = .ok (.iload 10, 2) := by decide +kernel
theorem d_Sp_turn_125 : decode b_Sp_turn 125 = .ok (.imul, 1) := by decide +kernel
theorem d_Sp_turn_126 : decode b_Sp_turn 126 = .ok (.lload 6, 2) := by decide +kernel
theorem d_Sp_turn_128 : decode b_Sp_turn 128 = .ok (.aload_n 0, 1) := by decide +kernel
theorem d_Sp_turn_129 : decode b_Sp_turn 129 = .ok (.iload 10, 2) := by decide +kernel
theorem d_Sp_turn_131 : decode b_Sp_turn 131 = .ok (.iload_n 2, 1) := by decide +kernel
theorem d_Sp_turn_132 : decode b_Sp_turn 132 = .ok (.iload_n 3, 1) := by decide +kernel
theorem d_Sp_turn_133 : decode b_Sp_turn 133 = .ok (.iload 4, 2) := by decide +kernel
theorem d_Sp_turn_135 : decode b_Sp_turn 135 = .ok (.invokevirtual 93, 3) := by decide +kernel
theorem d_Sp_turn_138 : decode b_Sp_turn 138 = .ok (.invokevirtual 99, 3) := by decide +kernel
theorem d_Sp_turn_141 : decode b_Sp_turn 141 = .ok (.iinc 10 1, 3) := by decide +kernel
theorem d_Sp_turn_144 : decode b_Sp_turn 144 = .ok (.goto (-36), 3) := by decide +kernel
theorem d_Sp_turn_147 : decode b_Sp_turn 147 = .ok (.iconst 0, 1) := by decide +kernel
theorem d_Sp_turn_148 : decode b_Sp_turn 148 = .ok (.istore 10, 2) := by decide +kernel
theorem d_Sp_turn_150 : decode b_Sp_turn 150 = .ok (.iload 10, 2) := by decide +kernel
theorem d_Sp_turn_152 : decode b_Sp_turn 152 = .ok (.aload_n 0, 1) := by decide +kernel
theorem d_Sp_turn_153 : decode b_Sp_turn 153 = .ok (.getfield 66, 3) := by decide +kernel
theorem d_Sp_turn_156 : decode b_Sp_turn 156 = .ok (.if_icmp .ge 49, 3) := by decide +kernel
theorem d_Sp_turn_159 : decode b_Sp_turn 159 = .ok (.aload_n 0, 1) := by decide +kernel
theorem d_Sp_turn_160 : decode b_Sp_turn 160 = .ok (.aload_n 0, 1) := by decide +kernel
theorem d_Sp_turn_161 : decode b_Sp_turn 161 = .ok (.getfield 15, 3) := by decide +kernel
theorem d_Sp_turn_164 : decode b_Sp_turn 164 = .ok (.iconst 4, 1) := by decide +kernel
theorem d_Sp_turn_165 : decode b_Sp_turn 165 = .ok (.iload 10, 2) := by decide +kernel
theorem d_Sp_turn_167 : decode b_Sp_turn 167 = .ok (.imul, 1) := by decide +kernel
theorem d_Sp_turn_168 : decode b_Sp_turn 168 = .ok (.lload 6, 2) := by decide +kernel
theorem d_Sp_turn_170 : decode b_Sp_turn 170 = .ok (.aload_n 0, 1) := by decide +kernel
theorem d_Sp_turn_171 : decode b_Sp_turn 171 = .ok (.iload 10, 2) := by decide +kernel
theorem d_Sp_turn_173 : decode b_Sp_turn 173 = .ok (.iload_n 2, 1) := by decide +kernel
theorem d_Sp_turn_174 : decode b_Sp_turn 174 = .ok (.iload_n 3, 1) := by decide +kernel
theorem d_Sp_turn_175 : decode b_Sp_turn 175 = .ok (.iload 4, 2) := by decide +kernel
theorem d_Sp_turn_177 : decode b_Sp_turn 177 = .ok (.iload 5, 2) := by decide +kernel
theorem d_Sp_turn_179 : decode b_Sp_turn 179 = .ok (.invokevirtual 76, 3) := by decide +kernel
theorem d_Sp_turn_182 : decode b_Sp_turn 182 = .ok (.invokevirtual 99, 3) := by decide +kernel
theorem d_Sp_turn_185 : decode b_Sp_turn 185 = .ok (.aload_n 0, 1) := by decide +kernel
theorem d_Sp_turn_186 : decode b_Sp_turn 186 = .ok (.getfield 18, 3) := by decide +kernel
theorem d_Sp_turn_189 : decode b_Sp_turn 189 = .ok (.iload 10, 2) := by decide +kernel
theorem d_Sp_turn_191 : decode b_Sp_turn 191 = .ok (.dup2, 1) := by decide +kernel
theorem d_Sp_turn_192 : decode b_Sp_turn 192 = .ok (.iaload, 1) := by decide +kernel
theorem d_Sp_turn_193 : decode b_Sp_turn 193 = .ok (.aload_n 0, 1) := by decide +kernel
theorem d_Sp_turn_194 : decode b_Sp_turn 194 = .ok (.getfield 69, 3) := by decide +kernel
theorem d_Sp_turn_197 : decode b_Sp_turn 197 = .ok (.ior, 1) := by decide +kernel
theorem d_Sp_turn_198 : decode b_Sp_turn 198 = .ok (.iastore, 1) := by decide +kernel
theorem d_Sp_turn_199 : decode b_Sp_turn 199 = .ok (.iinc 10 1, 3) := by decide +kernel
theorem d_Sp_turn_202 : decode b_Sp_turn 202 = .ok (.goto (-52), 3) := by decide +kernel
theorem d_Sp_turn_205 : decode b_Sp_turn 205 = .ok (.aload_n 0, 1) := by decide +kernel
theorem d_Sp_turn_206 : decode b_Sp_turn 206 = .ok (.aload_n 0, 1) := by decide +kernel
theorem d_Sp_turn_207 : decode b_Sp_turn 207 = .ok (.getfield 69, 3) := by decide +kernel
theorem d_Sp_turn_210 : decode b_Sp_turn 210 = .ok (.iconst 1, 1) := by decide +kernel
theorem d_Sp_turn_211 : decode b_Sp_turn 211 = .ok (.isub, 1) := by decide +kernel
theorem d_Sp_turn_212 : decode b_Sp_turn 212 = .ok (.invokevirtual 90, 3) := by decide +kernel
theorem d_Sp_turn_215 : decode b_Sp_turn 215 = .ok (.return_, 1) := by decide +kernel
theorem d_Sp_shift_0 : decode b_Sp_shift 0 = .ok (.iconst 0, 1) := by decide +kernel
theorem d_Sp_shift_1 : decode b_Sp_shift 1 = .ok (.istore 7, 2) := by decide +kernel
theorem d_Sp_shift_3 : decode b_Sp_shift 3 = .ok (.iload 7, 2) := by decide +kernel
theorem d_Sp_shift_5 : decode b_Sp_shift 5 = .ok (.iconst 4, 1) := by decide +kernel
theorem d_Sp_shift_6 : decode b_Sp_shift 6 = .ok (.if_icmp .ge 34, 3) := by decide +kernel
theorem d_Sp_shift_9 : decode b_Sp_shift 9 = .ok (.aload_n 1, 1) := by decide +kernel
theorem d_Sp_shift_10 : decode b_Sp_shift 10 = .ok (.iload_n 2, 1) := by decide +kernel
theorem d_Sp_shift_11 : decode b_Sp_shift 11 = .ok (.iload 7, 2) := by decide +kernel
theorem d_Sp_shift_13 : decode b_Sp_shift 13 = .ok (.iadd, 1) := by decide +kernel
theorem d_Sp_shift_14 : decode b_Sp_shift 14 = .ok (.lload_n 3, 1) := by decide +kernel
theorem d_Sp_shift_15 : decode b_Sp_shift 15 = .ok (.aload_n 1, 1) := by decide +kernel
theorem d_Sp_shift_16 : decode b_Sp_shift 16 = .ok (.iload_n 2, 1) := by decide +kernel
theorem d_Sp_shift_17 : decode b_Sp_shift 17 = .ok (.iload 7, 2) := by decide +kernel
theorem d_Sp_shift_19 : decode b_Sp_shift 19 = .ok (.iadd, 1) := by decide +kernel
theorem d_Sp_shift_20 : decode b_Sp_shift 20 = .ok (.laload, 1) := by decide +kernel
theorem d_Sp_shift_21 : decode b_Sp_shift 21 = .ok (.lmul, 1) := by decide +kernel
theorem d_Sp_shift_22 : decode b_Sp_shift 22 = .ok (.lload 5, 2) := by decide +kernel
theorem d_Sp_shift_24 : decode b_Sp_shift 24 = .ok (.aload_n 0, 1) := by decide +kernel
theorem d_Sp_shift_25 : decode b_Sp_shift 25 = .ok (.getfield 25, 3) := by decide +kernel
theorem d_Sp_shift_28 : decode b_Sp_shift 28 = .ok (.iload 7, 2) := by decide +kernel
theorem d_Sp_shift_30 : decode b_Sp_shift 30 = .ok (.laload, 1) := by decide +kernel
theorem d_Sp_shift_31 : decode b_Sp_shift 31 = .ok (.lmul, 1) := by decide +kernel
theorem d_Sp_shift_32 : decode b_Sp_shift 32 = .ok (.lsub, 1) := by decide +kernel
theorem d_Sp_shift_33 : decode b_Sp_shift 33 = .ok (.lastore, 1) := by decide +kernel
theorem d_Sp_shift_34 : decode b_Sp_shift 34 = .ok (.iinc 7 1, 3) := by decide +kernel
theorem d_Sp_shift_37 : decode b_Sp_shift 37 = .ok (.goto (-34), 3) := by decide +kernel
theorem d_Sp_shift_40 : decode b_Sp_shift 40 = .ok (.aload_n 1, 1) := by decide +kernel
theorem d_Sp_shift_41 : decode b_Sp_shift 41 = .ok (.iload_n 2, 1) := by decide +kernel
theorem d_Sp_shift_42 : decode b_Sp_shift 42 = .ok (.invokestatic 103, 3) := by decide +kernel
theorem d_Sp_shift_45 : decode b_Sp_shift 45 = .ok (.return_, 1) := by decide +kernel
theorem d_Sp_reduce_0 : decode b_Sp_reduce 0 = .ok (.lconst 0, 1) := by decide +kernel
theorem d_Sp_reduce_1 : decode b_Sp_reduce 1 = .ok (.lstore_n 2, 1) := by decide +kernel
theorem d_Sp_reduce_2 : decode b_Sp_reduce 2 = .ok (.iconst 0, 1) := by decide +kernel
theorem d_Sp_reduce_3 : decode b_Sp_reduce 3 = .ok (.istore 4, 2) := by decide +kernel
theorem d_Sp_reduce_5 : decode b_Sp_reduce 5 = .ok (.iload 4, 2) := by decide +kernel
theorem d_Sp_reduce_7 : decode b_Sp_reduce 7 = .ok (.iconst 4, 1) := by decide +kernel
theorem d_Sp_reduce_8 : decode b_Sp_reduce 8 = .ok (.if_icmp .ge 53, 3) := by decide +kernel
theorem d_Sp_reduce_11 : decode b_Sp_reduce 11 = .ok (.aload_n 0, 1) := by decide +kernel
theorem d_Sp_reduce_12 : decode b_Sp_reduce 12 = .ok (.iload_n 1, 1) := by decide +kernel
theorem d_Sp_reduce_13 : decode b_Sp_reduce 13 = .ok (.iload 4, 2) := by decide +kernel
theorem d_Sp_reduce_15 : decode b_Sp_reduce 15 = .ok (.iadd, 1) := by decide +kernel
theorem d_Sp_reduce_16 : decode b_Sp_reduce 16 = .ok (.laload, 1) := by decide +kernel
theorem d_Sp_reduce_17 : decode b_Sp_reduce 17 = .ok (.lstore 5, 2) := by decide +kernel
theorem d_Sp_reduce_19 : decode b_Sp_reduce 19 = .ok (.iconst 0, 1) := by decide +kernel
theorem d_Sp_reduce_20 : decode b_Sp_reduce 20 = .ok (.istore 7, 2) := by decide +kernel
theorem d_Sp_reduce_22 : decode b_Sp_reduce 22 = .ok (.iload 7, 2) := by decide +kernel
theorem d_Sp_reduce_24 : decode b_Sp_reduce 24 = .ok (.bipush 100, 2) := by decide +kernel
theorem d_Sp_reduce_26 : decode b_Sp_reduce 26 = .ok (.if_icmp .ge 29, 3) := by decide +kernel
theorem d_Sp_reduce_29 : decode b_Sp_reduce 29 = .ok (.lload 5, 2) := by decide +kernel
theorem d_Sp_reduce_31 : decode b_Sp_reduce 31 = .ok (.lconst 0, 1) := by decide +kernel
theorem d_Sp_reduce_32 : decode b_Sp_reduce 32 = .ok (.lcmp, 1) := by decide +kernel
theorem d_Sp_reduce_33 : decode b_Sp_reduce 33 = .ok (.ifCond .eq 22, 3) := by decide +kernel
theorem d_Sp_reduce_36 : decode b_Sp_reduce 36 = .ok (.lload_n 2, 1) := by decide +kernel
theorem d_Sp_reduce_37 : decode b_Sp_reduce 37 = .ok (.lload 5, 2) := by decide +kernel
theorem d_Sp_reduce_39 : decode b_Sp_reduce 39 = .ok (.lrem, 1) := by decide +kernel
theorem d_Sp_reduce_40 : decode b_Sp_reduce 40 = .ok (.lstore 8, 2) := by decide +kernel
theorem d_Sp_reduce_42 : decode b_Sp_reduce 42 = .ok (.lload 5, 2) := by decide +kernel
theorem d_Sp_reduce_44 : decode b_Sp_reduce 44 = .ok (.lstore_n 2, 1) := by decide +kernel
theorem d_Sp_reduce_45 : decode b_Sp_reduce 45 = .ok (.lload 8, 2) := by decide +kernel
theorem d_Sp_reduce_47 : decode b_Sp_reduce 47 = .ok (.lstore 5, 2) := by decide +kernel
theorem d_Sp_reduce_49 : decode b_Sp_reduce 49 = .ok (.iinc 7 1, 3) := by decide +kernel
theorem d_Sp_reduce_52 : decode b_Sp_reduce 52 = .ok (.goto (-30), 3) := by decide +kernel
theorem d_Sp_reduce_55 : decode b_Sp_reduce 55 = .ok (.iinc 4 1, 3) := by decide +kernel
theorem d_Sp_reduce_58 : decode b_Sp_reduce 58 = .ok (.goto (-53), 3) := by decide +kernel
theorem d_Sp_reduce_61 : decode b_Sp_reduce 61 = .ok (.lload_n 2, 1) := by decide +kernel
theorem d_Sp_reduce_62 : decode b_Sp_reduce 62 = .ok (.lconst 0, 1) := by decide +kernel
theorem d_Sp_reduce_63 : decode b_Sp_reduce 63 = .ok (.lcmp, 1) := by decide +kernel
theorem d_Sp_reduce_64 : decode b_Sp_reduce 64 = .ok (.ifCond .ge 8, 3) := by decide +kernel
theorem d_Sp_reduce_67 : decode b_Sp_reduce 67 = .ok (.lload_n 2, 1) := by decide +kernel
theorem d_Sp_reduce_68 : decode b_Sp_reduce 68 = .ok (.lneg, 1) := by decide +kernel
theorem d_Sp_reduce_69 : decode b_Sp_reduce 69 = .ok (.goto 4, 3) := by decide +kernel
theorem d_Sp_reduce_72 : decode b_Sp_reduce 72 = .ok (.lload_n 2, 1) := by decide +kernel
theorem d_Sp_reduce_73 : decode b_Sp_reduce 73 = .ok (.lstore 4, 2) := by decide +kernel
theorem d_Sp_reduce_75 : decode b_Sp_reduce 75 = .ok (.iconst 0, 1) := by decide +kernel
theorem d_Sp_reduce_76 : decode b_Sp_reduce 76 = .ok (.istore 6, 2) := by decide +kernel
theorem d_Sp_reduce_78 : decode b_Sp_reduce 78 = .ok (.lload 4, 2) := by decide +kernel
theorem d_Sp_reduce_80 : decode b_Sp_reduce 80 = .ok (.lconst 1, 1) := by decide +kernel
theorem d_Sp_reduce_81 : decode b_Sp_reduce 81 = .ok (.lcmp, 1) := by decide +kernel
theorem d_Sp_reduce_82 : decode b_Sp_reduce 82 = .ok (.ifCond .le 26, 3) := by decide +kernel
theorem d_Sp_reduce_85 : decode b_Sp_reduce 85 = .ok (.iload 6, 2) := by decide +kernel
theorem d_Sp_reduce_87 : decode b_Sp_reduce 87 = .ok (.iconst 4, 1) := by decide +kernel
theorem d_Sp_reduce_88 : decode b_Sp_reduce 88 = .ok (.if_icmp .ge 20, 3) := by decide +kernel
theorem d_Sp_reduce_91 : decode b_Sp_reduce 91 = .ok (.aload_n 0, 1) := by decide +kernel
theorem d_Sp_reduce_92 : decode b_Sp_reduce 92 = .ok (.iload_n 1, 1) := by decide +kernel
theorem d_Sp_reduce_93 : decode b_Sp_reduce 93 = .ok (.iload 6, 2) := by decide +kernel
theorem d_Sp_reduce_95 : decode b_Sp_reduce 95 = .ok (.iadd, 1) := by decide +kernel
theorem d_Sp_reduce_96 : decode b_Sp_reduce 96 = .ok (.dup2, 1) := by decide +kernel
theorem d_Sp_reduce_97 : decode b_Sp_reduce 97 = .ok (.laload, 1) := by decide +kernel
theorem d_Sp_reduce_98 : decode b_Sp_reduce 98 = .ok (.lload 4, 2) := by decide +kernel
theorem d_Sp_reduce_100 : decode b_Sp_reduce 100 = .ok (.ldiv, 1) := by decide +kernel
theorem d_Sp_reduce_101 : decode b_Sp_reduce 101 = .ok (.lastore, 1) := by decide +kernel
theorem d_Sp_reduce_102 : decode b_Sp_reduce 102 = .ok (.iinc 6 1, 3) := by decide +kernel
theorem d_Sp_reduce_105 : decode b_Sp_reduce 105 = .ok (.goto (-27), 3) := by decide +kernel
theorem d_Sp_reduce_108 : decode b_Sp_reduce 108 = .ok (.return_, 1) := by decide +kernel
theorem d_Sp_worth_0 : decode b_Sp_worth 0 = .ok (.iconst 4, 1) := by decide +kernel
theorem d_Sp_worth_1 : decode b_Sp_worth 1 = .ok (.iload_n 1, 1) := by decide +kernel
theorem d_Sp_worth_2 : decode b_Sp_worth 2 = .ok (.imul, 1) := by decide +kernel
theorem d_Sp_worth_3 : decode b_Sp_worth 3 = .ok (.istore 6, 2) := by decide +kernel
theorem d_Sp_worth_5 : decode b_Sp_worth 5 = .ok (.iload_n 2, 1) := by decide +kernel
theorem d_Sp_worth_6 : decode b_Sp_worth 6 = .ok (.i2l, 1) := by decide +kernel
theorem d_Sp_worth_7 : decode b_Sp_worth 7 = .ok (.aload_n 0, 1) := by decide +kernel
theorem d_Sp_worth_8 : decode b_Sp_worth 8 = .ok (.getfield 15, 3) := by decide +kernel
theorem d_Sp_worth_11 : decode b_Sp_worth 11 = .ok (.iload 6, 2) := by decide +kernel
theorem d_Sp_worth_13 : decode b_Sp_worth 13 = .ok (.laload, 1) := by decide +kernel
theorem d_Sp_worth_14 : decode b_Sp_worth 14 = .ok (.lmul, 1) := by decide +kernel
theorem d_Sp_worth_15 : decode b_Sp_worth 15 = .ok (.iload_n 3, 1) := by decide +kernel
theorem d_Sp_worth_16 : decode b_Sp_worth 16 = .ok (.i2l, 1) := by decide +kernel
theorem d_Sp_worth_17 : decode b_Sp_worth 17 = .ok (.aload_n 0, 1) := by decide +kernel
theorem d_Sp_worth_18 : decode b_Sp_worth 18 = .ok (.getfield 15, 3) := by decide +kernel
theorem d_Sp_worth_21 : decode b_Sp_worth 21 = .ok (.iload 6, 2) := by decide +kernel
theorem d_Sp_worth_23 : decode b_Sp_worth 23 = .ok (.iconst 1, 1) := by decide +kernel
theorem d_Sp_worth_24 : decode b_Sp_worth 24 = .ok (.iadd, 1) := by decide +kernel
theorem d_Sp_worth_25 : decode b_Sp_worth 25 = .ok (.laload, 1) := by decide +kernel
theorem d_Sp_worth_26 : decode b_Sp_worth 26 = .ok (.lmul, 1) := by decide +kernel
theorem d_Sp_worth_27 : decode b_Sp_worth 27 = .ok (.ladd, 1) := by decide +kernel
theorem d_Sp_worth_28 : decode b_Sp_worth 28 = .ok (.iload 4, 2) := by decide +kernel
theorem d_Sp_worth_30 : decode b_Sp_worth 30 = .ok (.i2l, 1) := by decide +kernel
theorem d_Sp_worth_31 : decode b_Sp_worth 31 = .ok (.aload_n 0, 1) := by decide +kernel
theorem d_Sp_worth_32 : decode b_Sp_worth 32 = .ok (.getfield 15, 3) := by decide +kernel
theorem d_Sp_worth_35 : decode b_Sp_worth 35 = .ok (.iload 6, 2) := by decide +kernel
theorem d_Sp_worth_37 : decode b_Sp_worth 37 = .ok (.iconst 2, 1) := by decide +kernel
theorem d_Sp_worth_38 : decode b_Sp_worth 38 = .ok (.iadd, 1) := by decide +kernel
theorem d_Sp_worth_39 : decode b_Sp_worth 39 = .ok (.laload, 1) := by decide +kernel
theorem d_Sp_worth_40 : decode b_Sp_worth 40 = .ok (.lmul, 1) := by decide +kernel
theorem d_Sp_worth_41 : decode b_Sp_worth 41 = .ok (.ladd, 1) := by decide +kernel
theorem d_Sp_worth_42 : decode b_Sp_worth 42 = .ok (.iload 5, 2) := by decide +kernel
theorem d_Sp_worth_44 : decode b_Sp_worth 44 = .ok (.i2l, 1) := by decide +kernel
theorem d_Sp_worth_45 : decode b_Sp_worth 45 = .ok (.aload_n 0, 1) := by decide +kernel
theorem d_Sp_worth_46 : decode b_Sp_worth 46 = .ok (.getfield 15, 3) := by decide +kernel
theorem d_Sp_worth_49 : decode b_Sp_worth 49 = .ok (.iload 6, 2) := by decide +kernel
theorem d_Sp_worth_51 : decode b_Sp_worth 51 = .ok (.iconst 3, 1) := by decide +kernel
theorem d_Sp_worth_52 : decode b_Sp_worth 52 = .ok (.iadd, 1) := by decide +kernel
theorem d_Sp_worth_53 : decode b_Sp_worth 53 = .ok (.laload, 1) := by decide +kernel
theorem d_Sp_worth_54 : decode b_Sp_worth 54 = .ok (.lmul, 1) := by decide +kernel
theorem d_Sp_worth_55 : decode b_Sp_worth 55 = .ok (.lsub, 1) := by decide +kernel
theorem d_Sp_worth_56 : decode b_Sp_worth 56 = .ok (.lreturn, 1) := by decide +kernel
theorem d_Sp_cut_0 : decode b_Sp_cut 0 = .ok (.aload_n 0, 1) := by decide +kernel
theorem d_Sp_cut_1 : decode b_Sp_cut 1 = .ok (.getfield 66, 3) := by decide +kernel
theorem d_Sp_cut_4 : decode b_Sp_cut 4 = .ok (.istore 5, 2) := by decide +kernel
theorem d_Sp_cut_6 : decode b_Sp_cut 6 = .ok (.iconst 0, 1) := by decide +kernel
theorem d_Sp_cut_7 : decode b_Sp_cut 7 = .ok (.istore 6, 2) := by decide +kernel
theorem d_Sp_cut_9 : decode b_Sp_cut 9 = .ok (.iload 6, 2) := by decide +kernel
theorem d_Sp_cut_11 : decode b_Sp_cut 11 = .ok (.iload 5, 2) := by decide +kernel
theorem d_Sp_cut_13 : decode b_Sp_cut 13 = .ok (.if_icmp .ge 27, 3) := by decide +kernel
theorem d_Sp_cut_16 : decode b_Sp_cut 16 = .ok (.aload_n 0, 1) := by decide +kernel
theorem d_Sp_cut_17 : decode b_Sp_cut 17 = .ok (.getfield 22, 3) := by decide +kernel
theorem d_Sp_cut_20 : decode b_Sp_cut 20 = .ok (.iload 6, 2) := by decide +kernel
theorem d_Sp_cut_22 : decode b_Sp_cut 22 = .ok (.aload_n 0, 1) := by decide +kernel
theorem d_Sp_cut_23 : decode b_Sp_cut 23 = .ok (.iload 6, 2) := by decide +kernel
theorem d_Sp_cut_25 : decode b_Sp_cut 25 = .ok (.iload_n 1, 1) := by decide +kernel
theorem d_Sp_cut_26 : decode b_Sp_cut 26 = .ok (.iload_n 2, 1) := by decide +kernel
theorem d_Sp_cut_27 : decode b_Sp_cut 27 = .ok (.iload_n 3, 1) := by decide +kernel
theorem d_Sp_cut_28 : decode b_Sp_cut 28 = .ok (.iload 4, 2) := by decide +kernel
theorem d_Sp_cut_30 : decode b_Sp_cut 30 = .ok (.invokevirtual 76, 3) := by decide +kernel
theorem d_Sp_cut_33 : decode b_Sp_cut 33 = .ok (.lastore, 1) := by decide +kernel
theorem d_Sp_cut_34 : decode b_Sp_cut 34 = .ok (.iinc 6 1, 3) := by decide +kernel
theorem d_Sp_cut_37 : decode b_Sp_cut 37 = .ok (.goto (-28), 3) := by decide +kernel
theorem d_Sp_cut_40 : decode b_Sp_cut 40 = .ok (.iconst 0, 1) := by decide +kernel
theorem d_Sp_cut_41 : decode b_Sp_cut 41 = .ok (.istore 6, 2) := by decide +kernel
theorem d_Sp_cut_43 : decode b_Sp_cut 43 = .ok (.iload 6, 2) := by decide +kernel
theorem d_Sp_cut_45 : decode b_Sp_cut 45 = .ok (.iload 5, 2) := by decide +kernel
theorem d_Sp_cut_47 : decode b_Sp_cut 47 = .ok (.if_icmp .ge 70, 3) := by decide +kernel
theorem d_Sp_cut_50 : decode b_Sp_cut 50 = .ok (.iconst 0, 1) := by decide +kernel
theorem d_Sp_cut_51 : decode b_Sp_cut 51 = .ok (.istore 7, 2) := by decide +kernel
theorem d_Sp_cut_53 : decode b_Sp_cut 53 = .ok (.aload_n 0, 1) := by decide +kernel
theorem d_Sp_cut_54 : decode b_Sp_cut 54 = .ok (.getfield 22, 3) := by decide +kernel
theorem d_Sp_cut_57 : decode b_Sp_cut 57 = .ok (.iload 6, 2) := by decide +kernel
theorem d_Sp_cut_59 : decode b_Sp_cut 59 = .ok (.laload, 1) := by decide +kernel
theorem d_Sp_cut_60 : decode b_Sp_cut 60 = .ok (.lconst 0, 1) := by decide +kernel
theorem d_Sp_cut_61 : decode b_Sp_cut 61 = .ok (.lcmp, 1) := by decide +kernel
theorem d_Sp_cut_62 : decode b_Sp_cut 62 = .ok (.ifCond .le 49, 3) := by decide +kernel
theorem d_Sp_cut_65 : decode b_Sp_cut 65 = .ok (.iload 7, 2) := by decide +kernel
theorem d_Sp_cut_67 : decode b_Sp_cut 67 = .ok (.iload 5, 2) := by decide +kernel
theorem d_Sp_cut_69 : decode b_Sp_cut 69 = .ok (.if_icmp .ge 42, 3) := by decide +kernel
theorem d_Sp_cut_72 : decode b_Sp_cut 72 = .ok (.aload_n 0, 1) := by decide +kernel
theorem d_Sp_cut_73 : decode b_Sp_cut 73 = .ok (.getfield 22, 3) := by decide +kernel
theorem d_Sp_cut_76 : decode b_Sp_cut 76 = .ok (.iload 7, 2) := by decide +kernel
theorem d_Sp_cut_78 : decode b_Sp_cut 78 = .ok (.laload, 1) := by decide +kernel
theorem d_Sp_cut_79 : decode b_Sp_cut 79 = .ok (.lconst 0, 1) := by decide +kernel
theorem d_Sp_cut_80 : decode b_Sp_cut 80 = .ok (.lcmp, 1) := by decide +kernel
theorem d_Sp_cut_81 : decode b_Sp_cut 81 = .ok (.ifCond .ge 24, 3) := by decide +kernel
theorem d_Sp_cut_84 : decode b_Sp_cut 84 = .ok (.aload_n 0, 1) := by decide +kernel
theorem d_Sp_cut_85 : decode b_Sp_cut 85 = .ok (.iload 6, 2) := by decide +kernel
theorem d_Sp_cut_87 : decode b_Sp_cut 87 = .ok (.iload 7, 2) := by decide +kernel
theorem d_Sp_cut_89 : decode b_Sp_cut 89 = .ok (.iload 5, 2) := by decide +kernel
theorem d_Sp_cut_91 : decode b_Sp_cut 91 = .ok (.invokevirtual 107, 3) := by decide +kernel
theorem d_Sp_cut_94 : decode b_Sp_cut 94 = .ok (.ifCond .eq 11, 3) := by decide +kernel
theorem d_Sp_cut_97 : decode b_Sp_cut 97 = .ok (.aload_n 0, 1) := by decide +kernel
theorem d_Sp_cut_98 : decode b_Sp_cut 98 = .ok (.iload 6, 2) := by decide +kernel
theorem d_Sp_cut_100 : decode b_Sp_cut 100 = .ok (.iload 7, 2) := by decide +kernel
theorem d_Sp_cut_102 : decode b_Sp_cut 102 = .ok (.invokevirtual 111, 3) := by decide +kernel
theorem d_Sp_cut_105 : decode b_Sp_cut 105 = .ok (.iinc 7 1, 3) := by decide +kernel
theorem d_Sp_cut_108 : decode b_Sp_cut 108 = .ok (.goto (-55), 3) := by decide +kernel
theorem d_Sp_cut_111 : decode b_Sp_cut 111 = .ok (.iinc 6 1, 3) := by decide +kernel
theorem d_Sp_cut_114 : decode b_Sp_cut 114 = .ok (.goto (-71), 3) := by decide +kernel
theorem d_Sp_cut_117 : decode b_Sp_cut 117 = .ok (.aload_n 0, 1) := by decide +kernel
theorem d_Sp_cut_118 : decode b_Sp_cut 118 = .ok (.iload 5, 2) := by decide +kernel
theorem d_Sp_cut_120 : decode b_Sp_cut 120 = .ok (.invokevirtual 115, 3) := by decide +kernel
theorem d_Sp_cut_123 : decode b_Sp_cut 123 = .ok (.return_, 1) := by decide +kernel
theorem d_Sp_areNeighbours_0 : decode b_Sp_areNeighbours 0 = .ok (.aload_n 0, 1) := by decide +kernel
theorem d_Sp_areNeighbours_1 : decode b_Sp_areNeighbours 1 = .ok (.getfield 18, 3) := by decide +kernel
theorem d_Sp_areNeighbours_4 : decode b_Sp_areNeighbours 4 = .ok (.iload_n 1, 1) := by decide +kernel
theorem d_Sp_areNeighbours_5 : decode b_Sp_areNeighbours 5 = .ok (.iaload, 1) := by decide +kernel
theorem d_Sp_areNeighbours_6 : decode b_Sp_areNeighbours 6 = .ok (.aload_n 0, 1) := by decide +kernel
theorem d_Sp_areNeighbours_7 : decode b_Sp_areNeighbours 7 = .ok (.getfield 18, 3) := by decide +kernel
theorem d_Sp_areNeighbours_10 : decode b_Sp_areNeighbours 10 = .ok (.iload_n 2, 1) := by decide +kernel
theorem d_Sp_areNeighbours_11 : decode b_Sp_areNeighbours 11 = .ok (.iaload, 1) := by decide +kernel
theorem d_Sp_areNeighbours_12 : decode b_Sp_areNeighbours 12 = .ok (.iand, 1) := by decide +kernel
theorem d_Sp_areNeighbours_13 : decode b_Sp_areNeighbours 13 = .ok (.istore 4, 2) := by decide +kernel
theorem d_Sp_areNeighbours_15 : decode b_Sp_areNeighbours 15 = .ok (.iconst 0, 1) := by decide +kernel
theorem d_Sp_areNeighbours_16 : decode b_Sp_areNeighbours 16 = .ok (.istore 5, 2) := by decide +kernel
theorem d_Sp_areNeighbours_18 : decode b_Sp_areNeighbours 18 = .ok (.iload 5, 2) := by decide +kernel
theorem d_Sp_areNeighbours_20 : decode b_Sp_areNeighbours 20 = .ok (.iload_n 3, 1) := by decide +kernel
theorem d_Sp_areNeighbours_21 : decode b_Sp_areNeighbours 21 = .ok (.if_icmp .ge 38, 3) := by decide +kernel
theorem d_Sp_areNeighbours_24 : decode b_Sp_areNeighbours 24 = .ok (.iload 5, 2) := by decide +kernel
theorem d_Sp_areNeighbours_26 : decode b_Sp_areNeighbours 26 = .ok (.iload_n 1, 1) := by decide +kernel
theorem d_Sp_areNeighbours_27 : decode b_Sp_areNeighbours 27 = .ok (.if_icmp .eq 26, 3) := by decide +kernel
theorem d_Sp_areNeighbours_30 : decode b_Sp_areNeighbours 30 = .ok (.iload 5, 2) := by decide +kernel
theorem d_Sp_areNeighbours_32 : decode b_Sp_areNeighbours 32 = .ok (.iload_n 2, 1) := by decide +kernel
theorem d_Sp_areNeighbours_33 : decode b_Sp_areNeighbours 33 = .ok (.if_icmp .eq 20, 3) := by decide +kernel
theorem d_Sp_areNeighbours_36 : decode b_Sp_areNeighbours 36 = .ok (.aload_n 0, 1) := by decide +kernel
theorem d_Sp_areNeighbours_37 : decode b_Sp_areNeighbours 37 = .ok (.getfield 18, 3) := by decide +kernel
theorem d_Sp_areNeighbours_40 : decode b_Sp_areNeighbours 40 = .ok (.iload 5, 2) := by decide +kernel
theorem d_Sp_areNeighbours_42 : decode b_Sp_areNeighbours 42 = .ok (.iaload, 1) := by decide +kernel
theorem d_Sp_areNeighbours_43 : decode b_Sp_areNeighbours 43 = .ok (.iload 4, 2) := by decide +kernel
theorem d_Sp_areNeighbours_45 : decode b_Sp_areNeighbours 45 = .ok (.iand, 1) := by decide +kernel
theorem d_Sp_areNeighbours_46 : decode b_Sp_areNeighbours 46 = .ok (.iload 4, 2) := by decide +kernel
theorem d_Sp_areNeighbours_48 : decode b_Sp_areNeighbours 48 = .ok (.if_icmp .ne 5, 3) := by decide +kernel
theorem d_Sp_areNeighbours_51 : decode b_Sp_areNeighbours 51 = .ok (.iconst 0, 1) := by decide +kernel
theorem d_Sp_areNeighbours_52 : decode b_Sp_areNeighbours 52 = .ok (.ireturn, 1) := by decide +kernel
theorem d_Sp_areNeighbours_53 : decode b_Sp_areNeighbours 53 = .ok (.iinc 5 1, 3) := by decide +kernel
theorem d_Sp_areNeighbours_56 : decode b_Sp_areNeighbours 56 = .ok (.goto (-38), 3) := by decide +kernel
theorem d_Sp_areNeighbours_59 : decode b_Sp_areNeighbours 59 = .ok (.iconst 1, 1) := by decide +kernel
theorem d_Sp_areNeighbours_60 : decode b_Sp_areNeighbours 60 = .ok (.ireturn, 1) := by decide +kernel
theorem d_Sp_appendBetween_0 : decode b_Sp_appendBetween 0 = .ok (.iconst 0, 1) := by decide +kernel
theorem d_Sp_appendBetween_1 : decode b_Sp_appendBetween 1 = .ok (.istore_n 3, 1) := by decide +kernel
theorem d_Sp_appendBetween_2 : decode b_Sp_appendBetween 2 = .ok (.iload_n 3, 1) := by decide +kernel
theorem d_Sp_appendBetween_3 : decode b_Sp_appendBetween 3 = .ok (.iconst 4, 1) := by decide +kernel
theorem d_Sp_appendBetween_4 : decode b_Sp_appendBetween 4 = .ok (.if_icmp .ge 50, 3) := by decide +kernel
theorem d_Sp_appendBetween_7 : decode b_Sp_appendBetween 7 = .ok (.aload_n 0, 1) := by decide +kernel
theorem d_Sp_appendBetween_8 : decode b_Sp_appendBetween 8 = .ok (.getfield 25, 3) := by decide +kernel
theorem d_Sp_appendBetween_11 : decode b_Sp_appendBetween 11 = .ok (.iload_n 3, 1) := by decide +kernel
theorem d_Sp_appendBetween_12 : decode b_Sp_appendBetween 12 = .ok (.aload_n 0, 1) := by decide +kernel
theorem d_Sp_appendBetween_13 : decode b_Sp_appendBetween 13 = .ok (.getfield 22, 3) := by decide +kernel
theorem d_Sp_appendBetween_16 : decode b_Sp_appendBetween 16 = .ok (.iload_n 1, 1) := by decide +kernel
theorem d_Sp_appendBetween_17 : decode b_Sp_appendBetween 17 = .ok (.laload, 1) := by decide +kernel
theorem d_Sp_appendBetween_18 : decode b_Sp_appendBetween 18 = .ok (.aload_n 0, 1) := by decide +kernel
theorem d_Sp_appendBetween_19 : decode b_Sp_appendBetween 19 = .ok (.getfield 15, 3) := by decide +kernel
theorem d_Sp_appendBetween_22 : decode b_Sp_appendBetween 22 = .ok (.iconst 4, 1) := by decide +kernel
theorem d_Sp_appendBetween_23 : decode b_Sp_appendBetween 23 = .ok (.iload_n 2, 1) := by decide +kernel
theorem d_Sp_appendBetween_24 : decode b_Sp_appendBetween 24 = .ok (.imul, 1) := by decide +kernel
theorem d_Sp_appendBetween_25 : decode b_Sp_appendBetween 25 = .ok (.iload_n 3, 1) := by decide +kernel
theorem d_Sp_appendBetween_26 : decode b_Sp_appendBetween 26 = .ok (.iadd, 1) := by decide +kernel
theorem d_Sp_appendBetween_27 : decode b_Sp_appendBetween 27 = .ok (.laload, 1) := by decide +kernel
theorem d_Sp_appendBetween_28 : decode b_Sp_appendBetween 28 = .ok (.lmul, 1) := by decide +kernel
theorem d_Sp_appendBetween_29 : decode b_Sp_appendBetween 29 = .ok (.aload_n 0, 1) := by decide +kernel
theorem d_Sp_appendBetween_30 : decode b_Sp_appendBetween 30 = .ok (.getfield 22, 3) := by decide +kernel
theorem d_Sp_appendBetween_33 : decode b_Sp_appendBetween 33 = .ok (.iload_n 2, 1) := by decide +kernel
theorem d_Sp_appendBetween_34 : decode b_Sp_appendBetween 34 = .ok (.laload, 1) := by decide +kernel
theorem d_Sp_appendBetween_35 : decode b_Sp_appendBetween 35 = .ok (.aload_n 0, 1) := by decide +kernel
theorem d_Sp_appendBetween_36 : decode b_Sp_appendBetween 36 = .ok (.getfield 15, 3) := by decide +kernel
theorem d_Sp_appendBetween_39 : decode b_Sp_appendBetween 39 = .ok (.iconst 4, 1) := by decide +kernel
theorem d_Sp_appendBetween_40 : decode b_Sp_appendBetween 40 = .ok (.iload_n 1, 1) := by decide +kernel
theorem d_Sp_appendBetween_41 : decode b_Sp_appendBetween 41 = .ok (.imul, 1) := by decide +kernel
theorem d_Sp_appendBetween_42 : decode b_Sp_appendBetween 42 = .ok (.iload_n 3, 1) := by decide +kernel
theorem d_Sp_appendBetween_43 : decode b_Sp_appendBetween 43 = .ok (.iadd, 1) := by decide +kernel
theorem d_Sp_appendBetween_44 : decode b_Sp_appendBetween 44 = .ok (.laload, 1) := by decide +kernel
theorem d_Sp_appendBetween_45 : decode b_Sp_appendBetween 45 = .ok (.lmul, 1) := by decide +kernel
theorem d_Sp_appendBetween_46 : decode b_Sp_appendBetween 46 = .ok (.lsub, 1) := by decide +kernel
theorem d_Sp_appendBetween_47 : decode b_Sp_appendBetween 47 = .ok (.lastore, 1) := by decide +kernel
theorem d_Sp_appendBetween_48 : decode b_Sp_appendBetween 48 = .ok (.iinc 3 1, 3) := by decide +kernel
theorem d_Sp_appendBetween_51 : decode b_Sp_appendBetween 51 = .ok (.goto (-49), 3) := by decide +kernel
theorem d_Sp_appendBetween_54 : decode b_Sp_appendBetween 54 = .ok (.aload_n 0, 1) := by decide +kernel
theorem d_Sp_appendBetween_55 : decode b_Sp_appendBetween 55 = .ok (.getfield 25, 3) := by decide +kernel
theorem d_Sp_appendBetween_58 : decode b_Sp_appendBetween 58 = .ok (.iconst 0, 1) := by decide +kernel
theorem d_Sp_appendBetween_59 : decode b_Sp_appendBetween 59 = .ok (.invokestatic 103, 3) := by decide +kernel
theorem d_Sp_appendBetween_62 : decode b_Sp_appendBetween 62 = .ok (.aload_n 0, 1) := by decide +kernel
theorem d_Sp_appendBetween_63 : decode b_Sp_appendBetween 63 = .ok (.aload_n 0, 1) := by decide +kernel
theorem d_Sp_appendBetween_64 : decode b_Sp_appendBetween 64 = .ok (.getfield 18, 3) := by decide +kernel
theorem d_Sp_appendBetween_67 : decode b_Sp_appendBetween 67 = .ok (.iload_n 1, 1) := by decide +kernel
theorem d_Sp_appendBetween_68 : decode b_Sp_appendBetween 68 = .ok (.iaload, 1) := by decide +kernel
theorem d_Sp_appendBetween_69 : decode b_Sp_appendBetween 69 = .ok (.aload_n 0, 1) := by decide +kernel
theorem d_Sp_appendBetween_70 : decode b_Sp_appendBetween 70 = .ok (.getfield 18, 3) := by decide +kernel
theorem d_Sp_appendBetween_73 : decode b_Sp_appendBetween 73 = .ok (.iload_n 2, 1) := by decide +kernel
theorem d_Sp_appendBetween_74 : decode b_Sp_appendBetween 74 = .ok (.iaload, 1) := by decide +kernel
theorem d_Sp_appendBetween_75 : decode b_Sp_appendBetween 75 = .ok (.iand, 1) := by decide +kernel
theorem d_Sp_appendBetween_76 : decode b_Sp_appendBetween 76 = .ok (.aload_n 0, 1) := by decide +kernel
theorem d_Sp_appendBetween_77 : decode b_Sp_appendBetween 77 = .ok (.getfield 69, 3) := by decide +kernel
theorem d_Sp_appendBetween_80 : decode b_Sp_appendBetween 80 = .ok (.ior, 1) := by decide +kernel
theorem d_Sp_appendBetween_81 : decode b_Sp_appendBetween 81 = .ok (.invokevirtual 90, 3) := by decide +kernel
theorem d_Sp_appendBetween_84 : decode b_Sp_appendBetween 84 = .ok (.return_, 1) := by decide +kernel
theorem d_Sp_dropBeyond_0 : decode b_Sp_dropBeyond 0 = .ok (.iconst 0, 1) := by decide +kernel
theorem d_Sp_dropBeyond_1 : decode b_Sp_dropBeyond 1 = .ok (.istore_n 2, 1) := by decide +kernel
theorem d_Sp_dropBeyond_2 : decode b_Sp_dropBeyond 2 = .ok (.iconst 0, 1) := by decide +kernel
theorem d_Sp_dropBeyond_3 : decode b_Sp_dropBeyond 3 = .ok (.istore_n 3, 1) := by decide +kernel
theorem d_Sp_dropBeyond_4 : decode b_Sp_dropBeyond 4 = .ok (.iload_n 3, 1) := by decide +kernel
theorem d_Sp_dropBeyond_5 : decode b_Sp_dropBeyond 5 = .ok (.aload_n 0, 1) := by decide +kernel
theorem d_Sp_dropBeyond_6 : decode b_Sp_dropBeyond 6 = .ok (.getfield 66, 3) := by decide +kernel
theorem d_Sp_dropBeyond_9 : decode b_Sp_dropBeyond 9 = .ok (.if_icmp .ge 110, 3) := by decide +kernel
theorem d_Sp_dropBeyond_12 : decode b_Sp_dropBeyond 12 = .ok (.iload_n 3, 1) := by decide +kernel
theorem d_Sp_dropBeyond_13 : decode b_Sp_dropBeyond 13 = .ok (.iload_n 1, 1) := by decide +kernel
theorem d_Sp_dropBeyond_14 : decode b_Sp_dropBeyond 14 = .ok (.if_icmp .ge 17, 3) := by decide +kernel
theorem d_Sp_dropBeyond_17 : decode b_Sp_dropBeyond 17 = .ok (.aload_n 0, 1) := by decide +kernel
theorem d_Sp_dropBeyond_18 : decode b_Sp_dropBeyond 18 = .ok (.getfield 22, 3) := by decide +kernel
theorem d_Sp_dropBeyond_21 : decode b_Sp_dropBeyond 21 = .ok (.iload_n 3, 1) := by decide +kernel
theorem d_Sp_dropBeyond_22 : decode b_Sp_dropBeyond 22 = .ok (.laload, 1) := by decide +kernel
theorem d_Sp_dropBeyond_23 : decode b_Sp_dropBeyond 23 = .ok (.lconst 0, 1) := by decide +kernel
theorem d_Sp_dropBeyond_24 : decode b_Sp_dropBeyond 24 = .ok (.lcmp, 1) := by decide +kernel
theorem d_Sp_dropBeyond_25 : decode b_Sp_dropBeyond 25 = .ok (.ifCond .ge 6, 3) := by decide +kernel
theorem d_Sp_dropBeyond_28 : decode b_Sp_dropBeyond 28 = .ok (.goto 85, 3) := by decide +kernel
theorem d_Sp_dropBeyond_31 : decode b_Sp_dropBeyond 31 = .ok (.iconst 0, 1) := by decide +kernel
theorem d_Sp_dropBeyond_32 : decode b_Sp_dropBeyond 32 = .ok (.istore 4, 2) := by decide +kernel
theorem d_Sp_dropBeyond_34 : decode b_Sp_dropBeyond 34 = .ok (.iload 4, 2) := by decide +kernel
theorem d_Sp_dropBeyond_36 : decode b_Sp_dropBeyond 36 = .ok (.iconst 4, 1) := by decide +kernel
theorem d_Sp_dropBeyond_37 : decode b_Sp_dropBeyond 37 = .ok (.if_icmp .ge 31, 3) := by decide +kernel
theorem d_Sp_dropBeyond_40 : decode b_Sp_dropBeyond 40 = .ok (.aload_n 0, 1) := by decide +kernel
theorem d_Sp_dropBeyond_41 : decode b_Sp_dropBeyond 41 = .ok (.getfield 15, 3) := by decide +kernel
theorem d_Sp_dropBeyond_44 : decode b_Sp_dropBeyond 44 = .ok (.iconst 4, 1) := by decide +kernel
theorem d_Sp_dropBeyond_45 : decode b_Sp_dropBeyond 45 = .ok (.iload_n 2, 1) := by decide +kernel
theorem d_Sp_dropBeyond_46 : decode b_Sp_dropBeyond 46 = .ok (.imul, 1) := by decide +kernel
theorem d_Sp_dropBeyond_47 : decode b_Sp_dropBeyond 47 = .ok (.iload 4, 2) := by decide +kernel
theorem d_Sp_dropBeyond_49 : decode b_Sp_dropBeyond 49 = .ok (.iadd, 1) := by decide +kernel
theorem d_Sp_dropBeyond_50 : decode b_Sp_dropBeyond 50 = .ok (.aload_n 0, 1) := by decide +kernel
theorem d_Sp_dropBeyond_51 : decode b_Sp_dropBeyond 51 = .ok (.getfield 15, 3) := by decide +kernel
theorem d_Sp_dropBeyond_54 : decode b_Sp_dropBeyond 54 = .ok (.iconst 4, 1) := by decide +kernel
theorem d_Sp_dropBeyond_55 : decode b_Sp_dropBeyond 55 = .ok (.iload_n 3, 1) := by decide +kernel
theorem d_Sp_dropBeyond_56 : decode b_Sp_dropBeyond 56 = .ok (.imul, 1) := by decide +kernel
theorem d_Sp_dropBeyond_57 : decode b_Sp_dropBeyond 57 = .ok (.iload 4, 2) := by decide +kernel
theorem d_Sp_dropBeyond_59 : decode b_Sp_dropBeyond 59 = .ok (.iadd, 1) := by decide +kernel
theorem d_Sp_dropBeyond_60 : decode b_Sp_dropBeyond 60 = .ok (.laload, 1) := by decide +kernel
end
section
theorem d_Sp_dropBeyond_61 : decode b_Sp_dropBeyond 61 = .ok (.lastore, 1) := by decide +kernel
theorem d_Sp_dropBeyond_62 : decode b_Sp_dropBeyond 62 = .ok (.iinc 4 1, 3) := by decide +kernel
theorem d_Sp_dropBeyond_65 : decode b_Sp_dropBeyond 65 = .ok (.goto (-31), 3) := by decide +kernel
theorem d_Sp_dropBeyond_68 : decode b_Sp_dropBeyond 68 = .ok (.aload_n 0, 1) := by decide +kernel
theorem d_Sp_dropBeyond_69 : decode b_Sp_dropBeyond 69 = .ok (.getfield 18, 3) := by decide +kernel
theorem d_Sp_dropBeyond_72 : decode b_Sp_dropBeyond 72 = .ok (.iload_n 2, 1) := by decide +kernel
theorem d_Sp_dropBeyond_73 : decode b_Sp_dropBeyond 73 = .ok (.iload_n 3, 1) := by decide +kernel
theorem d_Sp_dropBeyond_74 : decode b_Sp_dropBeyond 74 = .ok (.iload_n 1, 1) := by decide +kernel
theorem d_Sp_dropBeyond_75 : decode b_Sp_dropBeyond 75 = .ok (.if_icmp .ge 28, 3) := by decide +kernel
theorem d_Sp_dropBeyond_78 : decode b_Sp_dropBeyond 78 = .ok (.aload_n 0, 1) := by decide +kernel
theorem d_Sp_dropBeyond_79 : decode b_Sp_dropBeyond 79 = .ok (.getfield 22, 3) := by decide +kernel
theorem d_Sp_dropBeyond_82 : decode b_Sp_dropBeyond 82 = .ok (.iload_n 3, 1) := by decide +kernel
theorem d_Sp_dropBeyond_83 : decode b_Sp_dropBeyond 83 = .ok (.laload, 1) := by decide +kernel
theorem d_Sp_dropBeyond_84 : decode b_Sp_dropBeyond 84 = .ok (.lconst 0, 1) := by decide +kernel
theorem d_Sp_dropBeyond_85 : decode b_Sp_dropBeyond 85 = .ok (.lcmp, 1) := by decide +kernel
theorem d_Sp_dropBeyond_86 : decode b_Sp_dropBeyond 86 = .ok (.ifCond .ne 17, 3) := by decide +kernel
theorem d_Sp_dropBeyond_89 : decode b_Sp_dropBeyond 89 = .ok (.aload_n 0, 1) := by decide +kernel
theorem d_Sp_dropBeyond_90 : decode b_Sp_dropBeyond 90 = .ok (.getfield 18, 3) := by decide +kernel
theorem d_Sp_dropBeyond_93 : decode b_Sp_dropBeyond 93 = .ok (.iload_n 3, 1) := by decide +kernel
theorem d_Sp_dropBeyond_94 : decode b_Sp_dropBeyond 94 = .ok (.iaload, 1) := by decide +kernel
theorem d_Sp_dropBeyond_95 : decode b_Sp_dropBeyond 95 = .ok (.aload_n 0, 1) := by decide +kernel
theorem d_Sp_dropBeyond_96 : decode b_Sp_dropBeyond 96 = .ok (.getfield 69, 3) := by decide +kernel
theorem d_Sp_dropBeyond_99 : decode b_Sp_dropBeyond 99 = .ok (.ior, 1) := by decide +kernel
theorem d_Sp_dropBeyond_100 : decode b_Sp_dropBeyond 100 = .ok (.goto 9, 3) := by decide +kernel
theorem d_Sp_dropBeyond_103 : decode b_Sp_dropBeyond 103 = .ok (.aload_n 0, 1) := by decide +kernel
theorem d_Sp_dropBeyond_104 : decode b_Sp_dropBeyond 104 = .ok (.getfield 18, 3) := by decide +kernel
theorem d_Sp_dropBeyond_107 : decode b_Sp_dropBeyond 107 = .ok (.iload_n 3, 1) := by decide +kernel
theorem d_Sp_dropBeyond_108 : decode b_Sp_dropBeyond 108 = .ok (.iaload, 1) := by decide +kernel
theorem d_Sp_dropBeyond_109 : decode b_Sp_dropBeyond 109 = .ok (.iastore, 1) := by decide +kernel
theorem d_Sp_dropBeyond_110 : decode b_Sp_dropBeyond 110 = .ok (.iinc 2 1, 3) := by decide +kernel
theorem d_Sp_dropBeyond_113 : decode b_Sp_dropBeyond 113 = .ok (.iinc 3 1, 3) := by decide +kernel
theorem d_Sp_dropBeyond_116 : decode b_Sp_dropBeyond 116 = .ok (.goto (-112), 3) := by decide +kernel
theorem d_Sp_dropBeyond_119 : decode b_Sp_dropBeyond 119 = .ok (.aload_n 0, 1) := by decide +kernel
theorem d_Sp_dropBeyond_120 : decode b_Sp_dropBeyond 120 = .ok (.iload_n 2, 1) := by decide +kernel
theorem d_Sp_dropBeyond_121 : decode b_Sp_dropBeyond 121 = .ok (.putfield 66, 3) := by decide +kernel
theorem d_Sp_dropBeyond_124 : decode b_Sp_dropBeyond 124 = .ok (.return_, 1) := by decide +kernel
theorem d_Sp_dropIfNoPoint_0 : decode b_Sp_dropIfNoPoint 0 = .ok (.iconst 0, 1) := by decide +kernel
theorem d_Sp_dropIfNoPoint_1 : decode b_Sp_dropIfNoPoint 1 = .ok (.istore_n 1, 1) := by decide +kernel
theorem d_Sp_dropIfNoPoint_2 : decode b_Sp_dropIfNoPoint 2 = .ok (.iload_n 1, 1) := by decide +kernel
theorem d_Sp_dropIfNoPoint_3 : decode b_Sp_dropIfNoPoint 3 = .ok (.aload_n 0, 1) := by decide +kernel
theorem d_Sp_dropIfNoPoint_4 : decode b_Sp_dropIfNoPoint 4 = .ok (.getfield 66, 3) := by decide +kernel
theorem d_Sp_dropIfNoPoint_7 : decode b_Sp_dropIfNoPoint 7 = .ok (.if_icmp .ge 25, 3) := by decide +kernel
theorem d_Sp_dropIfNoPoint_10 : decode b_Sp_dropIfNoPoint 10 = .ok (.aload_n 0, 1) := by decide +kernel
theorem d_Sp_dropIfNoPoint_11 : decode b_Sp_dropIfNoPoint 11 = .ok (.getfield 15, 3) := by decide +kernel
theorem d_Sp_dropIfNoPoint_14 : decode b_Sp_dropIfNoPoint 14 = .ok (.iconst 4, 1) := by decide +kernel
theorem d_Sp_dropIfNoPoint_15 : decode b_Sp_dropIfNoPoint 15 = .ok (.iload_n 1, 1) := by decide +kernel
theorem d_Sp_dropIfNoPoint_16 : decode b_Sp_dropIfNoPoint 16 = .ok (.imul, 1) := by decide +kernel
theorem d_Sp_dropIfNoPoint_17 : decode b_Sp_dropIfNoPoint 17 = .ok (.iconst 3, 1) := by decide +kernel
theorem d_Sp_dropIfNoPoint_18 : decode b_Sp_dropIfNoPoint 18 = .ok (.iadd, 1) := by decide +kernel
theorem d_Sp_dropIfNoPoint_19 : decode b_Sp_dropIfNoPoint 19 = .ok (.laload, 1) := by decide +kernel
theorem d_Sp_dropIfNoPoint_20 : decode b_Sp_dropIfNoPoint 20 = .ok (.lconst 0, 1) := by decide +kernel
theorem d_Sp_dropIfNoPoint_21 : decode b_Sp_dropIfNoPoint 21 = .ok (.lcmp, 1) := by decide +kernel
theorem d_Sp_dropIfNoPoint_22 : decode b_Sp_dropIfNoPoint 22 = .ok (.ifCond .le 4, 3) := by decide +kernel
theorem d_Sp_dropIfNoPoint_25 : decode b_Sp_dropIfNoPoint 25 = .ok (.return_, 1) := by decide +kernel
theorem d_Sp_dropIfNoPoint_26 : decode b_Sp_dropIfNoPoint 26 = .ok (.iinc 1 1, 3) := by decide +kernel
theorem d_Sp_dropIfNoPoint_29 : decode b_Sp_dropIfNoPoint 29 = .ok (.goto (-27), 3) := by decide +kernel
theorem d_Sp_dropIfNoPoint_32 : decode b_Sp_dropIfNoPoint 32 = .ok (.aload_n 0, 1) := by decide +kernel
theorem d_Sp_dropIfNoPoint_33 : decode b_Sp_dropIfNoPoint 33 = .ok (.iconst 0, 1) := by decide +kernel
theorem d_Sp_dropIfNoPoint_34 : decode b_Sp_dropIfNoPoint 34 = .ok (.putfield 66, 3) := by decide +kernel
theorem d_Sp_dropIfNoPoint_37 : decode b_Sp_dropIfNoPoint 37 = .ok (.aload_n 0, 1) := by decide +kernel
theorem d_Sp_dropIfNoPoint_38 : decode b_Sp_dropIfNoPoint 38 = .ok (.iconst 0, 1) := by decide +kernel
theorem d_Sp_dropIfNoPoint_39 : decode b_Sp_dropIfNoPoint 39 = .ok (.putfield 63, 3) := by decide +kernel
theorem d_Sp_dropIfNoPoint_42 : decode b_Sp_dropIfNoPoint 42 = .ok (.return_, 1) := by decide +kernel
theorem d_Sp_hasNothing_0 : decode b_Sp_hasNothing 0 = .ok (.aload_n 0, 1) := by decide +kernel
theorem d_Sp_hasNothing_1 : decode b_Sp_hasNothing 1 = .ok (.getfield 66, 3) := by decide +kernel
theorem d_Sp_hasNothing_4 : decode b_Sp_hasNothing 4 = .ok (.ifCond .ne 7, 3) := by decide +kernel
theorem d_Sp_hasNothing_7 : decode b_Sp_hasNothing 7 = .ok (.iconst 1, 1) := by decide +kernel
theorem d_Sp_hasNothing_8 : decode b_Sp_hasNothing 8 = .ok (.goto 4, 3) := by decide +kernel
theorem d_Sp_hasNothing_11 : decode b_Sp_hasNothing 11 = .ok (.iconst 0, 1) := by decide +kernel
theorem d_Sp_hasNothing_12 : decode b_Sp_hasNothing 12 = .ok (.ireturn, 1) := by decide +kernel
theorem d_FT_holds_0 : decode b_FT_holds 0 = .ok (.aload_n 0, 1) := by decide +kernel
theorem d_FT_holds_1 : decode b_FT_holds 1 = .ok (.iload_n 1, 1) := by decide +kernel
theorem d_FT_holds_2 : decode b_FT_holds 2 = .ok (.iload_n 2, 1) := by decide +kernel
theorem d_FT_holds_3 : decode b_FT_holds 3 = .ok (.invokevirtual 83, 3) := by decide +kernel
theorem d_FT_holds_6 : decode b_FT_holds 6 = .ok (.ifCond .ne 6, 3) := by decide +kernel
theorem d_FT_holds_9 : decode b_FT_holds 9 = .ok (.bipush (-2), 2) := by decide +kernel
theorem d_FT_holds_11 : decode b_FT_holds 11 = .ok (.ireturn, 1) := by decide +kernel
theorem d_FT_holds_12 : decode b_FT_holds 12 = .ok (.aload_n 0, 1) := by decide +kernel
theorem d_FT_holds_13 : decode b_FT_holds 13 = .ok (.iload_n 1, 1) := by decide +kernel
theorem d_FT_holds_14 : decode b_FT_holds 14 = .ok (.iload_n 3, 1) := by decide +kernel
theorem d_FT_holds_15 : decode b_FT_holds 15 = .ok (.iload 4, 2) := by decide +kernel
theorem d_FT_holds_17 : decode b_FT_holds 17 = .ok (.iload 5, 2) := by decide +kernel
theorem d_FT_holds_19 : decode b_FT_holds 19 = .ok (.iload 6, 2) := by decide +kernel
theorem d_FT_holds_21 : decode b_FT_holds 21 = .ok (.invokevirtual 65, 3) := by decide +kernel
theorem d_FT_holds_24 : decode b_FT_holds 24 = .ok (.ifCond .ne 6, 3) := by decide +kernel
theorem d_FT_holds_27 : decode b_FT_holds 27 = .ok (.bipush (-3), 2) := by decide +kernel
theorem d_FT_holds_29 : decode b_FT_holds 29 = .ok (.ireturn, 1) := by decide +kernel
theorem d_FT_holds_30 : decode b_FT_holds 30 = .ok (.aload_n 0, 1) := by decide +kernel
theorem d_FT_holds_31 : decode b_FT_holds 31 = .ok (.iload_n 1, 1) := by decide +kernel
theorem d_FT_holds_32 : decode b_FT_holds 32 = .ok (.iload_n 2, 1) := by decide +kernel
theorem d_FT_holds_33 : decode b_FT_holds 33 = .ok (.invokevirtual 117, 3) := by decide +kernel
theorem d_FT_holds_36 : decode b_FT_holds 36 = .ok (.iload_n 3, 1) := by decide +kernel
theorem d_FT_holds_37 : decode b_FT_holds 37 = .ok (.iload 4, 2) := by decide +kernel
theorem d_FT_holds_39 : decode b_FT_holds 39 = .ok (.iload 5, 2) := by decide +kernel
theorem d_FT_holds_41 : decode b_FT_holds 41 = .ok (.iload 6, 2) := by decide +kernel
theorem d_FT_holds_43 : decode b_FT_holds 43 = .ok (.invokevirtual 125, 3) := by decide +kernel
theorem d_FT_holds_46 : decode b_FT_holds 46 = .ok (.ifCond .eq 7, 3) := by decide +kernel
theorem d_FT_holds_49 : decode b_FT_holds 49 = .ok (.iconst 1, 1) := by decide +kernel
theorem d_FT_holds_50 : decode b_FT_holds 50 = .ok (.goto 4, 3) := by decide +kernel
theorem d_FT_holds_53 : decode b_FT_holds 53 = .ok (.iconst 0, 1) := by decide +kernel
theorem d_FT_holds_54 : decode b_FT_holds 54 = .ok (.ireturn, 1) := by decide +kernel
theorem d_Sp_implies_0 : decode b_Sp_implies 0 = .ok (.iconst 0, 1) := by decide +kernel
theorem d_Sp_implies_1 : decode b_Sp_implies 1 = .ok (.istore 5, 2) := by decide +kernel
theorem d_Sp_implies_3 : decode b_Sp_implies 3 = .ok (.iload 5, 2) := by decide +kernel
theorem d_Sp_implies_5 : decode b_Sp_implies 5 = .ok (.iconst 4, 1) := by decide +kernel
theorem d_Sp_implies_6 : decode b_Sp_implies 6 = .ok (.aload_n 0, 1) := by decide +kernel
theorem d_Sp_implies_7 : decode b_Sp_implies 7 = .ok (.getfield 63, 3) := by decide +kernel
theorem d_Sp_implies_10 : decode b_Sp_implies 10 = .ok (.imul, 1) := by decide +kernel
theorem d_Sp_implies_11 : decode b_Sp_implies 11 = .ok (.if_icmp .ge 52, 3) := by decide +kernel
theorem d_Sp_implies_14 : decode b_Sp_implies 14 = .ok (.iload_n 1, 1) := by decide +kernel
theorem d_Sp_implies_15 : decode b_Sp_implies 15 = .ok (.i2l, 1) := by decide +kernel
theorem d_Sp_implies_16 : decode b_Sp_implies 16 = .ok (.aload_n 0, 1) := by decide +kernel
theorem d_Sp_implies_17 : decode b_Sp_implies 17 = .ok (.getfield 9, 3) := by decide +kernel
theorem d_Sp_implies_20 : decode b_Sp_implies 20 = .ok (.iload 5, 2) := by decide +kernel
theorem d_Sp_implies_22 : decode b_Sp_implies 22 = .ok (.laload, 1) := by decide +kernel
theorem d_Sp_implies_23 : decode b_Sp_implies 23 = .ok (.lmul, 1) := by decide +kernel
theorem d_Sp_implies_24 : decode b_Sp_implies 24 = .ok (.iload_n 2, 1) := by decide +kernel
theorem d_Sp_implies_25 : decode b_Sp_implies 25 = .ok (.i2l, 1) := by decide +kernel
theorem d_Sp_implies_26 : decode b_Sp_implies 26 = .ok (.aload_n 0, 1) := by decide +kernel
theorem d_Sp_implies_27 : decode b_Sp_implies 27 = .ok (.getfield 9, 3) := by decide +kernel
theorem d_Sp_implies_30 : decode b_Sp_implies 30 = .ok (.iload 5, 2) := by decide +kernel
theorem d_Sp_implies_32 : decode b_Sp_implies 32 = .ok (.iconst 1, 1) := by decide +kernel
theorem d_Sp_implies_33 : decode b_Sp_implies 33 = .ok (.iadd, 1) := by decide +kernel
theorem d_Sp_implies_34 : decode b_Sp_implies 34 = .ok (.laload, 1) := by decide +kernel
theorem d_Sp_implies_35 : decode b_Sp_implies 35 = .ok (.lmul, 1) := by decide +kernel
theorem d_Sp_implies_36 : decode b_Sp_implies 36 = .ok (.ladd, 1) := by decide +kernel
theorem d_Sp_implies_37 : decode b_Sp_implies 37 = .ok (.iload_n 3, 1) := by decide +kernel
theorem d_Sp_implies_38 : decode b_Sp_implies 38 = .ok (.i2l, 1) := by decide +kernel
theorem d_Sp_implies_39 : decode b_Sp_implies 39 = .ok (.aload_n 0, 1) := by decide +kernel
theorem d_Sp_implies_40 : decode b_Sp_implies 40 = .ok (.getfield 9, 3) := by decide +kernel
theorem d_Sp_implies_43 : decode b_Sp_implies 43 = .ok (.iload 5, 2) := by decide +kernel
theorem d_Sp_implies_45 : decode b_Sp_implies 45 = .ok (.iconst 2, 1) := by decide +kernel
theorem d_Sp_implies_46 : decode b_Sp_implies 46 = .ok (.iadd, 1) := by decide +kernel
theorem d_Sp_implies_47 : decode b_Sp_implies 47 = .ok (.laload, 1) := by decide +kernel
theorem d_Sp_implies_48 : decode b_Sp_implies 48 = .ok (.lmul, 1) := by decide +kernel
theorem d_Sp_implies_49 : decode b_Sp_implies 49 = .ok (.ladd, 1) := by decide +kernel
theorem d_Sp_implies_50 : decode b_Sp_implies 50 = .ok (.lconst 0, 1) := by decide +kernel
theorem d_Sp_implies_51 : decode b_Sp_implies 51 = .ok (.lcmp, 1) := by decide +kernel
theorem d_Sp_implies_52 : decode b_Sp_implies 52 = .ok (.ifCond .eq 5, 3) := by decide +kernel
theorem d_Sp_implies_55 : decode b_Sp_implies 55 = .ok (.iconst 0, 1) := by decide +kernel
theorem d_Sp_implies_56 : decode b_Sp_implies 56 = .ok (.ireturn, 1) := by decide +kernel
theorem d_Sp_implies_57 : decode b_Sp_implies 57 = .ok (.iinc 5 4, 3) := by decide +kernel
theorem d_Sp_implies_60 : decode b_Sp_implies 60 = .ok (.goto (-57), 3) := by decide +kernel
theorem d_Sp_implies_63 : decode b_Sp_implies 63 = .ok (.iconst 0, 1) := by decide +kernel
theorem d_Sp_implies_64 : decode b_Sp_implies 64 = .ok (.istore 5, 2) := by decide +kernel
theorem d_Sp_implies_66 : decode b_Sp_implies 66 = .ok (.iload 5, 2) := by decide +kernel
theorem d_Sp_implies_68 : decode b_Sp_implies 68 = .ok (.iconst 4, 1) := by decide +kernel
theorem d_Sp_implies_69 : decode b_Sp_implies 69 = .ok (.aload_n 0, 1) := by decide +kernel
theorem d_Sp_implies_70 : decode b_Sp_implies 70 = .ok (.getfield 66, 3) := by decide +kernel
theorem d_Sp_implies_73 : decode b_Sp_implies 73 = .ok (.imul, 1) := by decide +kernel
theorem d_Sp_implies_74 : decode b_Sp_implies 74 = .ok (.if_icmp .ge 64, 3) := by decide +kernel
theorem d_Sp_implies_77 : decode b_Sp_implies 77 = .ok (.iload_n 1, 1) := by decide +kernel
theorem d_Sp_implies_78 : decode b_Sp_implies 78 = .ok (.i2l, 1) := by decide +kernel
theorem d_Sp_implies_79 : decode b_Sp_implies 79 = .ok (.aload_n 0, 1) := by decide +kernel
theorem d_Sp_implies_80 : decode b_Sp_implies 80 = .ok (.getfield 15, 3) := by decide +kernel
theorem d_Sp_implies_83 : decode b_Sp_implies 83 = .ok (.iload 5, 2) := by decide +kernel
theorem d_Sp_implies_85 : decode b_Sp_implies 85 = .ok (.laload, 1) := by decide +kernel
theorem d_Sp_implies_86 : decode b_Sp_implies 86 = .ok (.lmul, 1) := by decide +kernel
theorem d_Sp_implies_87 : decode b_Sp_implies 87 = .ok (.iload_n 2, 1) := by decide +kernel
theorem d_Sp_implies_88 : decode b_Sp_implies 88 = .ok (.i2l, 1) := by decide +kernel
theorem d_Sp_implies_89 : decode b_Sp_implies 89 = .ok (.aload_n 0, 1) := by decide +kernel
theorem d_Sp_implies_90 : decode b_Sp_implies 90 = .ok (.getfield 15, 3) := by decide +kernel
theorem d_Sp_implies_93 : decode b_Sp_implies 93 = .ok (.iload 5, 2) := by decide +kernel
theorem d_Sp_implies_95 : decode b_Sp_implies 95 = .ok (.iconst 1, 1) := by decide +kernel
theorem d_Sp_implies_96 : decode b_Sp_implies 96 = .ok (.iadd, 1) := by decide +kernel
theorem d_Sp_implies_97 : decode b_Sp_implies 97 = .ok (.laload, 1) := by decide +kernel
theorem d_Sp_implies_98 : decode b_Sp_implies 98 = .ok (.lmul, 1) := by decide +kernel
theorem d_Sp_implies_99 : decode b_Sp_implies 99 = .ok (.ladd, 1) := by decide +kernel
theorem d_Sp_implies_100 : decode b_Sp_implies 100 = .ok (.iload_n 3, 1) := by decide +kernel
theorem d_Sp_implies_101 : decode b_Sp_implies 101 = .ok (.i2l, 1) := by decide +kernel
theorem d_Sp_implies_102 : decode b_Sp_implies 102 = .ok (.aload_n 0, 1) := by decide +kernel
theorem d_Sp_implies_103 : decode b_Sp_implies 103 = .ok (.getfield 15, 3) := by decide +kernel
theorem d_Sp_implies_106 : decode b_Sp_implies 106 = .ok (.iload 5, 2) := by decide +kernel
theorem d_Sp_implies_108 : decode b_Sp_implies 108 = .ok (.iconst 2, 1) := by decide +kernel
theorem d_Sp_implies_109 : decode b_Sp_implies 109 = .ok (.iadd, 1) := by decide +kernel
theorem d_Sp_implies_110 : decode b_Sp_implies 110 = .ok (.laload, 1) := by decide +kernel
theorem d_Sp_implies_111 : decode b_Sp_implies 111 = .ok (.lmul, 1) := by decide +kernel
theorem d_Sp_implies_112 : decode b_Sp_implies 112 = .ok (.ladd, 1) := by decide +kernel
theorem d_Sp_implies_113 : decode b_Sp_implies 113 = .ok (.iload 4, 2) := by decide +kernel
theorem d_Sp_implies_115 : decode b_Sp_implies 115 = .ok (.i2l, 1) := by decide +kernel
theorem d_Sp_implies_116 : decode b_Sp_implies 116 = .ok (.aload_n 0, 1) := by decide +kernel
theorem d_Sp_implies_117 : decode b_Sp_implies 117 = .ok (.getfield 15, 3) := by decide +kernel
theorem d_Sp_implies_120 : decode b_Sp_implies 120 = .ok (.iload 5, 2) := by decide +kernel
theorem d_Sp_implies_122 : decode b_Sp_implies 122 = .ok (.iconst 3, 1) := by decide +kernel
theorem d_Sp_implies_123 : decode b_Sp_implies 123 = .ok (.iadd, 1) := by decide +kernel
theorem d_Sp_implies_124 : decode b_Sp_implies 124 = .ok (.laload, 1) := by decide +kernel
theorem d_Sp_implies_125 : decode b_Sp_implies 125 = .ok (.lmul, 1) := by decide +kernel
theorem d_Sp_implies_126 : decode b_Sp_implies 126 = .ok (.lcmp, 1) := by decide +kernel
theorem d_Sp_implies_127 : decode b_Sp_implies 127 = .ok (.ifCond .ge 5, 3) := by decide +kernel
theorem d_Sp_implies_130 : decode b_Sp_implies 130 = .ok (.iconst 0, 1) := by decide +kernel
theorem d_Sp_implies_131 : decode b_Sp_implies 131 = .ok (.ireturn, 1) := by decide +kernel
theorem d_Sp_implies_132 : decode b_Sp_implies 132 = .ok (.iinc 5 4, 3) := by decide +kernel
theorem d_Sp_implies_135 : decode b_Sp_implies 135 = .ok (.goto (-69), 3) := by decide +kernel
theorem d_Sp_implies_138 : decode b_Sp_implies 138 = .ok (.iconst 1, 1) := by decide +kernel
theorem d_Sp_implies_139 : decode b_Sp_implies 139 = .ok (.ireturn, 1) := by decide +kernel
theorem d_FT_term_0 : decode b_FT_term 0 = .ok (.aload_n 0, 1) := by decide +kernel
theorem d_FT_term_1 : decode b_FT_term 1 = .ok (.iload_n 1, 1) := by decide +kernel
theorem d_FT_term_2 : decode b_FT_term 2 = .ok (.iload_n 2, 1) := by decide +kernel
theorem d_FT_term_3 : decode b_FT_term 3 = .ok (.invokevirtual 83, 3) := by decide +kernel
theorem d_FT_term_6 : decode b_FT_term 6 = .ok (.ifCond .ne 6, 3) := by decide +kernel
theorem d_FT_term_9 : decode b_FT_term 9 = .ok (.bipush (-2), 2) := by decide +kernel
theorem d_FT_term_11 : decode b_FT_term 11 = .ok (.ireturn, 1) := by decide +kernel
theorem d_FT_term_12 : decode b_FT_term 12 = .ok (.aload_n 0, 1) := by decide +kernel
theorem d_FT_term_13 : decode b_FT_term 13 = .ok (.getfield 11, 3) := by decide +kernel
theorem d_FT_term_16 : decode b_FT_term 16 = .ok (.iload_n 1, 1) := by decide +kernel
theorem d_FT_term_17 : decode b_FT_term 17 = .ok (.aaload, 1) := by decide +kernel
theorem d_FT_term_18 : decode b_FT_term 18 = .ok (.getfield 108, 3) := by decide +kernel
theorem d_FT_term_21 : decode b_FT_term 21 = .ok (.iload_n 3, 1) := by decide +kernel
theorem d_FT_term_22 : decode b_FT_term 22 = .ok (.iload 4, 2) := by decide +kernel
theorem d_FT_term_24 : decode b_FT_term 24 = .ok (.iload 5, 2) := by decide +kernel
theorem d_FT_term_26 : decode b_FT_term 26 = .ok (.iconst 2, 1) := by decide +kernel
theorem d_FT_term_27 : decode b_FT_term 27 = .ok (.invokestatic 129, 3) := by decide +kernel
theorem d_FT_term_30 : decode b_FT_term 30 = .ok (.ifCond .ne 6, 3) := by decide +kernel
theorem d_FT_term_33 : decode b_FT_term 33 = .ok (.bipush (-3), 2) := by decide +kernel
theorem d_FT_term_35 : decode b_FT_term 35 = .ok (.ireturn, 1) := by decide +kernel
theorem d_FT_term_36 : decode b_FT_term 36 = .ok (.aload_n 0, 1) := by decide +kernel
theorem d_FT_term_37 : decode b_FT_term 37 = .ok (.iload_n 1, 1) := by decide +kernel
theorem d_FT_term_38 : decode b_FT_term 38 = .ok (.iload_n 2, 1) := by decide +kernel
theorem d_FT_term_39 : decode b_FT_term 39 = .ok (.invokevirtual 117, 3) := by decide +kernel
theorem d_FT_term_42 : decode b_FT_term 42 = .ok (.astore 6, 2) := by decide +kernel
theorem d_FT_term_44 : decode b_FT_term 44 = .ok (.aload_n 0, 1) := by decide +kernel
theorem d_FT_term_45 : decode b_FT_term 45 = .ok (.getfield 11, 3) := by decide +kernel
theorem d_FT_term_48 : decode b_FT_term 48 = .ok (.iload_n 1, 1) := by decide +kernel
theorem d_FT_term_49 : decode b_FT_term 49 = .ok (.aaload, 1) := by decide +kernel
theorem d_FT_term_50 : decode b_FT_term 50 = .ok (.getfield 87, 3) := by decide +kernel
theorem d_FT_term_53 : decode b_FT_term 53 = .ok (.iload_n 2, 1) := by decide +kernel
theorem d_FT_term_54 : decode b_FT_term 54 = .ok (.aaload, 1) := by decide +kernel
theorem d_FT_term_55 : decode b_FT_term 55 = .ok (.astore 7, 2) := by decide +kernel
theorem d_FT_term_57 : decode b_FT_term 57 = .ok (.aload 6, 2) := by decide +kernel
theorem d_FT_term_59 : decode b_FT_term 59 = .ok (.iload_n 3, 1) := by decide +kernel
theorem d_FT_term_60 : decode b_FT_term 60 = .ok (.iload 4, 2) := by decide +kernel
theorem d_FT_term_62 : decode b_FT_term 62 = .ok (.iload 5, 2) := by decide +kernel
theorem d_FT_term_64 : decode b_FT_term 64 = .ok (.invokevirtual 132, 3) := by decide +kernel
theorem d_FT_term_67 : decode b_FT_term 67 = .ok (.ifCond .eq 7, 3) := by decide +kernel
theorem d_FT_term_70 : decode b_FT_term 70 = .ok (.iconst 1, 1) := by decide +kernel
theorem d_FT_term_71 : decode b_FT_term 71 = .ok (.goto 4, 3) := by decide +kernel
theorem d_FT_term_74 : decode b_FT_term 74 = .ok (.iconst 0, 1) := by decide +kernel
theorem d_FT_term_75 : decode b_FT_term 75 = .ok (.aload 7, 2) := by decide +kernel
theorem d_FT_term_77 : decode b_FT_term 77 = .ok (.aload 6, 2) := by decide +kernel
theorem d_FT_term_79 : decode b_FT_term 79 = .ok (.iload_n 3, 1) := by decide +kernel
theorem d_FT_term_80 : decode b_FT_term 80 = .ok (.iload 4, 2) := by decide +kernel
theorem d_FT_term_82 : decode b_FT_term 82 = .ok (.iload 5, 2) := by decide +kernel
theorem d_FT_term_84 : decode b_FT_term 84 = .ok (.iconst 0, 1) := by decide +kernel
theorem d_FT_term_85 : decode b_FT_term 85 = .ok (.invokevirtual 136, 3) := by decide +kernel
theorem d_FT_term_88 : decode b_FT_term 88 = .ok (.ifCond .eq 7, 3) := by decide +kernel
theorem d_FT_term_91 : decode b_FT_term 91 = .ok (.iconst 2, 1) := by decide +kernel
theorem d_FT_term_92 : decode b_FT_term 92 = .ok (.goto 4, 3) := by decide +kernel
theorem d_FT_term_95 : decode b_FT_term 95 = .ok (.iconst 0, 1) := by decide +kernel
theorem d_FT_term_96 : decode b_FT_term 96 = .ok (.iadd, 1) := by decide +kernel
theorem d_FT_term_97 : decode b_FT_term 97 = .ok (.aload 7, 2) := by decide +kernel
theorem d_FT_term_99 : decode b_FT_term 99 = .ok (.aload 6, 2) := by decide +kernel
theorem d_FT_term_101 : decode b_FT_term 101 = .ok (.iload_n 3, 1) := by decide +kernel
theorem d_FT_term_102 : decode b_FT_term 102 = .ok (.iload 4, 2) := by decide +kernel
theorem d_FT_term_104 : decode b_FT_term 104 = .ok (.iload 5, 2) := by decide +kernel
theorem d_FT_term_106 : decode b_FT_term 106 = .ok (.iconst 1, 1) := by decide +kernel
theorem d_FT_term_107 : decode b_FT_term 107 = .ok (.invokevirtual 136, 3) := by decide +kernel
theorem d_FT_term_110 : decode b_FT_term 110 = .ok (.ifCond .eq 7, 3) := by decide +kernel
theorem d_FT_term_113 : decode b_FT_term 113 = .ok (.iconst 4, 1) := by decide +kernel
theorem d_FT_term_114 : decode b_FT_term 114 = .ok (.goto 4, 3) := by decide +kernel
theorem d_FT_term_117 : decode b_FT_term 117 = .ok (.iconst 0, 1) := by decide +kernel
theorem d_FT_term_118 : decode b_FT_term 118 = .ok (.iadd, 1) := by decide +kernel
theorem d_FT_term_119 : decode b_FT_term 119 = .ok (.ireturn, 1) := by decide +kernel
theorem d_Sp_bounds_0 : decode b_Sp_bounds 0 = .ok (.aload_n 0, 1) := by decide +kernel
theorem d_Sp_bounds_1 : decode b_Sp_bounds 1 = .ok (.iload_n 1, 1) := by decide +kernel
theorem d_Sp_bounds_2 : decode b_Sp_bounds 2 = .ok (.iload_n 2, 1) := by decide +kernel
theorem d_Sp_bounds_3 : decode b_Sp_bounds 3 = .ok (.iload_n 3, 1) := by decide +kernel
theorem d_Sp_bounds_4 : decode b_Sp_bounds 4 = .ok (.invokevirtual 72, 3) := by decide +kernel
theorem d_Sp_bounds_7 : decode b_Sp_bounds 7 = .ok (.ifCond .lt 5, 3) := by decide +kernel
theorem d_Sp_bounds_10 : decode b_Sp_bounds 10 = .ok (.iconst 0, 1) := by decide +kernel
theorem d_Sp_bounds_11 : decode b_Sp_bounds 11 = .ok (.ireturn, 1) := by decide +kernel
theorem d_Sp_bounds_12 : decode b_Sp_bounds 12 = .ok (.iconst 0, 1) := by decide +kernel
theorem d_Sp_bounds_13 : decode b_Sp_bounds 13 = .ok (.istore 4, 2) := by decide +kernel
theorem d_Sp_bounds_15 : decode b_Sp_bounds 15 = .ok (.iload 4, 2) := by decide +kernel
theorem d_Sp_bounds_17 : decode b_Sp_bounds 17 = .ok (.aload_n 0, 1) := by decide +kernel
theorem d_Sp_bounds_18 : decode b_Sp_bounds 18 = .ok (.getfield 66, 3) := by decide +kernel
theorem d_Sp_bounds_21 : decode b_Sp_bounds 21 = .ok (.if_icmp .ge 42, 3) := by decide +kernel
theorem d_Sp_bounds_24 : decode b_Sp_bounds 24 = .ok (.aload_n 0, 1) := by decide +kernel
theorem d_Sp_bounds_25 : decode b_Sp_bounds 25 = .ok (.getfield 15, 3) := by decide +kernel
theorem d_Sp_bounds_28 : decode b_Sp_bounds 28 = .ok (.iconst 4, 1) := by decide +kernel
theorem d_Sp_bounds_29 : decode b_Sp_bounds 29 = .ok (.iload 4, 2) := by decide +kernel
theorem d_Sp_bounds_31 : decode b_Sp_bounds 31 = .ok (.imul, 1) := by decide +kernel
theorem d_Sp_bounds_32 : decode b_Sp_bounds 32 = .ok (.iconst 3, 1) := by decide +kernel
theorem d_Sp_bounds_33 : decode b_Sp_bounds 33 = .ok (.iadd, 1) := by decide +kernel
theorem d_Sp_bounds_34 : decode b_Sp_bounds 34 = .ok (.laload, 1) := by decide +kernel
theorem d_Sp_bounds_35 : decode b_Sp_bounds 35 = .ok (.lconst 0, 1) := by decide +kernel
theorem d_Sp_bounds_36 : decode b_Sp_bounds 36 = .ok (.lcmp, 1) := by decide +kernel
theorem d_Sp_bounds_37 : decode b_Sp_bounds 37 = .ok (.ifCond .ne 20, 3) := by decide +kernel
theorem d_Sp_bounds_40 : decode b_Sp_bounds 40 = .ok (.aload_n 0, 1) := by decide +kernel
theorem d_Sp_bounds_41 : decode b_Sp_bounds 41 = .ok (.iload 4, 2) := by decide +kernel
theorem d_Sp_bounds_43 : decode b_Sp_bounds 43 = .ok (.iload_n 1, 1) := by decide +kernel
theorem d_Sp_bounds_44 : decode b_Sp_bounds 44 = .ok (.iload_n 2, 1) := by decide +kernel
theorem d_Sp_bounds_45 : decode b_Sp_bounds 45 = .ok (.iload_n 3, 1) := by decide +kernel
theorem d_Sp_bounds_46 : decode b_Sp_bounds 46 = .ok (.iconst 0, 1) := by decide +kernel
theorem d_Sp_bounds_47 : decode b_Sp_bounds 47 = .ok (.invokevirtual 76, 3) := by decide +kernel
theorem d_Sp_bounds_50 : decode b_Sp_bounds 50 = .ok (.lconst 0, 1) := by decide +kernel
theorem d_Sp_bounds_51 : decode b_Sp_bounds 51 = .ok (.lcmp, 1) := by decide +kernel
theorem d_Sp_bounds_52 : decode b_Sp_bounds 52 = .ok (.ifCond .ge 5, 3) := by decide +kernel
theorem d_Sp_bounds_55 : decode b_Sp_bounds 55 = .ok (.iconst 0, 1) := by decide +kernel
theorem d_Sp_bounds_56 : decode b_Sp_bounds 56 = .ok (.ireturn, 1) := by decide +kernel
theorem d_Sp_bounds_57 : decode b_Sp_bounds 57 = .ok (.iinc 4 1, 3) := by decide +kernel
theorem d_Sp_bounds_60 : decode b_Sp_bounds 60 = .ok (.goto (-45), 3) := by decide +kernel
theorem d_Sp_bounds_63 : decode b_Sp_bounds 63 = .ok (.iconst 1, 1) := by decide +kernel
theorem d_Sp_bounds_64 : decode b_Sp_bounds 64 = .ok (.ireturn, 1) := by decide +kernel
theorem d_Wy_lessens_0 : decode b_Wy_lessens 0 = .ok (.aload_n 1, 1) := by decide +kernel
theorem d_Wy_lessens_1 : decode b_Wy_lessens 1 = .ok (.iload_n 2, 1) := by decide +kernel
theorem d_Wy_lessens_2 : decode b_Wy_lessens 2 = .ok (.aload_n 0, 1) := by decide +kernel
theorem d_Wy_lessens_3 : decode b_Wy_lessens 3 = .ok (.iload_n 2, 1) := by decide +kernel
theorem d_Wy_lessens_4 : decode b_Wy_lessens 4 = .ok (.iload_n 3, 1) := by decide +kernel
theorem d_Wy_lessens_5 : decode b_Wy_lessens 5 = .ok (.iload 4, 2) := by decide +kernel
theorem d_Wy_lessens_7 : decode b_Wy_lessens 7 = .ok (.iconst 0, 1) := by decide +kernel
theorem d_Wy_lessens_8 : decode b_Wy_lessens 8 = .ok (.invokevirtual 35, 3) := by decide +kernel
theorem d_Wy_lessens_11 : decode b_Wy_lessens 11 = .ok (.isub, 1) := by decide +kernel
theorem d_Wy_lessens_12 : decode b_Wy_lessens 12 = .ok (.iload_n 3, 1) := by decide +kernel
theorem d_Wy_lessens_13 : decode b_Wy_lessens 13 = .ok (.aload_n 0, 1) := by decide +kernel
theorem d_Wy_lessens_14 : decode b_Wy_lessens 14 = .ok (.iload_n 2, 1) := by decide +kernel
theorem d_Wy_lessens_15 : decode b_Wy_lessens 15 = .ok (.iload_n 3, 1) := by decide +kernel
theorem d_Wy_lessens_16 : decode b_Wy_lessens 16 = .ok (.iload 4, 2) := by decide +kernel
theorem d_Wy_lessens_18 : decode b_Wy_lessens 18 = .ok (.iconst 1, 1) := by decide +kernel
theorem d_Wy_lessens_19 : decode b_Wy_lessens 19 = .ok (.invokevirtual 35, 3) := by decide +kernel
theorem d_Wy_lessens_22 : decode b_Wy_lessens 22 = .ok (.isub, 1) := by decide +kernel
theorem d_Wy_lessens_23 : decode b_Wy_lessens 23 = .ok (.iload 4, 2) := by decide +kernel
theorem d_Wy_lessens_25 : decode b_Wy_lessens 25 = .ok (.aload_n 0, 1) := by decide +kernel
theorem d_Wy_lessens_26 : decode b_Wy_lessens 26 = .ok (.iload_n 2, 1) := by decide +kernel
theorem d_Wy_lessens_27 : decode b_Wy_lessens 27 = .ok (.iload_n 3, 1) := by decide +kernel
theorem d_Wy_lessens_28 : decode b_Wy_lessens 28 = .ok (.iload 4, 2) := by decide +kernel
theorem d_Wy_lessens_30 : decode b_Wy_lessens 30 = .ok (.iconst 2, 1) := by decide +kernel
theorem d_Wy_lessens_31 : decode b_Wy_lessens 31 = .ok (.invokevirtual 35, 3) := by decide +kernel
theorem d_Wy_lessens_34 : decode b_Wy_lessens 34 = .ok (.isub, 1) := by decide +kernel
theorem d_Wy_lessens_35 : decode b_Wy_lessens 35 = .ok (.iload 5, 2) := by decide +kernel
theorem d_Wy_lessens_37 : decode b_Wy_lessens 37 = .ok (.aload_n 0, 1) := by decide +kernel
theorem d_Wy_lessens_38 : decode b_Wy_lessens 38 = .ok (.iload_n 2, 1) := by decide +kernel
theorem d_Wy_lessens_39 : decode b_Wy_lessens 39 = .ok (.iload_n 3, 1) := by decide +kernel
theorem d_Wy_lessens_40 : decode b_Wy_lessens 40 = .ok (.iload 4, 2) := by decide +kernel
theorem d_Wy_lessens_42 : decode b_Wy_lessens 42 = .ok (.invokevirtual 39, 3) := by decide +kernel
theorem d_Wy_lessens_45 : decode b_Wy_lessens 45 = .ok (.iadd, 1) := by decide +kernel
theorem d_Wy_lessens_46 : decode b_Wy_lessens 46 = .ok (.invokevirtual 43, 3) := by decide +kernel
theorem d_Wy_lessens_49 : decode b_Wy_lessens 49 = .ok (.ireturn, 1) := by decide +kernel
theorem d_Wy_weightBehind_0 : decode b_Wy_weightBehind 0 = .ok (.iload_n 1, 1) := by decide +kernel
theorem d_Wy_weightBehind_1 : decode b_Wy_weightBehind 1 = .ok (.aload_n 0, 1) := by decide +kernel
theorem d_Wy_weightBehind_2 : decode b_Wy_weightBehind 2 = .ok (.getfield 20, 3) := by decide +kernel
theorem d_Wy_weightBehind_5 : decode b_Wy_weightBehind 5 = .ok (.iload 4, 2) := by decide +kernel
theorem d_Wy_weightBehind_7 : decode b_Wy_weightBehind 7 = .ok (.iaload, 1) := by decide +kernel
theorem d_Wy_weightBehind_8 : decode b_Wy_weightBehind 8 = .ok (.imul, 1) := by decide +kernel
theorem d_Wy_weightBehind_9 : decode b_Wy_weightBehind 9 = .ok (.iload_n 2, 1) := by decide +kernel
theorem d_Wy_weightBehind_10 : decode b_Wy_weightBehind 10 = .ok (.aload_n 0, 1) := by decide +kernel
theorem d_Wy_weightBehind_11 : decode b_Wy_weightBehind 11 = .ok (.getfield 20, 3) := by decide +kernel
theorem d_Wy_weightBehind_14 : decode b_Wy_weightBehind 14 = .ok (.iconst 3, 1) := by decide +kernel
theorem d_Wy_weightBehind_15 : decode b_Wy_weightBehind 15 = .ok (.iload 4, 2) := by decide +kernel
theorem d_Wy_weightBehind_17 : decode b_Wy_weightBehind 17 = .ok (.iadd, 1) := by decide +kernel
theorem d_Wy_weightBehind_18 : decode b_Wy_weightBehind 18 = .ok (.iaload, 1) := by decide +kernel
theorem d_Wy_weightBehind_19 : decode b_Wy_weightBehind 19 = .ok (.imul, 1) := by decide +kernel
theorem d_Wy_weightBehind_20 : decode b_Wy_weightBehind 20 = .ok (.iadd, 1) := by decide +kernel
theorem d_Wy_weightBehind_21 : decode b_Wy_weightBehind 21 = .ok (.iload_n 3, 1) := by decide +kernel
theorem d_Wy_weightBehind_22 : decode b_Wy_weightBehind 22 = .ok (.aload_n 0, 1) := by decide +kernel
theorem d_Wy_weightBehind_23 : decode b_Wy_weightBehind 23 = .ok (.getfield 20, 3) := by decide +kernel
theorem d_Wy_weightBehind_26 : decode b_Wy_weightBehind 26 = .ok (.bipush 6, 2) := by decide +kernel
theorem d_Wy_weightBehind_28 : decode b_Wy_weightBehind 28 = .ok (.iload 4, 2) := by decide +kernel
theorem d_Wy_weightBehind_30 : decode b_Wy_weightBehind 30 = .ok (.iadd, 1) := by decide +kernel
theorem d_Wy_weightBehind_31 : decode b_Wy_weightBehind 31 = .ok (.iaload, 1) := by decide +kernel
theorem d_Wy_weightBehind_32 : decode b_Wy_weightBehind 32 = .ok (.imul, 1) := by decide +kernel
theorem d_Wy_weightBehind_33 : decode b_Wy_weightBehind 33 = .ok (.iadd, 1) := by decide +kernel
theorem d_Wy_weightBehind_34 : decode b_Wy_weightBehind 34 = .ok (.ireturn, 1) := by decide +kernel
theorem d_Wy_constantBehind_0 : decode b_Wy_constantBehind 0 = .ok (.iload_n 1, 1) := by decide +kernel
theorem d_Wy_constantBehind_1 : decode b_Wy_constantBehind 1 = .ok (.aload_n 0, 1) := by decide +kernel
theorem d_Wy_constantBehind_2 : decode b_Wy_constantBehind 2 = .ok (.getfield 24, 3) := by decide +kernel
theorem d_Wy_constantBehind_5 : decode b_Wy_constantBehind 5 = .ok (.iconst 0, 1) := by decide +kernel
theorem d_Wy_constantBehind_6 : decode b_Wy_constantBehind 6 = .ok (.iaload, 1) := by decide +kernel
theorem d_Wy_constantBehind_7 : decode b_Wy_constantBehind 7 = .ok (.imul, 1) := by decide +kernel
theorem d_Wy_constantBehind_8 : decode b_Wy_constantBehind 8 = .ok (.iload_n 2, 1) := by decide +kernel
theorem d_Wy_constantBehind_9 : decode b_Wy_constantBehind 9 = .ok (.aload_n 0, 1) := by decide +kernel
theorem d_Wy_constantBehind_10 : decode b_Wy_constantBehind 10 = .ok (.getfield 24, 3) := by decide +kernel
theorem d_Wy_constantBehind_13 : decode b_Wy_constantBehind 13 = .ok (.iconst 1, 1) := by decide +kernel
theorem d_Wy_constantBehind_14 : decode b_Wy_constantBehind 14 = .ok (.iaload, 1) := by decide +kernel
theorem d_Wy_constantBehind_15 : decode b_Wy_constantBehind 15 = .ok (.imul, 1) := by decide +kernel
theorem d_Wy_constantBehind_16 : decode b_Wy_constantBehind 16 = .ok (.iadd, 1) := by decide +kernel
theorem d_Wy_constantBehind_17 : decode b_Wy_constantBehind 17 = .ok (.iload_n 3, 1) := by decide +kernel
theorem d_Wy_constantBehind_18 : decode b_Wy_constantBehind 18 = .ok (.aload_n 0, 1) := by decide +kernel
theorem d_Wy_constantBehind_19 : decode b_Wy_constantBehind 19 = .ok (.getfield 24, 3) := by decide +kernel
theorem d_Wy_constantBehind_22 : decode b_Wy_constantBehind 22 = .ok (.iconst 2, 1) := by decide +kernel
theorem d_Wy_constantBehind_23 : decode b_Wy_constantBehind 23 = .ok (.iaload, 1) := by decide +kernel
theorem d_Wy_constantBehind_24 : decode b_Wy_constantBehind 24 = .ok (.imul, 1) := by decide +kernel
theorem d_Wy_constantBehind_25 : decode b_Wy_constantBehind 25 = .ok (.iadd, 1) := by decide +kernel
theorem d_Wy_constantBehind_26 : decode b_Wy_constantBehind 26 = .ok (.ireturn, 1) := by decide +kernel
theorem d_FT_prove_0 : decode b_FT_prove 0 = .ok (.aload_n 0, 1) := by decide +kernel
theorem d_FT_prove_1 : decode b_FT_prove 1 = .ok (.iload_n 1, 1) := by decide +kernel
theorem d_FT_prove_2 : decode b_FT_prove 2 = .ok (.invokevirtual 61, 3) := by decide +kernel
theorem d_FT_prove_5 : decode b_FT_prove 5 = .ok (.ifCond .ne 6, 3) := by decide +kernel
theorem d_FT_prove_8 : decode b_FT_prove 8 = .ok (.bipush (-2), 2) := by decide +kernel
theorem d_FT_prove_10 : decode b_FT_prove 10 = .ok (.ireturn, 1) := by decide +kernel
theorem d_FT_prove_11 : decode b_FT_prove 11 = .ok (.aload_n 0, 1) := by decide +kernel
theorem d_FT_prove_12 : decode b_FT_prove 12 = .ok (.aload_n 0, 1) := by decide +kernel
theorem d_FT_prove_13 : decode b_FT_prove 13 = .ok (.getfield 11, 3) := by decide +kernel
theorem d_FT_prove_16 : decode b_FT_prove 16 = .ok (.iload_n 1, 1) := by decide +kernel
theorem d_FT_prove_17 : decode b_FT_prove 17 = .ok (.aaload, 1) := by decide +kernel
theorem d_FT_prove_18 : decode b_FT_prove 18 = .ok (.invokevirtual 140, 3) := by decide +kernel
theorem d_FT_prove_21 : decode b_FT_prove 21 = .ok (.aload_n 0, 1) := by decide +kernel
theorem d_FT_prove_22 : decode b_FT_prove 22 = .ok (.getfield 27, 3) := by decide +kernel
theorem d_FT_prove_25 : decode b_FT_prove 25 = .ok (.aload_n 0, 1) := by decide +kernel
theorem d_FT_prove_26 : decode b_FT_prove 26 = .ok (.getfield 11, 3) := by decide +kernel
theorem d_FT_prove_29 : decode b_FT_prove 29 = .ok (.iload_n 1, 1) := by decide +kernel
theorem d_FT_prove_30 : decode b_FT_prove 30 = .ok (.aaload, 1) := by decide +kernel
theorem d_FT_prove_31 : decode b_FT_prove 31 = .ok (.aload_n 0, 1) := by decide +kernel
theorem d_FT_prove_32 : decode b_FT_prove 32 = .ok (.getfield 17, 3) := by decide +kernel
theorem d_FT_prove_35 : decode b_FT_prove 35 = .ok (.invokevirtual 144, 3) := by decide +kernel
theorem d_FT_prove_38 : decode b_FT_prove 38 = .ok (.aload_n 0, 1) := by decide +kernel
theorem d_FT_prove_39 : decode b_FT_prove 39 = .ok (.getfield 27, 3) := by decide +kernel
theorem d_FT_prove_42 : decode b_FT_prove 42 = .ok (.getfield 148, 3) := by decide +kernel
theorem d_FT_prove_45 : decode b_FT_prove 45 = .ok (.ifCond .ne 7, 3) := by decide +kernel
theorem d_FT_prove_48 : decode b_FT_prove 48 = .ok (.iconst 1, 1) := by decide +kernel
theorem d_FT_prove_49 : decode b_FT_prove 49 = .ok (.goto 4, 3) := by decide +kernel
theorem d_FT_prove_52 : decode b_FT_prove 52 = .ok (.iconst 0, 1) := by decide +kernel
theorem d_FT_prove_53 : decode b_FT_prove 53 = .ok (.ireturn, 1) := by decide +kernel
theorem d_FT_fillSpaces_0 : decode b_FT_fillSpaces 0 = .ok (.iconst 0, 1) := by decide +kernel
theorem d_FT_fillSpaces_1 : decode b_FT_fillSpaces 1 = .ok (.istore_n 2, 1) := by decide +kernel
theorem d_FT_fillSpaces_2 : decode b_FT_fillSpaces 2 = .ok (.iload_n 2, 1) := by decide +kernel
theorem d_FT_fillSpaces_3 : decode b_FT_fillSpaces 3 = .ok (.aload_n 1, 1) := by decide +kernel
theorem d_FT_fillSpaces_4 : decode b_FT_fillSpaces 4 = .ok (.getfield 111, 3) := by decide +kernel
theorem d_FT_fillSpaces_7 : decode b_FT_fillSpaces 7 = .ok (.if_icmp .ge 20, 3) := by decide +kernel
theorem d_FT_fillSpaces_10 : decode b_FT_fillSpaces 10 = .ok (.aload_n 0, 1) := by decide +kernel
theorem d_FT_fillSpaces_11 : decode b_FT_fillSpaces 11 = .ok (.getfield 17, 3) := by decide +kernel
theorem d_FT_fillSpaces_14 : decode b_FT_fillSpaces 14 = .ok (.iload_n 2, 1) := by decide +kernel
theorem d_FT_fillSpaces_15 : decode b_FT_fillSpaces 15 = .ok (.aaload, 1) := by decide +kernel
theorem d_FT_fillSpaces_16 : decode b_FT_fillSpaces 16 = .ok (.aload_n 1, 1) := by decide +kernel
theorem d_FT_fillSpaces_17 : decode b_FT_fillSpaces 17 = .ok (.iload_n 2, 1) := by decide +kernel
theorem d_FT_fillSpaces_18 : decode b_FT_fillSpaces 18 = .ok (.invokevirtual 192, 3) := by decide +kernel
theorem d_FT_fillSpaces_21 : decode b_FT_fillSpaces 21 = .ok (.iinc 2 1, 3) := by decide +kernel
theorem d_FT_fillSpaces_24 : decode b_FT_fillSpaces 24 = .ok (.goto (-22), 3) := by decide +kernel
theorem d_FT_fillSpaces_27 : decode b_FT_fillSpaces 27 = .ok (.return_, 1) := by decide +kernel
theorem d_Pf_search_0 : decode b_Pf_search 0 = .ok (.aload_n 0, 1) := by decide +kernel
theorem d_Pf_search_1 : decode b_Pf_search 1 = .ok (.iconst 0, 1) := by decide +kernel
theorem d_Pf_search_2 : decode b_Pf_search 2 = .ok (.putfield 15, 3) := by decide +kernel
theorem d_Pf_search_5 : decode b_Pf_search 5 = .ok (.aload_n 0, 1) := by decide +kernel
theorem d_Pf_search_6 : decode b_Pf_search 6 = .ok (.iconst 1, 1) := by decide +kernel
theorem d_Pf_search_7 : decode b_Pf_search 7 = .ok (.aload_n 1, 1) := by decide +kernel
theorem d_Pf_search_8 : decode b_Pf_search 8 = .ok (.getfield 22, 3) := by decide +kernel
theorem d_Pf_search_11 : decode b_Pf_search 11 = .ok (.ishl, 1) := by decide +kernel
theorem d_Pf_search_12 : decode b_Pf_search 12 = .ok (.iconst 1, 1) := by decide +kernel
theorem d_Pf_search_13 : decode b_Pf_search 13 = .ok (.isub, 1) := by decide +kernel
theorem d_Pf_search_14 : decode b_Pf_search 14 = .ok (.putfield 19, 3) := by decide +kernel
theorem d_Pf_search_17 : decode b_Pf_search 17 = .ok (.iconst 0, 1) := by decide +kernel
theorem d_Pf_search_18 : decode b_Pf_search 18 = .ok (.istore_n 3, 1) := by decide +kernel
theorem d_Pf_search_19 : decode b_Pf_search 19 = .ok (.iload_n 3, 1) := by decide +kernel
theorem d_Pf_search_20 : decode b_Pf_search 20 = .ok (.iconst 3, 1) := by decide +kernel
theorem d_Pf_search_21 : decode b_Pf_search 21 = .ok (.if_icmp .ge 26, 3) := by decide +kernel
theorem d_Pf_search_24 : decode b_Pf_search 24 = .ok (.aload_n 0, 1) := by decide +kernel
theorem d_Pf_search_25 : decode b_Pf_search 25 = .ok (.getfield 19, 3) := by decide +kernel
theorem d_Pf_search_28 : decode b_Pf_search 28 = .ok (.ifCond .eq 19, 3) := by decide +kernel
theorem d_Pf_search_31 : decode b_Pf_search 31 = .ok (.aload_n 0, 1) := by decide +kernel
theorem d_Pf_search_32 : decode b_Pf_search 32 = .ok (.aload_n 1, 1) := by decide +kernel
theorem d_Pf_search_33 : decode b_Pf_search 33 = .ok (.aload_n 2, 1) := by decide +kernel
theorem d_Pf_search_34 : decode b_Pf_search 34 = .ok (.invokevirtual 27, 3) := by decide +kernel
theorem d_Pf_search_37 : decode b_Pf_search 37 = .ok (.ifCond .ne 4, 3) := by decide +kernel
theorem d_Pf_search_40 : decode b_Pf_search 40 = .ok (.return_, 1) := by decide +kernel
theorem d_Pf_search_41 : decode b_Pf_search 41 = .ok (.iinc 3 1, 3) := by decide +kernel
theorem d_Pf_search_44 : decode b_Pf_search 44 = .ok (.goto (-25), 3) := by decide +kernel
theorem d_Pf_search_47 : decode b_Pf_search 47 = .ok (.return_, 1) := by decide +kernel
theorem d_Pf_takeMore_0 : decode b_Pf_takeMore 0 = .ok (.aload_n 1, 1) := by decide +kernel
theorem d_Pf_takeMore_1 : decode b_Pf_takeMore 1 = .ok (.iconst 1, 1) := by decide +kernel
theorem d_Pf_takeMore_2 : decode b_Pf_takeMore 2 = .ok (.iconst 2, 1) := by decide +kernel
theorem d_Pf_takeMore_3 : decode b_Pf_takeMore 3 = .ok (.invokevirtual 31, 3) := by decide +kernel
theorem d_Pf_takeMore_6 : decode b_Pf_takeMore 6 = .ok (.istore_n 3, 1) := by decide +kernel
theorem d_Pf_takeMore_7 : decode b_Pf_takeMore 7 = .ok (.aload_n 1, 1) := by decide +kernel
theorem d_Pf_takeMore_8 : decode b_Pf_takeMore 8 = .ok (.iconst 2, 1) := by decide +kernel
theorem d_Pf_takeMore_9 : decode b_Pf_takeMore 9 = .ok (.iconst 2, 1) := by decide +kernel
theorem d_Pf_takeMore_10 : decode b_Pf_takeMore 10 = .ok (.invokevirtual 31, 3) := by decide +kernel
theorem d_Pf_takeMore_13 : decode b_Pf_takeMore 13 = .ok (.istore 4, 2) := by decide +kernel
theorem d_Pf_takeMore_15 : decode b_Pf_takeMore 15 = .ok (.bipush (-2), 2) := by decide +kernel
theorem d_Pf_takeMore_17 : decode b_Pf_takeMore 17 = .ok (.istore 5, 2) := by decide +kernel
theorem d_Pf_takeMore_19 : decode b_Pf_takeMore 19 = .ok (.iload 5, 2) := by decide +kernel
theorem d_Pf_takeMore_21 : decode b_Pf_takeMore 21 = .ok (.iconst 2, 1) := by decide +kernel
theorem d_Pf_takeMore_22 : decode b_Pf_takeMore 22 = .ok (.if_icmp .gt 107, 3) := by decide +kernel
theorem d_Pf_takeMore_25 : decode b_Pf_takeMore 25 = .ok (.iload_n 3, 1) := by decide +kernel
theorem d_Pf_takeMore_26 : decode b_Pf_takeMore 26 = .ok (.ineg, 1) := by decide +kernel
theorem d_Pf_takeMore_27 : decode b_Pf_takeMore 27 = .ok (.istore 6, 2) := by decide +kernel
theorem d_Pf_takeMore_29 : decode b_Pf_takeMore 29 = .ok (.iload 6, 2) := by decide +kernel
theorem d_Pf_takeMore_31 : decode b_Pf_takeMore 31 = .ok (.iload_n 3, 1) := by decide +kernel
theorem d_Pf_takeMore_32 : decode b_Pf_takeMore 32 = .ok (.if_icmp .gt 91, 3) := by decide +kernel
theorem d_Pf_takeMore_35 : decode b_Pf_takeMore 35 = .ok (.iload 4, 2) := by decide +kernel
theorem d_Pf_takeMore_37 : decode b_Pf_takeMore 37 = .ok (.ineg, 1) := by decide +kernel
theorem d_Pf_takeMore_38 : decode b_Pf_takeMore 38 = .ok (.istore 7, 2) := by decide +kernel
theorem d_Pf_takeMore_40 : decode b_Pf_takeMore 40 = .ok (.iload 7, 2) := by decide +kernel
theorem d_Pf_takeMore_42 : decode b_Pf_takeMore 42 = .ok (.iload 4, 2) := by decide +kernel
theorem d_Pf_takeMore_44 : decode b_Pf_takeMore 44 = .ok (.if_icmp .gt 73, 3) := by decide +kernel
theorem d_Pf_takeMore_47 : decode b_Pf_takeMore 47 = .ok (.iload 5, 2) := by decide +kernel
theorem d_Pf_takeMore_49 : decode b_Pf_takeMore 49 = .ok (.ifCond .ne 13, 3) := by decide +kernel
theorem d_Pf_takeMore_52 : decode b_Pf_takeMore 52 = .ok (.iload 6, 2) := by decide +kernel
theorem d_Pf_takeMore_54 : decode b_Pf_takeMore 54 = .ok (.ifCond .ne 8, 3) := by decide +kernel
theorem d_Pf_takeMore_57 : decode b_Pf_takeMore 57 = .ok (.iload 7, 2) := by decide +kernel
theorem d_Pf_takeMore_59 : decode b_Pf_takeMore 59 = .ok (.ifCond .eq 7, 3) := by decide +kernel
theorem d_Pf_takeMore_62 : decode b_Pf_takeMore 62 = .ok (.iconst 1, 1) := by decide +kernel
theorem d_Pf_takeMore_63 : decode b_Pf_takeMore 63 = .ok (.goto 4, 3) := by decide +kernel
theorem d_Pf_takeMore_66 : decode b_Pf_takeMore 66 = .ok (.iconst 0, 1) := by decide +kernel
theorem d_Pf_takeMore_67 : decode b_Pf_takeMore 67 = .ok (.istore 8, 2) := by decide +kernel
theorem d_Pf_takeMore_69 : decode b_Pf_takeMore 69 = .ok (.iload 8, 2) := by decide +kernel
theorem d_Pf_takeMore_71 : decode b_Pf_takeMore 71 = .ok (.ifCond .eq 18, 3) := by decide +kernel
theorem d_Pf_takeMore_74 : decode b_Pf_takeMore 74 = .ok (.aload_n 0, 1) := by decide +kernel
theorem d_Pf_takeMore_75 : decode b_Pf_takeMore 75 = .ok (.aload_n 1, 1) := by decide +kernel
theorem d_Pf_takeMore_76 : decode b_Pf_takeMore 76 = .ok (.aload_n 2, 1) := by decide +kernel
theorem d_Pf_takeMore_77 : decode b_Pf_takeMore 77 = .ok (.iload 5, 2) := by decide +kernel
theorem d_Pf_takeMore_79 : decode b_Pf_takeMore 79 = .ok (.iload 6, 2) := by decide +kernel
theorem d_Pf_takeMore_81 : decode b_Pf_takeMore 81 = .ok (.iload 7, 2) := by decide +kernel
theorem d_Pf_takeMore_83 : decode b_Pf_takeMore 83 = .ok (.invokevirtual 35, 3) := by decide +kernel
theorem d_Pf_takeMore_86 : decode b_Pf_takeMore 86 = .ok (.goto 4, 3) := by decide +kernel
theorem d_Pf_takeMore_89 : decode b_Pf_takeMore 89 = .ok (.iconst 0, 1) := by decide +kernel
theorem d_Pf_takeMore_90 : decode b_Pf_takeMore 90 = .ok (.istore 9, 2) := by decide +kernel
theorem d_Pf_takeMore_92 : decode b_Pf_takeMore 92 = .ok (.iload 9, 2) := by decide +kernel
theorem d_Pf_takeMore_94 : decode b_Pf_takeMore 94 = .ok (.ifCond .eq 17, 3) := by decide +kernel
theorem d_Pf_takeMore_97 : decode b_Pf_takeMore 97 = .ok (.aload_n 0, 1) := by decide +kernel
theorem d_Pf_takeMore_98 : decode b_Pf_takeMore 98 = .ok (.iload 5, 2) := by decide +kernel
theorem d_Pf_takeMore_100 : decode b_Pf_takeMore 100 = .ok (.iload 6, 2) := by decide +kernel
theorem d_Pf_takeMore_102 : decode b_Pf_takeMore 102 = .ok (.iload 7, 2) := by decide +kernel
theorem d_Pf_takeMore_104 : decode b_Pf_takeMore 104 = .ok (.iload 9, 2) := by decide +kernel
theorem d_Pf_takeMore_106 : decode b_Pf_takeMore 106 = .ok (.invokevirtual 39, 3) := by decide +kernel
theorem d_Pf_takeMore_109 : decode b_Pf_takeMore 109 = .ok (.iconst 1, 1) := by decide +kernel
theorem d_Pf_takeMore_110 : decode b_Pf_takeMore 110 = .ok (.ireturn, 1) := by decide +kernel
theorem d_Pf_takeMore_111 : decode b_Pf_takeMore 111 = .ok (.iinc 7 1, 3) := by decide +kernel
theorem d_Pf_takeMore_114 : decode b_Pf_takeMore 114 = .ok (.goto (-74), 3) := by decide +kernel
theorem d_Pf_takeMore_117 : decode b_Pf_takeMore 117 = .ok (.iinc 6 1, 3) := by decide +kernel
theorem d_Pf_takeMore_120 : decode b_Pf_takeMore 120 = .ok (.goto (-91), 3) := by decide +kernel
theorem d_Pf_takeMore_123 : decode b_Pf_takeMore 123 = .ok (.iinc 5 1, 3) := by decide +kernel
theorem d_Pf_takeMore_126 : decode b_Pf_takeMore 126 = .ok (.goto (-107), 3) := by decide +kernel
theorem d_Pf_takeMore_129 : decode b_Pf_takeMore 129 = .ok (.iconst 0, 1) := by decide +kernel
theorem d_Pf_takeMore_130 : decode b_Pf_takeMore 130 = .ok (.ireturn, 1) := by decide +kernel
theorem d_Lp_reach_0 : decode b_Lp_reach 0 = .ok (.iload_n 1, 1) := by decide +kernel
theorem d_Lp_reach_1 : decode b_Lp_reach 1 = .ok (.aload_n 0, 1) := by decide +kernel
theorem d_Lp_reach_2 : decode b_Lp_reach 2 = .ok (.getfield 34, 3) := by decide +kernel
theorem d_Lp_reach_5 : decode b_Lp_reach 5 = .ok (.if_icmp .ge 7, 3) := by decide +kernel
theorem d_Lp_reach_8 : decode b_Lp_reach 8 = .ok (.iload_n 2, 1) := by decide +kernel
theorem d_Lp_reach_9 : decode b_Lp_reach 9 = .ok (.goto 4, 3) := by decide +kernel
theorem d_Lp_reach_12 : decode b_Lp_reach 12 = .ok (.iconst 0, 1) := by decide +kernel
theorem d_Lp_reach_13 : decode b_Lp_reach 13 = .ok (.ireturn, 1) := by decide +kernel
theorem d_Pf_takenBy_0 : decode b_Pf_takenBy 0 = .ok (.iconst 0, 1) := by decide +kernel
theorem d_Pf_takenBy_1 : decode b_Pf_takenBy 1 = .ok (.istore 6, 2) := by decide +kernel
theorem d_Pf_takenBy_3 : decode b_Pf_takenBy 3 = .ok (.iconst 0, 1) := by decide +kernel
theorem d_Pf_takenBy_4 : decode b_Pf_takenBy 4 = .ok (.istore 7, 2) := by decide +kernel
theorem d_Pf_takenBy_6 : decode b_Pf_takenBy 6 = .ok (.iload 7, 2) := by decide +kernel
theorem d_Pf_takenBy_8 : decode b_Pf_takenBy 8 = .ok (.aload_n 1, 1) := by decide +kernel
theorem d_Pf_takenBy_9 : decode b_Pf_takenBy 9 = .ok (.getfield 22, 3) := by decide +kernel
theorem d_Pf_takenBy_12 : decode b_Pf_takenBy 12 = .ok (.if_icmp .ge 96, 3) := by decide +kernel
theorem d_Pf_takenBy_15 : decode b_Pf_takenBy 15 = .ok (.aload_n 0, 1) := by decide +kernel
theorem d_Pf_takenBy_16 : decode b_Pf_takenBy 16 = .ok (.getfield 19, 3) := by decide +kernel
theorem d_Pf_takenBy_19 : decode b_Pf_takenBy 19 = .ok (.iload 7, 2) := by decide +kernel
theorem d_Pf_takenBy_21 : decode b_Pf_takenBy 21 = .ok (.ishr, 1) := by decide +kernel
theorem d_Pf_takenBy_22 : decode b_Pf_takenBy 22 = .ok (.iconst 1, 1) := by decide +kernel
theorem d_Pf_takenBy_23 : decode b_Pf_takenBy 23 = .ok (.iand, 1) := by decide +kernel
theorem d_Pf_takenBy_24 : decode b_Pf_takenBy 24 = .ok (.ifCond .ne 6, 3) := by decide +kernel
theorem d_Pf_takenBy_27 : decode b_Pf_takenBy 27 = .ok (.goto 75, 3) := by decide +kernel
theorem d_Pf_takenBy_30 : decode b_Pf_takenBy 30 = .ok (.aload_n 1, 1) := by decide +kernel
theorem d_Pf_takenBy_31 : decode b_Pf_takenBy 31 = .ok (.getfield 43, 3) := by decide +kernel
theorem d_Pf_takenBy_34 : decode b_Pf_takenBy 34 = .ok (.iload 7, 2) := by decide +kernel
theorem d_Pf_takenBy_36 : decode b_Pf_takenBy 36 = .ok (.aaload, 1) := by decide +kernel
theorem d_Pf_takenBy_37 : decode b_Pf_takenBy 37 = .ok (.aload_n 2, 1) := by decide +kernel
theorem d_Pf_takenBy_38 : decode b_Pf_takenBy 38 = .ok (.iload 7, 2) := by decide +kernel
theorem d_Pf_takenBy_40 : decode b_Pf_takenBy 40 = .ok (.aaload, 1) := by decide +kernel
theorem d_Pf_takenBy_41 : decode b_Pf_takenBy 41 = .ok (.iload_n 3, 1) := by decide +kernel
theorem d_Pf_takenBy_42 : decode b_Pf_takenBy 42 = .ok (.iload 4, 2) := by decide +kernel
theorem d_Pf_takenBy_44 : decode b_Pf_takenBy 44 = .ok (.iload 5, 2) := by decide +kernel
theorem d_Pf_takenBy_46 : decode b_Pf_takenBy 46 = .ok (.iconst 0, 1) := by decide +kernel
theorem d_Pf_takenBy_47 : decode b_Pf_takenBy 47 = .ok (.invokevirtual 47, 3) := by decide +kernel
theorem d_Pf_takenBy_50 : decode b_Pf_takenBy 50 = .ok (.ifCond .ne 5, 3) := by decide +kernel
theorem d_Pf_takenBy_53 : decode b_Pf_takenBy 53 = .ok (.iconst 0, 1) := by decide +kernel
theorem d_Pf_takenBy_54 : decode b_Pf_takenBy 54 = .ok (.ireturn, 1) := by decide +kernel
theorem d_Pf_takenBy_55 : decode b_Pf_takenBy 55 = .ok (.aload_n 2, 1) := by decide +kernel
theorem d_Pf_takenBy_56 : decode b_Pf_takenBy 56 = .ok (.iload 7, 2) := by decide +kernel
theorem d_Pf_takenBy_58 : decode b_Pf_takenBy 58 = .ok (.aaload, 1) := by decide +kernel
theorem d_Pf_takenBy_59 : decode b_Pf_takenBy 59 = .ok (.iload_n 3, 1) := by decide +kernel
theorem d_Pf_takenBy_60 : decode b_Pf_takenBy 60 = .ok (.iload 4, 2) := by decide +kernel
theorem d_Pf_takenBy_62 : decode b_Pf_takenBy 62 = .ok (.iload 5, 2) := by decide +kernel
theorem d_Pf_takenBy_64 : decode b_Pf_takenBy 64 = .ok (.invokevirtual 53, 3) := by decide +kernel
theorem d_Pf_takenBy_67 : decode b_Pf_takenBy 67 = .ok (.ifCond .eq 35, 3) := by decide +kernel
theorem d_Pf_takenBy_70 : decode b_Pf_takenBy 70 = .ok (.aload_n 1, 1) := by decide +kernel
theorem d_Pf_takenBy_71 : decode b_Pf_takenBy 71 = .ok (.getfield 43, 3) := by decide +kernel
theorem d_Pf_takenBy_74 : decode b_Pf_takenBy 74 = .ok (.iload 7, 2) := by decide +kernel
theorem d_Pf_takenBy_76 : decode b_Pf_takenBy 76 = .ok (.aaload, 1) := by decide +kernel
theorem d_Pf_takenBy_77 : decode b_Pf_takenBy 77 = .ok (.aload_n 2, 1) := by decide +kernel
theorem d_Pf_takenBy_78 : decode b_Pf_takenBy 78 = .ok (.iload 7, 2) := by decide +kernel
theorem d_Pf_takenBy_80 : decode b_Pf_takenBy 80 = .ok (.aaload, 1) := by decide +kernel
theorem d_Pf_takenBy_81 : decode b_Pf_takenBy 81 = .ok (.iload_n 3, 1) := by decide +kernel
theorem d_Pf_takenBy_82 : decode b_Pf_takenBy 82 = .ok (.iload 4, 2) := by decide +kernel
theorem d_Pf_takenBy_84 : decode b_Pf_takenBy 84 = .ok (.iload 5, 2) := by decide +kernel
theorem d_Pf_takenBy_86 : decode b_Pf_takenBy 86 = .ok (.iconst 1, 1) := by decide +kernel
theorem d_Pf_takenBy_87 : decode b_Pf_takenBy 87 = .ok (.invokevirtual 47, 3) := by decide +kernel
theorem d_Pf_takenBy_90 : decode b_Pf_takenBy 90 = .ok (.ifCond .eq 12, 3) := by decide +kernel
theorem d_Pf_takenBy_93 : decode b_Pf_takenBy 93 = .ok (.iload 6, 2) := by decide +kernel
theorem d_Pf_takenBy_95 : decode b_Pf_takenBy 95 = .ok (.iconst 1, 1) := by decide +kernel
theorem d_Pf_takenBy_96 : decode b_Pf_takenBy 96 = .ok (.iload 7, 2) := by decide +kernel
theorem d_Pf_takenBy_98 : decode b_Pf_takenBy 98 = .ok (.ishl, 1) := by decide +kernel
theorem d_Pf_takenBy_99 : decode b_Pf_takenBy 99 = .ok (.ior, 1) := by decide +kernel
theorem d_Pf_takenBy_100 : decode b_Pf_takenBy 100 = .ok (.istore 6, 2) := by decide +kernel
theorem d_Pf_takenBy_102 : decode b_Pf_takenBy 102 = .ok (.iinc 7 1, 3) := by decide +kernel
theorem d_Pf_takenBy_105 : decode b_Pf_takenBy 105 = .ok (.goto (-99), 3) := by decide +kernel
theorem d_Pf_takenBy_108 : decode b_Pf_takenBy 108 = .ok (.iload 6, 2) := by decide +kernel
theorem d_Pf_takenBy_110 : decode b_Pf_takenBy 110 = .ok (.ireturn, 1) := by decide +kernel
theorem d_Pf_append_0 : decode b_Pf_append 0 = .ok (.aload_n 0, 1) := by decide +kernel
theorem d_Pf_append_1 : decode b_Pf_append 1 = .ok (.getfield 15, 3) := by decide +kernel
theorem d_Pf_append_4 : decode b_Pf_append 4 = .ok (.iconst 3, 1) := by decide +kernel
theorem d_Pf_append_5 : decode b_Pf_append 5 = .ok (.if_icmp .lt 4, 3) := by decide +kernel
theorem d_Pf_append_8 : decode b_Pf_append 8 = .ok (.return_, 1) := by decide +kernel
theorem d_Pf_append_9 : decode b_Pf_append 9 = .ok (.iconst 4, 1) := by decide +kernel
theorem d_Pf_append_10 : decode b_Pf_append 10 = .ok (.aload_n 0, 1) := by decide +kernel
theorem d_Pf_append_11 : decode b_Pf_append 11 = .ok (.getfield 15, 3) := by decide +kernel
theorem d_Pf_append_14 : decode b_Pf_append 14 = .ok (.imul, 1) := by decide +kernel
theorem d_Pf_append_15 : decode b_Pf_append 15 = .ok (.istore 5, 2) := by decide +kernel
theorem d_Pf_append_17 : decode b_Pf_append 17 = .ok (.aload_n 0, 1) := by decide +kernel
theorem d_Pf_append_18 : decode b_Pf_append 18 = .ok (.getfield 9, 3) := by decide +kernel
theorem d_Pf_append_21 : decode b_Pf_append 21 = .ok (.iload 5, 2) := by decide +kernel
theorem d_Pf_append_23 : decode b_Pf_append 23 = .ok (.iload_n 1, 1) := by decide +kernel
theorem d_Pf_append_24 : decode b_Pf_append 24 = .ok (.iastore, 1) := by decide +kernel
theorem d_Pf_append_25 : decode b_Pf_append 25 = .ok (.aload_n 0, 1) := by decide +kernel
theorem d_Pf_append_26 : decode b_Pf_append 26 = .ok (.getfield 9, 3) := by decide +kernel
theorem d_Pf_append_29 : decode b_Pf_append 29 = .ok (.iload 5, 2) := by decide +kernel
theorem d_Pf_append_31 : decode b_Pf_append 31 = .ok (.iconst 1, 1) := by decide +kernel
theorem d_Pf_append_32 : decode b_Pf_append 32 = .ok (.iadd, 1) := by decide +kernel
theorem d_Pf_append_33 : decode b_Pf_append 33 = .ok (.iload_n 2, 1) := by decide +kernel
theorem d_Pf_append_34 : decode b_Pf_append 34 = .ok (.iastore, 1) := by decide +kernel
theorem d_Pf_append_35 : decode b_Pf_append 35 = .ok (.aload_n 0, 1) := by decide +kernel
theorem d_Pf_append_36 : decode b_Pf_append 36 = .ok (.getfield 9, 3) := by decide +kernel
theorem d_Pf_append_39 : decode b_Pf_append 39 = .ok (.iload 5, 2) := by decide +kernel
theorem d_Pf_append_41 : decode b_Pf_append 41 = .ok (.iconst 2, 1) := by decide +kernel
theorem d_Pf_append_42 : decode b_Pf_append 42 = .ok (.iadd, 1) := by decide +kernel
theorem d_Pf_append_43 : decode b_Pf_append 43 = .ok (.iload_n 3, 1) := by decide +kernel
theorem d_Pf_append_44 : decode b_Pf_append 44 = .ok (.iastore, 1) := by decide +kernel
theorem d_Pf_append_45 : decode b_Pf_append 45 = .ok (.aload_n 0, 1) := by decide +kernel
theorem d_Pf_append_46 : decode b_Pf_append 46 = .ok (.getfield 9, 3) := by decide +kernel
theorem d_Pf_append_49 : decode b_Pf_append 49 = .ok (.iload 5, 2) := by decide +kernel
theorem d_Pf_append_51 : decode b_Pf_append 51 = .ok (.iconst 3, 1) := by decide +kernel
theorem d_Pf_append_52 : decode b_Pf_append 52 = .ok (.iadd, 1) := by decide +kernel
theorem d_Pf_append_53 : decode b_Pf_append 53 = .ok (.iload 4, 2) := by decide +kernel
theorem d_Pf_append_55 : decode b_Pf_append 55 = .ok (.iastore, 1) := by decide +kernel
theorem d_Pf_append_56 : decode b_Pf_append 56 = .ok (.aload_n 0, 1) := by decide +kernel
theorem d_Pf_append_57 : decode b_Pf_append 57 = .ok (.dup, 1) := by decide +kernel
theorem d_Pf_append_58 : decode b_Pf_append 58 = .ok (.getfield 15, 3) := by decide +kernel
theorem d_Pf_append_61 : decode b_Pf_append 61 = .ok (.iconst 1, 1) := by decide +kernel
theorem d_Pf_append_62 : decode b_Pf_append 62 = .ok (.iadd, 1) := by decide +kernel
theorem d_Pf_append_63 : decode b_Pf_append 63 = .ok (.putfield 15, 3) := by decide +kernel
theorem d_Pf_append_66 : decode b_Pf_append 66 = .ok (.aload_n 0, 1) := by decide +kernel
theorem d_Pf_append_67 : decode b_Pf_append 67 = .ok (.dup, 1) := by decide +kernel
theorem d_Pf_append_68 : decode b_Pf_append 68 = .ok (.getfield 19, 3) := by decide +kernel
theorem d_Pf_append_71 : decode b_Pf_append 71 = .ok (.iload 4, 2) := by decide +kernel
theorem d_Pf_append_73 : decode b_Pf_append 73 = .ok (.iconst (-1), 1) := by decide +kernel
theorem d_Pf_append_74 : decode b_Pf_append 74 = .ok (.ixor, 1) := by decide +kernel
theorem d_Pf_append_75 : decode b_Pf_append 75 = .ok (.iand, 1) := by decide +kernel
theorem d_Pf_append_76 : decode b_Pf_append 76 = .ok (.putfield 19, 3) := by decide +kernel
theorem d_Pf_append_79 : decode b_Pf_append 79 = .ok (.return_, 1) := by decide +kernel
theorem d_FT_proof_0 : decode b_FT_proof 0 = .ok (.iload_n 1, 1) := by decide +kernel
theorem d_FT_proof_1 : decode b_FT_proof 1 = .ok (.ifCond .lt 23, 3) := by decide +kernel
theorem d_FT_proof_4 : decode b_FT_proof 4 = .ok (.iload_n 1, 1) := by decide +kernel
theorem d_FT_proof_5 : decode b_FT_proof 5 = .ok (.aload_n 0, 1) := by decide +kernel
theorem d_FT_proof_6 : decode b_FT_proof 6 = .ok (.getfield 27, 3) := by decide +kernel
theorem d_FT_proof_9 : decode b_FT_proof 9 = .ok (.getfield 151, 3) := by decide +kernel
theorem d_FT_proof_12 : decode b_FT_proof 12 = .ok (.if_icmp .ge 12, 3) := by decide +kernel
theorem d_FT_proof_15 : decode b_FT_proof 15 = .ok (.iload_n 2, 1) := by decide +kernel
theorem d_FT_proof_16 : decode b_FT_proof 16 = .ok (.ifCond .lt 8, 3) := by decide +kernel
theorem d_FT_proof_19 : decode b_FT_proof 19 = .ok (.iload_n 2, 1) := by decide +kernel
theorem d_FT_proof_20 : decode b_FT_proof 20 = .ok (.iconst 3, 1) := by decide +kernel
theorem d_FT_proof_21 : decode b_FT_proof 21 = .ok (.if_icmp .le 7, 3) := by decide +kernel
theorem d_FT_proof_24 : decode b_FT_proof 24 = .ok (.sipush (-1000), 3) := by decide +kernel
theorem d_FT_proof_27 : decode b_FT_proof 27 = .ok (.ireturn, 1) := by decide +kernel
theorem d_FT_proof_28 : decode b_FT_proof 28 = .ok (.aload_n 0, 1) := by decide +kernel
theorem d_FT_proof_29 : decode b_FT_proof 29 = .ok (.getfield 27, 3) := by decide +kernel
theorem d_FT_proof_32 : decode b_FT_proof 32 = .ok (.getfield 152, 3) := by decide +kernel
theorem d_FT_proof_35 : decode b_FT_proof 35 = .ok (.iconst 4, 1) := by decide +kernel
theorem d_FT_proof_36 : decode b_FT_proof 36 = .ok (.iload_n 1, 1) := by decide +kernel
theorem d_FT_proof_37 : decode b_FT_proof 37 = .ok (.imul, 1) := by decide +kernel
theorem d_FT_proof_38 : decode b_FT_proof 38 = .ok (.iload_n 2, 1) := by decide +kernel
theorem d_FT_proof_39 : decode b_FT_proof 39 = .ok (.iadd, 1) := by decide +kernel
theorem d_FT_proof_40 : decode b_FT_proof 40 = .ok (.iaload, 1) := by decide +kernel
theorem d_FT_proof_41 : decode b_FT_proof 41 = .ok (.ireturn, 1) := by decide +kernel
theorem d_FT_left_0 : decode b_FT_left 0 = .ok (.aload_n 0, 1) := by decide +kernel
theorem d_FT_left_1 : decode b_FT_left 1 = .ok (.getfield 27, 3) := by decide +kernel
theorem d_FT_left_4 : decode b_FT_left 4 = .ok (.getfield 148, 3) := by decide +kernel
theorem d_FT_left_7 : decode b_FT_left 7 = .ok (.ireturn, 1) := by decide +kernel
theorem d_FT_need_0 : decode b_FT_need 0 = .ok (.aload_n 0, 1) := by decide +kernel
theorem d_FT_need_1 : decode b_FT_need 1 = .ok (.iload_n 1, 1) := by decide +kernel
theorem d_FT_need_2 : decode b_FT_need 2 = .ok (.invokevirtual 61, 3) := by decide +kernel
theorem d_FT_need_5 : decode b_FT_need 5 = .ok (.ifCond .ne 6, 3) := by decide +kernel
theorem d_FT_need_8 : decode b_FT_need 8 = .ok (.bipush (-2), 2) := by decide +kernel
theorem d_FT_need_10 : decode b_FT_need 10 = .ok (.ireturn, 1) := by decide +kernel
theorem d_FT_need_11 : decode b_FT_need 11 = .ok (.aload_n 0, 1) := by decide +kernel
theorem d_FT_need_12 : decode b_FT_need 12 = .ok (.getfield 11, 3) := by decide +kernel
theorem d_FT_need_15 : decode b_FT_need 15 = .ok (.iload_n 1, 1) := by decide +kernel
theorem d_FT_need_16 : decode b_FT_need 16 = .ok (.aaload, 1) := by decide +kernel
theorem d_FT_need_17 : decode b_FT_need 17 = .ok (.astore_n 2, 1) := by decide +kernel
theorem d_FT_need_18 : decode b_FT_need 18 = .ok (.aload_n 0, 1) := by decide +kernel
theorem d_FT_need_19 : decode b_FT_need 19 = .ok (.iconst 0, 1) := by decide +kernel
theorem d_FT_need_20 : decode b_FT_need 20 = .ok (.putfield 155, 3) := by decide +kernel
theorem d_FT_need_23 : decode b_FT_need 23 = .ok (.aload_n 0, 1) := by decide +kernel
theorem d_FT_need_24 : decode b_FT_need 24 = .ok (.aload_n 2, 1) := by decide +kernel
theorem d_FT_need_25 : decode b_FT_need 25 = .ok (.invokevirtual 140, 3) := by decide +kernel
theorem d_FT_need_28 : decode b_FT_need 28 = .ok (.aload_n 0, 1) := by decide +kernel
theorem d_FT_need_29 : decode b_FT_need 29 = .ok (.getfield 31, 3) := by decide +kernel
theorem d_FT_need_32 : decode b_FT_need 32 = .ok (.aload_n 2, 1) := by decide +kernel
theorem d_FT_need_33 : decode b_FT_need 33 = .ok (.aload_n 0, 1) := by decide +kernel
theorem d_FT_need_34 : decode b_FT_need 34 = .ok (.getfield 17, 3) := by decide +kernel
theorem d_FT_need_37 : decode b_FT_need 37 = .ok (.invokevirtual 144, 3) := by decide +kernel
theorem d_FT_need_40 : decode b_FT_need 40 = .ok (.aload_n 0, 1) := by decide +kernel
theorem d_FT_need_41 : decode b_FT_need 41 = .ok (.getfield 31, 3) := by decide +kernel
theorem d_FT_need_44 : decode b_FT_need 44 = .ok (.getfield 148, 3) := by decide +kernel
theorem d_FT_need_47 : decode b_FT_need 47 = .ok (.ifCond .ne 5, 3) := by decide +kernel
theorem d_FT_need_50 : decode b_FT_need 50 = .ok (.iconst 2, 1) := by decide +kernel
end
section
theorem d_FT_need_51 : decode b_FT_need 51 = .ok (.ireturn, 1) := by decide +kernel
theorem d_FT_need_52 : decode b_FT_need 52 = .ok (.aload_n 2, 1) := by decide +kernel
theorem d_FT_need_53 : decode b_FT_need 53 = .ok (.iconst 1, 1) := by decide +kernel
theorem d_FT_need_54 : decode b_FT_need 54 = .ok (.iconst 1, 1) := by decide +kernel
theorem d_FT_need_55 : decode b_FT_need 55 = .ok (.invokevirtual 159, 3) := by decide +kernel
theorem d_FT_need_58 : decode b_FT_need 58 = .ok (.istore_n 3, 1) := by decide +kernel
theorem d_FT_need_59 : decode b_FT_need 59 = .ok (.aload_n 2, 1) := by decide +kernel
theorem d_FT_need_60 : decode b_FT_need 60 = .ok (.iconst 2, 1) := by decide +kernel
theorem d_FT_need_61 : decode b_FT_need 61 = .ok (.iconst 1, 1) := by decide +kernel
theorem d_FT_need_62 : decode b_FT_need 62 = .ok (.invokevirtual 159, 3) := by decide +kernel
theorem d_FT_need_65 : decode b_FT_need 65 = .ok (.istore 4, 2) := by decide +kernel
theorem d_FT_need_67 : decode b_FT_need 67 = .ok (.iconst (-1), 1) := by decide +kernel
theorem d_FT_need_68 : decode b_FT_need 68 = .ok (.istore 5, 2) := by decide +kernel
theorem d_FT_need_70 : decode b_FT_need 70 = .ok (.iload 5, 2) := by decide +kernel
theorem d_FT_need_72 : decode b_FT_need 72 = .ok (.iconst 1, 1) := by decide +kernel
theorem d_FT_need_73 : decode b_FT_need 73 = .ok (.if_icmp .gt 74, 3) := by decide +kernel
theorem d_FT_need_76 : decode b_FT_need 76 = .ok (.iload_n 3, 1) := by decide +kernel
theorem d_FT_need_77 : decode b_FT_need 77 = .ok (.ineg, 1) := by decide +kernel
theorem d_FT_need_78 : decode b_FT_need 78 = .ok (.istore 6, 2) := by decide +kernel
theorem d_FT_need_80 : decode b_FT_need 80 = .ok (.iload 6, 2) := by decide +kernel
theorem d_FT_need_82 : decode b_FT_need 82 = .ok (.iload_n 3, 1) := by decide +kernel
theorem d_FT_need_83 : decode b_FT_need 83 = .ok (.if_icmp .gt 58, 3) := by decide +kernel
theorem d_FT_need_86 : decode b_FT_need 86 = .ok (.iload 4, 2) := by decide +kernel
theorem d_FT_need_88 : decode b_FT_need 88 = .ok (.ineg, 1) := by decide +kernel
theorem d_FT_need_89 : decode b_FT_need 89 = .ok (.istore 7, 2) := by decide +kernel
theorem d_FT_need_91 : decode b_FT_need 91 = .ok (.iload 7, 2) := by decide +kernel
theorem d_FT_need_93 : decode b_FT_need 93 = .ok (.iload 4, 2) := by decide +kernel
theorem d_FT_need_95 : decode b_FT_need 95 = .ok (.if_icmp .gt 40, 3) := by decide +kernel
theorem d_FT_need_98 : decode b_FT_need 98 = .ok (.iload 5, 2) := by decide +kernel
theorem d_FT_need_100 : decode b_FT_need 100 = .ok (.ifCond .ne 13, 3) := by decide +kernel
theorem d_FT_need_103 : decode b_FT_need 103 = .ok (.iload 6, 2) := by decide +kernel
theorem d_FT_need_105 : decode b_FT_need 105 = .ok (.ifCond .ne 8, 3) := by decide +kernel
theorem d_FT_need_108 : decode b_FT_need 108 = .ok (.iload 7, 2) := by decide +kernel
theorem d_FT_need_110 : decode b_FT_need 110 = .ok (.ifCond .eq 19, 3) := by decide +kernel
theorem d_FT_need_113 : decode b_FT_need 113 = .ok (.aload_n 0, 1) := by decide +kernel
theorem d_FT_need_114 : decode b_FT_need 114 = .ok (.aload_n 2, 1) := by decide +kernel
theorem d_FT_need_115 : decode b_FT_need 115 = .ok (.iload 5, 2) := by decide +kernel
theorem d_FT_need_117 : decode b_FT_need 117 = .ok (.iload 6, 2) := by decide +kernel
theorem d_FT_need_119 : decode b_FT_need 119 = .ok (.iload 7, 2) := by decide +kernel
theorem d_FT_need_121 : decode b_FT_need 121 = .ok (.invokevirtual 163, 3) := by decide +kernel
theorem d_FT_need_124 : decode b_FT_need 124 = .ok (.ifCond .eq 5, 3) := by decide +kernel
theorem d_FT_need_127 : decode b_FT_need 127 = .ok (.iconst 1, 1) := by decide +kernel
theorem d_FT_need_128 : decode b_FT_need 128 = .ok (.ireturn, 1) := by decide +kernel
theorem d_FT_need_129 : decode b_FT_need 129 = .ok (.iinc 7 1, 3) := by decide +kernel
theorem d_FT_need_132 : decode b_FT_need 132 = .ok (.goto (-41), 3) := by decide +kernel
theorem d_FT_need_135 : decode b_FT_need 135 = .ok (.iinc 6 1, 3) := by decide +kernel
theorem d_FT_need_138 : decode b_FT_need 138 = .ok (.goto (-58), 3) := by decide +kernel
theorem d_FT_need_141 : decode b_FT_need 141 = .ok (.iinc 5 1, 3) := by decide +kernel
theorem d_FT_need_144 : decode b_FT_need 144 = .ok (.goto (-74), 3) := by decide +kernel
theorem d_FT_need_147 : decode b_FT_need 147 = .ok (.iconst 0, 1) := by decide +kernel
theorem d_FT_need_148 : decode b_FT_need 148 = .ok (.ireturn, 1) := by decide +kernel
theorem d_FT_findNeed_0 : decode b_FT_findNeed 0 = .ok (.aload_n 0, 1) := by decide +kernel
theorem d_FT_findNeed_1 : decode b_FT_findNeed 1 = .ok (.aload_n 1, 1) := by decide +kernel
theorem d_FT_findNeed_2 : decode b_FT_findNeed 2 = .ok (.iload_n 2, 1) := by decide +kernel
theorem d_FT_findNeed_3 : decode b_FT_findNeed 3 = .ok (.iload_n 3, 1) := by decide +kernel
theorem d_FT_findNeed_4 : decode b_FT_findNeed 4 = .ok (.iload 4, 2) := by decide +kernel
theorem d_FT_findNeed_6 : decode b_FT_findNeed 6 = .ok (.iconst 2, 1) := by decide +kernel
theorem d_FT_findNeed_7 : decode b_FT_findNeed 7 = .ok (.invokevirtual 196, 3) := by decide +kernel
theorem d_FT_findNeed_10 : decode b_FT_findNeed 10 = .ok (.aload_n 0, 1) := by decide +kernel
theorem d_FT_findNeed_11 : decode b_FT_findNeed 11 = .ok (.getfield 31, 3) := by decide +kernel
theorem d_FT_findNeed_14 : decode b_FT_findNeed 14 = .ok (.aload_n 1, 1) := by decide +kernel
theorem d_FT_findNeed_15 : decode b_FT_findNeed 15 = .ok (.aload_n 0, 1) := by decide +kernel
theorem d_FT_findNeed_16 : decode b_FT_findNeed 16 = .ok (.getfield 21, 3) := by decide +kernel
theorem d_FT_findNeed_19 : decode b_FT_findNeed 19 = .ok (.invokevirtual 144, 3) := by decide +kernel
theorem d_FT_findNeed_22 : decode b_FT_findNeed 22 = .ok (.aload_n 0, 1) := by decide +kernel
theorem d_FT_findNeed_23 : decode b_FT_findNeed 23 = .ok (.getfield 31, 3) := by decide +kernel
theorem d_FT_findNeed_26 : decode b_FT_findNeed 26 = .ok (.getfield 148, 3) := by decide +kernel
theorem d_FT_findNeed_29 : decode b_FT_findNeed 29 = .ok (.ifCond .eq 5, 3) := by decide +kernel
theorem d_FT_findNeed_32 : decode b_FT_findNeed 32 = .ok (.iconst 0, 1) := by decide +kernel
theorem d_FT_findNeed_33 : decode b_FT_findNeed 33 = .ok (.ireturn, 1) := by decide +kernel
theorem d_FT_findNeed_34 : decode b_FT_findNeed 34 = .ok (.bipush (-2), 2) := by decide +kernel
theorem d_FT_findNeed_36 : decode b_FT_findNeed 36 = .ok (.istore 5, 2) := by decide +kernel
theorem d_FT_findNeed_38 : decode b_FT_findNeed 38 = .ok (.iload 5, 2) := by decide +kernel
theorem d_FT_findNeed_40 : decode b_FT_findNeed 40 = .ok (.iconst 2, 1) := by decide +kernel
theorem d_FT_findNeed_41 : decode b_FT_findNeed 41 = .ok (.if_icmp .gt 71, 3) := by decide +kernel
theorem d_FT_findNeed_44 : decode b_FT_findNeed 44 = .ok (.aload_n 0, 1) := by decide +kernel
theorem d_FT_findNeed_45 : decode b_FT_findNeed 45 = .ok (.aload_n 1, 1) := by decide +kernel
theorem d_FT_findNeed_46 : decode b_FT_findNeed 46 = .ok (.iload_n 2, 1) := by decide +kernel
theorem d_FT_findNeed_47 : decode b_FT_findNeed 47 = .ok (.iload_n 3, 1) := by decide +kernel
theorem d_FT_findNeed_48 : decode b_FT_findNeed 48 = .ok (.iload 4, 2) := by decide +kernel
theorem d_FT_findNeed_50 : decode b_FT_findNeed 50 = .ok (.iload 5, 2) := by decide +kernel
theorem d_FT_findNeed_52 : decode b_FT_findNeed 52 = .ok (.invokevirtual 196, 3) := by decide +kernel
theorem d_FT_findNeed_55 : decode b_FT_findNeed 55 = .ok (.aload_n 0, 1) := by decide +kernel
theorem d_FT_findNeed_56 : decode b_FT_findNeed 56 = .ok (.aload_n 1, 1) := by decide +kernel
theorem d_FT_findNeed_57 : decode b_FT_findNeed 57 = .ok (.iload_n 2, 1) := by decide +kernel
theorem d_FT_findNeed_58 : decode b_FT_findNeed 58 = .ok (.iload_n 3, 1) := by decide +kernel
theorem d_FT_findNeed_59 : decode b_FT_findNeed 59 = .ok (.iload 4, 2) := by decide +kernel
theorem d_FT_findNeed_61 : decode b_FT_findNeed 61 = .ok (.iload 5, 2) := by decide +kernel
theorem d_FT_findNeed_63 : decode b_FT_findNeed 63 = .ok (.invokevirtual 200, 3) := by decide +kernel
theorem d_FT_findNeed_66 : decode b_FT_findNeed 66 = .ok (.ifCond .ne 6, 3) := by decide +kernel
theorem d_FT_findNeed_69 : decode b_FT_findNeed 69 = .ok (.goto 37, 3) := by decide +kernel
theorem d_FT_findNeed_72 : decode b_FT_findNeed 72 = .ok (.aload_n 0, 1) := by decide +kernel
theorem d_FT_findNeed_73 : decode b_FT_findNeed 73 = .ok (.getfield 31, 3) := by decide +kernel
theorem d_FT_findNeed_76 : decode b_FT_findNeed 76 = .ok (.aload_n 1, 1) := by decide +kernel
theorem d_FT_findNeed_77 : decode b_FT_findNeed 77 = .ok (.aload_n 0, 1) := by decide +kernel
theorem d_FT_findNeed_78 : decode b_FT_findNeed 78 = .ok (.getfield 21, 3) := by decide +kernel
theorem d_FT_findNeed_81 : decode b_FT_findNeed 81 = .ok (.invokevirtual 144, 3) := by decide +kernel
theorem d_FT_findNeed_84 : decode b_FT_findNeed 84 = .ok (.aload_n 0, 1) := by decide +kernel
theorem d_FT_findNeed_85 : decode b_FT_findNeed 85 = .ok (.getfield 31, 3) := by decide +kernel
theorem d_FT_findNeed_88 : decode b_FT_findNeed 88 = .ok (.getfield 148, 3) := by decide +kernel
theorem d_FT_findNeed_91 : decode b_FT_findNeed 91 = .ok (.ifCond .ne 15, 3) := by decide +kernel
theorem d_FT_findNeed_94 : decode b_FT_findNeed 94 = .ok (.aload_n 0, 1) := by decide +kernel
theorem d_FT_findNeed_95 : decode b_FT_findNeed 95 = .ok (.iload_n 2, 1) := by decide +kernel
theorem d_FT_findNeed_96 : decode b_FT_findNeed 96 = .ok (.iload_n 3, 1) := by decide +kernel
theorem d_FT_findNeed_97 : decode b_FT_findNeed 97 = .ok (.iload 4, 2) := by decide +kernel
theorem d_FT_findNeed_99 : decode b_FT_findNeed 99 = .ok (.iload 5, 2) := by decide +kernel
theorem d_FT_findNeed_101 : decode b_FT_findNeed 101 = .ok (.invokevirtual 204, 3) := by decide +kernel
theorem d_FT_findNeed_104 : decode b_FT_findNeed 104 = .ok (.iconst 1, 1) := by decide +kernel
theorem d_FT_findNeed_105 : decode b_FT_findNeed 105 = .ok (.ireturn, 1) := by decide +kernel
theorem d_FT_findNeed_106 : decode b_FT_findNeed 106 = .ok (.iinc 5 1, 3) := by decide +kernel
theorem d_FT_findNeed_109 : decode b_FT_findNeed 109 = .ok (.goto (-71), 3) := by decide +kernel
theorem d_FT_findNeed_112 : decode b_FT_findNeed 112 = .ok (.iconst 0, 1) := by decide +kernel
theorem d_FT_findNeed_113 : decode b_FT_findNeed 113 = .ok (.ireturn, 1) := by decide +kernel
theorem d_FT_narrowSpaces_0 : decode b_FT_narrowSpaces 0 = .ok (.iconst 0, 1) := by decide +kernel
theorem d_FT_narrowSpaces_1 : decode b_FT_narrowSpaces 1 = .ok (.istore 6, 2) := by decide +kernel
theorem d_FT_narrowSpaces_3 : decode b_FT_narrowSpaces 3 = .ok (.iload 6, 2) := by decide +kernel
theorem d_FT_narrowSpaces_5 : decode b_FT_narrowSpaces 5 = .ok (.aload_n 1, 1) := by decide +kernel
theorem d_FT_narrowSpaces_6 : decode b_FT_narrowSpaces 6 = .ok (.getfield 111, 3) := by decide +kernel
theorem d_FT_narrowSpaces_9 : decode b_FT_narrowSpaces 9 = .ok (.if_icmp .ge 42, 3) := by decide +kernel
theorem d_FT_narrowSpaces_12 : decode b_FT_narrowSpaces 12 = .ok (.aload_n 0, 1) := by decide +kernel
theorem d_FT_narrowSpaces_13 : decode b_FT_narrowSpaces 13 = .ok (.getfield 21, 3) := by decide +kernel
theorem d_FT_narrowSpaces_16 : decode b_FT_narrowSpaces 16 = .ok (.iload 6, 2) := by decide +kernel
theorem d_FT_narrowSpaces_18 : decode b_FT_narrowSpaces 18 = .ok (.aaload, 1) := by decide +kernel
theorem d_FT_narrowSpaces_19 : decode b_FT_narrowSpaces 19 = .ok (.aload_n 0, 1) := by decide +kernel
theorem d_FT_narrowSpaces_20 : decode b_FT_narrowSpaces 20 = .ok (.getfield 17, 3) := by decide +kernel
theorem d_FT_narrowSpaces_23 : decode b_FT_narrowSpaces 23 = .ok (.iload 6, 2) := by decide +kernel
theorem d_FT_narrowSpaces_25 : decode b_FT_narrowSpaces 25 = .ok (.aaload, 1) := by decide +kernel
theorem d_FT_narrowSpaces_26 : decode b_FT_narrowSpaces 26 = .ok (.invokevirtual 211, 3) := by decide +kernel
theorem d_FT_narrowSpaces_29 : decode b_FT_narrowSpaces 29 = .ok (.aload_n 0, 1) := by decide +kernel
theorem d_FT_narrowSpaces_30 : decode b_FT_narrowSpaces 30 = .ok (.getfield 21, 3) := by decide +kernel
theorem d_FT_narrowSpaces_33 : decode b_FT_narrowSpaces 33 = .ok (.iload 6, 2) := by decide +kernel
theorem d_FT_narrowSpaces_35 : decode b_FT_narrowSpaces 35 = .ok (.aaload, 1) := by decide +kernel
theorem d_FT_narrowSpaces_36 : decode b_FT_narrowSpaces 36 = .ok (.iload_n 2, 1) := by decide +kernel
theorem d_FT_narrowSpaces_37 : decode b_FT_narrowSpaces 37 = .ok (.iload_n 3, 1) := by decide +kernel
theorem d_FT_narrowSpaces_38 : decode b_FT_narrowSpaces 38 = .ok (.iload 4, 2) := by decide +kernel
theorem d_FT_narrowSpaces_40 : decode b_FT_narrowSpaces 40 = .ok (.iload 5, 2) := by decide +kernel
theorem d_FT_narrowSpaces_42 : decode b_FT_narrowSpaces 42 = .ok (.invokevirtual 215, 3) := by decide +kernel
theorem d_FT_narrowSpaces_45 : decode b_FT_narrowSpaces 45 = .ok (.iinc 6 1, 3) := by decide +kernel
theorem d_FT_narrowSpaces_48 : decode b_FT_narrowSpaces 48 = .ok (.goto (-45), 3) := by decide +kernel
theorem d_FT_narrowSpaces_51 : decode b_FT_narrowSpaces 51 = .ok (.return_, 1) := by decide +kernel
theorem d_Sp_copy_0 : decode b_Sp_copy 0 = .ok (.aload_n 0, 1) := by decide +kernel
theorem d_Sp_copy_1 : decode b_Sp_copy 1 = .ok (.aload_n 1, 1) := by decide +kernel
theorem d_Sp_copy_2 : decode b_Sp_copy 2 = .ok (.getfield 63, 3) := by decide +kernel
theorem d_Sp_copy_5 : decode b_Sp_copy 5 = .ok (.putfield 63, 3) := by decide +kernel
theorem d_Sp_copy_8 : decode b_Sp_copy 8 = .ok (.aload_n 0, 1) := by decide +kernel
theorem d_Sp_copy_9 : decode b_Sp_copy 9 = .ok (.aload_n 1, 1) := by decide +kernel
theorem d_Sp_copy_10 : decode b_Sp_copy 10 = .ok (.getfield 66, 3) := by decide +kernel
theorem d_Sp_copy_13 : decode b_Sp_copy 13 = .ok (.putfield 66, 3) := by decide +kernel
theorem d_Sp_copy_16 : decode b_Sp_copy 16 = .ok (.aload_n 0, 1) := by decide +kernel
theorem d_Sp_copy_17 : decode b_Sp_copy 17 = .ok (.aload_n 1, 1) := by decide +kernel
theorem d_Sp_copy_18 : decode b_Sp_copy 18 = .ok (.getfield 69, 3) := by decide +kernel
theorem d_Sp_copy_21 : decode b_Sp_copy 21 = .ok (.putfield 69, 3) := by decide +kernel
theorem d_Sp_copy_24 : decode b_Sp_copy 24 = .ok (.iconst 0, 1) := by decide +kernel
theorem d_Sp_copy_25 : decode b_Sp_copy 25 = .ok (.istore_n 2, 1) := by decide +kernel
theorem d_Sp_copy_26 : decode b_Sp_copy 26 = .ok (.iload_n 2, 1) := by decide +kernel
theorem d_Sp_copy_27 : decode b_Sp_copy 27 = .ok (.iconst 4, 1) := by decide +kernel
theorem d_Sp_copy_28 : decode b_Sp_copy 28 = .ok (.aload_n 0, 1) := by decide +kernel
theorem d_Sp_copy_29 : decode b_Sp_copy 29 = .ok (.getfield 63, 3) := by decide +kernel
theorem d_Sp_copy_32 : decode b_Sp_copy 32 = .ok (.imul, 1) := by decide +kernel
theorem d_Sp_copy_33 : decode b_Sp_copy 33 = .ok (.if_icmp .ge 21, 3) := by decide +kernel
theorem d_Sp_copy_36 : decode b_Sp_copy 36 = .ok (.aload_n 0, 1) := by decide +kernel
theorem d_Sp_copy_37 : decode b_Sp_copy 37 = .ok (.getfield 9, 3) := by decide +kernel
theorem d_Sp_copy_40 : decode b_Sp_copy 40 = .ok (.iload_n 2, 1) := by decide +kernel
theorem d_Sp_copy_41 : decode b_Sp_copy 41 = .ok (.aload_n 1, 1) := by decide +kernel
theorem d_Sp_copy_42 : decode b_Sp_copy 42 = .ok (.getfield 9, 3) := by decide +kernel
theorem d_Sp_copy_45 : decode b_Sp_copy 45 = .ok (.iload_n 2, 1) := by decide +kernel
theorem d_Sp_copy_46 : decode b_Sp_copy 46 = .ok (.laload, 1) := by decide +kernel
theorem d_Sp_copy_47 : decode b_Sp_copy 47 = .ok (.lastore, 1) := by decide +kernel
theorem d_Sp_copy_48 : decode b_Sp_copy 48 = .ok (.iinc 2 1, 3) := by decide +kernel
theorem d_Sp_copy_51 : decode b_Sp_copy 51 = .ok (.goto (-25), 3) := by decide +kernel
theorem d_Sp_copy_54 : decode b_Sp_copy 54 = .ok (.iconst 0, 1) := by decide +kernel
theorem d_Sp_copy_55 : decode b_Sp_copy 55 = .ok (.istore_n 2, 1) := by decide +kernel
theorem d_Sp_copy_56 : decode b_Sp_copy 56 = .ok (.iload_n 2, 1) := by decide +kernel
theorem d_Sp_copy_57 : decode b_Sp_copy 57 = .ok (.iconst 4, 1) := by decide +kernel
theorem d_Sp_copy_58 : decode b_Sp_copy 58 = .ok (.aload_n 0, 1) := by decide +kernel
theorem d_Sp_copy_59 : decode b_Sp_copy 59 = .ok (.getfield 66, 3) := by decide +kernel
theorem d_Sp_copy_62 : decode b_Sp_copy 62 = .ok (.imul, 1) := by decide +kernel
theorem d_Sp_copy_63 : decode b_Sp_copy 63 = .ok (.if_icmp .ge 21, 3) := by decide +kernel
theorem d_Sp_copy_66 : decode b_Sp_copy 66 = .ok (.aload_n 0, 1) := by decide +kernel
theorem d_Sp_copy_67 : decode b_Sp_copy 67 = .ok (.getfield 15, 3) := by decide +kernel
theorem d_Sp_copy_70 : decode b_Sp_copy 70 = .ok (.iload_n 2, 1) := by decide +kernel
theorem d_Sp_copy_71 : decode b_Sp_copy 71 = .ok (.aload_n 1, 1) := by decide +kernel
theorem d_Sp_copy_72 : decode b_Sp_copy 72 = .ok (.getfield 15, 3) := by decide +kernel
theorem d_Sp_copy_75 : decode b_Sp_copy 75 = .ok (.iload_n 2, 1) := by decide +kernel
theorem d_Sp_copy_76 : decode b_Sp_copy 76 = .ok (.laload, 1) := by decide +kernel
theorem d_Sp_copy_77 : decode b_Sp_copy 77 = .ok (.lastore, 1) := by decide +kernel
theorem d_Sp_copy_78 : decode b_Sp_copy 78 = .ok (.iinc 2 1, 3) := by decide +kernel
theorem d_Sp_copy_81 : decode b_Sp_copy 81 = .ok (.goto (-25), 3) := by decide +kernel
theorem d_Sp_copy_84 : decode b_Sp_copy 84 = .ok (.iconst 0, 1) := by decide +kernel
theorem d_Sp_copy_85 : decode b_Sp_copy 85 = .ok (.istore_n 2, 1) := by decide +kernel
theorem d_Sp_copy_86 : decode b_Sp_copy 86 = .ok (.iload_n 2, 1) := by decide +kernel
theorem d_Sp_copy_87 : decode b_Sp_copy 87 = .ok (.aload_n 0, 1) := by decide +kernel
theorem d_Sp_copy_88 : decode b_Sp_copy 88 = .ok (.getfield 66, 3) := by decide +kernel
theorem d_Sp_copy_91 : decode b_Sp_copy 91 = .ok (.if_icmp .ge 21, 3) := by decide +kernel
theorem d_Sp_copy_94 : decode b_Sp_copy 94 = .ok (.aload_n 0, 1) := by decide +kernel
theorem d_Sp_copy_95 : decode b_Sp_copy 95 = .ok (.getfield 18, 3) := by decide +kernel
theorem d_Sp_copy_98 : decode b_Sp_copy 98 = .ok (.iload_n 2, 1) := by decide +kernel
theorem d_Sp_copy_99 : decode b_Sp_copy 99 = .ok (.aload_n 1, 1) := by decide +kernel
theorem d_Sp_copy_100 : decode b_Sp_copy 100 = .ok (.getfield 18, 3) := by decide +kernel
theorem d_Sp_copy_103 : decode b_Sp_copy 103 = .ok (.iload_n 2, 1) := by decide +kernel
theorem d_Sp_copy_104 : decode b_Sp_copy 104 = .ok (.iaload, 1) := by decide +kernel
theorem d_Sp_copy_105 : decode b_Sp_copy 105 = .ok (.iastore, 1) := by decide +kernel
theorem d_Sp_copy_106 : decode b_Sp_copy 106 = .ok (.iinc 2 1, 3) := by decide +kernel
theorem d_Sp_copy_109 : decode b_Sp_copy 109 = .ok (.goto (-23), 3) := by decide +kernel
theorem d_Sp_copy_112 : decode b_Sp_copy 112 = .ok (.return_, 1) := by decide +kernel
theorem d_FT_lasts_0 : decode b_FT_lasts 0 = .ok (.iconst 0, 1) := by decide +kernel
theorem d_FT_lasts_1 : decode b_FT_lasts 1 = .ok (.istore 6, 2) := by decide +kernel
theorem d_FT_lasts_3 : decode b_FT_lasts 3 = .ok (.iload 6, 2) := by decide +kernel
theorem d_FT_lasts_5 : decode b_FT_lasts 5 = .ok (.aload_n 1, 1) := by decide +kernel
theorem d_FT_lasts_6 : decode b_FT_lasts 6 = .ok (.getfield 111, 3) := by decide +kernel
theorem d_FT_lasts_9 : decode b_FT_lasts 9 = .ok (.if_icmp .ge 37, 3) := by decide +kernel
theorem d_FT_lasts_12 : decode b_FT_lasts 12 = .ok (.aload_n 1, 1) := by decide +kernel
theorem d_FT_lasts_13 : decode b_FT_lasts 13 = .ok (.getfield 87, 3) := by decide +kernel
theorem d_FT_lasts_16 : decode b_FT_lasts 16 = .ok (.iload 6, 2) := by decide +kernel
theorem d_FT_lasts_18 : decode b_FT_lasts 18 = .ok (.aaload, 1) := by decide +kernel
theorem d_FT_lasts_19 : decode b_FT_lasts 19 = .ok (.aload_n 0, 1) := by decide +kernel
theorem d_FT_lasts_20 : decode b_FT_lasts 20 = .ok (.getfield 21, 3) := by decide +kernel
theorem d_FT_lasts_23 : decode b_FT_lasts 23 = .ok (.iload 6, 2) := by decide +kernel
theorem d_FT_lasts_25 : decode b_FT_lasts 25 = .ok (.aaload, 1) := by decide +kernel
theorem d_FT_lasts_26 : decode b_FT_lasts 26 = .ok (.iload_n 2, 1) := by decide +kernel
theorem d_FT_lasts_27 : decode b_FT_lasts 27 = .ok (.iload_n 3, 1) := by decide +kernel
theorem d_FT_lasts_28 : decode b_FT_lasts 28 = .ok (.iload 4, 2) := by decide +kernel
theorem d_FT_lasts_30 : decode b_FT_lasts 30 = .ok (.iload 5, 2) := by decide +kernel
theorem d_FT_lasts_32 : decode b_FT_lasts 32 = .ok (.invokevirtual 208, 3) := by decide +kernel
theorem d_FT_lasts_35 : decode b_FT_lasts 35 = .ok (.ifCond .ne 5, 3) := by decide +kernel
theorem d_FT_lasts_38 : decode b_FT_lasts 38 = .ok (.iconst 0, 1) := by decide +kernel
theorem d_FT_lasts_39 : decode b_FT_lasts 39 = .ok (.ireturn, 1) := by decide +kernel
theorem d_FT_lasts_40 : decode b_FT_lasts 40 = .ok (.iinc 6 1, 3) := by decide +kernel
theorem d_FT_lasts_43 : decode b_FT_lasts 43 = .ok (.goto (-40), 3) := by decide +kernel
theorem d_FT_lasts_46 : decode b_FT_lasts 46 = .ok (.iconst 1, 1) := by decide +kernel
theorem d_FT_lasts_47 : decode b_FT_lasts 47 = .ok (.ireturn, 1) := by decide +kernel
theorem d_Wy_keeps_0 : decode b_Wy_keeps 0 = .ok (.aload_n 1, 1) := by decide +kernel
theorem d_Wy_keeps_1 : decode b_Wy_keeps 1 = .ok (.aload_n 0, 1) := by decide +kernel
theorem d_Wy_keeps_2 : decode b_Wy_keeps 2 = .ok (.iload_n 2, 1) := by decide +kernel
theorem d_Wy_keeps_3 : decode b_Wy_keeps 3 = .ok (.iload_n 3, 1) := by decide +kernel
theorem d_Wy_keeps_4 : decode b_Wy_keeps 4 = .ok (.iload 4, 2) := by decide +kernel
theorem d_Wy_keeps_6 : decode b_Wy_keeps 6 = .ok (.iconst 0, 1) := by decide +kernel
theorem d_Wy_keeps_7 : decode b_Wy_keeps 7 = .ok (.invokevirtual 35, 3) := by decide +kernel
theorem d_Wy_keeps_10 : decode b_Wy_keeps 10 = .ok (.aload_n 0, 1) := by decide +kernel
theorem d_Wy_keeps_11 : decode b_Wy_keeps 11 = .ok (.iload_n 2, 1) := by decide +kernel
theorem d_Wy_keeps_12 : decode b_Wy_keeps 12 = .ok (.iload_n 3, 1) := by decide +kernel
theorem d_Wy_keeps_13 : decode b_Wy_keeps 13 = .ok (.iload 4, 2) := by decide +kernel
theorem d_Wy_keeps_15 : decode b_Wy_keeps 15 = .ok (.iconst 1, 1) := by decide +kernel
theorem d_Wy_keeps_16 : decode b_Wy_keeps 16 = .ok (.invokevirtual 35, 3) := by decide +kernel
theorem d_Wy_keeps_19 : decode b_Wy_keeps 19 = .ok (.aload_n 0, 1) := by decide +kernel
theorem d_Wy_keeps_20 : decode b_Wy_keeps 20 = .ok (.iload_n 2, 1) := by decide +kernel
theorem d_Wy_keeps_21 : decode b_Wy_keeps 21 = .ok (.iload_n 3, 1) := by decide +kernel
theorem d_Wy_keeps_22 : decode b_Wy_keeps 22 = .ok (.iload 4, 2) := by decide +kernel
theorem d_Wy_keeps_24 : decode b_Wy_keeps 24 = .ok (.iconst 2, 1) := by decide +kernel
theorem d_Wy_keeps_25 : decode b_Wy_keeps 25 = .ok (.invokevirtual 35, 3) := by decide +kernel
theorem d_Wy_keeps_28 : decode b_Wy_keeps 28 = .ok (.iload 5, 2) := by decide +kernel
theorem d_Wy_keeps_30 : decode b_Wy_keeps 30 = .ok (.aload_n 0, 1) := by decide +kernel
theorem d_Wy_keeps_31 : decode b_Wy_keeps 31 = .ok (.iload_n 2, 1) := by decide +kernel
theorem d_Wy_keeps_32 : decode b_Wy_keeps 32 = .ok (.iload_n 3, 1) := by decide +kernel
theorem d_Wy_keeps_33 : decode b_Wy_keeps 33 = .ok (.iload 4, 2) := by decide +kernel
theorem d_Wy_keeps_35 : decode b_Wy_keeps 35 = .ok (.invokevirtual 39, 3) := by decide +kernel
theorem d_Wy_keeps_38 : decode b_Wy_keeps 38 = .ok (.isub, 1) := by decide +kernel
theorem d_Wy_keeps_39 : decode b_Wy_keeps 39 = .ok (.invokevirtual 43, 3) := by decide +kernel
theorem d_Wy_keeps_42 : decode b_Wy_keeps 42 = .ok (.ireturn, 1) := by decide +kernel
theorem d_FT_keepNeed_0 : decode b_FT_keepNeed 0 = .ok (.aload_n 0, 1) := by decide +kernel
theorem d_FT_keepNeed_1 : decode b_FT_keepNeed 1 = .ok (.iconst 1, 1) := by decide +kernel
theorem d_FT_keepNeed_2 : decode b_FT_keepNeed 2 = .ok (.putfield 155, 3) := by decide +kernel
theorem d_FT_keepNeed_5 : decode b_FT_keepNeed 5 = .ok (.aload_n 0, 1) := by decide +kernel
theorem d_FT_keepNeed_6 : decode b_FT_keepNeed 6 = .ok (.getfield 34, 3) := by decide +kernel
theorem d_FT_keepNeed_9 : decode b_FT_keepNeed 9 = .ok (.iconst 0, 1) := by decide +kernel
theorem d_FT_keepNeed_10 : decode b_FT_keepNeed 10 = .ok (.iload_n 1, 1) := by decide +kernel
theorem d_FT_keepNeed_11 : decode b_FT_keepNeed 11 = .ok (.iastore, 1) := by decide +kernel
theorem d_FT_keepNeed_12 : decode b_FT_keepNeed 12 = .ok (.aload_n 0, 1) := by decide +kernel
theorem d_FT_keepNeed_13 : decode b_FT_keepNeed 13 = .ok (.getfield 34, 3) := by decide +kernel
theorem d_FT_keepNeed_16 : decode b_FT_keepNeed 16 = .ok (.iconst 1, 1) := by decide +kernel
theorem d_FT_keepNeed_17 : decode b_FT_keepNeed 17 = .ok (.iload_n 2, 1) := by decide +kernel
theorem d_FT_keepNeed_18 : decode b_FT_keepNeed 18 = .ok (.iastore, 1) := by decide +kernel
theorem d_FT_keepNeed_19 : decode b_FT_keepNeed 19 = .ok (.aload_n 0, 1) := by decide +kernel
theorem d_FT_keepNeed_20 : decode b_FT_keepNeed 20 = .ok (.getfield 34, 3) := by decide +kernel
theorem d_FT_keepNeed_23 : decode b_FT_keepNeed 23 = .ok (.iconst 2, 1) := by decide +kernel
theorem d_FT_keepNeed_24 : decode b_FT_keepNeed 24 = .ok (.iload_n 3, 1) := by decide +kernel
theorem d_FT_keepNeed_25 : decode b_FT_keepNeed 25 = .ok (.iastore, 1) := by decide +kernel
theorem d_FT_keepNeed_26 : decode b_FT_keepNeed 26 = .ok (.aload_n 0, 1) := by decide +kernel
theorem d_FT_keepNeed_27 : decode b_FT_keepNeed 27 = .ok (.getfield 34, 3) := by decide +kernel
theorem d_FT_keepNeed_30 : decode b_FT_keepNeed 30 = .ok (.iconst 3, 1) := by decide +kernel
theorem d_FT_keepNeed_31 : decode b_FT_keepNeed 31 = .ok (.iload 4, 2) := by decide +kernel
theorem d_FT_keepNeed_33 : decode b_FT_keepNeed 33 = .ok (.iastore, 1) := by decide +kernel
theorem d_FT_keepNeed_34 : decode b_FT_keepNeed 34 = .ok (.return_, 1) := by decide +kernel
theorem d_FT_needed_0 : decode b_FT_needed 0 = .ok (.aload_n 0, 1) := by decide +kernel
theorem d_FT_needed_1 : decode b_FT_needed 1 = .ok (.getfield 155, 3) := by decide +kernel
theorem d_FT_needed_4 : decode b_FT_needed 4 = .ok (.ifCond .eq 21, 3) := by decide +kernel
theorem d_FT_needed_7 : decode b_FT_needed 7 = .ok (.iload_n 1, 1) := by decide +kernel
theorem d_FT_needed_8 : decode b_FT_needed 8 = .ok (.ifCond .lt 17, 3) := by decide +kernel
theorem d_FT_needed_11 : decode b_FT_needed 11 = .ok (.iload_n 1, 1) := by decide +kernel
theorem d_FT_needed_12 : decode b_FT_needed 12 = .ok (.iconst 4, 1) := by decide +kernel
theorem d_FT_needed_13 : decode b_FT_needed 13 = .ok (.if_icmp .ge 12, 3) := by decide +kernel
theorem d_FT_needed_16 : decode b_FT_needed 16 = .ok (.aload_n 0, 1) := by decide +kernel
theorem d_FT_needed_17 : decode b_FT_needed 17 = .ok (.getfield 34, 3) := by decide +kernel
theorem d_FT_needed_20 : decode b_FT_needed 20 = .ok (.iload_n 1, 1) := by decide +kernel
theorem d_FT_needed_21 : decode b_FT_needed 21 = .ok (.iaload, 1) := by decide +kernel
theorem d_FT_needed_22 : decode b_FT_needed 22 = .ok (.goto 6, 3) := by decide +kernel
theorem d_FT_needed_25 : decode b_FT_needed 25 = .ok (.sipush (-1000), 3) := by decide +kernel
theorem d_FT_needed_28 : decode b_FT_needed 28 = .ok (.ireturn, 1) := by decide +kernel
theorem d_FT_put_0 : decode b_FT_put 0 = .ok (.aload_n 0, 1) := by decide +kernel
theorem d_FT_put_1 : decode b_FT_put 1 = .ok (.iload_n 1, 1) := by decide +kernel
theorem d_FT_put_2 : decode b_FT_put 2 = .ok (.iload_n 2, 1) := by decide +kernel
theorem d_FT_put_3 : decode b_FT_put 3 = .ok (.invokevirtual 96, 3) := by decide +kernel
theorem d_FT_put_6 : decode b_FT_put 6 = .ok (.ifCond .ne 6, 3) := by decide +kernel
theorem d_FT_put_9 : decode b_FT_put 9 = .ok (.bipush (-2), 2) := by decide +kernel
theorem d_FT_put_11 : decode b_FT_put 11 = .ok (.ireturn, 1) := by decide +kernel
theorem d_FT_put_12 : decode b_FT_put 12 = .ok (.iload_n 3, 1) := by decide +kernel
theorem d_FT_put_13 : decode b_FT_put 13 = .ok (.ldc 167, 2) := by decide +kernel
theorem d_FT_put_15 : decode b_FT_put 15 = .ok (.invokestatic 99, 3) := by decide +kernel
theorem d_FT_put_18 : decode b_FT_put 18 = .ok (.ifCond .ne 6, 3) := by decide +kernel
theorem d_FT_put_21 : decode b_FT_put 21 = .ok (.bipush (-3), 2) := by decide +kernel
theorem d_FT_put_23 : decode b_FT_put 23 = .ok (.ireturn, 1) := by decide +kernel
theorem d_FT_put_24 : decode b_FT_put 24 = .ok (.aload_n 0, 1) := by decide +kernel
theorem d_FT_put_25 : decode b_FT_put 25 = .ok (.getfield 11, 3) := by decide +kernel
theorem d_FT_put_28 : decode b_FT_put 28 = .ok (.iload_n 1, 1) := by decide +kernel
theorem d_FT_put_29 : decode b_FT_put 29 = .ok (.aaload, 1) := by decide +kernel
theorem d_FT_put_30 : decode b_FT_put 30 = .ok (.getfield 168, 3) := by decide +kernel
theorem d_FT_put_33 : decode b_FT_put 33 = .ok (.iload_n 2, 1) := by decide +kernel
theorem d_FT_put_34 : decode b_FT_put 34 = .ok (.iload_n 3, 1) := by decide +kernel
theorem d_FT_put_35 : decode b_FT_put 35 = .ok (.i2l, 1) := by decide +kernel
theorem d_FT_put_36 : decode b_FT_put 36 = .ok (.lastore, 1) := by decide +kernel
theorem d_FT_put_37 : decode b_FT_put 37 = .ok (.iconst 1, 1) := by decide +kernel
theorem d_FT_put_38 : decode b_FT_put 38 = .ok (.ireturn, 1) := by decide +kernel
theorem d_FT_at_0 : decode b_FT_at 0 = .ok (.aload_n 0, 1) := by decide +kernel
theorem d_FT_at_1 : decode b_FT_at 1 = .ok (.iload_n 1, 1) := by decide +kernel
theorem d_FT_at_2 : decode b_FT_at 2 = .ok (.iload_n 2, 1) := by decide +kernel
theorem d_FT_at_3 : decode b_FT_at 3 = .ok (.invokevirtual 96, 3) := by decide +kernel
theorem d_FT_at_6 : decode b_FT_at 6 = .ok (.ifCond .eq 17, 3) := by decide +kernel
theorem d_FT_at_9 : decode b_FT_at 9 = .ok (.aload_n 0, 1) := by decide +kernel
theorem d_FT_at_10 : decode b_FT_at 10 = .ok (.getfield 11, 3) := by decide +kernel
theorem d_FT_at_13 : decode b_FT_at 13 = .ok (.iload_n 1, 1) := by decide +kernel
theorem d_FT_at_14 : decode b_FT_at 14 = .ok (.aaload, 1) := by decide +kernel
theorem d_FT_at_15 : decode b_FT_at 15 = .ok (.getfield 168, 3) := by decide +kernel
theorem d_FT_at_18 : decode b_FT_at 18 = .ok (.iload_n 2, 1) := by decide +kernel
theorem d_FT_at_19 : decode b_FT_at 19 = .ok (.laload, 1) := by decide +kernel
theorem d_FT_at_20 : decode b_FT_at 20 = .ok (.goto 6, 3) := by decide +kernel
theorem d_FT_at_23 : decode b_FT_at 23 = .ok (.ldc2_w 171, 3) := by decide +kernel
theorem d_FT_at_26 : decode b_FT_at 26 = .ok (.lreturn, 1) := by decide +kernel
theorem d_FT_open_0 : decode b_FT_open 0 = .ok (.aload_n 0, 1) := by decide +kernel
theorem d_FT_open_1 : decode b_FT_open 1 = .ok (.iload_n 1, 1) := by decide +kernel
theorem d_FT_open_2 : decode b_FT_open 2 = .ok (.invokevirtual 61, 3) := by decide +kernel
theorem d_FT_open_5 : decode b_FT_open 5 = .ok (.ifCond .eq 15, 3) := by decide +kernel
theorem d_FT_open_8 : decode b_FT_open 8 = .ok (.aload_n 0, 1) := by decide +kernel
theorem d_FT_open_9 : decode b_FT_open 9 = .ok (.getfield 11, 3) := by decide +kernel
theorem d_FT_open_12 : decode b_FT_open 12 = .ok (.iload_n 1, 1) := by decide +kernel
theorem d_FT_open_13 : decode b_FT_open 13 = .ok (.aaload, 1) := by decide +kernel
theorem d_FT_open_14 : decode b_FT_open 14 = .ok (.invokevirtual 173, 3) := by decide +kernel
theorem d_FT_open_17 : decode b_FT_open 17 = .ok (.goto 5, 3) := by decide +kernel
theorem d_FT_open_20 : decode b_FT_open 20 = .ok (.bipush (-2), 2) := by decide +kernel
theorem d_FT_open_22 : decode b_FT_open 22 = .ok (.ireturn, 1) := by decide +kernel
theorem d_Lp_openWays_0 : decode b_Lp_openWays 0 = .ok (.iconst 0, 1) := by decide +kernel
theorem d_Lp_openWays_1 : decode b_Lp_openWays 1 = .ok (.istore_n 1, 1) := by decide +kernel
theorem d_Lp_openWays_2 : decode b_Lp_openWays 2 = .ok (.aload_n 0, 1) := by decide +kernel
theorem d_Lp_openWays_3 : decode b_Lp_openWays 3 = .ok (.getfield 14, 3) := by decide +kernel
theorem d_Lp_openWays_6 : decode b_Lp_openWays 6 = .ok (.aload_n 0, 1) := by decide +kernel
theorem d_Lp_openWays_7 : decode b_Lp_openWays 7 = .ok (.getfield 26, 3) := by decide +kernel
theorem d_Lp_openWays_10 : decode b_Lp_openWays 10 = .ok (.invokevirtual 47, 3) := by decide +kernel
theorem d_Lp_openWays_13 : decode b_Lp_openWays 13 = .ok (.ifCond .eq 44, 3) := by decide +kernel
theorem d_Lp_openWays_16 : decode b_Lp_openWays 16 = .ok (.iconst 0, 1) := by decide +kernel
theorem d_Lp_openWays_17 : decode b_Lp_openWays 17 = .ok (.istore_n 2, 1) := by decide +kernel
theorem d_Lp_openWays_18 : decode b_Lp_openWays 18 = .ok (.iload_n 2, 1) := by decide +kernel
theorem d_Lp_openWays_19 : decode b_Lp_openWays 19 = .ok (.aload_n 0, 1) := by decide +kernel
theorem d_Lp_openWays_20 : decode b_Lp_openWays 20 = .ok (.getfield 41, 3) := by decide +kernel
theorem d_Lp_openWays_23 : decode b_Lp_openWays 23 = .ok (.if_icmp .ge 34, 3) := by decide +kernel
theorem d_Lp_openWays_26 : decode b_Lp_openWays 26 = .ok (.aload_n 0, 1) := by decide +kernel
theorem d_Lp_openWays_27 : decode b_Lp_openWays 27 = .ok (.getfield 22, 3) := by decide +kernel
theorem d_Lp_openWays_30 : decode b_Lp_openWays 30 = .ok (.iload_n 2, 1) := by decide +kernel
theorem d_Lp_openWays_31 : decode b_Lp_openWays 31 = .ok (.aaload, 1) := by decide +kernel
theorem d_Lp_openWays_32 : decode b_Lp_openWays 32 = .ok (.getfield 51, 3) := by decide +kernel
theorem d_Lp_openWays_35 : decode b_Lp_openWays 35 = .ok (.aload_n 0, 1) := by decide +kernel
theorem d_Lp_openWays_36 : decode b_Lp_openWays 36 = .ok (.getfield 26, 3) := by decide +kernel
theorem d_Lp_openWays_39 : decode b_Lp_openWays 39 = .ok (.invokevirtual 47, 3) := by decide +kernel
theorem d_Lp_openWays_42 : decode b_Lp_openWays 42 = .ok (.ifCond .eq 9, 3) := by decide +kernel
theorem d_Lp_openWays_45 : decode b_Lp_openWays 45 = .ok (.iload_n 1, 1) := by decide +kernel
theorem d_Lp_openWays_46 : decode b_Lp_openWays 46 = .ok (.iconst 1, 1) := by decide +kernel
theorem d_Lp_openWays_47 : decode b_Lp_openWays 47 = .ok (.iload_n 2, 1) := by decide +kernel
theorem d_Lp_openWays_48 : decode b_Lp_openWays 48 = .ok (.ishl, 1) := by decide +kernel
theorem d_Lp_openWays_49 : decode b_Lp_openWays 49 = .ok (.ior, 1) := by decide +kernel
theorem d_Lp_openWays_50 : decode b_Lp_openWays 50 = .ok (.istore_n 1, 1) := by decide +kernel
theorem d_Lp_openWays_51 : decode b_Lp_openWays 51 = .ok (.iinc 2 1, 3) := by decide +kernel
theorem d_Lp_openWays_54 : decode b_Lp_openWays 54 = .ok (.goto (-36), 3) := by decide +kernel
theorem d_Lp_openWays_57 : decode b_Lp_openWays 57 = .ok (.iload_n 1, 1) := by decide +kernel
theorem d_Lp_openWays_58 : decode b_Lp_openWays 58 = .ok (.ireturn, 1) := by decide +kernel
theorem d_Rw_holdIn_0 : decode b_Rw_holdIn 0 = .ok (.iconst 0, 1) := by decide +kernel
theorem d_Rw_holdIn_1 : decode b_Rw_holdIn 1 = .ok (.istore_n 2, 1) := by decide +kernel
theorem d_Rw_holdIn_2 : decode b_Rw_holdIn 2 = .ok (.iload_n 2, 1) := by decide +kernel
theorem d_Rw_holdIn_3 : decode b_Rw_holdIn 3 = .ok (.aload_n 0, 1) := by decide +kernel
theorem d_Rw_holdIn_4 : decode b_Rw_holdIn 4 = .ok (.getfield 25, 3) := by decide +kernel
theorem d_Rw_holdIn_7 : decode b_Rw_holdIn 7 = .ok (.if_icmp .ge 71, 3) := by decide +kernel
theorem d_Rw_holdIn_10 : decode b_Rw_holdIn 10 = .ok (.iconst 4, 1) := by decide +kernel
theorem d_Rw_holdIn_11 : decode b_Rw_holdIn 11 = .ok (.iload_n 2, 1) := by decide +kernel
theorem d_Rw_holdIn_12 : decode b_Rw_holdIn 12 = .ok (.imul, 1) := by decide +kernel
theorem d_Rw_holdIn_13 : decode b_Rw_holdIn 13 = .ok (.istore_n 3, 1) := by decide +kernel
theorem d_Rw_holdIn_14 : decode b_Rw_holdIn 14 = .ok (.aload_n 0, 1) := by decide +kernel
theorem d_Rw_holdIn_15 : decode b_Rw_holdIn 15 = .ok (.getfield 21, 3) := by decide +kernel
theorem d_Rw_holdIn_18 : decode b_Rw_holdIn 18 = .ok (.iload_n 3, 1) := by decide +kernel
theorem d_Rw_holdIn_19 : decode b_Rw_holdIn 19 = .ok (.iaload, 1) := by decide +kernel
theorem d_Rw_holdIn_20 : decode b_Rw_holdIn 20 = .ok (.i2l, 1) := by decide +kernel
theorem d_Rw_holdIn_21 : decode b_Rw_holdIn 21 = .ok (.aload_n 1, 1) := by decide +kernel
theorem d_Rw_holdIn_22 : decode b_Rw_holdIn 22 = .ok (.iconst 0, 1) := by decide +kernel
theorem d_Rw_holdIn_23 : decode b_Rw_holdIn 23 = .ok (.laload, 1) := by decide +kernel
theorem d_Rw_holdIn_24 : decode b_Rw_holdIn 24 = .ok (.lmul, 1) := by decide +kernel
theorem d_Rw_holdIn_25 : decode b_Rw_holdIn 25 = .ok (.aload_n 0, 1) := by decide +kernel
theorem d_Rw_holdIn_26 : decode b_Rw_holdIn 26 = .ok (.getfield 21, 3) := by decide +kernel
theorem d_Rw_holdIn_29 : decode b_Rw_holdIn 29 = .ok (.iload_n 3, 1) := by decide +kernel
theorem d_Rw_holdIn_30 : decode b_Rw_holdIn 30 = .ok (.iconst 1, 1) := by decide +kernel
theorem d_Rw_holdIn_31 : decode b_Rw_holdIn 31 = .ok (.iadd, 1) := by decide +kernel
theorem d_Rw_holdIn_32 : decode b_Rw_holdIn 32 = .ok (.iaload, 1) := by decide +kernel
theorem d_Rw_holdIn_33 : decode b_Rw_holdIn 33 = .ok (.i2l, 1) := by decide +kernel
theorem d_Rw_holdIn_34 : decode b_Rw_holdIn 34 = .ok (.aload_n 1, 1) := by decide +kernel
theorem d_Rw_holdIn_35 : decode b_Rw_holdIn 35 = .ok (.iconst 1, 1) := by decide +kernel
theorem d_Rw_holdIn_36 : decode b_Rw_holdIn 36 = .ok (.laload, 1) := by decide +kernel
theorem d_Rw_holdIn_37 : decode b_Rw_holdIn 37 = .ok (.lmul, 1) := by decide +kernel
theorem d_Rw_holdIn_38 : decode b_Rw_holdIn 38 = .ok (.ladd, 1) := by decide +kernel
theorem d_Rw_holdIn_39 : decode b_Rw_holdIn 39 = .ok (.aload_n 0, 1) := by decide +kernel
theorem d_Rw_holdIn_40 : decode b_Rw_holdIn 40 = .ok (.getfield 21, 3) := by decide +kernel
theorem d_Rw_holdIn_43 : decode b_Rw_holdIn 43 = .ok (.iload_n 3, 1) := by decide +kernel
theorem d_Rw_holdIn_44 : decode b_Rw_holdIn 44 = .ok (.iconst 2, 1) := by decide +kernel
theorem d_Rw_holdIn_45 : decode b_Rw_holdIn 45 = .ok (.iadd, 1) := by decide +kernel
theorem d_Rw_holdIn_46 : decode b_Rw_holdIn 46 = .ok (.iaload, 1) := by decide +kernel
theorem d_Rw_holdIn_47 : decode b_Rw_holdIn 47 = .ok (.i2l, 1) := by decide +kernel
theorem d_Rw_holdIn_48 : decode b_Rw_holdIn 48 = .ok (.aload_n 1, 1) := by decide +kernel
theorem d_Rw_holdIn_49 : decode b_Rw_holdIn 49 = .ok (.iconst 2, 1) := by decide +kernel
theorem d_Rw_holdIn_50 : decode b_Rw_holdIn 50 = .ok (.laload, 1) := by decide +kernel
theorem d_Rw_holdIn_51 : decode b_Rw_holdIn 51 = .ok (.lmul, 1) := by decide +kernel
theorem d_Rw_holdIn_52 : decode b_Rw_holdIn 52 = .ok (.ladd, 1) := by decide +kernel
theorem d_Rw_holdIn_53 : decode b_Rw_holdIn 53 = .ok (.lstore 4, 2) := by decide +kernel
theorem d_Rw_holdIn_55 : decode b_Rw_holdIn 55 = .ok (.lload 4, 2) := by decide +kernel
theorem d_Rw_holdIn_57 : decode b_Rw_holdIn 57 = .ok (.aload_n 0, 1) := by decide +kernel
theorem d_Rw_holdIn_58 : decode b_Rw_holdIn 58 = .ok (.getfield 21, 3) := by decide +kernel
theorem d_Rw_holdIn_61 : decode b_Rw_holdIn 61 = .ok (.iload_n 3, 1) := by decide +kernel
theorem d_Rw_holdIn_62 : decode b_Rw_holdIn 62 = .ok (.iconst 3, 1) := by decide +kernel
theorem d_Rw_holdIn_63 : decode b_Rw_holdIn 63 = .ok (.iadd, 1) := by decide +kernel
theorem d_Rw_holdIn_64 : decode b_Rw_holdIn 64 = .ok (.iaload, 1) := by decide +kernel
theorem d_Rw_holdIn_65 : decode b_Rw_holdIn 65 = .ok (.i2l, 1) := by decide +kernel
theorem d_Rw_holdIn_66 : decode b_Rw_holdIn 66 = .ok (.lcmp, 1) := by decide +kernel
theorem d_Rw_holdIn_67 : decode b_Rw_holdIn 67 = .ok (.ifCond .ge 5, 3) := by decide +kernel
theorem d_Rw_holdIn_70 : decode b_Rw_holdIn 70 = .ok (.iconst 0, 1) := by decide +kernel
theorem d_Rw_holdIn_71 : decode b_Rw_holdIn 71 = .ok (.ireturn, 1) := by decide +kernel
theorem d_Rw_holdIn_72 : decode b_Rw_holdIn 72 = .ok (.iinc 2 1, 3) := by decide +kernel
theorem d_Rw_holdIn_75 : decode b_Rw_holdIn 75 = .ok (.goto (-73), 3) := by decide +kernel
theorem d_Rw_holdIn_78 : decode b_Rw_holdIn 78 = .ok (.iconst 1, 1) := by decide +kernel
theorem d_Rw_holdIn_79 : decode b_Rw_holdIn 79 = .ok (.ireturn, 1) := by decide +kernel
theorem d_FT_step_0 : decode b_FT_step 0 = .ok (.aload_n 0, 1) := by decide +kernel
theorem d_FT_step_1 : decode b_FT_step 1 = .ok (.iload_n 1, 1) := by decide +kernel
theorem d_FT_step_2 : decode b_FT_step 2 = .ok (.invokevirtual 61, 3) := by decide +kernel
theorem d_FT_step_5 : decode b_FT_step 5 = .ok (.ifCond .eq 24, 3) := by decide +kernel
theorem d_FT_step_8 : decode b_FT_step 8 = .ok (.aload_n 0, 1) := by decide +kernel
theorem d_FT_step_9 : decode b_FT_step 9 = .ok (.getfield 11, 3) := by decide +kernel
theorem d_FT_step_12 : decode b_FT_step 12 = .ok (.iload_n 1, 1) := by decide +kernel
theorem d_FT_step_13 : decode b_FT_step 13 = .ok (.aaload, 1) := by decide +kernel
theorem d_FT_step_14 : decode b_FT_step 14 = .ok (.aload_n 0, 1) := by decide +kernel
theorem d_FT_step_15 : decode b_FT_step 15 = .ok (.getfield 11, 3) := by decide +kernel
theorem d_FT_step_18 : decode b_FT_step 18 = .ok (.iload_n 1, 1) := by decide +kernel
theorem d_FT_step_19 : decode b_FT_step 19 = .ok (.aaload, 1) := by decide +kernel
theorem d_FT_step_20 : decode b_FT_step 20 = .ok (.getfield 168, 3) := by decide +kernel
theorem d_FT_step_23 : decode b_FT_step 23 = .ok (.invokevirtual 176, 3) := by decide +kernel
theorem d_FT_step_26 : decode b_FT_step 26 = .ok (.goto 5, 3) := by decide +kernel
theorem d_FT_step_29 : decode b_FT_step 29 = .ok (.bipush (-2), 2) := by decide +kernel
theorem d_FT_step_31 : decode b_FT_step 31 = .ok (.ireturn, 1) := by decide +kernel
theorem d_Lp_advance_0 : decode b_Lp_advance 0 = .ok (.aload_n 0, 1) := by decide +kernel
theorem d_Lp_advance_1 : decode b_Lp_advance 1 = .ok (.getfield 14, 3) := by decide +kernel
theorem d_Lp_advance_4 : decode b_Lp_advance 4 = .ok (.aload_n 1, 1) := by decide +kernel
theorem d_Lp_advance_5 : decode b_Lp_advance 5 = .ok (.invokevirtual 47, 3) := by decide +kernel
theorem d_Lp_advance_8 : decode b_Lp_advance 8 = .ok (.ifCond .ne 5, 3) := by decide +kernel
theorem d_Lp_advance_11 : decode b_Lp_advance 11 = .ok (.iconst (-1), 1) := by decide +kernel
theorem d_Lp_advance_12 : decode b_Lp_advance 12 = .ok (.ireturn, 1) := by decide +kernel
theorem d_Lp_advance_13 : decode b_Lp_advance 13 = .ok (.iconst 0, 1) := by decide +kernel
theorem d_Lp_advance_14 : decode b_Lp_advance 14 = .ok (.istore_n 2, 1) := by decide +kernel
theorem d_Lp_advance_15 : decode b_Lp_advance 15 = .ok (.iload_n 2, 1) := by decide +kernel
theorem d_Lp_advance_16 : decode b_Lp_advance 16 = .ok (.aload_n 0, 1) := by decide +kernel
theorem d_Lp_advance_17 : decode b_Lp_advance 17 = .ok (.getfield 41, 3) := by decide +kernel
theorem d_Lp_advance_20 : decode b_Lp_advance 20 = .ok (.if_icmp .ge 41, 3) := by decide +kernel
theorem d_Lp_advance_23 : decode b_Lp_advance 23 = .ok (.aload_n 0, 1) := by decide +kernel
theorem d_Lp_advance_24 : decode b_Lp_advance 24 = .ok (.getfield 22, 3) := by decide +kernel
theorem d_Lp_advance_27 : decode b_Lp_advance 27 = .ok (.iload_n 2, 1) := by decide +kernel
theorem d_Lp_advance_28 : decode b_Lp_advance 28 = .ok (.aaload, 1) := by decide +kernel
theorem d_Lp_advance_29 : decode b_Lp_advance 29 = .ok (.getfield 51, 3) := by decide +kernel
theorem d_Lp_advance_32 : decode b_Lp_advance 32 = .ok (.aload_n 1, 1) := by decide +kernel
theorem d_Lp_advance_33 : decode b_Lp_advance 33 = .ok (.invokevirtual 47, 3) := by decide +kernel
theorem d_Lp_advance_36 : decode b_Lp_advance 36 = .ok (.ifCond .eq 19, 3) := by decide +kernel
theorem d_Lp_advance_39 : decode b_Lp_advance 39 = .ok (.aload_n 0, 1) := by decide +kernel
theorem d_Lp_advance_40 : decode b_Lp_advance 40 = .ok (.iload_n 2, 1) := by decide +kernel
theorem d_Lp_advance_41 : decode b_Lp_advance 41 = .ok (.aload_n 1, 1) := by decide +kernel
theorem d_Lp_advance_42 : decode b_Lp_advance 42 = .ok (.invokevirtual 54, 3) := by decide +kernel
theorem d_Lp_advance_45 : decode b_Lp_advance 45 = .ok (.ifCond .eq 7, 3) := by decide +kernel
theorem d_Lp_advance_48 : decode b_Lp_advance 48 = .ok (.iload_n 2, 1) := by decide +kernel
theorem d_Lp_advance_49 : decode b_Lp_advance 49 = .ok (.goto 5, 3) := by decide +kernel
theorem d_Lp_advance_52 : decode b_Lp_advance 52 = .ok (.bipush (-5), 2) := by decide +kernel
theorem d_Lp_advance_54 : decode b_Lp_advance 54 = .ok (.ireturn, 1) := by decide +kernel
theorem d_Lp_advance_55 : decode b_Lp_advance 55 = .ok (.iinc 2 1, 3) := by decide +kernel
theorem d_Lp_advance_58 : decode b_Lp_advance 58 = .ok (.goto (-43), 3) := by decide +kernel
theorem d_Lp_advance_61 : decode b_Lp_advance 61 = .ok (.iconst (-1), 1) := by decide +kernel
theorem d_Lp_advance_62 : decode b_Lp_advance 62 = .ok (.ireturn, 1) := by decide +kernel
theorem d_Lp_change_0 : decode b_Lp_change 0 = .ok (.aload_n 0, 1) := by decide +kernel
theorem d_Lp_change_1 : decode b_Lp_change 1 = .ok (.getfield 22, 3) := by decide +kernel
theorem d_Lp_change_4 : decode b_Lp_change 4 = .ok (.iload_n 1, 1) := by decide +kernel
theorem d_Lp_change_5 : decode b_Lp_change 5 = .ok (.aaload, 1) := by decide +kernel
theorem d_Lp_change_6 : decode b_Lp_change 6 = .ok (.aload_n 2, 1) := by decide +kernel
theorem d_Lp_change_7 : decode b_Lp_change 7 = .ok (.aload_n 0, 1) := by decide +kernel
theorem d_Lp_change_8 : decode b_Lp_change 8 = .ok (.getfield 30, 3) := by decide +kernel
theorem d_Lp_change_11 : decode b_Lp_change 11 = .ok (.invokevirtual 58, 3) := by decide +kernel
theorem d_Lp_change_14 : decode b_Lp_change 14 = .ok (.ifCond .ne 5, 3) := by decide +kernel
theorem d_Lp_change_17 : decode b_Lp_change 17 = .ok (.iconst 0, 1) := by decide +kernel
theorem d_Lp_change_18 : decode b_Lp_change 18 = .ok (.ireturn, 1) := by decide +kernel
theorem d_Lp_change_19 : decode b_Lp_change 19 = .ok (.aload_n 0, 1) := by decide +kernel
theorem d_Lp_change_20 : decode b_Lp_change 20 = .ok (.getfield 30, 3) := by decide +kernel
theorem d_Lp_change_23 : decode b_Lp_change 23 = .ok (.aload_n 2, 1) := by decide +kernel
theorem d_Lp_change_24 : decode b_Lp_change 24 = .ok (.invokestatic 62, 3) := by decide +kernel
theorem d_Lp_change_27 : decode b_Lp_change 27 = .ok (.iconst 1, 1) := by decide +kernel
theorem d_Lp_change_28 : decode b_Lp_change 28 = .ok (.ireturn, 1) := by decide +kernel
theorem d_Wy_leads_0 : decode b_Wy_leads 0 = .ok (.iconst 0, 1) := by decide +kernel
theorem d_Wy_leads_1 : decode b_Wy_leads 1 = .ok (.istore_n 3, 1) := by decide +kernel
theorem d_Wy_leads_2 : decode b_Wy_leads 2 = .ok (.iload_n 3, 1) := by decide +kernel
theorem d_Wy_leads_3 : decode b_Wy_leads 3 = .ok (.iconst 3, 1) := by decide +kernel
theorem d_Wy_leads_4 : decode b_Wy_leads 4 = .ok (.if_icmp .ge 91, 3) := by decide +kernel
theorem d_Wy_leads_7 : decode b_Wy_leads 7 = .ok (.iconst 3, 1) := by decide +kernel
theorem d_Wy_leads_8 : decode b_Wy_leads 8 = .ok (.iload_n 3, 1) := by decide +kernel
theorem d_Wy_leads_9 : decode b_Wy_leads 9 = .ok (.imul, 1) := by decide +kernel
theorem d_Wy_leads_10 : decode b_Wy_leads 10 = .ok (.istore 4, 2) := by decide +kernel
theorem d_Wy_leads_12 : decode b_Wy_leads 12 = .ok (.aload_n 0, 1) := by decide +kernel
theorem d_Wy_leads_13 : decode b_Wy_leads 13 = .ok (.getfield 20, 3) := by decide +kernel
theorem d_Wy_leads_16 : decode b_Wy_leads 16 = .ok (.iload 4, 2) := by decide +kernel
theorem d_Wy_leads_18 : decode b_Wy_leads 18 = .ok (.iaload, 1) := by decide +kernel
theorem d_Wy_leads_19 : decode b_Wy_leads 19 = .ok (.i2l, 1) := by decide +kernel
theorem d_Wy_leads_20 : decode b_Wy_leads 20 = .ok (.aload_n 1, 1) := by decide +kernel
theorem d_Wy_leads_21 : decode b_Wy_leads 21 = .ok (.iconst 0, 1) := by decide +kernel
theorem d_Wy_leads_22 : decode b_Wy_leads 22 = .ok (.laload, 1) := by decide +kernel
theorem d_Wy_leads_23 : decode b_Wy_leads 23 = .ok (.lmul, 1) := by decide +kernel
theorem d_Wy_leads_24 : decode b_Wy_leads 24 = .ok (.aload_n 0, 1) := by decide +kernel
theorem d_Wy_leads_25 : decode b_Wy_leads 25 = .ok (.getfield 20, 3) := by decide +kernel
theorem d_Wy_leads_28 : decode b_Wy_leads 28 = .ok (.iload 4, 2) := by decide +kernel
theorem d_Wy_leads_30 : decode b_Wy_leads 30 = .ok (.iconst 1, 1) := by decide +kernel
theorem d_Wy_leads_31 : decode b_Wy_leads 31 = .ok (.iadd, 1) := by decide +kernel
theorem d_Wy_leads_32 : decode b_Wy_leads 32 = .ok (.iaload, 1) := by decide +kernel
theorem d_Wy_leads_33 : decode b_Wy_leads 33 = .ok (.i2l, 1) := by decide +kernel
theorem d_Wy_leads_34 : decode b_Wy_leads 34 = .ok (.aload_n 1, 1) := by decide +kernel
theorem d_Wy_leads_35 : decode b_Wy_leads 35 = .ok (.iconst 1, 1) := by decide +kernel
theorem d_Wy_leads_36 : decode b_Wy_leads 36 = .ok (.laload, 1) := by decide +kernel
theorem d_Wy_leads_37 : decode b_Wy_leads 37 = .ok (.lmul, 1) := by decide +kernel
theorem d_Wy_leads_38 : decode b_Wy_leads 38 = .ok (.ladd, 1) := by decide +kernel
theorem d_Wy_leads_39 : decode b_Wy_leads 39 = .ok (.aload_n 0, 1) := by decide +kernel
theorem d_Wy_leads_40 : decode b_Wy_leads 40 = .ok (.getfield 20, 3) := by decide +kernel
theorem d_Wy_leads_43 : decode b_Wy_leads 43 = .ok (.iload 4, 2) := by decide +kernel
theorem d_Wy_leads_45 : decode b_Wy_leads 45 = .ok (.iconst 2, 1) := by decide +kernel
theorem d_Wy_leads_46 : decode b_Wy_leads 46 = .ok (.iadd, 1) := by decide +kernel
theorem d_Wy_leads_47 : decode b_Wy_leads 47 = .ok (.iaload, 1) := by decide +kernel
theorem d_Wy_leads_48 : decode b_Wy_leads 48 = .ok (.i2l, 1) := by decide +kernel
theorem d_Wy_leads_49 : decode b_Wy_leads 49 = .ok (.aload_n 1, 1) := by decide +kernel
theorem d_Wy_leads_50 : decode b_Wy_leads 50 = .ok (.iconst 2, 1) := by decide +kernel
theorem d_Wy_leads_51 : decode b_Wy_leads 51 = .ok (.laload, 1) := by decide +kernel
theorem d_Wy_leads_52 : decode b_Wy_leads 52 = .ok (.lmul, 1) := by decide +kernel
theorem d_Wy_leads_53 : decode b_Wy_leads 53 = .ok (.ladd, 1) := by decide +kernel
theorem d_Wy_leads_54 : decode b_Wy_leads 54 = .ok (.aload_n 0, 1) := by decide +kernel
theorem d_Wy_leads_55 : decode b_Wy_leads 55 = .ok (.getfield 24, 3) := by decide +kernel
theorem d_Wy_leads_58 : decode b_Wy_leads 58 = .ok (.iload_n 3, 1) := by decide +kernel
theorem d_Wy_leads_59 : decode b_Wy_leads 59 = .ok (.iaload, 1) := by decide +kernel
theorem d_Wy_leads_60 : decode b_Wy_leads 60 = .ok (.i2l, 1) := by decide +kernel
theorem d_Wy_leads_61 : decode b_Wy_leads 61 = .ok (.ladd, 1) := by decide +kernel
theorem d_Wy_leads_62 : decode b_Wy_leads 62 = .ok (.lstore 5, 2) := by decide +kernel
theorem d_Wy_leads_64 : decode b_Wy_leads 64 = .ok (.lload 5, 2) := by decide +kernel
theorem d_Wy_leads_66 : decode b_Wy_leads 66 = .ok (.ldc2_w 31, 3) := by decide +kernel
theorem d_Wy_leads_69 : decode b_Wy_leads 69 = .ok (.lcmp, 1) := by decide +kernel
theorem d_Wy_leads_70 : decode b_Wy_leads 70 = .ok (.ifCond .gt 12, 3) := by decide +kernel
theorem d_Wy_leads_73 : decode b_Wy_leads 73 = .ok (.lload 5, 2) := by decide +kernel
theorem d_Wy_leads_75 : decode b_Wy_leads 75 = .ok (.ldc2_w 33, 3) := by decide +kernel
theorem d_Wy_leads_78 : decode b_Wy_leads 78 = .ok (.lcmp, 1) := by decide +kernel
theorem d_Wy_leads_79 : decode b_Wy_leads 79 = .ok (.ifCond .ge 5, 3) := by decide +kernel
theorem d_Wy_leads_82 : decode b_Wy_leads 82 = .ok (.iconst 0, 1) := by decide +kernel
theorem d_Wy_leads_83 : decode b_Wy_leads 83 = .ok (.ireturn, 1) := by decide +kernel
theorem d_Wy_leads_84 : decode b_Wy_leads 84 = .ok (.aload_n 2, 1) := by decide +kernel
theorem d_Wy_leads_85 : decode b_Wy_leads 85 = .ok (.iload_n 3, 1) := by decide +kernel
theorem d_Wy_leads_86 : decode b_Wy_leads 86 = .ok (.lload 5, 2) := by decide +kernel
theorem d_Wy_leads_88 : decode b_Wy_leads 88 = .ok (.lastore, 1) := by decide +kernel
theorem d_Wy_leads_89 : decode b_Wy_leads 89 = .ok (.iinc 3 1, 3) := by decide +kernel
theorem d_Wy_leads_92 : decode b_Wy_leads 92 = .ok (.goto (-90), 3) := by decide +kernel
theorem d_Wy_leads_95 : decode b_Wy_leads 95 = .ok (.iconst 1, 1) := by decide +kernel
theorem d_Wy_leads_96 : decode b_Wy_leads 96 = .ok (.ireturn, 1) := by decide +kernel
theorem d_FT_copyState_0 : decode b_FT_copyState 0 = .ok (.iconst 0, 1) := by decide +kernel
theorem d_FT_copyState_1 : decode b_FT_copyState 1 = .ok (.istore_n 2, 1) := by decide +kernel
theorem d_FT_copyState_2 : decode b_FT_copyState 2 = .ok (.iload_n 2, 1) := by decide +kernel
theorem d_FT_copyState_3 : decode b_FT_copyState 3 = .ok (.iconst 3, 1) := by decide +kernel
theorem d_FT_copyState_4 : decode b_FT_copyState 4 = .ok (.if_icmp .ge 15, 3) := by decide +kernel
theorem d_FT_copyState_7 : decode b_FT_copyState 7 = .ok (.aload_n 1, 1) := by decide +kernel
theorem d_FT_copyState_8 : decode b_FT_copyState 8 = .ok (.iload_n 2, 1) := by decide +kernel
theorem d_FT_copyState_9 : decode b_FT_copyState 9 = .ok (.aload_n 0, 1) := by decide +kernel
theorem d_FT_copyState_10 : decode b_FT_copyState 10 = .ok (.iload_n 2, 1) := by decide +kernel
theorem d_FT_copyState_11 : decode b_FT_copyState 11 = .ok (.laload, 1) := by decide +kernel
theorem d_FT_copyState_12 : decode b_FT_copyState 12 = .ok (.lastore, 1) := by decide +kernel
theorem d_FT_copyState_13 : decode b_FT_copyState 13 = .ok (.iinc 2 1, 3) := by decide +kernel
theorem d_FT_copyState_16 : decode b_FT_copyState 16 = .ok (.goto (-14), 3) := by decide +kernel
theorem d_FT_copyState_19 : decode b_FT_copyState 19 = .ok (.return_, 1) := by decide +kernel
theorem d_FT_go_0 : decode b_FT_go 0 = .ok (.aload_n 0, 1) := by decide +kernel
theorem d_FT_go_1 : decode b_FT_go 1 = .ok (.iload_n 1, 1) := by decide +kernel
theorem d_FT_go_2 : decode b_FT_go 2 = .ok (.iload_n 2, 1) := by decide +kernel
theorem d_FT_go_3 : decode b_FT_go 3 = .ok (.invokevirtual 83, 3) := by decide +kernel
theorem d_FT_go_6 : decode b_FT_go 6 = .ok (.ifCond .ne 6, 3) := by decide +kernel
theorem d_FT_go_9 : decode b_FT_go 9 = .ok (.bipush (-2), 2) := by decide +kernel
theorem d_FT_go_11 : decode b_FT_go 11 = .ok (.ireturn, 1) := by decide +kernel
theorem d_FT_go_12 : decode b_FT_go 12 = .ok (.aload_n 0, 1) := by decide +kernel
theorem d_FT_go_13 : decode b_FT_go 13 = .ok (.getfield 11, 3) := by decide +kernel
theorem d_FT_go_16 : decode b_FT_go 16 = .ok (.iload_n 1, 1) := by decide +kernel
theorem d_FT_go_17 : decode b_FT_go 17 = .ok (.aaload, 1) := by decide +kernel
theorem d_FT_go_18 : decode b_FT_go 18 = .ok (.astore_n 3, 1) := by decide +kernel
theorem d_FT_go_19 : decode b_FT_go 19 = .ok (.aload_n 3, 1) := by decide +kernel
theorem d_FT_go_20 : decode b_FT_go 20 = .ok (.invokevirtual 173, 3) := by decide +kernel
theorem d_FT_go_23 : decode b_FT_go 23 = .ok (.iload_n 2, 1) := by decide +kernel
theorem d_FT_go_24 : decode b_FT_go 24 = .ok (.ishr, 1) := by decide +kernel
theorem d_FT_go_25 : decode b_FT_go 25 = .ok (.iconst 1, 1) := by decide +kernel
theorem d_FT_go_26 : decode b_FT_go 26 = .ok (.iand, 1) := by decide +kernel
theorem d_FT_go_27 : decode b_FT_go 27 = .ok (.ifCond .ne 5, 3) := by decide +kernel
theorem d_FT_go_30 : decode b_FT_go 30 = .ok (.iconst 0, 1) := by decide +kernel
theorem d_FT_go_31 : decode b_FT_go 31 = .ok (.ireturn, 1) := by decide +kernel
theorem d_FT_go_32 : decode b_FT_go 32 = .ok (.aload_n 3, 1) := by decide +kernel
theorem d_FT_go_33 : decode b_FT_go 33 = .ok (.iload_n 2, 1) := by decide +kernel
theorem d_FT_go_34 : decode b_FT_go 34 = .ok (.aload_n 3, 1) := by decide +kernel
theorem d_FT_go_35 : decode b_FT_go 35 = .ok (.getfield 168, 3) := by decide +kernel
theorem d_FT_go_38 : decode b_FT_go 38 = .ok (.invokevirtual 180, 3) := by decide +kernel
theorem d_FT_go_41 : decode b_FT_go 41 = .ok (.ifCond .eq 7, 3) := by decide +kernel
theorem d_FT_go_44 : decode b_FT_go 44 = .ok (.iconst 1, 1) := by decide +kernel
theorem d_FT_go_45 : decode b_FT_go 45 = .ok (.goto 5, 3) := by decide +kernel
theorem d_FT_go_48 : decode b_FT_go 48 = .ok (.bipush (-5), 2) := by decide +kernel
theorem d_FT_go_50 : decode b_FT_go 50 = .ok (.ireturn, 1) := by decide +kernel
theorem d_FT_walk_0 : decode b_FT_walk 0 = .ok (.aload_n 0, 1) := by decide +kernel
theorem d_FT_walk_1 : decode b_FT_walk 1 = .ok (.iload_n 1, 1) := by decide +kernel
theorem d_FT_walk_2 : decode b_FT_walk 2 = .ok (.invokevirtual 61, 3) := by decide +kernel
theorem d_FT_walk_5 : decode b_FT_walk 5 = .ok (.ifCond .ne 6, 3) := by decide +kernel
theorem d_FT_walk_8 : decode b_FT_walk 8 = .ok (.bipush (-2), 2) := by decide +kernel
theorem d_FT_walk_10 : decode b_FT_walk 10 = .ok (.ireturn, 1) := by decide +kernel
theorem d_FT_walk_11 : decode b_FT_walk 11 = .ok (.iload_n 2, 1) := by decide +kernel
theorem d_FT_walk_12 : decode b_FT_walk 12 = .ok (.ifCond .lt 10, 3) := by decide +kernel
theorem d_FT_walk_15 : decode b_FT_walk 15 = .ok (.iload_n 2, 1) := by decide +kernel
theorem d_FT_walk_16 : decode b_FT_walk 16 = .ok (.sipush 1000, 3) := by decide +kernel
theorem d_FT_walk_19 : decode b_FT_walk 19 = .ok (.if_icmp .le 6, 3) := by decide +kernel
theorem d_FT_walk_22 : decode b_FT_walk 22 = .ok (.bipush (-3), 2) := by decide +kernel
theorem d_FT_walk_24 : decode b_FT_walk 24 = .ok (.ireturn, 1) := by decide +kernel
theorem d_FT_walk_25 : decode b_FT_walk 25 = .ok (.aload_n 0, 1) := by decide +kernel
theorem d_FT_walk_26 : decode b_FT_walk 26 = .ok (.getfield 11, 3) := by decide +kernel
theorem d_FT_walk_29 : decode b_FT_walk 29 = .ok (.iload_n 1, 1) := by decide +kernel
theorem d_FT_walk_30 : decode b_FT_walk 30 = .ok (.aaload, 1) := by decide +kernel
theorem d_FT_walk_31 : decode b_FT_walk 31 = .ok (.astore_n 3, 1) := by decide +kernel
theorem d_FT_walk_32 : decode b_FT_walk 32 = .ok (.iconst 0, 1) := by decide +kernel
theorem d_FT_walk_33 : decode b_FT_walk 33 = .ok (.istore 4, 2) := by decide +kernel
theorem d_FT_walk_35 : decode b_FT_walk 35 = .ok (.iload 4, 2) := by decide +kernel
theorem d_FT_walk_37 : decode b_FT_walk 37 = .ok (.iload_n 2, 1) := by decide +kernel
theorem d_FT_walk_38 : decode b_FT_walk 38 = .ok (.if_icmp .ge 23, 3) := by decide +kernel
theorem d_FT_walk_41 : decode b_FT_walk 41 = .ok (.aload_n 3, 1) := by decide +kernel
theorem d_FT_walk_42 : decode b_FT_walk 42 = .ok (.aload_n 3, 1) := by decide +kernel
theorem d_FT_walk_43 : decode b_FT_walk 43 = .ok (.getfield 168, 3) := by decide +kernel
theorem d_FT_walk_46 : decode b_FT_walk 46 = .ok (.invokevirtual 176, 3) := by decide +kernel
theorem d_FT_walk_49 : decode b_FT_walk 49 = .ok (.ifCond .ge 6, 3) := by decide +kernel
theorem d_FT_walk_52 : decode b_FT_walk 52 = .ok (.iload 4, 2) := by decide +kernel
theorem d_FT_walk_54 : decode b_FT_walk 54 = .ok (.ireturn, 1) := by decide +kernel
theorem d_FT_walk_55 : decode b_FT_walk 55 = .ok (.iinc 4 1, 3) := by decide +kernel
theorem d_FT_walk_58 : decode b_FT_walk 58 = .ok (.goto (-23), 3) := by decide +kernel
theorem d_FT_walk_61 : decode b_FT_walk 61 = .ok (.iload_n 2, 1) := by decide +kernel
theorem d_FT_walk_62 : decode b_FT_walk 62 = .ok (.ireturn, 1) := by decide +kernel
theorem d_FT_ring_0 : decode b_FT_ring 0 = .ok (.aload_n 0, 1) := by decide +kernel
theorem d_FT_ring_1 : decode b_FT_ring 1 = .ok (.iload_n 1, 1) := by decide +kernel
theorem d_FT_ring_2 : decode b_FT_ring 2 = .ok (.invokevirtual 61, 3) := by decide +kernel
theorem d_FT_ring_5 : decode b_FT_ring 5 = .ok (.ifCond .ne 6, 3) := by decide +kernel
theorem d_FT_ring_8 : decode b_FT_ring 8 = .ok (.bipush (-2), 2) := by decide +kernel
theorem d_FT_ring_10 : decode b_FT_ring 10 = .ok (.ireturn, 1) := by decide +kernel
theorem d_FT_ring_11 : decode b_FT_ring 11 = .ok (.iload_n 2, 1) := by decide +kernel
theorem d_FT_ring_12 : decode b_FT_ring 12 = .ok (.ifCond .lt 9, 3) := by decide +kernel
theorem d_FT_ring_15 : decode b_FT_ring 15 = .ok (.iload_n 2, 1) := by decide +kernel
theorem d_FT_ring_16 : decode b_FT_ring 16 = .ok (.bipush 6, 2) := by decide +kernel
theorem d_FT_ring_18 : decode b_FT_ring 18 = .ok (.if_icmp .le 6, 3) := by decide +kernel
theorem d_FT_ring_21 : decode b_FT_ring 21 = .ok (.bipush (-3), 2) := by decide +kernel
theorem d_FT_ring_23 : decode b_FT_ring 23 = .ok (.ireturn, 1) := by decide +kernel
theorem d_FT_ring_24 : decode b_FT_ring 24 = .ok (.aload_n 0, 1) := by decide +kernel
theorem d_FT_ring_25 : decode b_FT_ring 25 = .ok (.getfield 11, 3) := by decide +kernel
theorem d_FT_ring_28 : decode b_FT_ring 28 = .ok (.iload_n 1, 1) := by decide +kernel
theorem d_FT_ring_29 : decode b_FT_ring 29 = .ok (.aaload, 1) := by decide +kernel
theorem d_FT_ring_30 : decode b_FT_ring 30 = .ok (.astore_n 3, 1) := by decide +kernel
theorem d_FT_ring_31 : decode b_FT_ring 31 = .ok (.aload_n 3, 1) := by decide +kernel
theorem d_FT_ring_32 : decode b_FT_ring 32 = .ok (.iconst 1, 1) := by decide +kernel
theorem d_FT_ring_33 : decode b_FT_ring 33 = .ok (.iload_n 2, 1) := by decide +kernel
theorem d_FT_ring_34 : decode b_FT_ring 34 = .ok (.invokevirtual 159, 3) := by decide +kernel
theorem d_FT_ring_37 : decode b_FT_ring 37 = .ok (.istore 4, 2) := by decide +kernel
theorem d_FT_ring_39 : decode b_FT_ring 39 = .ok (.aload_n 3, 1) := by decide +kernel
theorem d_FT_ring_40 : decode b_FT_ring 40 = .ok (.iconst 2, 1) := by decide +kernel
theorem d_FT_ring_41 : decode b_FT_ring 41 = .ok (.iload_n 2, 1) := by decide +kernel
theorem d_FT_ring_42 : decode b_FT_ring 42 = .ok (.invokevirtual 159, 3) := by decide +kernel
theorem d_FT_ring_45 : decode b_FT_ring 45 = .ok (.istore 5, 2) := by decide +kernel
theorem d_FT_ring_47 : decode b_FT_ring 47 = .ok (.iload_n 2, 1) := by decide +kernel
theorem d_FT_ring_48 : decode b_FT_ring 48 = .ok (.ineg, 1) := by decide +kernel
theorem d_FT_ring_49 : decode b_FT_ring 49 = .ok (.istore 6, 2) := by decide +kernel
theorem d_FT_ring_51 : decode b_FT_ring 51 = .ok (.iload 6, 2) := by decide +kernel
theorem d_FT_ring_53 : decode b_FT_ring 53 = .ok (.iload_n 2, 1) := by decide +kernel
theorem d_FT_ring_54 : decode b_FT_ring 54 = .ok (.if_icmp .gt 77, 3) := by decide +kernel
theorem d_FT_ring_57 : decode b_FT_ring 57 = .ok (.iload 4, 2) := by decide +kernel
theorem d_FT_ring_59 : decode b_FT_ring 59 = .ok (.ineg, 1) := by decide +kernel
theorem d_FT_ring_60 : decode b_FT_ring 60 = .ok (.istore 7, 2) := by decide +kernel
theorem d_FT_ring_62 : decode b_FT_ring 62 = .ok (.iload 7, 2) := by decide +kernel
theorem d_FT_ring_64 : decode b_FT_ring 64 = .ok (.iload 4, 2) := by decide +kernel
theorem d_FT_ring_66 : decode b_FT_ring 66 = .ok (.if_icmp .gt 59, 3) := by decide +kernel
theorem d_FT_ring_69 : decode b_FT_ring 69 = .ok (.iload 5, 2) := by decide +kernel
theorem d_FT_ring_71 : decode b_FT_ring 71 = .ok (.ineg, 1) := by decide +kernel
theorem d_FT_ring_72 : decode b_FT_ring 72 = .ok (.istore 8, 2) := by decide +kernel
theorem d_FT_ring_74 : decode b_FT_ring 74 = .ok (.iload 8, 2) := by decide +kernel
end
section
theorem d_FT_ring_76 : decode b_FT_ring 76 = .ok (.iload 5, 2) := by decide +kernel
theorem d_FT_ring_78 : decode b_FT_ring 78 = .ok (.if_icmp .gt 41, 3) := by decide +kernel
theorem d_FT_ring_81 : decode b_FT_ring 81 = .ok (.aload_n 0, 1) := by decide +kernel
theorem d_FT_ring_82 : decode b_FT_ring 82 = .ok (.aload_n 3, 1) := by decide +kernel
theorem d_FT_ring_83 : decode b_FT_ring 83 = .ok (.iload 6, 2) := by decide +kernel
theorem d_FT_ring_85 : decode b_FT_ring 85 = .ok (.iload 7, 2) := by decide +kernel
theorem d_FT_ring_87 : decode b_FT_ring 87 = .ok (.iload 8, 2) := by decide +kernel
theorem d_FT_ring_89 : decode b_FT_ring 89 = .ok (.invokevirtual 184, 3) := by decide +kernel
theorem d_FT_ring_92 : decode b_FT_ring 92 = .ok (.istore 9, 2) := by decide +kernel
theorem d_FT_ring_94 : decode b_FT_ring 94 = .ok (.iload 9, 2) := by decide +kernel
theorem d_FT_ring_96 : decode b_FT_ring 96 = .ok (.ifCond .le 17, 3) := by decide +kernel
theorem d_FT_ring_99 : decode b_FT_ring 99 = .ok (.aload_n 0, 1) := by decide +kernel
theorem d_FT_ring_100 : decode b_FT_ring 100 = .ok (.getfield 38, 3) := by decide +kernel
theorem d_FT_ring_103 : decode b_FT_ring 103 = .ok (.aload_n 3, 1) := by decide +kernel
theorem d_FT_ring_104 : decode b_FT_ring 104 = .ok (.getfield 168, 3) := by decide +kernel
theorem d_FT_ring_107 : decode b_FT_ring 107 = .ok (.invokestatic 188, 3) := by decide +kernel
theorem d_FT_ring_110 : decode b_FT_ring 110 = .ok (.iload 9, 2) := by decide +kernel
theorem d_FT_ring_112 : decode b_FT_ring 112 = .ok (.ireturn, 1) := by decide +kernel
theorem d_FT_ring_113 : decode b_FT_ring 113 = .ok (.iinc 8 1, 3) := by decide +kernel
theorem d_FT_ring_116 : decode b_FT_ring 116 = .ok (.goto (-42), 3) := by decide +kernel
theorem d_FT_ring_119 : decode b_FT_ring 119 = .ok (.iinc 7 1, 3) := by decide +kernel
theorem d_FT_ring_122 : decode b_FT_ring 122 = .ok (.goto (-60), 3) := by decide +kernel
theorem d_FT_ring_125 : decode b_FT_ring 125 = .ok (.iinc 6 1, 3) := by decide +kernel
theorem d_FT_ring_128 : decode b_FT_ring 128 = .ok (.goto (-77), 3) := by decide +kernel
theorem d_FT_ring_131 : decode b_FT_ring 131 = .ok (.iconst 0, 1) := by decide +kernel
theorem d_FT_ring_132 : decode b_FT_ring 132 = .ok (.ireturn, 1) := by decide +kernel
theorem d_FT_ringFrom_0 : decode b_FT_ringFrom 0 = .ok (.aload_n 0, 1) := by decide +kernel
theorem d_FT_ringFrom_1 : decode b_FT_ringFrom 1 = .ok (.getfield 38, 3) := by decide +kernel
theorem d_FT_ringFrom_4 : decode b_FT_ringFrom 4 = .ok (.iconst 0, 1) := by decide +kernel
theorem d_FT_ringFrom_5 : decode b_FT_ringFrom 5 = .ok (.iload_n 2, 1) := by decide +kernel
theorem d_FT_ringFrom_6 : decode b_FT_ringFrom 6 = .ok (.i2l, 1) := by decide +kernel
theorem d_FT_ringFrom_7 : decode b_FT_ringFrom 7 = .ok (.lastore, 1) := by decide +kernel
theorem d_FT_ringFrom_8 : decode b_FT_ringFrom 8 = .ok (.aload_n 0, 1) := by decide +kernel
theorem d_FT_ringFrom_9 : decode b_FT_ringFrom 9 = .ok (.getfield 38, 3) := by decide +kernel
theorem d_FT_ringFrom_12 : decode b_FT_ringFrom 12 = .ok (.iconst 1, 1) := by decide +kernel
theorem d_FT_ringFrom_13 : decode b_FT_ringFrom 13 = .ok (.iload_n 3, 1) := by decide +kernel
theorem d_FT_ringFrom_14 : decode b_FT_ringFrom 14 = .ok (.i2l, 1) := by decide +kernel
theorem d_FT_ringFrom_15 : decode b_FT_ringFrom 15 = .ok (.lastore, 1) := by decide +kernel
theorem d_FT_ringFrom_16 : decode b_FT_ringFrom 16 = .ok (.aload_n 0, 1) := by decide +kernel
theorem d_FT_ringFrom_17 : decode b_FT_ringFrom 17 = .ok (.getfield 38, 3) := by decide +kernel
theorem d_FT_ringFrom_20 : decode b_FT_ringFrom 20 = .ok (.iconst 2, 1) := by decide +kernel
theorem d_FT_ringFrom_21 : decode b_FT_ringFrom 21 = .ok (.iload 4, 2) := by decide +kernel
theorem d_FT_ringFrom_23 : decode b_FT_ringFrom 23 = .ok (.i2l, 1) := by decide +kernel
theorem d_FT_ringFrom_24 : decode b_FT_ringFrom 24 = .ok (.lastore, 1) := by decide +kernel
theorem d_FT_ringFrom_25 : decode b_FT_ringFrom 25 = .ok (.aload_n 0, 1) := by decide +kernel
theorem d_FT_ringFrom_26 : decode b_FT_ringFrom 26 = .ok (.getfield 38, 3) := by decide +kernel
theorem d_FT_ringFrom_29 : decode b_FT_ringFrom 29 = .ok (.aload_n 0, 1) := by decide +kernel
theorem d_FT_ringFrom_30 : decode b_FT_ringFrom 30 = .ok (.getfield 42, 3) := by decide +kernel
theorem d_FT_ringFrom_33 : decode b_FT_ringFrom 33 = .ok (.invokestatic 188, 3) := by decide +kernel
theorem d_FT_ringFrom_36 : decode b_FT_ringFrom 36 = .ok (.aload_n 0, 1) := by decide +kernel
theorem d_FT_ringFrom_37 : decode b_FT_ringFrom 37 = .ok (.getfield 38, 3) := by decide +kernel
theorem d_FT_ringFrom_40 : decode b_FT_ringFrom 40 = .ok (.aload_n 0, 1) := by decide +kernel
theorem d_FT_ringFrom_41 : decode b_FT_ringFrom 41 = .ok (.getfield 45, 3) := by decide +kernel
theorem d_FT_ringFrom_44 : decode b_FT_ringFrom 44 = .ok (.invokestatic 188, 3) := by decide +kernel
theorem d_FT_ringFrom_47 : decode b_FT_ringFrom 47 = .ok (.iconst 1, 1) := by decide +kernel
theorem d_FT_ringFrom_48 : decode b_FT_ringFrom 48 = .ok (.istore 5, 2) := by decide +kernel
theorem d_FT_ringFrom_50 : decode b_FT_ringFrom 50 = .ok (.iload 5, 2) := by decide +kernel
theorem d_FT_ringFrom_52 : decode b_FT_ringFrom 52 = .ok (.sipush 200, 3) := by decide +kernel
theorem d_FT_ringFrom_55 : decode b_FT_ringFrom 55 = .ok (.if_icmp .gt 76, 3) := by decide +kernel
theorem d_FT_ringFrom_58 : decode b_FT_ringFrom 58 = .ok (.aload_n 1, 1) := by decide +kernel
theorem d_FT_ringFrom_59 : decode b_FT_ringFrom 59 = .ok (.aload_n 0, 1) := by decide +kernel
theorem d_FT_ringFrom_60 : decode b_FT_ringFrom 60 = .ok (.getfield 42, 3) := by decide +kernel
theorem d_FT_ringFrom_63 : decode b_FT_ringFrom 63 = .ok (.invokevirtual 176, 3) := by decide +kernel
theorem d_FT_ringFrom_66 : decode b_FT_ringFrom 66 = .ok (.ifCond .ge 5, 3) := by decide +kernel
theorem d_FT_ringFrom_69 : decode b_FT_ringFrom 69 = .ok (.iconst 0, 1) := by decide +kernel
theorem d_FT_ringFrom_70 : decode b_FT_ringFrom 70 = .ok (.ireturn, 1) := by decide +kernel
theorem d_FT_ringFrom_71 : decode b_FT_ringFrom 71 = .ok (.aload_n 0, 1) := by decide +kernel
theorem d_FT_ringFrom_72 : decode b_FT_ringFrom 72 = .ok (.getfield 42, 3) := by decide +kernel
theorem d_FT_ringFrom_75 : decode b_FT_ringFrom 75 = .ok (.aload_n 0, 1) := by decide +kernel
theorem d_FT_ringFrom_76 : decode b_FT_ringFrom 76 = .ok (.getfield 38, 3) := by decide +kernel
theorem d_FT_ringFrom_79 : decode b_FT_ringFrom 79 = .ok (.invokestatic 218, 3) := by decide +kernel
theorem d_FT_ringFrom_82 : decode b_FT_ringFrom 82 = .ok (.ifCond .eq 6, 3) := by decide +kernel
theorem d_FT_ringFrom_85 : decode b_FT_ringFrom 85 = .ok (.iload 5, 2) := by decide +kernel
theorem d_FT_ringFrom_87 : decode b_FT_ringFrom 87 = .ok (.ireturn, 1) := by decide +kernel
theorem d_FT_ringFrom_88 : decode b_FT_ringFrom 88 = .ok (.aload_n 0, 1) := by decide +kernel
theorem d_FT_ringFrom_89 : decode b_FT_ringFrom 89 = .ok (.getfield 42, 3) := by decide +kernel
theorem d_FT_ringFrom_92 : decode b_FT_ringFrom 92 = .ok (.aload_n 0, 1) := by decide +kernel
theorem d_FT_ringFrom_93 : decode b_FT_ringFrom 93 = .ok (.getfield 45, 3) := by decide +kernel
theorem d_FT_ringFrom_96 : decode b_FT_ringFrom 96 = .ok (.invokestatic 218, 3) := by decide +kernel
theorem d_FT_ringFrom_99 : decode b_FT_ringFrom 99 = .ok (.ifCond .eq 5, 3) := by decide +kernel
theorem d_FT_ringFrom_102 : decode b_FT_ringFrom 102 = .ok (.iconst 0, 1) := by decide +kernel
theorem d_FT_ringFrom_103 : decode b_FT_ringFrom 103 = .ok (.ireturn, 1) := by decide +kernel
theorem d_FT_ringFrom_104 : decode b_FT_ringFrom 104 = .ok (.iload 5, 2) := by decide +kernel
theorem d_FT_ringFrom_106 : decode b_FT_ringFrom 106 = .ok (.iload 5, 2) := by decide +kernel
theorem d_FT_ringFrom_108 : decode b_FT_ringFrom 108 = .ok (.iconst 1, 1) := by decide +kernel
theorem d_FT_ringFrom_109 : decode b_FT_ringFrom 109 = .ok (.isub, 1) := by decide +kernel
theorem d_FT_ringFrom_110 : decode b_FT_ringFrom 110 = .ok (.iand, 1) := by decide +kernel
theorem d_FT_ringFrom_111 : decode b_FT_ringFrom 111 = .ok (.ifCond .ne 14, 3) := by decide +kernel
theorem d_FT_ringFrom_114 : decode b_FT_ringFrom 114 = .ok (.aload_n 0, 1) := by decide +kernel
theorem d_FT_ringFrom_115 : decode b_FT_ringFrom 115 = .ok (.getfield 42, 3) := by decide +kernel
theorem d_FT_ringFrom_118 : decode b_FT_ringFrom 118 = .ok (.aload_n 0, 1) := by decide +kernel
theorem d_FT_ringFrom_119 : decode b_FT_ringFrom 119 = .ok (.getfield 45, 3) := by decide +kernel
theorem d_FT_ringFrom_122 : decode b_FT_ringFrom 122 = .ok (.invokestatic 188, 3) := by decide +kernel
theorem d_FT_ringFrom_125 : decode b_FT_ringFrom 125 = .ok (.iinc 5 1, 3) := by decide +kernel
theorem d_FT_ringFrom_128 : decode b_FT_ringFrom 128 = .ok (.goto (-78), 3) := by decide +kernel
theorem d_FT_ringFrom_131 : decode b_FT_ringFrom 131 = .ok (.iconst 0, 1) := by decide +kernel
theorem d_FT_ringFrom_132 : decode b_FT_ringFrom 132 = .ok (.ireturn, 1) := by decide +kernel
theorem d_FT_sameState_0 : decode b_FT_sameState 0 = .ok (.aload_n 0, 1) := by decide +kernel
theorem d_FT_sameState_1 : decode b_FT_sameState 1 = .ok (.iconst 0, 1) := by decide +kernel
theorem d_FT_sameState_2 : decode b_FT_sameState 2 = .ok (.laload, 1) := by decide +kernel
theorem d_FT_sameState_3 : decode b_FT_sameState 3 = .ok (.aload_n 1, 1) := by decide +kernel
theorem d_FT_sameState_4 : decode b_FT_sameState 4 = .ok (.iconst 0, 1) := by decide +kernel
theorem d_FT_sameState_5 : decode b_FT_sameState 5 = .ok (.laload, 1) := by decide +kernel
theorem d_FT_sameState_6 : decode b_FT_sameState 6 = .ok (.lcmp, 1) := by decide +kernel
theorem d_FT_sameState_7 : decode b_FT_sameState 7 = .ok (.ifCond .ne 27, 3) := by decide +kernel
theorem d_FT_sameState_10 : decode b_FT_sameState 10 = .ok (.aload_n 0, 1) := by decide +kernel
theorem d_FT_sameState_11 : decode b_FT_sameState 11 = .ok (.iconst 1, 1) := by decide +kernel
theorem d_FT_sameState_12 : decode b_FT_sameState 12 = .ok (.laload, 1) := by decide +kernel
theorem d_FT_sameState_13 : decode b_FT_sameState 13 = .ok (.aload_n 1, 1) := by decide +kernel
theorem d_FT_sameState_14 : decode b_FT_sameState 14 = .ok (.iconst 1, 1) := by decide +kernel
theorem d_FT_sameState_15 : decode b_FT_sameState 15 = .ok (.laload, 1) := by decide +kernel
theorem d_FT_sameState_16 : decode b_FT_sameState 16 = .ok (.lcmp, 1) := by decide +kernel
theorem d_FT_sameState_17 : decode b_FT_sameState 17 = .ok (.ifCond .ne 17, 3) := by decide +kernel
theorem d_FT_sameState_20 : decode b_FT_sameState 20 = .ok (.aload_n 0, 1) := by decide +kernel
theorem d_FT_sameState_21 : decode b_FT_sameState 21 = .ok (.iconst 2, 1) := by decide +kernel
theorem d_FT_sameState_22 : decode b_FT_sameState 22 = .ok (.laload, 1) := by decide +kernel
theorem d_FT_sameState_23 : decode b_FT_sameState 23 = .ok (.aload_n 1, 1) := by decide +kernel
theorem d_FT_sameState_24 : decode b_FT_sameState 24 = .ok (.iconst 2, 1) := by decide +kernel
theorem d_FT_sameState_25 : decode b_FT_sameState 25 = .ok (.laload, 1) := by decide +kernel
theorem d_FT_sameState_26 : decode b_FT_sameState 26 = .ok (.lcmp, 1) := by decide +kernel
theorem d_FT_sameState_27 : decode b_FT_sameState 27 = .ok (.ifCond .ne 7, 3) := by decide +kernel
theorem d_FT_sameState_30 : decode b_FT_sameState 30 = .ok (.iconst 1, 1) := by decide +kernel
theorem d_FT_sameState_31 : decode b_FT_sameState 31 = .ok (.goto 4, 3) := by decide +kernel
theorem d_FT_sameState_34 : decode b_FT_sameState 34 = .ok (.iconst 0, 1) := by decide +kernel
theorem d_FT_sameState_35 : decode b_FT_sameState 35 = .ok (.ireturn, 1) := by decide +kernel
theorem d_FT_loops_0 : decode b_FT_loops 0 = .ok (.aload_n 0, 1) := by decide +kernel
theorem d_FT_loops_1 : decode b_FT_loops 1 = .ok (.getfield 50, 3) := by decide +kernel
theorem d_FT_loops_4 : decode b_FT_loops 4 = .ok (.ireturn, 1) := by decide +kernel
end
section
theorem d_Lw_law_0 : decode code 0 = .ok (.new 7, 3) := by decide +kernel
theorem d_Lw_law_3 : decode code 3 = .ok (.dup, 1) := by decide +kernel
theorem d_Lw_law_4 : decode code 4 = .ok (.invokespecial 9, 3) := by decide +kernel
theorem d_Lw_law_7 : decode code 7 = .ok (.astore_n 1, 1) := by decide +kernel
theorem d_Lw_law_8 : decode code 8 = .ok (.new 10, 3) := by decide +kernel
theorem d_Lw_law_11 : decode code 11 = .ok (.dup, 1) := by decide +kernel
theorem d_Lw_law_12 : decode code 12 = .ok (.invokespecial 12, 3) := by decide +kernel
theorem d_Lw_law_15 : decode code 15 = .ok (.astore_n 2, 1) := by decide +kernel
theorem d_Lw_law_16 : decode code 16 = .ok (.iconst 0, 1) := by decide +kernel
theorem d_Lw_law_17 : decode code 17 = .ok (.istore_n 3, 1) := by decide +kernel
theorem d_Lw_law_18 : decode code 18 = .ok (.iload_n 3, 1) := by decide +kernel
theorem d_Lw_law_19 : decode code 19 = .ok (.aload_n 0, 1) := by decide +kernel
theorem d_Lw_law_20 : decode code 20 = .ok (.arraylength, 1) := by decide +kernel
theorem d_Lw_law_21 : decode code 21 = .ok (.bipush 7, 2) := by decide +kernel
theorem d_Lw_law_23 : decode code 23 = .ok (.isub, 1) := by decide +kernel
theorem d_Lw_law_24 : decode code 24 = .ok (.if_icmp .gt 992, 3) := by decide +kernel
theorem d_Lw_law_27 : decode code 27 = .ok (.aload_n 0, 1) := by decide +kernel
theorem d_Lw_law_28 : decode code 28 = .ok (.iload_n 3, 1) := by decide +kernel
theorem d_Lw_law_29 : decode code 29 = .ok (.iaload, 1) := by decide +kernel
theorem d_Lw_law_30 : decode code 30 = .ok (.bipush 31, 2) := by decide +kernel
theorem d_Lw_law_32 : decode code 32 = .ok (.iand, 1) := by decide +kernel
theorem d_Lw_law_33 : decode code 33 = .ok (.tableswitch 977 0 23 #[111, 134, 147, 210, 233, 308, 371, 424, 457, 490, 565, 628, 651, 684, 697, 720, 743, 786, 819, 842, 865, 898, 931, 964], 111) := by decide +kernel
theorem d_Lw_law_144 : decode code 144 = .ok (.aload_n 1, 1) := by decide +kernel
theorem d_Lw_law_145 : decode code 145 = .ok (.aload_n 0, 1) := by decide +kernel
theorem d_Lw_law_146 : decode code 146 = .ok (.iload_n 3, 1) := by decide +kernel
theorem d_Lw_law_147 : decode code 147 = .ok (.iconst 1, 1) := by decide +kernel
theorem d_Lw_law_148 : decode code 148 = .ok (.iadd, 1) := by decide +kernel
theorem d_Lw_law_149 : decode code 149 = .ok (.iaload, 1) := by decide +kernel
theorem d_Lw_law_150 : decode code 150 = .ok (.invokevirtual 13, 3) := by decide +kernel
theorem d_Lw_law_153 : decode code 153 = .ok (.pop, 1) := by decide +kernel
theorem d_Lw_law_154 : decode code 154 = .ok (.aload_n 2, 1) := by decide +kernel
theorem d_Lw_law_155 : decode code 155 = .ok (.aload_n 0, 1) := by decide +kernel
theorem d_Lw_law_156 : decode code 156 = .ok (.iload_n 3, 1) := by decide +kernel
theorem d_Lw_law_157 : decode code 157 = .ok (.iconst 1, 1) := by decide +kernel
theorem d_Lw_law_158 : decode code 158 = .ok (.iadd, 1) := by decide +kernel
theorem d_Lw_law_159 : decode code 159 = .ok (.iaload, 1) := by decide +kernel
theorem d_Lw_law_160 : decode code 160 = .ok (.invokevirtual 17, 3) := by decide +kernel
theorem d_Lw_law_163 : decode code 163 = .ok (.pop, 1) := by decide +kernel
theorem d_Lw_law_164 : decode code 164 = .ok (.goto 846, 3) := by decide +kernel
theorem d_Lw_law_167 : decode code 167 = .ok (.aload_n 1, 1) := by decide +kernel
theorem d_Lw_law_168 : decode code 168 = .ok (.invokevirtual 18, 3) := by decide +kernel
theorem d_Lw_law_171 : decode code 171 = .ok (.pop, 1) := by decide +kernel
theorem d_Lw_law_172 : decode code 172 = .ok (.aload_n 2, 1) := by decide +kernel
theorem d_Lw_law_173 : decode code 173 = .ok (.invokevirtual 22, 3) := by decide +kernel
theorem d_Lw_law_176 : decode code 176 = .ok (.pop, 1) := by decide +kernel
theorem d_Lw_law_177 : decode code 177 = .ok (.goto 833, 3) := by decide +kernel
theorem d_Lw_law_180 : decode code 180 = .ok (.aload_n 1, 1) := by decide +kernel
theorem d_Lw_law_181 : decode code 181 = .ok (.aload_n 0, 1) := by decide +kernel
theorem d_Lw_law_182 : decode code 182 = .ok (.iload_n 3, 1) := by decide +kernel
theorem d_Lw_law_183 : decode code 183 = .ok (.iconst 1, 1) := by decide +kernel
theorem d_Lw_law_184 : decode code 184 = .ok (.iadd, 1) := by decide +kernel
theorem d_Lw_law_185 : decode code 185 = .ok (.iaload, 1) := by decide +kernel
theorem d_Lw_law_186 : decode code 186 = .ok (.aload_n 0, 1) := by decide +kernel
theorem d_Lw_law_187 : decode code 187 = .ok (.iload_n 3, 1) := by decide +kernel
theorem d_Lw_law_188 : decode code 188 = .ok (.iconst 2, 1) := by decide +kernel
theorem d_Lw_law_189 : decode code 189 = .ok (.iadd, 1) := by decide +kernel
theorem d_Lw_law_190 : decode code 190 = .ok (.iaload, 1) := by decide +kernel
theorem d_Lw_law_191 : decode code 191 = .ok (.aload_n 0, 1) := by decide +kernel
theorem d_Lw_law_192 : decode code 192 = .ok (.iload_n 3, 1) := by decide +kernel
theorem d_Lw_law_193 : decode code 193 = .ok (.iconst 3, 1) := by decide +kernel
theorem d_Lw_law_194 : decode code 194 = .ok (.iadd, 1) := by decide +kernel
theorem d_Lw_law_195 : decode code 195 = .ok (.iaload, 1) := by decide +kernel
theorem d_Lw_law_196 : decode code 196 = .ok (.aload_n 0, 1) := by decide +kernel
theorem d_Lw_law_197 : decode code 197 = .ok (.iload_n 3, 1) := by decide +kernel
theorem d_Lw_law_198 : decode code 198 = .ok (.iconst 4, 1) := by decide +kernel
theorem d_Lw_law_199 : decode code 199 = .ok (.iadd, 1) := by decide +kernel
theorem d_Lw_law_200 : decode code 200 = .ok (.iaload, 1) := by decide +kernel
theorem d_Lw_law_201 : decode code 201 = .ok (.aload_n 0, 1) := by decide +kernel
theorem d_Lw_law_202 : decode code 202 = .ok (.iload_n 3, 1) := by decide +kernel
theorem d_Lw_law_203 : decode code 203 = .ok (.iconst 5, 1) := by decide +kernel
theorem d_Lw_law_204 : decode code 204 = .ok (.iadd, 1) := by decide +kernel
theorem d_Lw_law_205 : decode code 205 = .ok (.iaload, 1) := by decide +kernel
theorem d_Lw_law_206 : decode code 206 = .ok (.invokevirtual 23, 3) := by decide +kernel
theorem d_Lw_law_209 : decode code 209 = .ok (.pop, 1) := by decide +kernel
theorem d_Lw_law_210 : decode code 210 = .ok (.aload_n 2, 1) := by decide +kernel
theorem d_Lw_law_211 : decode code 211 = .ok (.aload_n 0, 1) := by decide +kernel
theorem d_Lw_law_212 : decode code 212 = .ok (.iload_n 3, 1) := by decide +kernel
theorem d_Lw_law_213 : decode code 213 = .ok (.iconst 1, 1) := by decide +kernel
theorem d_Lw_law_214 : decode code 214 = .ok (.iadd, 1) := by decide +kernel
theorem d_Lw_law_215 : decode code 215 = .ok (.iaload, 1) := by decide +kernel
theorem d_Lw_law_216 : decode code 216 = .ok (.aload_n 0, 1) := by decide +kernel
theorem d_Lw_law_217 : decode code 217 = .ok (.iload_n 3, 1) := by decide +kernel
theorem d_Lw_law_218 : decode code 218 = .ok (.iconst 2, 1) := by decide +kernel
theorem d_Lw_law_219 : decode code 219 = .ok (.iadd, 1) := by decide +kernel
theorem d_Lw_law_220 : decode code 220 = .ok (.iaload, 1) := by decide +kernel
theorem d_Lw_law_221 : decode code 221 = .ok (.aload_n 0, 1) := by decide +kernel
theorem d_Lw_law_222 : decode code 222 = .ok (.iload_n 3, 1) := by decide +kernel
theorem d_Lw_law_223 : decode code 223 = .ok (.iconst 3, 1) := by decide +kernel
theorem d_Lw_law_224 : decode code 224 = .ok (.iadd, 1) := by decide +kernel
theorem d_Lw_law_225 : decode code 225 = .ok (.iaload, 1) := by decide +kernel
theorem d_Lw_law_226 : decode code 226 = .ok (.aload_n 0, 1) := by decide +kernel
theorem d_Lw_law_227 : decode code 227 = .ok (.iload_n 3, 1) := by decide +kernel
theorem d_Lw_law_228 : decode code 228 = .ok (.iconst 4, 1) := by decide +kernel
theorem d_Lw_law_229 : decode code 229 = .ok (.iadd, 1) := by decide +kernel
theorem d_Lw_law_230 : decode code 230 = .ok (.iaload, 1) := by decide +kernel
theorem d_Lw_law_231 : decode code 231 = .ok (.aload_n 0, 1) := by decide +kernel
theorem d_Lw_law_232 : decode code 232 = .ok (.iload_n 3, 1) := by decide +kernel
theorem d_Lw_law_233 : decode code 233 = .ok (.iconst 5, 1) := by decide +kernel
theorem d_Lw_law_234 : decode code 234 = .ok (.iadd, 1) := by decide +kernel
theorem d_Lw_law_235 : decode code 235 = .ok (.iaload, 1) := by decide +kernel
theorem d_Lw_law_236 : decode code 236 = .ok (.invokevirtual 27, 3) := by decide +kernel
theorem d_Lw_law_239 : decode code 239 = .ok (.pop, 1) := by decide +kernel
theorem d_Lw_law_240 : decode code 240 = .ok (.goto 770, 3) := by decide +kernel
theorem d_Lw_law_243 : decode code 243 = .ok (.aload_n 1, 1) := by decide +kernel
theorem d_Lw_law_244 : decode code 244 = .ok (.aload_n 0, 1) := by decide +kernel
theorem d_Lw_law_245 : decode code 245 = .ok (.iload_n 3, 1) := by decide +kernel
theorem d_Lw_law_246 : decode code 246 = .ok (.iconst 1, 1) := by decide +kernel
theorem d_Lw_law_247 : decode code 247 = .ok (.iadd, 1) := by decide +kernel
theorem d_Lw_law_248 : decode code 248 = .ok (.iaload, 1) := by decide +kernel
theorem d_Lw_law_249 : decode code 249 = .ok (.invokevirtual 28, 3) := by decide +kernel
theorem d_Lw_law_252 : decode code 252 = .ok (.pop, 1) := by decide +kernel
theorem d_Lw_law_253 : decode code 253 = .ok (.aload_n 2, 1) := by decide +kernel
theorem d_Lw_law_254 : decode code 254 = .ok (.aload_n 0, 1) := by decide +kernel
theorem d_Lw_law_255 : decode code 255 = .ok (.iload_n 3, 1) := by decide +kernel
theorem d_Lw_law_256 : decode code 256 = .ok (.iconst 1, 1) := by decide +kernel
theorem d_Lw_law_257 : decode code 257 = .ok (.iadd, 1) := by decide +kernel
theorem d_Lw_law_258 : decode code 258 = .ok (.iaload, 1) := by decide +kernel
theorem d_Lw_law_259 : decode code 259 = .ok (.invokevirtual 31, 3) := by decide +kernel
theorem d_Lw_law_262 : decode code 262 = .ok (.pop, 1) := by decide +kernel
theorem d_Lw_law_263 : decode code 263 = .ok (.goto 747, 3) := by decide +kernel
theorem d_Lw_law_266 : decode code 266 = .ok (.aload_n 1, 1) := by decide +kernel
theorem d_Lw_law_267 : decode code 267 = .ok (.aload_n 0, 1) := by decide +kernel
theorem d_Lw_law_268 : decode code 268 = .ok (.iload_n 3, 1) := by decide +kernel
theorem d_Lw_law_269 : decode code 269 = .ok (.iconst 1, 1) := by decide +kernel
theorem d_Lw_law_270 : decode code 270 = .ok (.iadd, 1) := by decide +kernel
theorem d_Lw_law_271 : decode code 271 = .ok (.iaload, 1) := by decide +kernel
theorem d_Lw_law_272 : decode code 272 = .ok (.aload_n 0, 1) := by decide +kernel
theorem d_Lw_law_273 : decode code 273 = .ok (.iload_n 3, 1) := by decide +kernel
theorem d_Lw_law_274 : decode code 274 = .ok (.iconst 2, 1) := by decide +kernel
theorem d_Lw_law_275 : decode code 275 = .ok (.iadd, 1) := by decide +kernel
theorem d_Lw_law_276 : decode code 276 = .ok (.iaload, 1) := by decide +kernel
theorem d_Lw_law_277 : decode code 277 = .ok (.aload_n 0, 1) := by decide +kernel
theorem d_Lw_law_278 : decode code 278 = .ok (.iload_n 3, 1) := by decide +kernel
theorem d_Lw_law_279 : decode code 279 = .ok (.iconst 3, 1) := by decide +kernel
theorem d_Lw_law_280 : decode code 280 = .ok (.iadd, 1) := by decide +kernel
theorem d_Lw_law_281 : decode code 281 = .ok (.iaload, 1) := by decide +kernel
theorem d_Lw_law_282 : decode code 282 = .ok (.aload_n 0, 1) := by decide +kernel
theorem d_Lw_law_283 : decode code 283 = .ok (.iload_n 3, 1) := by decide +kernel
theorem d_Lw_law_284 : decode code 284 = .ok (.iconst 4, 1) := by decide +kernel
theorem d_Lw_law_285 : decode code 285 = .ok (.iadd, 1) := by decide +kernel
theorem d_Lw_law_286 : decode code 286 = .ok (.iaload, 1) := by decide +kernel
theorem d_Lw_law_287 : decode code 287 = .ok (.aload_n 0, 1) := by decide +kernel
theorem d_Lw_law_288 : decode code 288 = .ok (.iload_n 3, 1) := by decide +kernel
theorem d_Lw_law_289 : decode code 289 = .ok (.iconst 5, 1) := by decide +kernel
theorem d_Lw_law_290 : decode code 290 = .ok (.iadd, 1) := by decide +kernel
theorem d_Lw_law_291 : decode code 291 = .ok (.iaload, 1) := by decide +kernel
theorem d_Lw_law_292 : decode code 292 = .ok (.aload_n 0, 1) := by decide +kernel
theorem d_Lw_law_293 : decode code 293 = .ok (.iload_n 3, 1) := by decide +kernel
theorem d_Lw_law_294 : decode code 294 = .ok (.bipush 6, 2) := by decide +kernel
theorem d_Lw_law_296 : decode code 296 = .ok (.iadd, 1) := by decide +kernel
theorem d_Lw_law_297 : decode code 297 = .ok (.iaload, 1) := by decide +kernel
theorem d_Lw_law_298 : decode code 298 = .ok (.invokevirtual 32, 3) := by decide +kernel
theorem d_Lw_law_301 : decode code 301 = .ok (.pop, 1) := by decide +kernel
theorem d_Lw_law_302 : decode code 302 = .ok (.aload_n 2, 1) := by decide +kernel
theorem d_Lw_law_303 : decode code 303 = .ok (.aload_n 0, 1) := by decide +kernel
theorem d_Lw_law_304 : decode code 304 = .ok (.iload_n 3, 1) := by decide +kernel
theorem d_Lw_law_305 : decode code 305 = .ok (.iconst 1, 1) := by decide +kernel
theorem d_Lw_law_306 : decode code 306 = .ok (.iadd, 1) := by decide +kernel
theorem d_Lw_law_307 : decode code 307 = .ok (.iaload, 1) := by decide +kernel
theorem d_Lw_law_308 : decode code 308 = .ok (.aload_n 0, 1) := by decide +kernel
theorem d_Lw_law_309 : decode code 309 = .ok (.iload_n 3, 1) := by decide +kernel
theorem d_Lw_law_310 : decode code 310 = .ok (.iconst 2, 1) := by decide +kernel
theorem d_Lw_law_311 : decode code 311 = .ok (.iadd, 1) := by decide +kernel
theorem d_Lw_law_312 : decode code 312 = .ok (.iaload, 1) := by decide +kernel
theorem d_Lw_law_313 : decode code 313 = .ok (.aload_n 0, 1) := by decide +kernel
theorem d_Lw_law_314 : decode code 314 = .ok (.iload_n 3, 1) := by decide +kernel
theorem d_Lw_law_315 : decode code 315 = .ok (.iconst 3, 1) := by decide +kernel
theorem d_Lw_law_316 : decode code 316 = .ok (.iadd, 1) := by decide +kernel
theorem d_Lw_law_317 : decode code 317 = .ok (.iaload, 1) := by decide +kernel
theorem d_Lw_law_318 : decode code 318 = .ok (.aload_n 0, 1) := by decide +kernel
theorem d_Lw_law_319 : decode code 319 = .ok (.iload_n 3, 1) := by decide +kernel
theorem d_Lw_law_320 : decode code 320 = .ok (.iconst 4, 1) := by decide +kernel
theorem d_Lw_law_321 : decode code 321 = .ok (.iadd, 1) := by decide +kernel
theorem d_Lw_law_322 : decode code 322 = .ok (.iaload, 1) := by decide +kernel
theorem d_Lw_law_323 : decode code 323 = .ok (.aload_n 0, 1) := by decide +kernel
theorem d_Lw_law_324 : decode code 324 = .ok (.iload_n 3, 1) := by decide +kernel
theorem d_Lw_law_325 : decode code 325 = .ok (.iconst 5, 1) := by decide +kernel
theorem d_Lw_law_326 : decode code 326 = .ok (.iadd, 1) := by decide +kernel
theorem d_Lw_law_327 : decode code 327 = .ok (.iaload, 1) := by decide +kernel
theorem d_Lw_law_328 : decode code 328 = .ok (.aload_n 0, 1) := by decide +kernel
theorem d_Lw_law_329 : decode code 329 = .ok (.iload_n 3, 1) := by decide +kernel
theorem d_Lw_law_330 : decode code 330 = .ok (.bipush 6, 2) := by decide +kernel
theorem d_Lw_law_332 : decode code 332 = .ok (.iadd, 1) := by decide +kernel
theorem d_Lw_law_333 : decode code 333 = .ok (.iaload, 1) := by decide +kernel
theorem d_Lw_law_334 : decode code 334 = .ok (.invokevirtual 36, 3) := by decide +kernel
theorem d_Lw_law_337 : decode code 337 = .ok (.pop, 1) := by decide +kernel
theorem d_Lw_law_338 : decode code 338 = .ok (.goto 672, 3) := by decide +kernel
theorem d_Lw_law_341 : decode code 341 = .ok (.aload_n 1, 1) := by decide +kernel
theorem d_Lw_law_342 : decode code 342 = .ok (.aload_n 0, 1) := by decide +kernel
theorem d_Lw_law_343 : decode code 343 = .ok (.iload_n 3, 1) := by decide +kernel
theorem d_Lw_law_344 : decode code 344 = .ok (.iconst 1, 1) := by decide +kernel
theorem d_Lw_law_345 : decode code 345 = .ok (.iadd, 1) := by decide +kernel
theorem d_Lw_law_346 : decode code 346 = .ok (.iaload, 1) := by decide +kernel
theorem d_Lw_law_347 : decode code 347 = .ok (.aload_n 0, 1) := by decide +kernel
theorem d_Lw_law_348 : decode code 348 = .ok (.iload_n 3, 1) := by decide +kernel
theorem d_Lw_law_349 : decode code 349 = .ok (.iconst 2, 1) := by decide +kernel
theorem d_Lw_law_350 : decode code 350 = .ok (.iadd, 1) := by decide +kernel
theorem d_Lw_law_351 : decode code 351 = .ok (.iaload, 1) := by decide +kernel
theorem d_Lw_law_352 : decode code 352 = .ok (.aload_n 0, 1) := by decide +kernel
theorem d_Lw_law_353 : decode code 353 = .ok (.iload_n 3, 1) := by decide +kernel
theorem d_Lw_law_354 : decode code 354 = .ok (.iconst 3, 1) := by decide +kernel
theorem d_Lw_law_355 : decode code 355 = .ok (.iadd, 1) := by decide +kernel
theorem d_Lw_law_356 : decode code 356 = .ok (.iaload, 1) := by decide +kernel
theorem d_Lw_law_357 : decode code 357 = .ok (.aload_n 0, 1) := by decide +kernel
theorem d_Lw_law_358 : decode code 358 = .ok (.iload_n 3, 1) := by decide +kernel
theorem d_Lw_law_359 : decode code 359 = .ok (.iconst 4, 1) := by decide +kernel
theorem d_Lw_law_360 : decode code 360 = .ok (.iadd, 1) := by decide +kernel
theorem d_Lw_law_361 : decode code 361 = .ok (.iaload, 1) := by decide +kernel
theorem d_Lw_law_362 : decode code 362 = .ok (.aload_n 0, 1) := by decide +kernel
theorem d_Lw_law_363 : decode code 363 = .ok (.iload_n 3, 1) := by decide +kernel
theorem d_Lw_law_364 : decode code 364 = .ok (.iconst 5, 1) := by decide +kernel
theorem d_Lw_law_365 : decode code 365 = .ok (.iadd, 1) := by decide +kernel
theorem d_Lw_law_366 : decode code 366 = .ok (.iaload, 1) := by decide +kernel
theorem d_Lw_law_367 : decode code 367 = .ok (.invokevirtual 37, 3) := by decide +kernel
theorem d_Lw_law_370 : decode code 370 = .ok (.pop, 1) := by decide +kernel
theorem d_Lw_law_371 : decode code 371 = .ok (.aload_n 2, 1) := by decide +kernel
theorem d_Lw_law_372 : decode code 372 = .ok (.aload_n 0, 1) := by decide +kernel
theorem d_Lw_law_373 : decode code 373 = .ok (.iload_n 3, 1) := by decide +kernel
theorem d_Lw_law_374 : decode code 374 = .ok (.iconst 1, 1) := by decide +kernel
theorem d_Lw_law_375 : decode code 375 = .ok (.iadd, 1) := by decide +kernel
theorem d_Lw_law_376 : decode code 376 = .ok (.iaload, 1) := by decide +kernel
theorem d_Lw_law_377 : decode code 377 = .ok (.aload_n 0, 1) := by decide +kernel
theorem d_Lw_law_378 : decode code 378 = .ok (.iload_n 3, 1) := by decide +kernel
theorem d_Lw_law_379 : decode code 379 = .ok (.iconst 2, 1) := by decide +kernel
theorem d_Lw_law_380 : decode code 380 = .ok (.iadd, 1) := by decide +kernel
theorem d_Lw_law_381 : decode code 381 = .ok (.iaload, 1) := by decide +kernel
theorem d_Lw_law_382 : decode code 382 = .ok (.aload_n 0, 1) := by decide +kernel
theorem d_Lw_law_383 : decode code 383 = .ok (.iload_n 3, 1) := by decide +kernel
theorem d_Lw_law_384 : decode code 384 = .ok (.iconst 3, 1) := by decide +kernel
theorem d_Lw_law_385 : decode code 385 = .ok (.iadd, 1) := by decide +kernel
theorem d_Lw_law_386 : decode code 386 = .ok (.iaload, 1) := by decide +kernel
theorem d_Lw_law_387 : decode code 387 = .ok (.aload_n 0, 1) := by decide +kernel
theorem d_Lw_law_388 : decode code 388 = .ok (.iload_n 3, 1) := by decide +kernel
theorem d_Lw_law_389 : decode code 389 = .ok (.iconst 4, 1) := by decide +kernel
theorem d_Lw_law_390 : decode code 390 = .ok (.iadd, 1) := by decide +kernel
theorem d_Lw_law_391 : decode code 391 = .ok (.iaload, 1) := by decide +kernel
theorem d_Lw_law_392 : decode code 392 = .ok (.aload_n 0, 1) := by decide +kernel
theorem d_Lw_law_393 : decode code 393 = .ok (.iload_n 3, 1) := by decide +kernel
theorem d_Lw_law_394 : decode code 394 = .ok (.iconst 5, 1) := by decide +kernel
theorem d_Lw_law_395 : decode code 395 = .ok (.iadd, 1) := by decide +kernel
theorem d_Lw_law_396 : decode code 396 = .ok (.iaload, 1) := by decide +kernel
theorem d_Lw_law_397 : decode code 397 = .ok (.invokevirtual 40, 3) := by decide +kernel
theorem d_Lw_law_400 : decode code 400 = .ok (.pop, 1) := by decide +kernel
theorem d_Lw_law_401 : decode code 401 = .ok (.goto 609, 3) := by decide +kernel
theorem d_Lw_law_404 : decode code 404 = .ok (.aload_n 1, 1) := by decide +kernel
theorem d_Lw_law_405 : decode code 405 = .ok (.aload_n 0, 1) := by decide +kernel
theorem d_Lw_law_406 : decode code 406 = .ok (.iload_n 3, 1) := by decide +kernel
theorem d_Lw_law_407 : decode code 407 = .ok (.iconst 1, 1) := by decide +kernel
theorem d_Lw_law_408 : decode code 408 = .ok (.iadd, 1) := by decide +kernel
theorem d_Lw_law_409 : decode code 409 = .ok (.iaload, 1) := by decide +kernel
theorem d_Lw_law_410 : decode code 410 = .ok (.aload_n 0, 1) := by decide +kernel
theorem d_Lw_law_411 : decode code 411 = .ok (.iload_n 3, 1) := by decide +kernel
theorem d_Lw_law_412 : decode code 412 = .ok (.iconst 2, 1) := by decide +kernel
theorem d_Lw_law_413 : decode code 413 = .ok (.iadd, 1) := by decide +kernel
theorem d_Lw_law_414 : decode code 414 = .ok (.iaload, 1) := by decide +kernel
theorem d_Lw_law_415 : decode code 415 = .ok (.aload_n 0, 1) := by decide +kernel
theorem d_Lw_law_416 : decode code 416 = .ok (.iload_n 3, 1) := by decide +kernel
theorem d_Lw_law_417 : decode code 417 = .ok (.iconst 3, 1) := by decide +kernel
theorem d_Lw_law_418 : decode code 418 = .ok (.iadd, 1) := by decide +kernel
theorem d_Lw_law_419 : decode code 419 = .ok (.iaload, 1) := by decide +kernel
theorem d_Lw_law_420 : decode code 420 = .ok (.aload_n 0, 1) := by decide +kernel
theorem d_Lw_law_421 : decode code 421 = .ok (.iload_n 3, 1) := by decide +kernel
theorem d_Lw_law_422 : decode code 422 = .ok (.iconst 4, 1) := by decide +kernel
theorem d_Lw_law_423 : decode code 423 = .ok (.iadd, 1) := by decide +kernel
theorem d_Lw_law_424 : decode code 424 = .ok (.iaload, 1) := by decide +kernel
theorem d_Lw_law_425 : decode code 425 = .ok (.invokevirtual 41, 3) := by decide +kernel
theorem d_Lw_law_428 : decode code 428 = .ok (.pop, 1) := by decide +kernel
theorem d_Lw_law_429 : decode code 429 = .ok (.aload_n 2, 1) := by decide +kernel
theorem d_Lw_law_430 : decode code 430 = .ok (.aload_n 0, 1) := by decide +kernel
theorem d_Lw_law_431 : decode code 431 = .ok (.iload_n 3, 1) := by decide +kernel
theorem d_Lw_law_432 : decode code 432 = .ok (.iconst 1, 1) := by decide +kernel
theorem d_Lw_law_433 : decode code 433 = .ok (.iadd, 1) := by decide +kernel
theorem d_Lw_law_434 : decode code 434 = .ok (.iaload, 1) := by decide +kernel
theorem d_Lw_law_435 : decode code 435 = .ok (.aload_n 0, 1) := by decide +kernel
theorem d_Lw_law_436 : decode code 436 = .ok (.iload_n 3, 1) := by decide +kernel
theorem d_Lw_law_437 : decode code 437 = .ok (.iconst 2, 1) := by decide +kernel
theorem d_Lw_law_438 : decode code 438 = .ok (.iadd, 1) := by decide +kernel
theorem d_Lw_law_439 : decode code 439 = .ok (.iaload, 1) := by decide +kernel
theorem d_Lw_law_440 : decode code 440 = .ok (.aload_n 0, 1) := by decide +kernel
theorem d_Lw_law_441 : decode code 441 = .ok (.iload_n 3, 1) := by decide +kernel
theorem d_Lw_law_442 : decode code 442 = .ok (.iconst 3, 1) := by decide +kernel
theorem d_Lw_law_443 : decode code 443 = .ok (.iadd, 1) := by decide +kernel
theorem d_Lw_law_444 : decode code 444 = .ok (.iaload, 1) := by decide +kernel
theorem d_Lw_law_445 : decode code 445 = .ok (.aload_n 0, 1) := by decide +kernel
theorem d_Lw_law_446 : decode code 446 = .ok (.iload_n 3, 1) := by decide +kernel
theorem d_Lw_law_447 : decode code 447 = .ok (.iconst 4, 1) := by decide +kernel
theorem d_Lw_law_448 : decode code 448 = .ok (.iadd, 1) := by decide +kernel
theorem d_Lw_law_449 : decode code 449 = .ok (.iaload, 1) := by decide +kernel
theorem d_Lw_law_450 : decode code 450 = .ok (.invokevirtual 45, 3) := by decide +kernel
theorem d_Lw_law_453 : decode code 453 = .ok (.pop, 1) := by decide +kernel
theorem d_Lw_law_454 : decode code 454 = .ok (.goto 556, 3) := by decide +kernel
theorem d_Lw_law_457 : decode code 457 = .ok (.aload_n 1, 1) := by decide +kernel
theorem d_Lw_law_458 : decode code 458 = .ok (.aload_n 0, 1) := by decide +kernel
theorem d_Lw_law_459 : decode code 459 = .ok (.iload_n 3, 1) := by decide +kernel
theorem d_Lw_law_460 : decode code 460 = .ok (.iconst 1, 1) := by decide +kernel
theorem d_Lw_law_461 : decode code 461 = .ok (.iadd, 1) := by decide +kernel
theorem d_Lw_law_462 : decode code 462 = .ok (.iaload, 1) := by decide +kernel
theorem d_Lw_law_463 : decode code 463 = .ok (.aload_n 0, 1) := by decide +kernel
theorem d_Lw_law_464 : decode code 464 = .ok (.iload_n 3, 1) := by decide +kernel
theorem d_Lw_law_465 : decode code 465 = .ok (.iconst 2, 1) := by decide +kernel
theorem d_Lw_law_466 : decode code 466 = .ok (.iadd, 1) := by decide +kernel
theorem d_Lw_law_467 : decode code 467 = .ok (.iaload, 1) := by decide +kernel
theorem d_Lw_law_468 : decode code 468 = .ok (.invokevirtual 46, 3) := by decide +kernel
theorem d_Lw_law_471 : decode code 471 = .ok (.pop, 1) := by decide +kernel
theorem d_Lw_law_472 : decode code 472 = .ok (.aload_n 2, 1) := by decide +kernel
theorem d_Lw_law_473 : decode code 473 = .ok (.aload_n 0, 1) := by decide +kernel
theorem d_Lw_law_474 : decode code 474 = .ok (.iload_n 3, 1) := by decide +kernel
theorem d_Lw_law_475 : decode code 475 = .ok (.iconst 1, 1) := by decide +kernel
theorem d_Lw_law_476 : decode code 476 = .ok (.iadd, 1) := by decide +kernel
theorem d_Lw_law_477 : decode code 477 = .ok (.iaload, 1) := by decide +kernel
theorem d_Lw_law_478 : decode code 478 = .ok (.aload_n 0, 1) := by decide +kernel
theorem d_Lw_law_479 : decode code 479 = .ok (.iload_n 3, 1) := by decide +kernel
theorem d_Lw_law_480 : decode code 480 = .ok (.iconst 2, 1) := by decide +kernel
theorem d_Lw_law_481 : decode code 481 = .ok (.iadd, 1) := by decide +kernel
theorem d_Lw_law_482 : decode code 482 = .ok (.iaload, 1) := by decide +kernel
theorem d_Lw_law_483 : decode code 483 = .ok (.invokevirtual 50, 3) := by decide +kernel
theorem d_Lw_law_486 : decode code 486 = .ok (.pop, 1) := by decide +kernel
theorem d_Lw_law_487 : decode code 487 = .ok (.goto 523, 3) := by decide +kernel
theorem d_Lw_law_490 : decode code 490 = .ok (.aload_n 1, 1) := by decide +kernel
theorem d_Lw_law_491 : decode code 491 = .ok (.aload_n 0, 1) := by decide +kernel
theorem d_Lw_law_492 : decode code 492 = .ok (.iload_n 3, 1) := by decide +kernel
theorem d_Lw_law_493 : decode code 493 = .ok (.iconst 1, 1) := by decide +kernel
theorem d_Lw_law_494 : decode code 494 = .ok (.iadd, 1) := by decide +kernel
theorem d_Lw_law_495 : decode code 495 = .ok (.iaload, 1) := by decide +kernel
theorem d_Lw_law_496 : decode code 496 = .ok (.aload_n 0, 1) := by decide +kernel
theorem d_Lw_law_497 : decode code 497 = .ok (.iload_n 3, 1) := by decide +kernel
theorem d_Lw_law_498 : decode code 498 = .ok (.iconst 2, 1) := by decide +kernel
theorem d_Lw_law_499 : decode code 499 = .ok (.iadd, 1) := by decide +kernel
theorem d_Lw_law_500 : decode code 500 = .ok (.iaload, 1) := by decide +kernel
theorem d_Lw_law_501 : decode code 501 = .ok (.invokevirtual 51, 3) := by decide +kernel
theorem d_Lw_law_504 : decode code 504 = .ok (.pop, 1) := by decide +kernel
theorem d_Lw_law_505 : decode code 505 = .ok (.aload_n 2, 1) := by decide +kernel
theorem d_Lw_law_506 : decode code 506 = .ok (.aload_n 0, 1) := by decide +kernel
theorem d_Lw_law_507 : decode code 507 = .ok (.iload_n 3, 1) := by decide +kernel
theorem d_Lw_law_508 : decode code 508 = .ok (.iconst 1, 1) := by decide +kernel
theorem d_Lw_law_509 : decode code 509 = .ok (.iadd, 1) := by decide +kernel
theorem d_Lw_law_510 : decode code 510 = .ok (.iaload, 1) := by decide +kernel
theorem d_Lw_law_511 : decode code 511 = .ok (.aload_n 0, 1) := by decide +kernel
theorem d_Lw_law_512 : decode code 512 = .ok (.iload_n 3, 1) := by decide +kernel
theorem d_Lw_law_513 : decode code 513 = .ok (.iconst 2, 1) := by decide +kernel
theorem d_Lw_law_514 : decode code 514 = .ok (.iadd, 1) := by decide +kernel
theorem d_Lw_law_515 : decode code 515 = .ok (.iaload, 1) := by decide +kernel
theorem d_Lw_law_516 : decode code 516 = .ok (.invokevirtual 54, 3) := by decide +kernel
theorem d_Lw_law_519 : decode code 519 = .ok (.pop, 1) := by decide +kernel
theorem d_Lw_law_520 : decode code 520 = .ok (.goto 490, 3) := by decide +kernel
theorem d_Lw_law_523 : decode code 523 = .ok (.aload_n 1, 1) := by decide +kernel
theorem d_Lw_law_524 : decode code 524 = .ok (.aload_n 0, 1) := by decide +kernel
theorem d_Lw_law_525 : decode code 525 = .ok (.iload_n 3, 1) := by decide +kernel
theorem d_Lw_law_526 : decode code 526 = .ok (.iconst 1, 1) := by decide +kernel
theorem d_Lw_law_527 : decode code 527 = .ok (.iadd, 1) := by decide +kernel
theorem d_Lw_law_528 : decode code 528 = .ok (.iaload, 1) := by decide +kernel
theorem d_Lw_law_529 : decode code 529 = .ok (.aload_n 0, 1) := by decide +kernel
theorem d_Lw_law_530 : decode code 530 = .ok (.iload_n 3, 1) := by decide +kernel
theorem d_Lw_law_531 : decode code 531 = .ok (.iconst 2, 1) := by decide +kernel
theorem d_Lw_law_532 : decode code 532 = .ok (.iadd, 1) := by decide +kernel
theorem d_Lw_law_533 : decode code 533 = .ok (.iaload, 1) := by decide +kernel
theorem d_Lw_law_534 : decode code 534 = .ok (.aload_n 0, 1) := by decide +kernel
theorem d_Lw_law_535 : decode code 535 = .ok (.iload_n 3, 1) := by decide +kernel
theorem d_Lw_law_536 : decode code 536 = .ok (.iconst 3, 1) := by decide +kernel
theorem d_Lw_law_537 : decode code 537 = .ok (.iadd, 1) := by decide +kernel
theorem d_Lw_law_538 : decode code 538 = .ok (.iaload, 1) := by decide +kernel
theorem d_Lw_law_539 : decode code 539 = .ok (.aload_n 0, 1) := by decide +kernel
theorem d_Lw_law_540 : decode code 540 = .ok (.iload_n 3, 1) := by decide +kernel
theorem d_Lw_law_541 : decode code 541 = .ok (.iconst 4, 1) := by decide +kernel
theorem d_Lw_law_542 : decode code 542 = .ok (.iadd, 1) := by decide +kernel
theorem d_Lw_law_543 : decode code 543 = .ok (.iaload, 1) := by decide +kernel
theorem d_Lw_law_544 : decode code 544 = .ok (.aload_n 0, 1) := by decide +kernel
theorem d_Lw_law_545 : decode code 545 = .ok (.iload_n 3, 1) := by decide +kernel
theorem d_Lw_law_546 : decode code 546 = .ok (.iconst 5, 1) := by decide +kernel
theorem d_Lw_law_547 : decode code 547 = .ok (.iadd, 1) := by decide +kernel
theorem d_Lw_law_548 : decode code 548 = .ok (.iaload, 1) := by decide +kernel
theorem d_Lw_law_549 : decode code 549 = .ok (.aload_n 0, 1) := by decide +kernel
theorem d_Lw_law_550 : decode code 550 = .ok (.iload_n 3, 1) := by decide +kernel
theorem d_Lw_law_551 : decode code 551 = .ok (.bipush 6, 2) := by decide +kernel
theorem d_Lw_law_553 : decode code 553 = .ok (.iadd, 1) := by decide +kernel
theorem d_Lw_law_554 : decode code 554 = .ok (.iaload, 1) := by decide +kernel
theorem d_Lw_law_555 : decode code 555 = .ok (.invokevirtual 55, 3) := by decide +kernel
theorem d_Lw_law_558 : decode code 558 = .ok (.pop, 1) := by decide +kernel
theorem d_Lw_law_559 : decode code 559 = .ok (.aload_n 2, 1) := by decide +kernel
theorem d_Lw_law_560 : decode code 560 = .ok (.aload_n 0, 1) := by decide +kernel
theorem d_Lw_law_561 : decode code 561 = .ok (.iload_n 3, 1) := by decide +kernel
theorem d_Lw_law_562 : decode code 562 = .ok (.iconst 1, 1) := by decide +kernel
theorem d_Lw_law_563 : decode code 563 = .ok (.iadd, 1) := by decide +kernel
theorem d_Lw_law_564 : decode code 564 = .ok (.iaload, 1) := by decide +kernel
theorem d_Lw_law_565 : decode code 565 = .ok (.aload_n 0, 1) := by decide +kernel
theorem d_Lw_law_566 : decode code 566 = .ok (.iload_n 3, 1) := by decide +kernel
theorem d_Lw_law_567 : decode code 567 = .ok (.iconst 2, 1) := by decide +kernel
theorem d_Lw_law_568 : decode code 568 = .ok (.iadd, 1) := by decide +kernel
theorem d_Lw_law_569 : decode code 569 = .ok (.iaload, 1) := by decide +kernel
theorem d_Lw_law_570 : decode code 570 = .ok (.aload_n 0, 1) := by decide +kernel
theorem d_Lw_law_571 : decode code 571 = .ok (.iload_n 3, 1) := by decide +kernel
theorem d_Lw_law_572 : decode code 572 = .ok (.iconst 3, 1) := by decide +kernel
theorem d_Lw_law_573 : decode code 573 = .ok (.iadd, 1) := by decide +kernel
theorem d_Lw_law_574 : decode code 574 = .ok (.iaload, 1) := by decide +kernel
theorem d_Lw_law_575 : decode code 575 = .ok (.aload_n 0, 1) := by decide +kernel
theorem d_Lw_law_576 : decode code 576 = .ok (.iload_n 3, 1) := by decide +kernel
theorem d_Lw_law_577 : decode code 577 = .ok (.iconst 4, 1) := by decide +kernel
theorem d_Lw_law_578 : decode code 578 = .ok (.iadd, 1) := by decide +kernel
theorem d_Lw_law_579 : decode code 579 = .ok (.iaload, 1) := by decide +kernel
theorem d_Lw_law_580 : decode code 580 = .ok (.aload_n 0, 1) := by decide +kernel
theorem d_Lw_law_581 : decode code 581 = .ok (.iload_n 3, 1) := by decide +kernel
theorem d_Lw_law_582 : decode code 582 = .ok (.iconst 5, 1) := by decide +kernel
theorem d_Lw_law_583 : decode code 583 = .ok (.iadd, 1) := by decide +kernel
theorem d_Lw_law_584 : decode code 584 = .ok (.iaload, 1) := by decide +kernel
theorem d_Lw_law_585 : decode code 585 = .ok (.aload_n 0, 1) := by decide +kernel
theorem d_Lw_law_586 : decode code 586 = .ok (.iload_n 3, 1) := by decide +kernel
theorem d_Lw_law_587 : decode code 587 = .ok (.bipush 6, 2) := by decide +kernel
theorem d_Lw_law_589 : decode code 589 = .ok (.iadd, 1) := by decide +kernel
theorem d_Lw_law_590 : decode code 590 = .ok (.iaload, 1) := by decide +kernel
theorem d_Lw_law_591 : decode code 591 = .ok (.invokevirtual 58, 3) := by decide +kernel
theorem d_Lw_law_594 : decode code 594 = .ok (.pop, 1) := by decide +kernel
theorem d_Lw_law_595 : decode code 595 = .ok (.goto 415, 3) := by decide +kernel
theorem d_Lw_law_598 : decode code 598 = .ok (.aload_n 1, 1) := by decide +kernel
theorem d_Lw_law_599 : decode code 599 = .ok (.aload_n 0, 1) := by decide +kernel
theorem d_Lw_law_600 : decode code 600 = .ok (.iload_n 3, 1) := by decide +kernel
theorem d_Lw_law_601 : decode code 601 = .ok (.iconst 1, 1) := by decide +kernel
theorem d_Lw_law_602 : decode code 602 = .ok (.iadd, 1) := by decide +kernel
theorem d_Lw_law_603 : decode code 603 = .ok (.iaload, 1) := by decide +kernel
theorem d_Lw_law_604 : decode code 604 = .ok (.aload_n 0, 1) := by decide +kernel
theorem d_Lw_law_605 : decode code 605 = .ok (.iload_n 3, 1) := by decide +kernel
theorem d_Lw_law_606 : decode code 606 = .ok (.iconst 2, 1) := by decide +kernel
theorem d_Lw_law_607 : decode code 607 = .ok (.iadd, 1) := by decide +kernel
theorem d_Lw_law_608 : decode code 608 = .ok (.iaload, 1) := by decide +kernel
theorem d_Lw_law_609 : decode code 609 = .ok (.aload_n 0, 1) := by decide +kernel
theorem d_Lw_law_610 : decode code 610 = .ok (.iload_n 3, 1) := by decide +kernel
theorem d_Lw_law_611 : decode code 611 = .ok (.iconst 3, 1) := by decide +kernel
theorem d_Lw_law_612 : decode code 612 = .ok (.iadd, 1) := by decide +kernel
theorem d_Lw_law_613 : decode code 613 = .ok (.iaload, 1) := by decide +kernel
theorem d_Lw_law_614 : decode code 614 = .ok (.aload_n 0, 1) := by decide +kernel
theorem d_Lw_law_615 : decode code 615 = .ok (.iload_n 3, 1) := by decide +kernel
theorem d_Lw_law_616 : decode code 616 = .ok (.iconst 4, 1) := by decide +kernel
theorem d_Lw_law_617 : decode code 617 = .ok (.iadd, 1) := by decide +kernel
theorem d_Lw_law_618 : decode code 618 = .ok (.iaload, 1) := by decide +kernel
theorem d_Lw_law_619 : decode code 619 = .ok (.aload_n 0, 1) := by decide +kernel
theorem d_Lw_law_620 : decode code 620 = .ok (.iload_n 3, 1) := by decide +kernel
theorem d_Lw_law_621 : decode code 621 = .ok (.iconst 5, 1) := by decide +kernel
theorem d_Lw_law_622 : decode code 622 = .ok (.iadd, 1) := by decide +kernel
theorem d_Lw_law_623 : decode code 623 = .ok (.iaload, 1) := by decide +kernel
theorem d_Lw_law_624 : decode code 624 = .ok (.invokevirtual 59, 3) := by decide +kernel
theorem d_Lw_law_627 : decode code 627 = .ok (.pop, 1) := by decide +kernel
theorem d_Lw_law_628 : decode code 628 = .ok (.aload_n 2, 1) := by decide +kernel
theorem d_Lw_law_629 : decode code 629 = .ok (.aload_n 0, 1) := by decide +kernel
theorem d_Lw_law_630 : decode code 630 = .ok (.iload_n 3, 1) := by decide +kernel
theorem d_Lw_law_631 : decode code 631 = .ok (.iconst 1, 1) := by decide +kernel
theorem d_Lw_law_632 : decode code 632 = .ok (.iadd, 1) := by decide +kernel
theorem d_Lw_law_633 : decode code 633 = .ok (.iaload, 1) := by decide +kernel
theorem d_Lw_law_634 : decode code 634 = .ok (.aload_n 0, 1) := by decide +kernel
theorem d_Lw_law_635 : decode code 635 = .ok (.iload_n 3, 1) := by decide +kernel
theorem d_Lw_law_636 : decode code 636 = .ok (.iconst 2, 1) := by decide +kernel
theorem d_Lw_law_637 : decode code 637 = .ok (.iadd, 1) := by decide +kernel
theorem d_Lw_law_638 : decode code 638 = .ok (.iaload, 1) := by decide +kernel
theorem d_Lw_law_639 : decode code 639 = .ok (.aload_n 0, 1) := by decide +kernel
theorem d_Lw_law_640 : decode code 640 = .ok (.iload_n 3, 1) := by decide +kernel
theorem d_Lw_law_641 : decode code 641 = .ok (.iconst 3, 1) := by decide +kernel
theorem d_Lw_law_642 : decode code 642 = .ok (.iadd, 1) := by decide +kernel
theorem d_Lw_law_643 : decode code 643 = .ok (.iaload, 1) := by decide +kernel
theorem d_Lw_law_644 : decode code 644 = .ok (.aload_n 0, 1) := by decide +kernel
theorem d_Lw_law_645 : decode code 645 = .ok (.iload_n 3, 1) := by decide +kernel
theorem d_Lw_law_646 : decode code 646 = .ok (.iconst 4, 1) := by decide +kernel
theorem d_Lw_law_647 : decode code 647 = .ok (.iadd, 1) := by decide +kernel
theorem d_Lw_law_648 : decode code 648 = .ok (.iaload, 1) := by decide +kernel
theorem d_Lw_law_649 : decode code 649 = .ok (.aload_n 0, 1) := by decide +kernel
theorem d_Lw_law_650 : decode code 650 = .ok (.iload_n 3, 1) := by decide +kernel
theorem d_Lw_law_651 : decode code 651 = .ok (.iconst 5, 1) := by decide +kernel
theorem d_Lw_law_652 : decode code 652 = .ok (.iadd, 1) := by decide +kernel
theorem d_Lw_law_653 : decode code 653 = .ok (.iaload, 1) := by decide +kernel
theorem d_Lw_law_654 : decode code 654 = .ok (.invokevirtual 62, 3) := by decide +kernel
theorem d_Lw_law_657 : decode code 657 = .ok (.pop, 1) := by decide +kernel
theorem d_Lw_law_658 : decode code 658 = .ok (.goto 352, 3) := by decide +kernel
theorem d_Lw_law_661 : decode code 661 = .ok (.aload_n 1, 1) := by decide +kernel
theorem d_Lw_law_662 : decode code 662 = .ok (.aload_n 0, 1) := by decide +kernel
theorem d_Lw_law_663 : decode code 663 = .ok (.iload_n 3, 1) := by decide +kernel
theorem d_Lw_law_664 : decode code 664 = .ok (.iconst 1, 1) := by decide +kernel
theorem d_Lw_law_665 : decode code 665 = .ok (.iadd, 1) := by decide +kernel
theorem d_Lw_law_666 : decode code 666 = .ok (.iaload, 1) := by decide +kernel
theorem d_Lw_law_667 : decode code 667 = .ok (.invokevirtual 63, 3) := by decide +kernel
theorem d_Lw_law_670 : decode code 670 = .ok (.pop, 1) := by decide +kernel
theorem d_Lw_law_671 : decode code 671 = .ok (.aload_n 2, 1) := by decide +kernel
theorem d_Lw_law_672 : decode code 672 = .ok (.aload_n 0, 1) := by decide +kernel
theorem d_Lw_law_673 : decode code 673 = .ok (.iload_n 3, 1) := by decide +kernel
theorem d_Lw_law_674 : decode code 674 = .ok (.iconst 1, 1) := by decide +kernel
theorem d_Lw_law_675 : decode code 675 = .ok (.iadd, 1) := by decide +kernel
theorem d_Lw_law_676 : decode code 676 = .ok (.iaload, 1) := by decide +kernel
theorem d_Lw_law_677 : decode code 677 = .ok (.invokevirtual 66, 3) := by decide +kernel
theorem d_Lw_law_680 : decode code 680 = .ok (.pop, 1) := by decide +kernel
theorem d_Lw_law_681 : decode code 681 = .ok (.goto 329, 3) := by decide +kernel
theorem d_Lw_law_684 : decode code 684 = .ok (.aload_n 1, 1) := by decide +kernel
theorem d_Lw_law_685 : decode code 685 = .ok (.aload_n 0, 1) := by decide +kernel
theorem d_Lw_law_686 : decode code 686 = .ok (.iload_n 3, 1) := by decide +kernel
theorem d_Lw_law_687 : decode code 687 = .ok (.iconst 1, 1) := by decide +kernel
theorem d_Lw_law_688 : decode code 688 = .ok (.iadd, 1) := by decide +kernel
theorem d_Lw_law_689 : decode code 689 = .ok (.iaload, 1) := by decide +kernel
theorem d_Lw_law_690 : decode code 690 = .ok (.aload_n 0, 1) := by decide +kernel
theorem d_Lw_law_691 : decode code 691 = .ok (.iload_n 3, 1) := by decide +kernel
theorem d_Lw_law_692 : decode code 692 = .ok (.iconst 2, 1) := by decide +kernel
theorem d_Lw_law_693 : decode code 693 = .ok (.iadd, 1) := by decide +kernel
theorem d_Lw_law_694 : decode code 694 = .ok (.iaload, 1) := by decide +kernel
theorem d_Lw_law_695 : decode code 695 = .ok (.invokevirtual 67, 3) := by decide +kernel
theorem d_Lw_law_698 : decode code 698 = .ok (.pop, 1) := by decide +kernel
theorem d_Lw_law_699 : decode code 699 = .ok (.aload_n 2, 1) := by decide +kernel
theorem d_Lw_law_700 : decode code 700 = .ok (.aload_n 0, 1) := by decide +kernel
theorem d_Lw_law_701 : decode code 701 = .ok (.iload_n 3, 1) := by decide +kernel
theorem d_Lw_law_702 : decode code 702 = .ok (.iconst 1, 1) := by decide +kernel
theorem d_Lw_law_703 : decode code 703 = .ok (.iadd, 1) := by decide +kernel
theorem d_Lw_law_704 : decode code 704 = .ok (.iaload, 1) := by decide +kernel
theorem d_Lw_law_705 : decode code 705 = .ok (.aload_n 0, 1) := by decide +kernel
theorem d_Lw_law_706 : decode code 706 = .ok (.iload_n 3, 1) := by decide +kernel
theorem d_Lw_law_707 : decode code 707 = .ok (.iconst 2, 1) := by decide +kernel
theorem d_Lw_law_708 : decode code 708 = .ok (.iadd, 1) := by decide +kernel
theorem d_Lw_law_709 : decode code 709 = .ok (.iaload, 1) := by decide +kernel
theorem d_Lw_law_710 : decode code 710 = .ok (.invokevirtual 70, 3) := by decide +kernel
theorem d_Lw_law_713 : decode code 713 = .ok (.pop, 1) := by decide +kernel
theorem d_Lw_law_714 : decode code 714 = .ok (.goto 296, 3) := by decide +kernel
theorem d_Lw_law_717 : decode code 717 = .ok (.aload_n 1, 1) := by decide +kernel
theorem d_Lw_law_718 : decode code 718 = .ok (.invokevirtual 71, 3) := by decide +kernel
theorem d_Lw_law_721 : decode code 721 = .ok (.pop, 1) := by decide +kernel
theorem d_Lw_law_722 : decode code 722 = .ok (.aload_n 2, 1) := by decide +kernel
theorem d_Lw_law_723 : decode code 723 = .ok (.invokevirtual 74, 3) := by decide +kernel
theorem d_Lw_law_726 : decode code 726 = .ok (.pop, 1) := by decide +kernel
theorem d_Lw_law_727 : decode code 727 = .ok (.goto 283, 3) := by decide +kernel
theorem d_Lw_law_730 : decode code 730 = .ok (.aload_n 1, 1) := by decide +kernel
theorem d_Lw_law_731 : decode code 731 = .ok (.aload_n 0, 1) := by decide +kernel
theorem d_Lw_law_732 : decode code 732 = .ok (.iload_n 3, 1) := by decide +kernel
theorem d_Lw_law_733 : decode code 733 = .ok (.iconst 1, 1) := by decide +kernel
theorem d_Lw_law_734 : decode code 734 = .ok (.iadd, 1) := by decide +kernel
theorem d_Lw_law_735 : decode code 735 = .ok (.iaload, 1) := by decide +kernel
theorem d_Lw_law_736 : decode code 736 = .ok (.invokevirtual 75, 3) := by decide +kernel
theorem d_Lw_law_739 : decode code 739 = .ok (.pop, 1) := by decide +kernel
theorem d_Lw_law_740 : decode code 740 = .ok (.aload_n 2, 1) := by decide +kernel
theorem d_Lw_law_741 : decode code 741 = .ok (.aload_n 0, 1) := by decide +kernel
theorem d_Lw_law_742 : decode code 742 = .ok (.iload_n 3, 1) := by decide +kernel
theorem d_Lw_law_743 : decode code 743 = .ok (.iconst 1, 1) := by decide +kernel
theorem d_Lw_law_744 : decode code 744 = .ok (.iadd, 1) := by decide +kernel
theorem d_Lw_law_745 : decode code 745 = .ok (.iaload, 1) := by decide +kernel
theorem d_Lw_law_746 : decode code 746 = .ok (.invokevirtual 78, 3) := by decide +kernel
theorem d_Lw_law_749 : decode code 749 = .ok (.pop, 1) := by decide +kernel
theorem d_Lw_law_750 : decode code 750 = .ok (.goto 260, 3) := by decide +kernel
theorem d_Lw_law_753 : decode code 753 = .ok (.aload_n 1, 1) := by decide +kernel
theorem d_Lw_law_754 : decode code 754 = .ok (.aload_n 0, 1) := by decide +kernel
theorem d_Lw_law_755 : decode code 755 = .ok (.iload_n 3, 1) := by decide +kernel
theorem d_Lw_law_756 : decode code 756 = .ok (.iconst 1, 1) := by decide +kernel
theorem d_Lw_law_757 : decode code 757 = .ok (.iadd, 1) := by decide +kernel
theorem d_Lw_law_758 : decode code 758 = .ok (.iaload, 1) := by decide +kernel
theorem d_Lw_law_759 : decode code 759 = .ok (.invokevirtual 79, 3) := by decide +kernel
theorem d_Lw_law_762 : decode code 762 = .ok (.pop, 1) := by decide +kernel
theorem d_Lw_law_763 : decode code 763 = .ok (.aload_n 2, 1) := by decide +kernel
theorem d_Lw_law_764 : decode code 764 = .ok (.aload_n 0, 1) := by decide +kernel
theorem d_Lw_law_765 : decode code 765 = .ok (.iload_n 3, 1) := by decide +kernel
theorem d_Lw_law_766 : decode code 766 = .ok (.iconst 1, 1) := by decide +kernel
theorem d_Lw_law_767 : decode code 767 = .ok (.iadd, 1) := by decide +kernel
theorem d_Lw_law_768 : decode code 768 = .ok (.iaload, 1) := by decide +kernel
theorem d_Lw_law_769 : decode code 769 = .ok (.invokevirtual 82, 3) := by decide +kernel
theorem d_Lw_law_772 : decode code 772 = .ok (.pop, 1) := by decide +kernel
theorem d_Lw_law_773 : decode code 773 = .ok (.goto 237, 3) := by decide +kernel
theorem d_Lw_law_776 : decode code 776 = .ok (.aload_n 1, 1) := by decide +kernel
theorem d_Lw_law_777 : decode code 777 = .ok (.aload_n 0, 1) := by decide +kernel
theorem d_Lw_law_778 : decode code 778 = .ok (.iload_n 3, 1) := by decide +kernel
theorem d_Lw_law_779 : decode code 779 = .ok (.iconst 1, 1) := by decide +kernel
theorem d_Lw_law_780 : decode code 780 = .ok (.iadd, 1) := by decide +kernel
theorem d_Lw_law_781 : decode code 781 = .ok (.iaload, 1) := by decide +kernel
theorem d_Lw_law_782 : decode code 782 = .ok (.aload_n 0, 1) := by decide +kernel
theorem d_Lw_law_783 : decode code 783 = .ok (.iload_n 3, 1) := by decide +kernel
theorem d_Lw_law_784 : decode code 784 = .ok (.iconst 2, 1) := by decide +kernel
theorem d_Lw_law_785 : decode code 785 = .ok (.iadd, 1) := by decide +kernel
theorem d_Lw_law_786 : decode code 786 = .ok (.iaload, 1) := by decide +kernel
theorem d_Lw_law_787 : decode code 787 = .ok (.aload_n 0, 1) := by decide +kernel
theorem d_Lw_law_788 : decode code 788 = .ok (.iload_n 3, 1) := by decide +kernel
theorem d_Lw_law_789 : decode code 789 = .ok (.iconst 3, 1) := by decide +kernel
theorem d_Lw_law_790 : decode code 790 = .ok (.iadd, 1) := by decide +kernel
theorem d_Lw_law_791 : decode code 791 = .ok (.iaload, 1) := by decide +kernel
theorem d_Lw_law_792 : decode code 792 = .ok (.invokevirtual 83, 3) := by decide +kernel
theorem d_Lw_law_795 : decode code 795 = .ok (.pop, 1) := by decide +kernel
theorem d_Lw_law_796 : decode code 796 = .ok (.aload_n 2, 1) := by decide +kernel
theorem d_Lw_law_797 : decode code 797 = .ok (.aload_n 0, 1) := by decide +kernel
theorem d_Lw_law_798 : decode code 798 = .ok (.iload_n 3, 1) := by decide +kernel
theorem d_Lw_law_799 : decode code 799 = .ok (.iconst 1, 1) := by decide +kernel
theorem d_Lw_law_800 : decode code 800 = .ok (.iadd, 1) := by decide +kernel
theorem d_Lw_law_801 : decode code 801 = .ok (.iaload, 1) := by decide +kernel
theorem d_Lw_law_802 : decode code 802 = .ok (.aload_n 0, 1) := by decide +kernel
theorem d_Lw_law_803 : decode code 803 = .ok (.iload_n 3, 1) := by decide +kernel
theorem d_Lw_law_804 : decode code 804 = .ok (.iconst 2, 1) := by decide +kernel
theorem d_Lw_law_805 : decode code 805 = .ok (.iadd, 1) := by decide +kernel
theorem d_Lw_law_806 : decode code 806 = .ok (.iaload, 1) := by decide +kernel
theorem d_Lw_law_807 : decode code 807 = .ok (.aload_n 0, 1) := by decide +kernel
theorem d_Lw_law_808 : decode code 808 = .ok (.iload_n 3, 1) := by decide +kernel
theorem d_Lw_law_809 : decode code 809 = .ok (.iconst 3, 1) := by decide +kernel
theorem d_Lw_law_810 : decode code 810 = .ok (.iadd, 1) := by decide +kernel
theorem d_Lw_law_811 : decode code 811 = .ok (.iaload, 1) := by decide +kernel
theorem d_Lw_law_812 : decode code 812 = .ok (.invokevirtual 87, 3) := by decide +kernel
theorem d_Lw_law_815 : decode code 815 = .ok (.pop, 1) := by decide +kernel
theorem d_Lw_law_816 : decode code 816 = .ok (.goto 194, 3) := by decide +kernel
theorem d_Lw_law_819 : decode code 819 = .ok (.aload_n 1, 1) := by decide +kernel
theorem d_Lw_law_820 : decode code 820 = .ok (.aload_n 0, 1) := by decide +kernel
theorem d_Lw_law_821 : decode code 821 = .ok (.iload_n 3, 1) := by decide +kernel
theorem d_Lw_law_822 : decode code 822 = .ok (.iconst 1, 1) := by decide +kernel
theorem d_Lw_law_823 : decode code 823 = .ok (.iadd, 1) := by decide +kernel
theorem d_Lw_law_824 : decode code 824 = .ok (.iaload, 1) := by decide +kernel
theorem d_Lw_law_825 : decode code 825 = .ok (.aload_n 0, 1) := by decide +kernel
theorem d_Lw_law_826 : decode code 826 = .ok (.iload_n 3, 1) := by decide +kernel
theorem d_Lw_law_827 : decode code 827 = .ok (.iconst 2, 1) := by decide +kernel
theorem d_Lw_law_828 : decode code 828 = .ok (.iadd, 1) := by decide +kernel
theorem d_Lw_law_829 : decode code 829 = .ok (.iaload, 1) := by decide +kernel
theorem d_Lw_law_830 : decode code 830 = .ok (.invokevirtual 88, 3) := by decide +kernel
theorem d_Lw_law_833 : decode code 833 = .ok (.pop2, 1) := by decide +kernel
theorem d_Lw_law_834 : decode code 834 = .ok (.aload_n 2, 1) := by decide +kernel
theorem d_Lw_law_835 : decode code 835 = .ok (.aload_n 0, 1) := by decide +kernel
theorem d_Lw_law_836 : decode code 836 = .ok (.iload_n 3, 1) := by decide +kernel
theorem d_Lw_law_837 : decode code 837 = .ok (.iconst 1, 1) := by decide +kernel
theorem d_Lw_law_838 : decode code 838 = .ok (.iadd, 1) := by decide +kernel
theorem d_Lw_law_839 : decode code 839 = .ok (.iaload, 1) := by decide +kernel
theorem d_Lw_law_840 : decode code 840 = .ok (.aload_n 0, 1) := by decide +kernel
theorem d_Lw_law_841 : decode code 841 = .ok (.iload_n 3, 1) := by decide +kernel
theorem d_Lw_law_842 : decode code 842 = .ok (.iconst 2, 1) := by decide +kernel
theorem d_Lw_law_843 : decode code 843 = .ok (.iadd, 1) := by decide +kernel
theorem d_Lw_law_844 : decode code 844 = .ok (.iaload, 1) := by decide +kernel
theorem d_Lw_law_845 : decode code 845 = .ok (.invokevirtual 92, 3) := by decide +kernel
theorem d_Lw_law_848 : decode code 848 = .ok (.pop2, 1) := by decide +kernel
theorem d_Lw_law_849 : decode code 849 = .ok (.goto 161, 3) := by decide +kernel
theorem d_Lw_law_852 : decode code 852 = .ok (.aload_n 1, 1) := by decide +kernel
theorem d_Lw_law_853 : decode code 853 = .ok (.aload_n 0, 1) := by decide +kernel
theorem d_Lw_law_854 : decode code 854 = .ok (.iload_n 3, 1) := by decide +kernel
theorem d_Lw_law_855 : decode code 855 = .ok (.iconst 1, 1) := by decide +kernel
theorem d_Lw_law_856 : decode code 856 = .ok (.iadd, 1) := by decide +kernel
theorem d_Lw_law_857 : decode code 857 = .ok (.iaload, 1) := by decide +kernel
theorem d_Lw_law_858 : decode code 858 = .ok (.invokevirtual 93, 3) := by decide +kernel
theorem d_Lw_law_861 : decode code 861 = .ok (.pop, 1) := by decide +kernel
theorem d_Lw_law_862 : decode code 862 = .ok (.aload_n 2, 1) := by decide +kernel
theorem d_Lw_law_863 : decode code 863 = .ok (.aload_n 0, 1) := by decide +kernel
theorem d_Lw_law_864 : decode code 864 = .ok (.iload_n 3, 1) := by decide +kernel
theorem d_Lw_law_865 : decode code 865 = .ok (.iconst 1, 1) := by decide +kernel
theorem d_Lw_law_866 : decode code 866 = .ok (.iadd, 1) := by decide +kernel
theorem d_Lw_law_867 : decode code 867 = .ok (.iaload, 1) := by decide +kernel
theorem d_Lw_law_868 : decode code 868 = .ok (.invokevirtual 96, 3) := by decide +kernel
theorem d_Lw_law_871 : decode code 871 = .ok (.pop, 1) := by decide +kernel
theorem d_Lw_law_872 : decode code 872 = .ok (.goto 138, 3) := by decide +kernel
theorem d_Lw_law_875 : decode code 875 = .ok (.aload_n 1, 1) := by decide +kernel
theorem d_Lw_law_876 : decode code 876 = .ok (.aload_n 0, 1) := by decide +kernel
theorem d_Lw_law_877 : decode code 877 = .ok (.iload_n 3, 1) := by decide +kernel
theorem d_Lw_law_878 : decode code 878 = .ok (.iconst 1, 1) := by decide +kernel
theorem d_Lw_law_879 : decode code 879 = .ok (.iadd, 1) := by decide +kernel
theorem d_Lw_law_880 : decode code 880 = .ok (.iaload, 1) := by decide +kernel
theorem d_Lw_law_881 : decode code 881 = .ok (.invokevirtual 97, 3) := by decide +kernel
theorem d_Lw_law_884 : decode code 884 = .ok (.pop, 1) := by decide +kernel
theorem d_Lw_law_885 : decode code 885 = .ok (.aload_n 2, 1) := by decide +kernel
theorem d_Lw_law_886 : decode code 886 = .ok (.aload_n 0, 1) := by decide +kernel
theorem d_Lw_law_887 : decode code 887 = .ok (.iload_n 3, 1) := by decide +kernel
theorem d_Lw_law_888 : decode code 888 = .ok (.iconst 1, 1) := by decide +kernel
theorem d_Lw_law_889 : decode code 889 = .ok (.iadd, 1) := by decide +kernel
theorem d_Lw_law_890 : decode code 890 = .ok (.iaload, 1) := by decide +kernel
theorem d_Lw_law_891 : decode code 891 = .ok (.invokevirtual 100, 3) := by decide +kernel
theorem d_Lw_law_894 : decode code 894 = .ok (.pop, 1) := by decide +kernel
theorem d_Lw_law_895 : decode code 895 = .ok (.goto 115, 3) := by decide +kernel
theorem d_Lw_law_898 : decode code 898 = .ok (.aload_n 1, 1) := by decide +kernel
theorem d_Lw_law_899 : decode code 899 = .ok (.aload_n 0, 1) := by decide +kernel
theorem d_Lw_law_900 : decode code 900 = .ok (.iload_n 3, 1) := by decide +kernel
theorem d_Lw_law_901 : decode code 901 = .ok (.iconst 1, 1) := by decide +kernel
theorem d_Lw_law_902 : decode code 902 = .ok (.iadd, 1) := by decide +kernel
theorem d_Lw_law_903 : decode code 903 = .ok (.iaload, 1) := by decide +kernel
theorem d_Lw_law_904 : decode code 904 = .ok (.aload_n 0, 1) := by decide +kernel
theorem d_Lw_law_905 : decode code 905 = .ok (.iload_n 3, 1) := by decide +kernel
theorem d_Lw_law_906 : decode code 906 = .ok (.iconst 2, 1) := by decide +kernel
theorem d_Lw_law_907 : decode code 907 = .ok (.iadd, 1) := by decide +kernel
theorem d_Lw_law_908 : decode code 908 = .ok (.iaload, 1) := by decide +kernel
theorem d_Lw_law_909 : decode code 909 = .ok (.invokevirtual 101, 3) := by decide +kernel
theorem d_Lw_law_912 : decode code 912 = .ok (.pop, 1) := by decide +kernel
theorem d_Lw_law_913 : decode code 913 = .ok (.aload_n 2, 1) := by decide +kernel
theorem d_Lw_law_914 : decode code 914 = .ok (.aload_n 0, 1) := by decide +kernel
theorem d_Lw_law_915 : decode code 915 = .ok (.iload_n 3, 1) := by decide +kernel
theorem d_Lw_law_916 : decode code 916 = .ok (.iconst 1, 1) := by decide +kernel
theorem d_Lw_law_917 : decode code 917 = .ok (.iadd, 1) := by decide +kernel
theorem d_Lw_law_918 : decode code 918 = .ok (.iaload, 1) := by decide +kernel
theorem d_Lw_law_919 : decode code 919 = .ok (.aload_n 0, 1) := by decide +kernel
theorem d_Lw_law_920 : decode code 920 = .ok (.iload_n 3, 1) := by decide +kernel
theorem d_Lw_law_921 : decode code 921 = .ok (.iconst 2, 1) := by decide +kernel
theorem d_Lw_law_922 : decode code 922 = .ok (.iadd, 1) := by decide +kernel
theorem d_Lw_law_923 : decode code 923 = .ok (.iaload, 1) := by decide +kernel
theorem d_Lw_law_924 : decode code 924 = .ok (.invokevirtual 104, 3) := by decide +kernel
theorem d_Lw_law_927 : decode code 927 = .ok (.pop, 1) := by decide +kernel
theorem d_Lw_law_928 : decode code 928 = .ok (.goto 82, 3) := by decide +kernel
theorem d_Lw_law_931 : decode code 931 = .ok (.aload_n 1, 1) := by decide +kernel
theorem d_Lw_law_932 : decode code 932 = .ok (.aload_n 0, 1) := by decide +kernel
theorem d_Lw_law_933 : decode code 933 = .ok (.iload_n 3, 1) := by decide +kernel
theorem d_Lw_law_934 : decode code 934 = .ok (.iconst 1, 1) := by decide +kernel
theorem d_Lw_law_935 : decode code 935 = .ok (.iadd, 1) := by decide +kernel
theorem d_Lw_law_936 : decode code 936 = .ok (.iaload, 1) := by decide +kernel
theorem d_Lw_law_937 : decode code 937 = .ok (.aload_n 0, 1) := by decide +kernel
theorem d_Lw_law_938 : decode code 938 = .ok (.iload_n 3, 1) := by decide +kernel
theorem d_Lw_law_939 : decode code 939 = .ok (.iconst 2, 1) := by decide +kernel
theorem d_Lw_law_940 : decode code 940 = .ok (.iadd, 1) := by decide +kernel
theorem d_Lw_law_941 : decode code 941 = .ok (.iaload, 1) := by decide +kernel
theorem d_Lw_law_942 : decode code 942 = .ok (.invokevirtual 105, 3) := by decide +kernel
theorem d_Lw_law_945 : decode code 945 = .ok (.pop, 1) := by decide +kernel
theorem d_Lw_law_946 : decode code 946 = .ok (.aload_n 2, 1) := by decide +kernel
theorem d_Lw_law_947 : decode code 947 = .ok (.aload_n 0, 1) := by decide +kernel
theorem d_Lw_law_948 : decode code 948 = .ok (.iload_n 3, 1) := by decide +kernel
theorem d_Lw_law_949 : decode code 949 = .ok (.iconst 1, 1) := by decide +kernel
theorem d_Lw_law_950 : decode code 950 = .ok (.iadd, 1) := by decide +kernel
theorem d_Lw_law_951 : decode code 951 = .ok (.iaload, 1) := by decide +kernel
theorem d_Lw_law_952 : decode code 952 = .ok (.aload_n 0, 1) := by decide +kernel
theorem d_Lw_law_953 : decode code 953 = .ok (.iload_n 3, 1) := by decide +kernel
end
section
theorem d_Lw_law_954 : decode code 954 = .ok (.iconst 2, 1) := by decide +kernel
theorem d_Lw_law_955 : decode code 955 = .ok (.iadd, 1) := by decide +kernel
theorem d_Lw_law_956 : decode code 956 = .ok (.iaload, 1) := by decide +kernel
theorem d_Lw_law_957 : decode code 957 = .ok (.invokevirtual 108, 3) := by decide +kernel
theorem d_Lw_law_960 : decode code 960 = .ok (.pop, 1) := by decide +kernel
theorem d_Lw_law_961 : decode code 961 = .ok (.goto 49, 3) := by decide +kernel
theorem d_Lw_law_964 : decode code 964 = .ok (.aload_n 1, 1) := by decide +kernel
theorem d_Lw_law_965 : decode code 965 = .ok (.aload_n 0, 1) := by decide +kernel
theorem d_Lw_law_966 : decode code 966 = .ok (.iload_n 3, 1) := by decide +kernel
theorem d_Lw_law_967 : decode code 967 = .ok (.iconst 1, 1) := by decide +kernel
theorem d_Lw_law_968 : decode code 968 = .ok (.iadd, 1) := by decide +kernel
theorem d_Lw_law_969 : decode code 969 = .ok (.iaload, 1) := by decide +kernel
theorem d_Lw_law_970 : decode code 970 = .ok (.aload_n 0, 1) := by decide +kernel
theorem d_Lw_law_971 : decode code 971 = .ok (.iload_n 3, 1) := by decide +kernel
theorem d_Lw_law_972 : decode code 972 = .ok (.iconst 2, 1) := by decide +kernel
theorem d_Lw_law_973 : decode code 973 = .ok (.iadd, 1) := by decide +kernel
theorem d_Lw_law_974 : decode code 974 = .ok (.iaload, 1) := by decide +kernel
theorem d_Lw_law_975 : decode code 975 = .ok (.invokevirtual 109, 3) := by decide +kernel
theorem d_Lw_law_978 : decode code 978 = .ok (.pop, 1) := by decide +kernel
theorem d_Lw_law_979 : decode code 979 = .ok (.aload_n 2, 1) := by decide +kernel
theorem d_Lw_law_980 : decode code 980 = .ok (.aload_n 0, 1) := by decide +kernel
theorem d_Lw_law_981 : decode code 981 = .ok (.iload_n 3, 1) := by decide +kernel
theorem d_Lw_law_982 : decode code 982 = .ok (.iconst 1, 1) := by decide +kernel
theorem d_Lw_law_983 : decode code 983 = .ok (.iadd, 1) := by decide +kernel
theorem d_Lw_law_984 : decode code 984 = .ok (.iaload, 1) := by decide +kernel
theorem d_Lw_law_985 : decode code 985 = .ok (.aload_n 0, 1) := by decide +kernel
theorem d_Lw_law_986 : decode code 986 = .ok (.iload_n 3, 1) := by decide +kernel
theorem d_Lw_law_987 : decode code 987 = .ok (.iconst 2, 1) := by decide +kernel
theorem d_Lw_law_988 : decode code 988 = .ok (.iadd, 1) := by decide +kernel
theorem d_Lw_law_989 : decode code 989 = .ok (.iaload, 1) := by decide +kernel
theorem d_Lw_law_990 : decode code 990 = .ok (.invokevirtual 112, 3) := by decide +kernel
theorem d_Lw_law_993 : decode code 993 = .ok (.pop, 1) := by decide +kernel
theorem d_Lw_law_994 : decode code 994 = .ok (.goto 16, 3) := by decide +kernel
theorem d_Lw_law_997 : decode code 997 = .ok (.aload_n 1, 1) := by decide +kernel
theorem d_Lw_law_998 : decode code 998 = .ok (.invokevirtual 113, 3) := by decide +kernel
theorem d_Lw_law_1001 : decode code 1001 = .ok (.aload_n 2, 1) := by decide +kernel
theorem d_Lw_law_1002 : decode code 1002 = .ok (.invokevirtual 116, 3) := by decide +kernel
theorem d_Lw_law_1005 : decode code 1005 = .ok (.if_icmp .eq 5, 3) := by decide +kernel
theorem d_Lw_law_1008 : decode code 1008 = .ok (.iconst 0, 1) := by decide +kernel
theorem d_Lw_law_1009 : decode code 1009 = .ok (.ireturn, 1) := by decide +kernel
theorem d_Lw_law_1010 : decode code 1010 = .ok (.iinc 3 7, 3) := by decide +kernel
theorem d_Lw_law_1013 : decode code 1013 = .ok (.goto (-995), 3) := by decide +kernel
theorem d_Lw_law_1016 : decode code 1016 = .ok (.iconst 1, 1) := by decide +kernel
theorem d_Lw_law_1017 : decode code 1017 = .ok (.ireturn, 1) := by decide +kernel
end
section
-- ROWS OVER TYPED MEMORY
abbrev gt (cs : Nat → ClassId) : List (ClassId × FieldType) := [(cs 0, .int), (cs 1, .long), (cs 2, .object "FallingTerms$Loop"), (cs 3, .object "FallingTerms$Space"), (cs 4, .object "FallingTerms$Way")]
/-- what stays in a method: the machine, its code, the words, its class, the classes' places -/
abbrev gm_C (p : Program) (s : State) (m : MethodId) (args : Array Value) (c : Code) (D : va_G) (cs : Nat → ClassId) (cc : ByteArray) (own : String) : Prop :=
  p.tables.exec = Jvm.exec ∧ c.code = cc ∧ (∀ w ∈ tg, w.before args s = true) ∧ s.vm.findClass own = some m.cls ∧ va_K D vwC (gt cs) s ∧ tN s
/-- the memory now -/
abbrev gm_St (D : va_G) (cs : Nat → ClassId) (sh : gm_H) (A : Nat → Prop) (H0 : Heap) (sz : Nat) (I : gm_I) (J : gm_J) (H : Heap) (locs : List Loc) : Prop :=
  mw_P D vwC (gm_W cs sh I J) H ∧ va_S A H0 H locs ∧ H.size = sz ∧ ∀ q, gm_A sh q → A q
def gm_Pre (D : va_G) (cs : Nat → ClassId) (sh : gm_H) (sz : Nat) (I : gm_I) (J : gm_J) (av : List Value) : Array Value → State → Prop := va_Pc av (fun U => U.heap.size = sz ∧ mw_P D vwC (gm_W cs sh I J) U.heap ∧ va_K D vwC (gt cs) U ∧ tN U)
def gm_B (D : va_G) (cs : Nat → ClassId) (sh : gm_H) (sz : Nat) : gm_M → State → Prop := fun u t => t.heap.size = sz ∧ mw_P D vwC (gm_W cs sh u.1 u.2) t.heap
/-- a contract of a method that answers an int (a boolean), a long, nothing -/
abbrev CI (l : Launch) (y : MethodName) (ws : List Cond) (rm : Room) (D : va_G) (cs : Nat → ClassId) (sh : gm_H) (sz : Nat) (I : gm_I) (J : gm_J) (av : List Value) (post : Int32 → gm_M → Prop) : Prop :=
  Met l y ws rm (gm_Pre D cs sh sz I J av) (va_Qi post (gm_B D cs sh sz) (gm_A sh)) 0 0 (gm_A sh)
abbrev CL (l : Launch) (y : MethodName) (ws : List Cond) (rm : Room) (D : va_G) (cs : Nat → ClassId) (sh : gm_H) (sz : Nat) (I : gm_I) (J : gm_J) (av : List Value) (post : Int64 → gm_M → Prop) : Prop :=
  Met l y ws rm (gm_Pre D cs sh sz I J av) (va_Ql post (gm_B D cs sh sz) (gm_A sh)) 0 0 (gm_A sh)
abbrev CV (l : Launch) (y : MethodName) (ws : List Cond) (rm : Room) (D : va_G) (cs : Nat → ClassId) (sh : gm_H) (sz : Nat) (I : gm_I) (J : gm_J) (av : List Value) (post : gm_M → Prop) : Prop :=
  Met l y ws rm (gm_Pre D cs sh sz I J av) (va_Qv post (gm_B D cs sh sz) (gm_A sh)) 0 0 (gm_A sh)
theorem gm_blind {D : va_G} {cs : Nat → ClassId} {sh : gm_H} {sz : Nat} {I : gm_I} {J : gm_J} {av : List Value} : FrameBlind (gm_Pre D cs sh sz I J av) := by
  intro a U g mk q
  obtain ⟨q0, q1, q2, q3, q4⟩ := q
  exact ⟨q0, q1, q2, va_K.moved (u := U) (U := U.calling g mk a) (Vm.Alike.refl U.vm) q3, tN.same (u := U) (U := U.calling g mk a) rfl q4⟩
theorem gm_cvi {D : va_G} {cs : Nat → ClassId} {sh : gm_H} {I : gm_I} {J : gm_J} {a k : Nat} {v : Int32} {s : gm_S} {e : va_E} {H1 : Heap} (h : sh a = some s) (he : gm_e cs s (upd (I a) k v) (J a) = e) (hP : mw_P D vwC (mw_up (gm_W cs sh I J) a e) H1) : mw_P D vwC (gm_W cs sh (gm_up I a k v) J) H1 := (gm_W_i (k := k) (v := v) h he) ▸ hP
theorem gm_cvl {D : va_G} {cs : Nat → ClassId} {sh : gm_H} {I : gm_I} {J : gm_J} {a k : Nat} {v : Int64} {s : gm_S} {e : va_E} {H1 : Heap} (h : sh a = some s) (he : gm_e cs s (I a) (vp_updL (J a) k v) = e) (hP : mw_P D vwC (mw_up (gm_W cs sh I J) a e) H1) : mw_P D vwC (gm_W cs sh I (gm_up J a k v)) H1 := (gm_W_l (k := k) (v := v) h he) ▸ hP
section GM
variable {p : Program} {l : Launch} {e : Env} {R : Room} {s : State} {m : MethodId} {args : Array Value} {below : List Frame} {meth : Method} {c : Code} {H : Heap} {locs : List Loc} {cells slots : Nat} {Q : State → Prop}
variable {cc : ByteArray} {pc : Nat} {ls : Array Slot} {rest : List Value} {D : va_G} {a : Nat} {cs : Nat → ClassId} {sh : gm_H} {I : gm_I} {J : gm_J} {H0 : Heap} {A : Nat → Prop} {sz : Nat} {own : String}
theorem gm_eqi {x y : Int32} (h : x = y) (kk : W p l e R s m args below meth c H locs cells slots Q (F0 m pc ls (.int y :: rest))) : W p l e R s m args below meth c H locs cells slots Q (F0 m pc ls (.int x :: rest)) := h ▸ kk
theorem gm_eql {x y : Int64} (h : x = y) (kk : W p l e R s m args below meth c H locs cells slots Q (F0 m pc ls (.long y :: rest))) : W p l e R s m args below meth c H locs cells slots Q (F0 m pc ls (.long x :: rest)) := h ▸ kk
section FG
variable {ci N index : Nat} {sl : List (Nat ⊕ Value)} {Cn ref host : String} {T : u_T}
theorem gg_i (C : gm_C p s m args c D cs cc own) (h : gm_St D cs sh A H0 sz I J H locs) (hs : sh a = some (.inl (ci, sl))) (hc : vwC[ci]? = some (Cn, T, N)) (hin : ∀ w ∈ u_ws Cn T N, w ∈ tg) (k : Nat) (hk : k < N) (hl : sl[k]? = some (.inl 0)) (hlink : Cond.fieldLink own index ref (T k).2.1 (T k).2.2.1 ∈ tg) (href : (T k).1 = ref) (hdg : decode cc pc = .ok (.getfield index, 3))
    (kk : W p l e R s m args below meth c H locs cells slots Q (F0 m (pc + 3) ls (.int (I a k) :: rest))) : W p l e R s m args below meth c H locs cells slots Q (F0 m pc ls (.ref a :: rest)) :=
  mw_get C.1 C.2.1 C.2.2.1 hin C.2.2.2.1 C.2.2.2.2.1 h.1 (gm_W_at hs) hc k hk (C.2.2.1 _ hlink) (fun x hx => href ▸ hx) (gm_fs_get hl) hdg kk
theorem gg_l (C : gm_C p s m args c D cs cc own) (h : gm_St D cs sh A H0 sz I J H locs) (hs : sh a = some (.inl (ci, sl))) (hc : vwC[ci]? = some (Cn, T, N)) (hin : ∀ w ∈ u_ws Cn T N, w ∈ tg) (k : Nat) (hk : k < N) (hl : sl[k]? = some (.inl 1)) (hlink : Cond.fieldLink own index ref (T k).2.1 (T k).2.2.1 ∈ tg) (href : (T k).1 = ref) (hdg : decode cc pc = .ok (.getfield index, 3))
    (kk : W p l e R s m args below meth c H locs cells slots Q (F0 m (pc + 3) ls (.long (J a k) :: rest))) : W p l e R s m args below meth c H locs cells slots Q (F0 m pc ls (.ref a :: rest)) :=
  mw_get C.1 C.2.1 C.2.2.1 hin C.2.2.2.1 C.2.2.2.2.1 h.1 (gm_W_at hs) hc k hk (C.2.2.1 _ hlink) (fun x hx => href ▸ hx) (gm_fs_get hl) hdg kk
theorem gg_r (C : gm_C p s m args c D cs cc own) (h : gm_St D cs sh A H0 sz I J H locs) (hs : sh a = some (.inl (ci, sl))) (hc : vwC[ci]? = some (Cn, T, N)) (hin : ∀ w ∈ u_ws Cn T N, w ∈ tg) (k : Nat) (hk : k < N) {v : Value} (hl : sl[k]? = some (.inr v)) (hlink : Cond.fieldLink own index ref (T k).2.1 (T k).2.2.1 ∈ tg) (href : (T k).1 = ref) (hdg : decode cc pc = .ok (.getfield index, 3))
    (kk : W p l e R s m args below meth c H locs cells slots Q (F0 m (pc + 3) ls (v :: rest))) : W p l e R s m args below meth c H locs cells slots Q (F0 m pc ls (.ref a :: rest)) :=
  mw_get C.1 C.2.1 C.2.2.1 hin C.2.2.2.1 C.2.2.2.2.1 h.1 (gm_W_at hs) hc k hk (C.2.2.1 _ hlink) (fun x hx => href ▸ hx) (gm_fs_get hl) hdg kk
theorem gn_i (C : gm_C p s m args c D cs cc own) (h : gm_St D cs sh A H0 sz I J H locs) (hs : sh a = some (.inl (ci, sl))) (hc : vwC[ci]? = some (Cn, T, N)) (hin : ∀ w ∈ u_ws Cn T N, w ∈ tg) (k : Nat) (hk : k < N) (hl : sl[k]? = some (.inl 0)) (hlink : Cond.fieldLinkNest own index ref (T k).2.1 (T k).2.2.1 host ∈ tn) (href : (T k).1 = ref) (hdg : decode cc pc = .ok (.getfield index, 3))
    (kk : W p l e R s m args below meth c H locs cells slots Q (F0 m (pc + 3) ls (.int (I a k) :: rest))) : W p l e R s m args below meth c H locs cells slots Q (F0 m pc ls (.ref a :: rest)) :=
  mw_getN C.1 C.2.1 C.2.2.1 hin C.2.2.2.1 C.2.2.2.2.1 h.1 (gm_W_at hs) hc k hk (va_Nw.use rfl (C.2.2.2.2.2 _ hlink)) (fun x hx => href ▸ hx) (gm_fs_get hl) hdg kk
theorem gn_l (C : gm_C p s m args c D cs cc own) (h : gm_St D cs sh A H0 sz I J H locs) (hs : sh a = some (.inl (ci, sl))) (hc : vwC[ci]? = some (Cn, T, N)) (hin : ∀ w ∈ u_ws Cn T N, w ∈ tg) (k : Nat) (hk : k < N) (hl : sl[k]? = some (.inl 1)) (hlink : Cond.fieldLinkNest own index ref (T k).2.1 (T k).2.2.1 host ∈ tn) (href : (T k).1 = ref) (hdg : decode cc pc = .ok (.getfield index, 3))
    (kk : W p l e R s m args below meth c H locs cells slots Q (F0 m (pc + 3) ls (.long (J a k) :: rest))) : W p l e R s m args below meth c H locs cells slots Q (F0 m pc ls (.ref a :: rest)) :=
  mw_getN C.1 C.2.1 C.2.2.1 hin C.2.2.2.1 C.2.2.2.2.1 h.1 (gm_W_at hs) hc k hk (va_Nw.use rfl (C.2.2.2.2.2 _ hlink)) (fun x hx => href ▸ hx) (gm_fs_get hl) hdg kk
theorem gn_r (C : gm_C p s m args c D cs cc own) (h : gm_St D cs sh A H0 sz I J H locs) (hs : sh a = some (.inl (ci, sl))) (hc : vwC[ci]? = some (Cn, T, N)) (hin : ∀ w ∈ u_ws Cn T N, w ∈ tg) (k : Nat) (hk : k < N) {v : Value} (hl : sl[k]? = some (.inr v)) (hlink : Cond.fieldLinkNest own index ref (T k).2.1 (T k).2.2.1 host ∈ tn) (href : (T k).1 = ref) (hdg : decode cc pc = .ok (.getfield index, 3))
    (kk : W p l e R s m args below meth c H locs cells slots Q (F0 m (pc + 3) ls (v :: rest))) : W p l e R s m args below meth c H locs cells slots Q (F0 m pc ls (.ref a :: rest)) :=
  mw_getN C.1 C.2.1 C.2.2.1 hin C.2.2.2.1 C.2.2.2.2.1 h.1 (gm_W_at hs) hc k hk (va_Nw.use rfl (C.2.2.2.2.2 _ hlink)) (fun x hx => href ▸ hx) (gm_fs_get hl) hdg kk
theorem gp_i (C : gm_C p s m args c D cs cc own) (h : gm_St D cs sh A H0 sz I J H locs) (hs : sh a = some (.inl (ci, sl))) (hc : vwC[ci]? = some (Cn, T, N)) (hin : ∀ w ∈ u_ws Cn T N, w ∈ tg) (ty0 : Nat → FieldType) (hty : ∀ k, k < N → parseFieldDescriptor (T k).2.2.1 = some (ty0 k)) (hnm : ∀ a, a < N → ∀ b, b < N → a ≠ b → (T a).2.1 ≠ (T b).2.1) (k : Nat) (hk : k < N) (hl : sl[k]? = some (.inl 0)) (hlink : Cond.fieldLink own index ref (T k).2.1 (T k).2.2.1 ∈ tg) (href : (T k).1 = ref) (hfin : (T k).2.2.2 = false) {ty : FieldType} {v : Int32} (hd : parseFieldDescriptor (T k).2.2.1 = some ty) (hn : narrow ty (.int v) = .int v) (hfit : fits ty (.int v) = true) (hdg : decode cc pc = .ok (.putfield index, 3))
    (kk : ∀ (H1 : Heap) (locs1 : List Loc), gm_St D cs sh A H0 sz (gm_up I a k v) J H1 locs1 → W p l e R s m args below meth c H1 locs1 cells slots Q (F0 m (pc + 3) ls rest)) : W p l e R s m args below meth c H locs cells slots Q (F0 m pc ls (.int v :: .ref a :: rest)) :=
  mw_put C.1 C.2.1 C.2.2.1 hin ty0 hty hnm C.2.2.2.1 C.2.2.2.2.1 h.1 h.2.1 (gm_W_at hs) (h.2.2.2 a ⟨_, hs⟩) hc k hk (C.2.2.1 _ hlink) (fun x hx => href ▸ hx) hfin hd hn hfit (by rw [gm_fs, List.length_mapIdx]; exact (List.getElem?_eq_some_iff.mp hl).1) hdg
    (fun H1 locs1 hP hS hz => kk H1 locs1 ⟨by rw [gm_fs_seti hl v] at hP; exact gm_cvi hs rfl hP, hS, hz.trans h.2.2.1, h.2.2.2⟩)
theorem gp_l (C : gm_C p s m args c D cs cc own) (h : gm_St D cs sh A H0 sz I J H locs) (hs : sh a = some (.inl (ci, sl))) (hc : vwC[ci]? = some (Cn, T, N)) (hin : ∀ w ∈ u_ws Cn T N, w ∈ tg) (ty0 : Nat → FieldType) (hty : ∀ k, k < N → parseFieldDescriptor (T k).2.2.1 = some (ty0 k)) (hnm : ∀ a, a < N → ∀ b, b < N → a ≠ b → (T a).2.1 ≠ (T b).2.1) (k : Nat) (hk : k < N) (hl : sl[k]? = some (.inl 1)) (hlink : Cond.fieldLink own index ref (T k).2.1 (T k).2.2.1 ∈ tg) (href : (T k).1 = ref) (hfin : (T k).2.2.2 = false) {v : Int64} (hd : parseFieldDescriptor (T k).2.2.1 = some .long) (hdg : decode cc pc = .ok (.putfield index, 3))
    (kk : ∀ (H1 : Heap) (locs1 : List Loc), gm_St D cs sh A H0 sz I (gm_up J a k v) H1 locs1 → W p l e R s m args below meth c H1 locs1 cells slots Q (F0 m (pc + 3) ls rest)) : W p l e R s m args below meth c H locs cells slots Q (F0 m pc ls (.long v :: .ref a :: rest)) :=
  mw_put C.1 C.2.1 C.2.2.1 hin ty0 hty hnm C.2.2.2.1 C.2.2.2.2.1 h.1 h.2.1 (gm_W_at hs) (h.2.2.2 a ⟨_, hs⟩) hc k hk (C.2.2.1 _ hlink) (fun x hx => href ▸ hx) hfin hd rfl rfl (by rw [gm_fs, List.length_mapIdx]; exact (List.getElem?_eq_some_iff.mp hl).1) hdg
    (fun H1 locs1 hP hS hz => kk H1 locs1 ⟨by rw [gm_fs_setl hl v] at hP; exact gm_cvl hs rfl hP, hS, hz.trans h.2.2.1, h.2.2.2⟩)
theorem gq_i (C : gm_C p s m args c D cs cc own) (h : gm_St D cs sh A H0 sz I J H locs) (hs : sh a = some (.inl (ci, sl))) (hc : vwC[ci]? = some (Cn, T, N)) (hin : ∀ w ∈ u_ws Cn T N, w ∈ tg) (ty0 : Nat → FieldType) (hty : ∀ k, k < N → parseFieldDescriptor (T k).2.2.1 = some (ty0 k)) (hnm : ∀ a, a < N → ∀ b, b < N → a ≠ b → (T a).2.1 ≠ (T b).2.1) (k : Nat) (hk : k < N) (hl : sl[k]? = some (.inl 0)) (hlink : Cond.fieldLinkNest own index ref (T k).2.1 (T k).2.2.1 host ∈ tn) (href : (T k).1 = ref) (hfin : (T k).2.2.2 = false) {ty : FieldType} {v : Int32} (hd : parseFieldDescriptor (T k).2.2.1 = some ty) (hn : narrow ty (.int v) = .int v) (hfit : fits ty (.int v) = true) (hdg : decode cc pc = .ok (.putfield index, 3))
    (kk : ∀ (H1 : Heap) (locs1 : List Loc), gm_St D cs sh A H0 sz (gm_up I a k v) J H1 locs1 → W p l e R s m args below meth c H1 locs1 cells slots Q (F0 m (pc + 3) ls rest)) : W p l e R s m args below meth c H locs cells slots Q (F0 m pc ls (.int v :: .ref a :: rest)) :=
  mw_putN C.1 C.2.1 C.2.2.1 hin ty0 hty hnm C.2.2.2.1 C.2.2.2.2.1 h.1 h.2.1 (gm_W_at hs) (h.2.2.2 a ⟨_, hs⟩) hc k hk (va_Nw.use rfl (C.2.2.2.2.2 _ hlink)) (fun x hx => href ▸ hx) hfin hd hn hfit (by rw [gm_fs, List.length_mapIdx]; exact (List.getElem?_eq_some_iff.mp hl).1) hdg
    (fun H1 locs1 hP hS hz => kk H1 locs1 ⟨by rw [gm_fs_seti hl v] at hP; exact gm_cvi hs rfl hP, hS, hz.trans h.2.2.1, h.2.2.2⟩)
end FG
theorem ga_i (C : gm_C p s m args c D cs cc own) (h : gm_St D cs sh A H0 sz I J H locs) {n : Nat} (hs : sh a = some (.inr (.inl n))) {i : Int32} {k : Nat} (hi : i = nI k) (hk : k < n) (hn : n < 2 ^ 31) (hdg : decode cc pc = .ok (.iaload, 1))
    (kk : W p l e R s m args below meth c H locs cells slots Q (F0 m (pc + 1) ls (.int (I a k) :: rest))) : W p l e R s m args below meth c H locs cells slots Q (F0 m pc ls (.int i :: .ref a :: rest)) := by
  subst hi
  refine mw_iald C.1 C.2.1 C.2.2.2.2.1 h.1 0 (gm_W_at hs) rfl (vp_in_nI hk hn) hdg ?_
  rw [nI_clamp (by omega)]
  exact kk
theorem ga_l (C : gm_C p s m args c D cs cc own) (h : gm_St D cs sh A H0 sz I J H locs) {n : Nat} (hs : sh a = some (.inr (.inr (.inl n)))) {i : Int32} {k : Nat} (hi : i = nI k) (hk : k < n) (hn : n < 2 ^ 31) (hdg : decode cc pc = .ok (.laload, 1))
    (kk : W p l e R s m args below meth c H locs cells slots Q (F0 m (pc + 1) ls (.long (J a k) :: rest))) : W p l e R s m args below meth c H locs cells slots Q (F0 m pc ls (.int i :: .ref a :: rest)) := by
  subst hi
  refine mw_lald C.1 C.2.1 C.2.2.2.2.1 h.1 1 (gm_W_at hs) rfl (vp_in_nI hk hn) hdg ?_
  rw [nI_clamp (by omega)]
  exact kk
theorem ga_q (C : gm_C p s m args c D cs cc own) (h : gm_St D cs sh A H0 sz I J H locs) (t0 : Nat) {cA : ClassId} {Cn : String} {n : Nat} {f : Nat → Option Nat} (hs : sh a = some (.inr (.inr (.inr (cA, n, f))))) (ht : (gt cs)[t0]? = some (cA, .object Cn)) {i : Int32} {k v : Nat} (hi : i = nI k) (hk : k < n) (hn : n < 2 ^ 31) (hv : f k = some v) (hdg : decode cc pc = .ok (.aaload, 1))
    (kk : W p l e R s m args below meth c H locs cells slots Q (F0 m (pc + 1) ls (.ref v :: rest))) : W p l e R s m args below meth c H locs cells slots Q (F0 m pc ls (.int i :: .ref a :: rest)) := by
  subst hi
  exact mw_aldq C.1 C.2.1 C.2.2.2.2.1 h.1 t0 (gm_W_at hs) ht (vp_in_nI hk hn) hdg (by rw [nI_clamp (by omega)]; exact hv) kk
theorem gs_i (C : gm_C p s m args c D cs cc own) (h : gm_St D cs sh A H0 sz I J H locs) {n : Nat} (hs : sh a = some (.inr (.inl n))) {i x : Int32} {k : Nat} (hi : i = nI k) (hk : k < n) (hn : n < 2 ^ 31) (hdg : decode cc pc = .ok (.iastore, 1))
    (kk : ∀ (H1 : Heap) (locs1 : List Loc), gm_St D cs sh A H0 sz (gm_up I a k x) J H1 locs1 → W p l e R s m args below meth c H1 locs1 cells slots Q (F0 m (pc + 1) ls rest)) : W p l e R s m args below meth c H locs cells slots Q (F0 m pc ls (.int x :: .int i :: .ref a :: rest)) := by
  subst hi
  refine mw_iast C.1 C.2.1 C.2.2.2.2.1 h.1 h.2.1 0 (gm_W_at hs) (h.2.2.2 a ⟨_, hs⟩) rfl (vp_in_nI hk hn) hdg fun H1 locs1 hP hS hz => kk H1 locs1 ⟨?_, hS, hz.trans h.2.2.1, h.2.2.2⟩
  rw [nI_clamp (by omega)] at hP
  exact gm_cvi hs rfl hP
theorem gs_l (C : gm_C p s m args c D cs cc own) (h : gm_St D cs sh A H0 sz I J H locs) {n : Nat} (hs : sh a = some (.inr (.inr (.inl n)))) {i : Int32} {x : Int64} {k : Nat} (hi : i = nI k) (hk : k < n) (hn : n < 2 ^ 31) (hdg : decode cc pc = .ok (.lastore, 1))
    (kk : ∀ (H1 : Heap) (locs1 : List Loc), gm_St D cs sh A H0 sz I (gm_up J a k x) H1 locs1 → W p l e R s m args below meth c H1 locs1 cells slots Q (F0 m (pc + 1) ls rest)) : W p l e R s m args below meth c H locs cells slots Q (F0 m pc ls (.long x :: .int i :: .ref a :: rest)) := by
  subst hi
  refine mw_last C.1 C.2.1 C.2.2.2.2.1 h.1 h.2.1 1 (gm_W_at hs) (h.2.2.2 a ⟨_, hs⟩) rfl (vp_in_nI hk hn) hdg fun H1 locs1 hP hS hz => kk H1 locs1 ⟨?_, hS, hz.trans h.2.2.1, h.2.2.2⟩
  rw [nI_clamp (by omega)] at hP
  exact gm_cvl hs rfl hP
section FC
variable {nL n index maxL ci N b : Nat} {sl : List (Nat ⊕ Value)} {Cn host : String} {T : u_T} {y : MethodName} {bytes : ByteArray} {ret : Option FieldType} {rm : Room} {As st0 : List Value}
/-- a call's own conditions: its receiver, its room, its stack -/
abbrev gc_R (R : Room) (rm : Room) (maxL cells slots : Nat) : Prop := rm.cells = 0 ∧ rm.slots = 0 ∧ rm.frames + 1 ≤ R.frames ∧ 8 + (maxL + 11) + rm.locals ≤ R.locals ∧ cells ≤ R.cells ∧ slots ≤ R.slots
theorem gc_pre (C : gm_C p s m args c D cs cc own) (h : gm_St D cs sh A H0 sz I J H locs) : ∀ U : State, U.heap = H → s.WarmedH U.vm → gm_Pre D cs sh sz I J As As.toArray U := fun U hU hW => ⟨rfl, by rw [hU]; exact h.2.2.1, by rw [hU]; exact h.1, va_K.moved hW.alike C.2.2.2.2.1, C.2.2.2.2.2.warm hW⟩
theorem gc_back {u : gm_M} {t : State} {H1 : Heap} {locs1 : List Loc} (h : gm_St D cs sh A H0 sz I J H locs) (ht : t.heap = H1) (hB : gm_B D cs sh sz u t) (hS : va_S A H0 H1 locs1) : gm_St D cs sh A H0 sz u.1 u.2 H1 locs1 := ⟨by rw [← ht]; exact hB.2, hS, by rw [← ht]; exact hB.1, h.2.2.2⟩
theorem gc_runV (C : gm_C p s m args c D cs cc own) (hml : c.maxLocals = nL) (h : gm_St D cs sh A H0 sz I J H locs) {Qc : Array Value → State → Outcome → State → Prop} (hM : Met l y (wU y bytes maxL ret) rm (gm_Pre D cs sh sz I J (.ref b :: As)) Qc 0 0 (gm_A sh)) (hT : GoodIn tg (wsV own index Cn y (wU y bytes maxL ret)))
    (hd : y.cls = Cn ∧ y.cls ≠ "java/lang/invoke/MethodHandle" ∧ y.cls ≠ "java/lang/invoke/VarHandle" ∧ (parseMethodDescriptor y.desc).map (fun d => d.parameters.length) = some n) (hR : gc_R R rm maxL cells slots) (hs : sh b = some (.inl (ci, sl))) (hc : vwC[ci]? = some (Cn, T, N)) (hn : As.length = n) (hsize : ls.size = nL) (hst : st0 = As.reverse ++ .ref b :: rest) (hW : (rest.map fun v => v.category).sum ≤ 8) (hdg : decode cc pc = .ok (.invokevirtual index, 3)) :
    va_Run p l e R s m args below meth c H locs cells slots 0 0 (F0 m pc ls st0) rest (Qc (Value.ref b :: As).toArray) (gm_A sh) := by
  subst hst
  exact va_runV (As := As) (rest := rest) ⟨C.1, C.2.1, hml, C.2.2.2.1, C.2.2.1⟩ hM (cwV n C.2.2.1 hT rfl hR.1 hR.2.1 hd ⟨hR.2.2.1, hR.2.2.2.1⟩) ⟨gm_blind, va_recv (q := (Cn, T, N)) C.2.2.2.2.1 (h.1.one (gm_W_at hs)) hc (q0 := 0) rfl, gc_pre C h⟩ rfl hn hsize rfl (lv_room hW) hdg ⟨hR.2.2.2.2.1, hR.2.2.2.2.2⟩
theorem gc_runS (C : gm_C p s m args c D cs cc own) (hml : c.maxLocals = nL) (h : gm_St D cs sh A H0 sz I J H locs) {Qc : Array Value → State → Outcome → State → Prop} (hM : Met l y (wU y bytes maxL ret) rm (gm_Pre D cs sh sz I J As) Qc 0 0 (gm_A sh)) (hT : GoodIn tg (wsS own index y (wU y bytes maxL ret)))
    (hd : y.cls = own ∧ y.cls ≠ "java/lang/invoke/MethodHandle" ∧ y.cls ≠ "java/lang/invoke/VarHandle" ∧ (parseMethodDescriptor y.desc).map (fun d => d.parameters.length) = some n) (hR : gc_R R rm maxL cells slots) (hn : As.length = n) (hsize : ls.size = nL) (hst : st0 = As.reverse ++ rest) (hW : (rest.map fun v => v.category).sum ≤ 8) (hdg : decode cc pc = .ok (.invokestatic index, 3)) :
    va_Run p l e R s m args below meth c H locs cells slots 0 0 (F0 m pc ls st0) rest (Qc As.toArray) (gm_A sh) := by
  subst hst
  exact va_runS (As := As) (rest := rest) ⟨C.1, C.2.1, hml, C.2.2.2.1, C.2.2.1⟩ hM (cwS n C.2.2.1 hT rfl hR.1 hR.2.1 hd ⟨hR.2.2.1, hR.2.2.2.1⟩) ⟨gm_blind, gc_pre C h⟩ rfl hn hsize rfl (lv_room hW) hdg ⟨hR.2.2.2.2.1, hR.2.2.2.2.2⟩
variable {av : Array Value}
theorem gc_i {post : Int32 → gm_M → Prop} (h : gm_St D cs sh A H0 sz I J H locs) (hr : va_Run p l e R s m args below meth c H locs cells slots 0 0 (F0 m pc ls st0) rest (va_Qi post (gm_B D cs sh sz) (gm_A sh) av) (gm_A sh))
    (kk : ∀ (r : Int32) (I1 : gm_I) (J1 : gm_J) (H1 : Heap) (locs1 : List Loc), post r (I1, J1) → gm_St D cs sh A H0 sz I1 J1 H1 locs1 → W p l e R s m args below meth c H1 locs1 cells slots Q (F0 m (pc + 3) ls (.int r :: rest))) : W p l e R s m args below meth c H locs cells slots Q (F0 m pc ls st0) :=
  va_calli hr h.2.1 (fun q _ hq => h.2.2.2 q hq) (fun q hq => h.2.2.2 q hq) (fun r u t H1 locs1 ht _ hw hB _ _ hS => kk r u.1 u.2 H1 locs1 hw (gc_back h ht hB hS))
theorem gc_l {post : Int64 → gm_M → Prop} (h : gm_St D cs sh A H0 sz I J H locs) (hr : va_Run p l e R s m args below meth c H locs cells slots 0 0 (F0 m pc ls st0) rest (va_Ql post (gm_B D cs sh sz) (gm_A sh) av) (gm_A sh))
    (kk : ∀ (r : Int64) (I1 : gm_I) (J1 : gm_J) (H1 : Heap) (locs1 : List Loc), post r (I1, J1) → gm_St D cs sh A H0 sz I1 J1 H1 locs1 → W p l e R s m args below meth c H1 locs1 cells slots Q (F0 m (pc + 3) ls (.long r :: rest))) : W p l e R s m args below meth c H locs cells slots Q (F0 m pc ls st0) :=
  va_calll hr h.2.1 (fun q _ hq => h.2.2.2 q hq) (fun q hq => h.2.2.2 q hq) (fun r u t H1 locs1 ht _ hw hB _ _ hS => kk r u.1 u.2 H1 locs1 hw (gc_back h ht hB hS))
theorem gc_v {post : gm_M → Prop} (h : gm_St D cs sh A H0 sz I J H locs) (hr : va_Run p l e R s m args below meth c H locs cells slots 0 0 (F0 m pc ls st0) rest (va_Qv post (gm_B D cs sh sz) (gm_A sh) av) (gm_A sh))
    (kk : ∀ (I1 : gm_I) (J1 : gm_J) (H1 : Heap) (locs1 : List Loc), post (I1, J1) → gm_St D cs sh A H0 sz I1 J1 H1 locs1 → W p l e R s m args below meth c H1 locs1 cells slots Q (F0 m (pc + 3) ls rest)) : W p l e R s m args below meth c H locs cells slots Q (F0 m pc ls st0) :=
  va_callv hr h.2.1 (fun q _ hq => h.2.2.2 q hq) (fun q hq => h.2.2.2 q hq) (fun u t H1 locs1 ht _ hw hB _ _ hS => kk u.1 u.2 H1 locs1 hw (gc_back h ht hB hS))
end FC
section FR
variable {av : Array Value} {free : Addr → Prop}
theorem gr_i {post : Int32 → gm_M → Prop} (C : gm_C p s m args c D cs cc own) (hlk : meth.locks = false) {ty : FieldType} (hr : meth.sig.returnType = some ty) {v : Int32} (hn : narrow ty (.int v) = .int v) (h : gm_St D cs sh (gm_A sh) s.heap sz I J H locs) (hp : post v (I, J)) (hdg : decode cc pc = .ok (.ireturn, 1)) :
    W p l e R s m args below meth c H locs cells slots (MQ below (va_Qi post (gm_B D cs sh sz) (gm_A sh)) args s cells slots (gm_A sh)) (F0 m pc ls [.int v]) :=
  W.zret C.1 C.2.1 hr hn (fun t ht _ => ⟨⟨v, (I, J), rfl, hp, by rw [ht]; exact h.2.2.1, by rw [ht]; exact h.1⟩, h.2.1.F ht⟩) h.2.1.2.2 hdg hlk
theorem gr_l {post : Int64 → gm_M → Prop} (C : gm_C p s m args c D cs cc own) (hlk : meth.locks = false) (hr : meth.sig.returnType = some .long) {v : Int64} (h : gm_St D cs sh (gm_A sh) s.heap sz I J H locs) (hp : post v (I, J)) (hdg : decode cc pc = .ok (.lreturn, 1)) :
    W p l e R s m args below meth c H locs cells slots (MQ below (va_Ql post (gm_B D cs sh sz) (gm_A sh)) args s cells slots (gm_A sh)) (F0 m pc ls [.long v]) :=
  W.lret C.1 C.2.1 hr (fun t ht _ => ⟨⟨v, (I, J), rfl, hp, by rw [ht]; exact h.2.2.1, by rw [ht]; exact h.1⟩, h.2.1.F ht⟩) h.2.1.2.2 hdg hlk
theorem gr_v {post : gm_M → Prop} (C : gm_C p s m args c D cs cc own) (hlk : meth.locks = false) (hr : meth.sig.returnType = none) (h : gm_St D cs sh (gm_A sh) s.heap sz I J H locs) (hp : post (I, J)) (hdg : decode cc pc = .ok (.return_, 1)) :
    W p l e R s m args below meth c H locs cells slots (MQ below (va_Qv post (gm_B D cs sh sz) (gm_A sh)) args s cells slots (gm_A sh)) (F0 m pc ls []) :=
  W.vret C.1 C.2.1 hr (fun t ht _ => ⟨⟨(I, J), rfl, hp, by rw [ht]; exact h.2.2.1, by rw [ht]; exact h.1⟩, h.2.1.F ht⟩) h.2.1.2.2 hdg hlk
end FR
end GM
/-- from a contract's start to its walk -/
theorem gm_start {l : Launch} {y : MethodName} {cc : ByteArray} {maxL : Nat} {ret : Option FieldType} {rm : Room} {D : va_G} {cs : Nat → ClassId} {sh : gm_H} {sz : Nat} {I : gm_I} {J : gm_J} {av : List Value} {Qc : Array Value → State → Outcome → State → Prop} (hy : plainName y.cls = true) (hlen : (lg_sl av).length ≤ maxL)
    (body : ∀ (p : Program) (e : Env) (s : State) (m : MethodId) (below : List Frame) (meth : Method) (c : Code) (ls : Array Slot), gm_C p s m av.toArray c D cs cc y.cls → c.maxLocals = maxL → meth.locks = false → meth.sig.returnType = ret → gm_St D cs sh (gm_A sh) s.heap sz I J s.heap [] → lv_has ls maxL (lv_args 0 av) →
      W p l e rm s m av.toArray below meth c s.heap [] 0 0 (MQ below Qc av.toArray s 0 0 (gm_A sh)) (F0 m 0 ls [])) : Met l y (wU y cc maxL ret) rm (gm_Pre D cs sh sz I J av) Qc 0 0 (gm_A sh) := by
  refine Met.ofW (cc := cc) (maxL := maxL) (ret := ret) hy rfl ?_
  intro p e s m args below meth c s₁ B hml hv
  obtain ⟨rfl, hsz, hP, hK, hN⟩ := hv
  have hts := atoms_spec (ws := wU y cc maxL ret) B.pre
  have hown : s.vm.findClass y.cls = some m.cls := findClass_of_methodNamed B.named
  rw [lg_entry_eq]
  exact body p e s m below meth c _ ⟨B.exec, B.bytes, fun w hw => hts w (List.mem_cons_of_mem _ hw), hown, hK, hN⟩ hml B.notSynchronized B.returns ⟨hP, va_S.rf, hsz, fun _ h => h⟩ (lv_entry av hlen)
-- comparisons of numbers in the form nI
theorem gm_inc (k j : Nat) : nI k + Int32.ofInt (j : Int) = nI (k + j) := by
  show nI k + nI j = nI (k + j)
  exact nI_add k j
theorem gm_eqt {a b : Nat} (ha : a < 2 ^ 31) (hb : b < 2 ^ 31) (h : nI a = nI b) : a = b := (nI_eq ha hb).mp h
theorem gm_eqf {a b : Nat} (ha : a < 2 ^ 31) (hb : b < 2 ^ 31) (h : ¬ nI a = nI b) : ¬ a = b := fun q => h (by rw [q])
theorem gm_net {a b : Nat} (ha : a < 2 ^ 31) (hb : b < 2 ^ 31) (h : ¬ nI a = nI b) : ¬ a = b := fun q => h (by rw [q])
theorem gm_nef {a b : Nat} (ha : a < 2 ^ 31) (hb : b < 2 ^ 31) (h : nI a = nI b) : a = b := (nI_eq ha hb).mp h
theorem gm_ltt {a b : Nat} (ha : a < 2 ^ 31) (hb : b < 2 ^ 31) (h : nI a < nI b) : a < b := (nI_ltI ha hb).mp h
theorem gm_ltf {a b : Nat} (ha : a < 2 ^ 31) (hb : b < 2 ^ 31) (h : ¬ nI a < nI b) : b ≤ a := Nat.not_lt.mp fun q => h ((nI_ltI ha hb).mpr q)
theorem gm_get {a b : Nat} (ha : a < 2 ^ 31) (hb : b < 2 ^ 31) (h : nI b ≤ nI a) : b ≤ a := (nI_leI hb ha).mp h
theorem gm_gef {a b : Nat} (ha : a < 2 ^ 31) (hb : b < 2 ^ 31) (h : ¬ nI b ≤ nI a) : a < b := Nat.not_le.mp fun q => h ((nI_leI hb ha).mpr q)
theorem gm_gtt {a b : Nat} (ha : a < 2 ^ 31) (hb : b < 2 ^ 31) (h : nI b < nI a) : b < a := (nI_ltI hb ha).mp h
theorem gm_gtf {a b : Nat} (ha : a < 2 ^ 31) (hb : b < 2 ^ 31) (h : ¬ nI b < nI a) : a ≤ b := Nat.not_lt.mp fun q => h ((nI_ltI hb ha).mpr q)
theorem gm_let {a b : Nat} (ha : a < 2 ^ 31) (hb : b < 2 ^ 31) (h : nI a ≤ nI b) : a ≤ b := (nI_leI ha hb).mp h
theorem gm_lef {a b : Nat} (ha : a < 2 ^ 31) (hb : b < 2 ^ 31) (h : ¬ nI a ≤ nI b) : b < a := Nat.not_le.mp fun q => h ((nI_leI ha hb).mpr q)
theorem gm_nb {v : Int32} (h : v = 0 ∨ v = 1) : narrow .boolean (.int v) = .int v := by
  rcases h with rfl | rfl <;> decide
theorem gm_fb {v : Int32} (h : v = 0 ∨ v = 1) : fits .boolean (.int v) = true := by
  rcases h with rfl | rfl <;> decide
theorem gm_lltt {x y : Int64} (h : lg_cmp x y < 0) : x < y := by
  have := lg_cmp_ge x y
  rw [Int32.lt_iff_toInt_lt] at h
  rw [Int32.le_iff_toInt_le] at this
  rw [Int64.lt_iff_toInt_lt]
  rw [Int64.le_iff_toInt_le] at this
  have h2 : ¬ (0 : Int32).toInt ≤ (lg_cmp x y).toInt := by omega
  have := mt this.mpr h2
  omega
theorem gm_lltf {x y : Int64} (h : ¬ lg_cmp x y < 0) : y ≤ x := (lg_cmp_ge x y).mp (Int32.not_lt.mp h)
theorem gm_lget {x y : Int64} (h : 0 ≤ lg_cmp x y) : y ≤ x := (lg_cmp_ge x y).mp h
theorem gm_lgef {x y : Int64} (h : ¬ 0 ≤ lg_cmp x y) : x < y := gm_lltt (Int32.not_le.mp h)
theorem gm_leqt {x y : Int64} (h : lg_cmp x y = 0) : x = y := by
  unfold lg_cmp at h
  split at h
  · exact absurd h (by decide)
  · split at h
    · assumption
    · exact absurd h (by decide)
theorem gm_leqf {x y : Int64} (h : ¬ lg_cmp x y = 0) : ¬ x = y := by
  intro q
  subst q
  exact h (by simp [lg_cmp])
theorem gm_lnet {x y : Int64} (h : ¬ lg_cmp x y = 0) : ¬ x = y := gm_leqf h
theorem gm_lnef {x y : Int64} (h : lg_cmp x y = 0) : x = y := gm_leqt h
theorem gm_lgtt {x y : Int64} (h : 0 < lg_cmp x y) : y < x := by
  unfold lg_cmp at h
  split at h
  · assumption
  · split at h
    · exact absurd h (by decide)
    · exact absurd h (by decide)
theorem gm_lgtf {x y : Int64} (h : ¬ 0 < lg_cmp x y) : ¬ y < x := fun q => h (by unfold lg_cmp; rw [if_pos q]; decide)
theorem gm_llet {x y : Int64} (h : lg_cmp x y ≤ 0) : ¬ y < x := gm_lgtf (Int32.not_lt.mpr h)
theorem gm_llef {x y : Int64} (h : ¬ lg_cmp x y ≤ 0) : y < x := gm_lgtt (Int32.not_le.mp h)
end
section
def bI (b : Bool) : Int32 := if b then 1 else 0
theorem bI_01 {x : Int32} {b : Bool} (h : x = bI b) : x = 0 ∨ x = 1 := by
  cases b <;> simp [bI] at h <;> simp [h]
theorem bI_t {x : Int32} {b : Bool} (h : x = bI b) (h0 : ¬ x = 0) : b = true := by
  cases b
  · exact absurd h h0
  · rfl
theorem bI_f {x : Int32} {b : Bool} (h : x = bI b) (h0 : x = 0) : b = false := by
  cases b
  · rfl
  · rw [h] at h0; exact absurd h0 (by decide)
def inI (v lo hi : Int32) : Bool := decide (¬ v < lo ∧ ¬ hi < v)
theorem inI_nat {v : Int32} {n : Nat} (hn : n < 2 ^ 31) (h : inI v 0 (nI n - 1) = true) : ∃ j, j < n ∧ v = nI j := by
  have h := of_decide_eq_true h
  obtain ⟨j, hj, rfl⟩ := nI_of h.1
  refine ⟨j, ?_, rfl⟩
  rcases Nat.lt_or_ge j n with q | q
  · exact q
  · exfalso
    apply h.2
    by_cases h0 : n = 0
    · subst h0
      rw [Int32.lt_iff_toInt_lt, nI_toInt hj, show (nI 0 - 1 : Int32).toInt = -1 from rfl]
      omega
    · obtain ⟨k, rfl⟩ : ∃ k, n = k + 1 := ⟨n - 1, by omega⟩
      rw [nI_pred]
      exact nI_lt (by omega) hj
theorem inI_in {j n : Nat} (hn : n < 2 ^ 31) (h : j < n) : inI (nI j) 0 (nI n - 1) = true := by
  refine decide_eq_true ⟨nI_pos (by omega), ?_⟩
  obtain ⟨k, rfl⟩ : ∃ k, n = k + 1 := ⟨n - 1, by omega⟩
  rw [nI_pred]
  exact nI_nlt (by omega) (by omega)

def nle (I : gm_I) (a k b : Nat) : Prop := ∃ g : Nat, g ≤ b ∧ I a k = nI g
def inv_Md (I : gm_I) (r : Nat) : Prop := nle I r 0 8 ∧ (∀ j, j < 8 → nle I (r + 1) j 3) ∧ (∀ j, j < 8 → nle I (r + 2) j 3) ∧ (∀ j, j < 8 → nle I (r + 3) j 4) ∧ (∀ j, j < 24 → nle I (r + 5) j 2) ∧ nle I r 10 3

theorem nI_one : nI 1 = 1 := rfl
def lpB (I : gm_I) (r : Nat) (v : Int32) : Bool := inI v 0 (I r 0 - 1)
def wyB (I : gm_I) (r : Nat) (v w : Int32) : Bool := lpB I r v && inI w 0 (I (r + 2) v.toNatClampNeg - 1)
def nmB (I : gm_I) (r : Nat) (v w : Int32) : Bool := lpB I r v && inI w 0 (I (r + 1) v.toNatClampNeg - 1)
theorem lpB_j {I : gm_I} {r n : Nat} {v : Int32} (hn : I r 0 = nI n) (h8 : n ≤ 8) (h : lpB I r v = true) : ∃ j, j < n ∧ v = nI j := by
  unfold lpB at h
  rw [hn] at h
  exact inI_nat (by omega) h
theorem wyB_j {I : gm_I} {r : Nat} {v w : Int32} (hV : inv_Md I r) (h : wyB I r v w = true) : ∃ j k, j < 8 ∧ k < 3 ∧ v = nI j ∧ w = nI k ∧ lpB I r v = true ∧ (∀ n, I (r + 2) j = nI n → n ≤ 3 → k < n) := by
  unfold wyB at h
  rw [Bool.and_eq_true] at h
  obtain ⟨n, hn8, hn⟩ := hV.1
  obtain ⟨j, hj, rfl⟩ := lpB_j hn hn8 h.1
  obtain ⟨g, hg, eg⟩ := hV.2.2.1 j (by omega)
  have h2 := h.2
  rw [nI_clamp (by omega), eg] at h2
  obtain ⟨k, hk, rfl⟩ := inI_nat (by omega) h2
  refine ⟨j, k, by omega, by omega, rfl, rfl, h.1, fun n e hn => ?_⟩
  have := (nI_eq (by omega) (by omega)).mp (eg.symm.trans e)
  omega
theorem nmB_j {I : gm_I} {r : Nat} {v w : Int32} (hV : inv_Md I r) (h : nmB I r v w = true) : ∃ j k, j < 8 ∧ k < 3 ∧ v = nI j ∧ w = nI k ∧ lpB I r v = true ∧ (∀ n, I (r + 1) j = nI n → n ≤ 3 → k < n) := by
  unfold nmB at h
  rw [Bool.and_eq_true] at h
  obtain ⟨n, hn8, hn⟩ := hV.1
  obtain ⟨j, hj, rfl⟩ := lpB_j hn hn8 h.1
  obtain ⟨g, hg, eg⟩ := hV.2.1 j (by omega)
  have h2 := h.2
  rw [nI_clamp (by omega), eg] at h2
  obtain ⟨k, hk, rfl⟩ := inI_nat (by omega) h2
  refine ⟨j, k, by omega, by omega, rfl, rfl, h.1, fun n e hn => ?_⟩
  have := (nI_eq (by omega) (by omega)).mp (eg.symm.trans e)
  omega
def numB (nm : Nat) (a b c most : Int32) : Bool := inI a (-most) most && inI b (-most) most && inI c (-most) most && !(decide (a = 0) && decide (b = 0) && decide (c = 0)) && (decide (b = 0) || decide (1 < nm)) && (decide (c = 0) || decide (2 < nm))
def rowB (nm : Nat) (a b c d : Int32) : Bool := numB nm a b c (nI 9) && inI d (-1000) (nI 1000)
def sl_Md (r : Nat) : List (Nat ⊕ Value) := [.inl 0, .inr (.ref (r + 1)), .inr (.ref (r + 2)), .inr (.ref (r + 3)), .inr (.ref (r + 4)), .inr (.ref (r + 5)), .inr (.ref (r + 6)), .inr (.ref (r + 7)), .inr (.ref (r + 8)), .inr (.ref (r + 9)), .inl 0, .inr (.ref (r + 10)), .inl 0, .inl 0, .inr (.ref (r + 11)), .inl 0, .inr (.ref (r + 12)), .inr (.ref (r + 13)), .inr (.ref (r + 14)), .inr (.ref (r + 15)), .inl 0, .inl 1, .inl 1, .inl 1, .inl 1, .inl 1, .inl 1, .inl 1, .inl 1, .inl 1, .inl 1, .inl 1, .inl 1, .inl 0, .inr (.ref (r + 16)), .inl 1, .inl 1, .inl 1]
def is_Md (sh : gm_H) (r : Nat) : Prop := sh r = some (.inl (6, sl_Md r)) ∧ sh (r + 1) = some (.inr (.inl 8)) ∧ sh (r + 2) = some (.inr (.inl 8)) ∧ sh (r + 3) = some (.inr (.inl 8)) ∧ sh (r + 4) = some (.inr (.inl 128)) ∧ sh (r + 5) = some (.inr (.inl 24)) ∧ sh (r + 6) = some (.inr (.inl 192)) ∧ sh (r + 7) = some (.inr (.inl 216)) ∧ sh (r + 8) = some (.inr (.inl 72)) ∧ sh (r + 9) = some (.inr (.inr (.inl 24))) ∧ sh (r + 10) = some (.inr (.inl 12)) ∧ sh (r + 11) = some (.inr (.inl 4)) ∧ sh (r + 12) = some (.inr (.inr (.inl 8))) ∧ sh (r + 13) = some (.inr (.inr (.inl 8))) ∧ sh (r + 14) = some (.inr (.inr (.inl 8))) ∧ sh (r + 15) = some (.inr (.inr (.inl 8))) ∧ sh (r + 16) = some (.inr (.inl 12))
theorem Md_0 {sh : gm_H} {r : Nat} (h : is_Md sh r) : sh r = some (.inl (6, sl_Md r)) := h.1
theorem Md_1 {sh : gm_H} {r : Nat} (h : is_Md sh r) : sh (r + 1) = some (.inr (.inl 8)) := h.2.1
theorem Md_2 {sh : gm_H} {r : Nat} (h : is_Md sh r) : sh (r + 2) = some (.inr (.inl 8)) := h.2.2.1
theorem Md_3 {sh : gm_H} {r : Nat} (h : is_Md sh r) : sh (r + 3) = some (.inr (.inl 8)) := h.2.2.2.1
theorem Md_4 {sh : gm_H} {r : Nat} (h : is_Md sh r) : sh (r + 4) = some (.inr (.inl 128)) := h.2.2.2.2.1
theorem Md_5 {sh : gm_H} {r : Nat} (h : is_Md sh r) : sh (r + 5) = some (.inr (.inl 24)) := h.2.2.2.2.2.1
theorem Md_6 {sh : gm_H} {r : Nat} (h : is_Md sh r) : sh (r + 6) = some (.inr (.inl 192)) := h.2.2.2.2.2.2.1
theorem Md_7 {sh : gm_H} {r : Nat} (h : is_Md sh r) : sh (r + 7) = some (.inr (.inl 216)) := h.2.2.2.2.2.2.2.1
theorem Md_8 {sh : gm_H} {r : Nat} (h : is_Md sh r) : sh (r + 8) = some (.inr (.inl 72)) := h.2.2.2.2.2.2.2.2.1
theorem Md_9 {sh : gm_H} {r : Nat} (h : is_Md sh r) : sh (r + 9) = some (.inr (.inr (.inl 24))) := h.2.2.2.2.2.2.2.2.2.1
theorem Md_10 {sh : gm_H} {r : Nat} (h : is_Md sh r) : sh (r + 10) = some (.inr (.inl 12)) := h.2.2.2.2.2.2.2.2.2.2.1
theorem Md_11 {sh : gm_H} {r : Nat} (h : is_Md sh r) : sh (r + 11) = some (.inr (.inl 4)) := h.2.2.2.2.2.2.2.2.2.2.2.1
theorem Md_12 {sh : gm_H} {r : Nat} (h : is_Md sh r) : sh (r + 12) = some (.inr (.inr (.inl 8))) := h.2.2.2.2.2.2.2.2.2.2.2.2.1
theorem Md_13 {sh : gm_H} {r : Nat} (h : is_Md sh r) : sh (r + 13) = some (.inr (.inr (.inl 8))) := h.2.2.2.2.2.2.2.2.2.2.2.2.2.1
theorem Md_14 {sh : gm_H} {r : Nat} (h : is_Md sh r) : sh (r + 14) = some (.inr (.inr (.inl 8))) := h.2.2.2.2.2.2.2.2.2.2.2.2.2.2.1
theorem Md_15 {sh : gm_H} {r : Nat} (h : is_Md sh r) : sh (r + 15) = some (.inr (.inr (.inl 8))) := h.2.2.2.2.2.2.2.2.2.2.2.2.2.2.2.1
theorem Md_16 {sh : gm_H} {r : Nat} (h : is_Md sh r) : sh (r + 16) = some (.inr (.inl 12)) := h.2.2.2.2.2.2.2.2.2.2.2.2.2.2.2.2
end
section
set_option maxHeartbeats 4000000 in
set_option maxRecDepth 100000 in
theorem c_Md_isIn (l : Launch) (D : va_G) (cs : Nat → ClassId) (sh : gm_H) (sz : Nat) (I : gm_I) (J : gm_J) (v lo hi : Int32) : CI l y_Md_isIn w_Md_isIn { frames := 0, cells := 0, slots := 0, locals := 0 } D cs sh sz I J [.int v, .int lo, .int hi] (fun x u => u = (I, J) ∧ x = bI (inI v lo hi)) := by
  refine gm_start (by decide) (Nat.le_of_ble_eq_true rfl) ?_
  intro p' e' s' m' be' me' co' ls C hml hlk hret hh hl
  have hl : lv_has ls 3 [(0, .int v), (1, .int lo), (2, .int hi)] := hl
  refine lv_iload_n C.1 C.2.1 d_Md_isIn_0 rfl (lv_at hl 0 rfl) ?_
  refine lv_iload_n C.1 C.2.1 d_Md_isIn_1 rfl (lv_at hl 1 rfl) ?_
  refine lv_icmp_lt (tgt := 14) C.1 C.2.1 d_Md_isIn_2 (by decide) (fun c_1 => ?_) (fun c_1 => ?_)
  · -- 2 -> 14
    skip
    refine lv_iconst (v := nI 0) C.1 C.2.1 d_Md_isIn_14 rfl ?_
    exact gr_i C hlk hret (gm_nb (Or.inl rfl)) hh (by refine ⟨rfl, ?_⟩; simp [nI_0, nI_one, bI, inI, *]) d_Md_isIn_15
  · -- 2 -> 5
    skip
    refine lv_iload_n C.1 C.2.1 d_Md_isIn_5 rfl (lv_at hl 0 rfl) ?_
    refine lv_iload_n C.1 C.2.1 d_Md_isIn_6 rfl (lv_at hl 2 rfl) ?_
    refine lv_icmp_gt (tgt := 14) C.1 C.2.1 d_Md_isIn_7 (by decide) (fun c_2 => ?_) (fun c_2 => ?_)
    · -- 7 -> 14
      skip
      refine lv_iconst (v := nI 0) C.1 C.2.1 d_Md_isIn_14 rfl ?_
      exact gr_i C hlk hret (gm_nb (Or.inl rfl)) hh (by refine ⟨rfl, ?_⟩; simp [nI_0, nI_one, bI, inI, *]) d_Md_isIn_15
    · -- 7 -> 10
      skip
      refine lv_iconst (v := nI 1) C.1 C.2.1 d_Md_isIn_10 rfl ?_
      refine lv_goto (tgt := 15) C.1 C.2.1 d_Md_isIn_11 (by decide) ?_
      exact gr_i C hlk hret (gm_nb (Or.inr rfl)) hh (by refine ⟨rfl, ?_⟩; simp [nI_0, nI_one, bI, inI, *]) d_Md_isIn_15

set_option maxHeartbeats 4000000 in
set_option maxRecDepth 100000 in
theorem c_Md_isLoop (l : Launch) (D : va_G) (cs : Nat → ClassId) (sh : gm_H) (sz : Nat) (I : gm_I) (J : gm_J) (r : Nat) (hM : is_Md sh r) (hV : inv_Md I r) (v : Int32) : CI l y_Md_isLoop w_Md_isLoop { frames := 1, cells := 0, slots := 0, locals := 22 } D cs sh sz I J [.ref r, .int v] (fun x u => u = (I, J) ∧ x = bI (lpB I r v)) := by
  refine gm_start (by decide) (Nat.le_of_ble_eq_true rfl) ?_
  intro p' e' s' m' be' me' co' ls C hml hlk hret hh hl
  have hl : lv_has ls 2 [(0, .ref r), (1, .int v)] := hl
  refine lv_iload_n C.1 C.2.1 d_Md_isLoop_0 rfl (lv_at hl 1 rfl) ?_
  refine lv_iconst (v := nI 0) C.1 C.2.1 d_Md_isLoop_1 rfl ?_
  refine lv_aload_n C.1 C.2.1 d_Md_isLoop_2 rfl (lv_at hl 0 rfl) ?_
  refine gg_i C hh (Md_0 hM) rfl in_Md 0 (by decide) rfl tw_565 rfl d_Md_isLoop_3 ?_
  refine lv_iconst (v := nI 1) C.1 C.2.1 d_Md_isLoop_6 rfl ?_
  refine lv_isub C.1 C.2.1 d_Md_isLoop_7 ?_
  refine gc_i hh (gc_runS (As := [.int v, .int (nI 0), .int ((I r 0) - (nI 1))]) (rest := []) (n := 3) C hml hh (c_Md_isIn l D cs sh sz I J v (nI 0) ((I r 0) - (nI 1))) (tg_S tw_684 tw_685 tw_64 tw_686) (by decide +kernel) ⟨rfl, rfl, by decide, by decide, Nat.zero_le _, Nat.zero_le _⟩ rfl hl.1 rfl (Nat.le_of_ble_eq_true rfl) d_Md_isLoop_8) (fun r_1 I_2 J_3 H locs hr_1 hh => ?_)
  obtain ⟨e_r_1, hr_1⟩ := hr_1
  rw [(Prod.mk.inj e_r_1).1, (Prod.mk.inj e_r_1).2] at hh
  exact gr_i C hlk hret (gm_nb (bI_01 hr_1)) hh (by exact ⟨rfl, by assumption⟩) d_Md_isLoop_11

set_option maxHeartbeats 4000000 in
set_option maxRecDepth 100000 in
theorem c_Md_isWay (l : Launch) (D : va_G) (cs : Nat → ClassId) (sh : gm_H) (sz : Nat) (I : gm_I) (J : gm_J) (r : Nat) (hM : is_Md sh r) (hV : inv_Md I r) (v w : Int32) : CI l y_Md_isWay w_Md_isWay { frames := 2, cells := 0, slots := 0, locals := 43 } D cs sh sz I J [.ref r, .int v, .int w] (fun x u => u = (I, J) ∧ x = bI (wyB I r v w)) := by
  refine gm_start (by decide) (Nat.le_of_ble_eq_true rfl) ?_
  intro p' e' s' m' be' me' co' ls C hml hlk hret hh hl
  have hl : lv_has ls 3 [(0, .ref r), (1, .int v), (2, .int w)] := hl
  refine lv_aload_n C.1 C.2.1 d_Md_isWay_0 rfl (lv_at hl 0 rfl) ?_
  refine lv_iload_n C.1 C.2.1 d_Md_isWay_1 rfl (lv_at hl 1 rfl) ?_
  refine gc_i hh (gc_runV (As := [.int v]) (rest := []) (n := 1) C hml hh (c_Md_isLoop l D cs sh sz I J r hM hV v) (tg_V tw_695 tw_697 tw_26 tw_64 tw_698) (by decide +kernel) ⟨rfl, rfl, by decide, by decide, Nat.zero_le _, Nat.zero_le _⟩ (Md_0 hM) rfl rfl hl.1 rfl (Nat.le_of_ble_eq_true rfl) d_Md_isWay_2) (fun r_1 I_2 J_3 H locs hr_1 hh => ?_)
  obtain ⟨e_r_1, hr_1⟩ := hr_1
  rw [(Prod.mk.inj e_r_1).1, (Prod.mk.inj e_r_1).2] at hh
  refine lv_if_eq (tgt := 28) C.1 C.2.1 d_Md_isWay_5 (by decide) (fun c_4 => ?_) (fun c_4 => ?_)
  · -- 5 -> 28
    have b_5 := bI_f hr_1 c_4
    skip
    refine lv_iconst (v := nI 0) C.1 C.2.1 d_Md_isWay_28 rfl ?_
    exact gr_i C hlk hret (gm_nb (Or.inl rfl)) hh (by refine ⟨rfl, ?_⟩; first | (simp [nI_0, nI_one, bI, wyB, *]; done) | (unfold wyB; rw [nI_clamp (by omega)]; simp_all [nI_0, nI_one, bI])) d_Md_isWay_29
  · -- 5 -> 8
    have b_6 := bI_t hr_1 c_4
    obtain ⟨n_8, hn_8, en_8⟩ := hV.1
    obtain ⟨j_7, hj_7, ej_7⟩ := lpB_j en_8 hn_8 b_6
    subst ej_7
    skip
    refine lv_iload_n C.1 C.2.1 d_Md_isWay_8 rfl (lv_at hl 2 rfl) ?_
    refine lv_iconst (v := nI 0) C.1 C.2.1 d_Md_isWay_9 rfl ?_
    refine lv_aload_n C.1 C.2.1 d_Md_isWay_10 rfl (lv_at hl 0 rfl) ?_
    refine gg_r C hh (Md_0 hM) rfl in_Md 2 (by decide) rfl tw_567 rfl d_Md_isWay_11 ?_
    refine lv_iload_n C.1 C.2.1 d_Md_isWay_14 rfl (lv_at hl 1 rfl) ?_
    refine ga_i C hh (Md_2 hM) (k := j_7) rfl (by omega) (by omega) d_Md_isWay_15 ?_
    refine lv_iconst (v := nI 1) C.1 C.2.1 d_Md_isWay_16 rfl ?_
    refine lv_isub C.1 C.2.1 d_Md_isWay_17 ?_
    refine gc_i hh (gc_runS (As := [.int w, .int (nI 0), .int ((I (r + 2) j_7) - (nI 1))]) (rest := []) (n := 3) C hml hh (c_Md_isIn l D cs sh sz I J w (nI 0) ((I (r + 2) j_7) - (nI 1))) (tg_S tw_684 tw_685 tw_64 tw_686) (by decide +kernel) ⟨rfl, rfl, by decide, by decide, Nat.zero_le _, Nat.zero_le _⟩ rfl hl.1 rfl (Nat.le_of_ble_eq_true rfl) d_Md_isWay_18) (fun r_9 I_10 J_11 H locs hr_9 hh => ?_)
    obtain ⟨e_r_9, hr_9⟩ := hr_9
    rw [(Prod.mk.inj e_r_9).1, (Prod.mk.inj e_r_9).2] at hh
    refine lv_if_eq (tgt := 28) C.1 C.2.1 d_Md_isWay_21 (by decide) (fun c_12 => ?_) (fun c_12 => ?_)
    · -- 21 -> 28
      have b_13 := bI_f hr_9 c_12
      skip
      refine lv_iconst (v := nI 0) C.1 C.2.1 d_Md_isWay_28 rfl ?_
      exact gr_i C hlk hret (gm_nb (Or.inl rfl)) hh (by refine ⟨rfl, ?_⟩; first | (simp [nI_0, nI_one, bI, wyB, *]; done) | (unfold wyB; rw [nI_clamp (by omega)]; simp_all [nI_0, nI_one, bI])) d_Md_isWay_29
    · -- 21 -> 24
      have b_14 := bI_t hr_9 c_12
      skip
      refine lv_iconst (v := nI 1) C.1 C.2.1 d_Md_isWay_24 rfl ?_
      refine lv_goto (tgt := 29) C.1 C.2.1 d_Md_isWay_25 (by decide) ?_
      exact gr_i C hlk hret (gm_nb (Or.inr rfl)) hh (by refine ⟨rfl, ?_⟩; first | (simp [nI_0, nI_one, bI, wyB, *]; done) | (unfold wyB; rw [nI_clamp (by omega)]; simp_all [nI_0, nI_one, bI])) d_Md_isWay_29

set_option maxHeartbeats 4000000 in
set_option maxRecDepth 100000 in
theorem c_Md_isName (l : Launch) (D : va_G) (cs : Nat → ClassId) (sh : gm_H) (sz : Nat) (I : gm_I) (J : gm_J) (r : Nat) (hM : is_Md sh r) (hV : inv_Md I r) (v w : Int32) : CI l y_Md_isName w_Md_isName { frames := 2, cells := 0, slots := 0, locals := 43 } D cs sh sz I J [.ref r, .int v, .int w] (fun x u => u = (I, J) ∧ x = bI (nmB I r v w)) := by
  refine gm_start (by decide) (Nat.le_of_ble_eq_true rfl) ?_
  intro p' e' s' m' be' me' co' ls C hml hlk hret hh hl
  have hl : lv_has ls 3 [(0, .ref r), (1, .int v), (2, .int w)] := hl
  refine lv_aload_n C.1 C.2.1 d_Md_isName_0 rfl (lv_at hl 0 rfl) ?_
  refine lv_iload_n C.1 C.2.1 d_Md_isName_1 rfl (lv_at hl 1 rfl) ?_
  refine gc_i hh (gc_runV (As := [.int v]) (rest := []) (n := 1) C hml hh (c_Md_isLoop l D cs sh sz I J r hM hV v) (tg_V tw_695 tw_697 tw_26 tw_64 tw_698) (by decide +kernel) ⟨rfl, rfl, by decide, by decide, Nat.zero_le _, Nat.zero_le _⟩ (Md_0 hM) rfl rfl hl.1 rfl (Nat.le_of_ble_eq_true rfl) d_Md_isName_2) (fun r_1 I_2 J_3 H locs hr_1 hh => ?_)
  obtain ⟨e_r_1, hr_1⟩ := hr_1
  rw [(Prod.mk.inj e_r_1).1, (Prod.mk.inj e_r_1).2] at hh
  refine lv_if_eq (tgt := 28) C.1 C.2.1 d_Md_isName_5 (by decide) (fun c_4 => ?_) (fun c_4 => ?_)
  · -- 5 -> 28
    have b_5 := bI_f hr_1 c_4
    skip
    refine lv_iconst (v := nI 0) C.1 C.2.1 d_Md_isName_28 rfl ?_
    exact gr_i C hlk hret (gm_nb (Or.inl rfl)) hh (by refine ⟨rfl, ?_⟩; first | (simp [nI_0, nI_one, bI, nmB, *]; done) | (unfold nmB; rw [nI_clamp (by omega)]; simp_all [nI_0, nI_one, bI])) d_Md_isName_29
  · -- 5 -> 8
    have b_6 := bI_t hr_1 c_4
    obtain ⟨n_8, hn_8, en_8⟩ := hV.1
    obtain ⟨j_7, hj_7, ej_7⟩ := lpB_j en_8 hn_8 b_6
    subst ej_7
    skip
    refine lv_iload_n C.1 C.2.1 d_Md_isName_8 rfl (lv_at hl 2 rfl) ?_
    refine lv_iconst (v := nI 0) C.1 C.2.1 d_Md_isName_9 rfl ?_
    refine lv_aload_n C.1 C.2.1 d_Md_isName_10 rfl (lv_at hl 0 rfl) ?_
    refine gg_r C hh (Md_0 hM) rfl in_Md 1 (by decide) rfl tw_566 rfl d_Md_isName_11 ?_
    refine lv_iload_n C.1 C.2.1 d_Md_isName_14 rfl (lv_at hl 1 rfl) ?_
    refine ga_i C hh (Md_1 hM) (k := j_7) rfl (by omega) (by omega) d_Md_isName_15 ?_
    refine lv_iconst (v := nI 1) C.1 C.2.1 d_Md_isName_16 rfl ?_
    refine lv_isub C.1 C.2.1 d_Md_isName_17 ?_
    refine gc_i hh (gc_runS (As := [.int w, .int (nI 0), .int ((I (r + 1) j_7) - (nI 1))]) (rest := []) (n := 3) C hml hh (c_Md_isIn l D cs sh sz I J w (nI 0) ((I (r + 1) j_7) - (nI 1))) (tg_S tw_684 tw_685 tw_64 tw_686) (by decide +kernel) ⟨rfl, rfl, by decide, by decide, Nat.zero_le _, Nat.zero_le _⟩ rfl hl.1 rfl (Nat.le_of_ble_eq_true rfl) d_Md_isName_18) (fun r_9 I_10 J_11 H locs hr_9 hh => ?_)
    obtain ⟨e_r_9, hr_9⟩ := hr_9
    rw [(Prod.mk.inj e_r_9).1, (Prod.mk.inj e_r_9).2] at hh
    refine lv_if_eq (tgt := 28) C.1 C.2.1 d_Md_isName_21 (by decide) (fun c_12 => ?_) (fun c_12 => ?_)
    · -- 21 -> 28
      have b_13 := bI_f hr_9 c_12
      skip
      refine lv_iconst (v := nI 0) C.1 C.2.1 d_Md_isName_28 rfl ?_
      exact gr_i C hlk hret (gm_nb (Or.inl rfl)) hh (by refine ⟨rfl, ?_⟩; first | (simp [nI_0, nI_one, bI, nmB, *]; done) | (unfold nmB; rw [nI_clamp (by omega)]; simp_all [nI_0, nI_one, bI])) d_Md_isName_29
    · -- 21 -> 24
      have b_14 := bI_t hr_9 c_12
      skip
      refine lv_iconst (v := nI 1) C.1 C.2.1 d_Md_isName_24 rfl ?_
      refine lv_goto (tgt := 29) C.1 C.2.1 d_Md_isName_25 (by decide) ?_
      exact gr_i C hlk hret (gm_nb (Or.inr rfl)) hh (by refine ⟨rfl, ?_⟩; first | (simp [nI_0, nI_one, bI, nmB, *]; done) | (unfold nmB; rw [nI_clamp (by omega)]; simp_all [nI_0, nI_one, bI])) d_Md_isName_29

set_option maxHeartbeats 4000000 in
set_option maxRecDepth 100000 in
theorem c_Md_areNumbers (l : Launch) (D : va_G) (cs : Nat → ClassId) (sh : gm_H) (sz : Nat) (I : gm_I) (J : gm_J) (r : Nat) (hM : is_Md sh r) (hV : inv_Md I r) (j nm : Nat) (a b c most : Int32) (hj : j < 8) (hnm : I (r + 1) j = nI nm) (hn3 : nm ≤ 3) : CI l y_Md_areNumbers w_Md_areNumbers { frames := 1, cells := 0, slots := 0, locals := 22 } D cs sh sz I J [.ref r, .int (nI j), .int a, .int b, .int c, .int most] (fun x u => u = (I, J) ∧ x = bI (numB nm a b c most)) := by
  refine gm_start (by decide) (Nat.le_of_ble_eq_true rfl) ?_
  intro p' e' s' m' be' me' co' ls C hml hlk hret hh hl
  have hl : lv_has ls 6 [(0, .ref r), (1, .int (nI j)), (2, .int a), (3, .int b), (4, .int c), (5, .int most)] := hl
  refine lv_iload_n C.1 C.2.1 d_Md_areNumbers_0 rfl (lv_at hl 2 rfl) ?_
  refine lv_iload C.1 C.2.1 d_Md_areNumbers_1 (lv_at hl 5 rfl) ?_
  refine lv_ineg C.1 C.2.1 d_Md_areNumbers_3 ?_
  refine lv_iload C.1 C.2.1 d_Md_areNumbers_4 (lv_at hl 5 rfl) ?_
  refine gc_i hh (gc_runS (As := [.int a, .int (-most), .int most]) (rest := []) (n := 3) C hml hh (c_Md_isIn l D cs sh sz I J a (-most) most) (tg_S tw_684 tw_685 tw_64 tw_686) (by decide +kernel) ⟨rfl, rfl, by decide, by decide, Nat.zero_le _, Nat.zero_le _⟩ rfl hl.1 rfl (Nat.le_of_ble_eq_true rfl) d_Md_areNumbers_6) (fun r_1 I_2 J_3 H locs hr_1 hh => ?_)
  obtain ⟨e_r_1, hr_1⟩ := hr_1
  rw [(Prod.mk.inj e_r_1).1, (Prod.mk.inj e_r_1).2] at hh
  refine lv_if_eq (tgt := 37) C.1 C.2.1 d_Md_areNumbers_9 (by decide) (fun c_4 => ?_) (fun c_4 => ?_)
  · -- 9 -> 37
    have b_5 := bI_f hr_1 c_4
    skip
    refine lv_iconst (v := nI 0) C.1 C.2.1 d_Md_areNumbers_37 rfl ?_
    exact gr_i C hlk hret (gm_nb (Or.inl rfl)) hh (by refine ⟨rfl, ?_⟩; simp_all [nI_0, nI_one, bI, numB] <;> omega) d_Md_areNumbers_38
  · -- 9 -> 12
    have b_6 := bI_t hr_1 c_4
    skip
    refine lv_iload_n C.1 C.2.1 d_Md_areNumbers_12 rfl (lv_at hl 3 rfl) ?_
    refine lv_iload C.1 C.2.1 d_Md_areNumbers_13 (lv_at hl 5 rfl) ?_
    refine lv_ineg C.1 C.2.1 d_Md_areNumbers_15 ?_
    refine lv_iload C.1 C.2.1 d_Md_areNumbers_16 (lv_at hl 5 rfl) ?_
    refine gc_i hh (gc_runS (As := [.int b, .int (-most), .int most]) (rest := []) (n := 3) C hml hh (c_Md_isIn l D cs sh sz I J b (-most) most) (tg_S tw_684 tw_685 tw_64 tw_686) (by decide +kernel) ⟨rfl, rfl, by decide, by decide, Nat.zero_le _, Nat.zero_le _⟩ rfl hl.1 rfl (Nat.le_of_ble_eq_true rfl) d_Md_areNumbers_18) (fun r_7 I_8 J_9 H locs hr_7 hh => ?_)
    obtain ⟨e_r_7, hr_7⟩ := hr_7
    rw [(Prod.mk.inj e_r_7).1, (Prod.mk.inj e_r_7).2] at hh
    refine lv_if_eq (tgt := 37) C.1 C.2.1 d_Md_areNumbers_21 (by decide) (fun c_10 => ?_) (fun c_10 => ?_)
    · -- 21 -> 37
      have b_11 := bI_f hr_7 c_10
      skip
      refine lv_iconst (v := nI 0) C.1 C.2.1 d_Md_areNumbers_37 rfl ?_
      exact gr_i C hlk hret (gm_nb (Or.inl rfl)) hh (by refine ⟨rfl, ?_⟩; simp_all [nI_0, nI_one, bI, numB] <;> omega) d_Md_areNumbers_38
    · -- 21 -> 24
      have b_12 := bI_t hr_7 c_10
      skip
      refine lv_iload C.1 C.2.1 d_Md_areNumbers_24 (lv_at hl 4 rfl) ?_
      refine lv_iload C.1 C.2.1 d_Md_areNumbers_26 (lv_at hl 5 rfl) ?_
      refine lv_ineg C.1 C.2.1 d_Md_areNumbers_28 ?_
      refine lv_iload C.1 C.2.1 d_Md_areNumbers_29 (lv_at hl 5 rfl) ?_
      refine gc_i hh (gc_runS (As := [.int c, .int (-most), .int most]) (rest := []) (n := 3) C hml hh (c_Md_isIn l D cs sh sz I J c (-most) most) (tg_S tw_684 tw_685 tw_64 tw_686) (by decide +kernel) ⟨rfl, rfl, by decide, by decide, Nat.zero_le _, Nat.zero_le _⟩ rfl hl.1 rfl (Nat.le_of_ble_eq_true rfl) d_Md_areNumbers_31) (fun r_13 I_14 J_15 H locs hr_13 hh => ?_)
      obtain ⟨e_r_13, hr_13⟩ := hr_13
      rw [(Prod.mk.inj e_r_13).1, (Prod.mk.inj e_r_13).2] at hh
      refine lv_if_ne (tgt := 39) C.1 C.2.1 d_Md_areNumbers_34 (by decide) (fun c_16 => ?_) (fun c_16 => ?_)
      · -- 34 -> 39
        have b_17 := bI_t hr_13 c_16
        skip
        refine lv_iload_n C.1 C.2.1 d_Md_areNumbers_39 rfl (lv_at hl 2 rfl) ?_
        refine lv_if_ne (tgt := 54) C.1 C.2.1 d_Md_areNumbers_40 (by decide) (fun c_18 => ?_) (fun c_18 => ?_)
        · -- 40 -> 54
          skip
          refine lv_iload_n C.1 C.2.1 d_Md_areNumbers_54 rfl (lv_at hl 3 rfl) ?_
          refine lv_if_eq (tgt := 68) C.1 C.2.1 d_Md_areNumbers_55 (by decide) (fun c_19 => ?_) (fun c_19 => ?_)
          · -- 55 -> 68
            skip
            refine lv_iload C.1 C.2.1 d_Md_areNumbers_68 (lv_at hl 4 rfl) ?_
            refine lv_if_eq (tgt := 83) C.1 C.2.1 d_Md_areNumbers_70 (by decide) (fun c_20 => ?_) (fun c_20 => ?_)
            · -- 70 -> 83
              skip
              refine lv_iconst (v := nI 1) C.1 C.2.1 d_Md_areNumbers_83 rfl ?_
              refine lv_goto (tgt := 88) C.1 C.2.1 d_Md_areNumbers_84 (by decide) ?_
              exact gr_i C hlk hret (gm_nb (Or.inr rfl)) hh (by refine ⟨rfl, ?_⟩; simp_all [nI_0, nI_one, bI, numB] <;> omega) d_Md_areNumbers_88
            · -- 70 -> 73
              skip
              refine lv_aload_n C.1 C.2.1 d_Md_areNumbers_73 rfl (lv_at hl 0 rfl) ?_
              refine gg_r C hh (Md_0 hM) rfl in_Md 1 (by decide) rfl tw_566 rfl d_Md_areNumbers_74 ?_
              refine lv_iload_n C.1 C.2.1 d_Md_areNumbers_77 rfl (lv_at hl 1 rfl) ?_
              refine ga_i C hh (Md_1 hM) (k := j) rfl (by omega) (by omega) d_Md_areNumbers_78 ?_
              refine gm_eqi hnm ?_
              refine lv_iconst (v := nI 2) C.1 C.2.1 d_Md_areNumbers_79 rfl ?_
              refine lv_icmp_le (tgt := 87) C.1 C.2.1 d_Md_areNumbers_80 (by decide) (fun c_21 => ?_) (fun c_21 => ?_)
              · -- 80 -> 87
                have c_21 := gm_let (by omega) (by omega) c_21
                refine lv_iconst (v := nI 0) C.1 C.2.1 d_Md_areNumbers_87 rfl ?_
                exact gr_i C hlk hret (gm_nb (Or.inl rfl)) hh (by refine ⟨rfl, ?_⟩; simp_all [nI_0, nI_one, bI, numB] <;> omega) d_Md_areNumbers_88
              · -- 80 -> 83
                have c_21 := gm_lef (by omega) (by omega) c_21
                refine lv_iconst (v := nI 1) C.1 C.2.1 d_Md_areNumbers_83 rfl ?_
                refine lv_goto (tgt := 88) C.1 C.2.1 d_Md_areNumbers_84 (by decide) ?_
                exact gr_i C hlk hret (gm_nb (Or.inr rfl)) hh (by refine ⟨rfl, ?_⟩; simp_all [nI_0, nI_one, bI, numB] <;> omega) d_Md_areNumbers_88
          · -- 55 -> 58
            skip
            refine lv_aload_n C.1 C.2.1 d_Md_areNumbers_58 rfl (lv_at hl 0 rfl) ?_
            refine gg_r C hh (Md_0 hM) rfl in_Md 1 (by decide) rfl tw_566 rfl d_Md_areNumbers_59 ?_
            refine lv_iload_n C.1 C.2.1 d_Md_areNumbers_62 rfl (lv_at hl 1 rfl) ?_
            refine ga_i C hh (Md_1 hM) (k := j) rfl (by omega) (by omega) d_Md_areNumbers_63 ?_
            refine gm_eqi hnm ?_
            refine lv_iconst (v := nI 1) C.1 C.2.1 d_Md_areNumbers_64 rfl ?_
            refine lv_icmp_le (tgt := 87) C.1 C.2.1 d_Md_areNumbers_65 (by decide) (fun c_22 => ?_) (fun c_22 => ?_)
            · -- 65 -> 87
              have c_22 := gm_let (by omega) (by omega) c_22
              refine lv_iconst (v := nI 0) C.1 C.2.1 d_Md_areNumbers_87 rfl ?_
              exact gr_i C hlk hret (gm_nb (Or.inl rfl)) hh (by refine ⟨rfl, ?_⟩; simp_all [nI_0, nI_one, bI, numB] <;> omega) d_Md_areNumbers_88
            · -- 65 -> 68
              have c_22 := gm_lef (by omega) (by omega) c_22
              refine lv_iload C.1 C.2.1 d_Md_areNumbers_68 (lv_at hl 4 rfl) ?_
              refine lv_if_eq (tgt := 83) C.1 C.2.1 d_Md_areNumbers_70 (by decide) (fun c_23 => ?_) (fun c_23 => ?_)
              · -- 70 -> 83
                skip
                refine lv_iconst (v := nI 1) C.1 C.2.1 d_Md_areNumbers_83 rfl ?_
                refine lv_goto (tgt := 88) C.1 C.2.1 d_Md_areNumbers_84 (by decide) ?_
                exact gr_i C hlk hret (gm_nb (Or.inr rfl)) hh (by refine ⟨rfl, ?_⟩; simp_all [nI_0, nI_one, bI, numB] <;> omega) d_Md_areNumbers_88
              · -- 70 -> 73
                skip
                refine lv_aload_n C.1 C.2.1 d_Md_areNumbers_73 rfl (lv_at hl 0 rfl) ?_
                refine gg_r C hh (Md_0 hM) rfl in_Md 1 (by decide) rfl tw_566 rfl d_Md_areNumbers_74 ?_
                refine lv_iload_n C.1 C.2.1 d_Md_areNumbers_77 rfl (lv_at hl 1 rfl) ?_
                refine ga_i C hh (Md_1 hM) (k := j) rfl (by omega) (by omega) d_Md_areNumbers_78 ?_
                refine gm_eqi hnm ?_
                refine lv_iconst (v := nI 2) C.1 C.2.1 d_Md_areNumbers_79 rfl ?_
                refine lv_icmp_le (tgt := 87) C.1 C.2.1 d_Md_areNumbers_80 (by decide) (fun c_24 => ?_) (fun c_24 => ?_)
                · -- 80 -> 87
                  have c_24 := gm_let (by omega) (by omega) c_24
                  refine lv_iconst (v := nI 0) C.1 C.2.1 d_Md_areNumbers_87 rfl ?_
                  exact gr_i C hlk hret (gm_nb (Or.inl rfl)) hh (by refine ⟨rfl, ?_⟩; simp_all [nI_0, nI_one, bI, numB] <;> omega) d_Md_areNumbers_88
                · -- 80 -> 83
                  have c_24 := gm_lef (by omega) (by omega) c_24
                  refine lv_iconst (v := nI 1) C.1 C.2.1 d_Md_areNumbers_83 rfl ?_
                  refine lv_goto (tgt := 88) C.1 C.2.1 d_Md_areNumbers_84 (by decide) ?_
                  exact gr_i C hlk hret (gm_nb (Or.inr rfl)) hh (by refine ⟨rfl, ?_⟩; simp_all [nI_0, nI_one, bI, numB] <;> omega) d_Md_areNumbers_88
        · -- 40 -> 43
          skip
          refine lv_iload_n C.1 C.2.1 d_Md_areNumbers_43 rfl (lv_at hl 3 rfl) ?_
          refine lv_if_ne (tgt := 54) C.1 C.2.1 d_Md_areNumbers_44 (by decide) (fun c_25 => ?_) (fun c_25 => ?_)
          · -- 44 -> 54
            skip
            refine lv_iload_n C.1 C.2.1 d_Md_areNumbers_54 rfl (lv_at hl 3 rfl) ?_
            refine lv_if_eq (tgt := 68) C.1 C.2.1 d_Md_areNumbers_55 (by decide) (fun c_26 => ?_) (fun c_26 => ?_)
            · -- 55 -> 68
              skip
              refine lv_iload C.1 C.2.1 d_Md_areNumbers_68 (lv_at hl 4 rfl) ?_
              refine lv_if_eq (tgt := 83) C.1 C.2.1 d_Md_areNumbers_70 (by decide) (fun c_27 => ?_) (fun c_27 => ?_)
              · -- 70 -> 83
                skip
                refine lv_iconst (v := nI 1) C.1 C.2.1 d_Md_areNumbers_83 rfl ?_
                refine lv_goto (tgt := 88) C.1 C.2.1 d_Md_areNumbers_84 (by decide) ?_
                exact gr_i C hlk hret (gm_nb (Or.inr rfl)) hh (by refine ⟨rfl, ?_⟩; simp_all [nI_0, nI_one, bI, numB] <;> omega) d_Md_areNumbers_88
              · -- 70 -> 73
                skip
                refine lv_aload_n C.1 C.2.1 d_Md_areNumbers_73 rfl (lv_at hl 0 rfl) ?_
                refine gg_r C hh (Md_0 hM) rfl in_Md 1 (by decide) rfl tw_566 rfl d_Md_areNumbers_74 ?_
                refine lv_iload_n C.1 C.2.1 d_Md_areNumbers_77 rfl (lv_at hl 1 rfl) ?_
                refine ga_i C hh (Md_1 hM) (k := j) rfl (by omega) (by omega) d_Md_areNumbers_78 ?_
                refine gm_eqi hnm ?_
                refine lv_iconst (v := nI 2) C.1 C.2.1 d_Md_areNumbers_79 rfl ?_
                refine lv_icmp_le (tgt := 87) C.1 C.2.1 d_Md_areNumbers_80 (by decide) (fun c_28 => ?_) (fun c_28 => ?_)
                · -- 80 -> 87
                  have c_28 := gm_let (by omega) (by omega) c_28
                  refine lv_iconst (v := nI 0) C.1 C.2.1 d_Md_areNumbers_87 rfl ?_
                  exact gr_i C hlk hret (gm_nb (Or.inl rfl)) hh (by refine ⟨rfl, ?_⟩; simp_all [nI_0, nI_one, bI, numB] <;> omega) d_Md_areNumbers_88
                · -- 80 -> 83
                  have c_28 := gm_lef (by omega) (by omega) c_28
                  refine lv_iconst (v := nI 1) C.1 C.2.1 d_Md_areNumbers_83 rfl ?_
                  refine lv_goto (tgt := 88) C.1 C.2.1 d_Md_areNumbers_84 (by decide) ?_
                  exact gr_i C hlk hret (gm_nb (Or.inr rfl)) hh (by refine ⟨rfl, ?_⟩; simp_all [nI_0, nI_one, bI, numB] <;> omega) d_Md_areNumbers_88
            · -- 55 -> 58
              skip
              refine lv_aload_n C.1 C.2.1 d_Md_areNumbers_58 rfl (lv_at hl 0 rfl) ?_
              refine gg_r C hh (Md_0 hM) rfl in_Md 1 (by decide) rfl tw_566 rfl d_Md_areNumbers_59 ?_
              refine lv_iload_n C.1 C.2.1 d_Md_areNumbers_62 rfl (lv_at hl 1 rfl) ?_
              refine ga_i C hh (Md_1 hM) (k := j) rfl (by omega) (by omega) d_Md_areNumbers_63 ?_
              refine gm_eqi hnm ?_
              refine lv_iconst (v := nI 1) C.1 C.2.1 d_Md_areNumbers_64 rfl ?_
              refine lv_icmp_le (tgt := 87) C.1 C.2.1 d_Md_areNumbers_65 (by decide) (fun c_29 => ?_) (fun c_29 => ?_)
              · -- 65 -> 87
                have c_29 := gm_let (by omega) (by omega) c_29
                refine lv_iconst (v := nI 0) C.1 C.2.1 d_Md_areNumbers_87 rfl ?_
                exact gr_i C hlk hret (gm_nb (Or.inl rfl)) hh (by refine ⟨rfl, ?_⟩; simp_all [nI_0, nI_one, bI, numB] <;> omega) d_Md_areNumbers_88
              · -- 65 -> 68
                have c_29 := gm_lef (by omega) (by omega) c_29
                refine lv_iload C.1 C.2.1 d_Md_areNumbers_68 (lv_at hl 4 rfl) ?_
                refine lv_if_eq (tgt := 83) C.1 C.2.1 d_Md_areNumbers_70 (by decide) (fun c_30 => ?_) (fun c_30 => ?_)
                · -- 70 -> 83
                  skip
                  refine lv_iconst (v := nI 1) C.1 C.2.1 d_Md_areNumbers_83 rfl ?_
                  refine lv_goto (tgt := 88) C.1 C.2.1 d_Md_areNumbers_84 (by decide) ?_
                  exact gr_i C hlk hret (gm_nb (Or.inr rfl)) hh (by refine ⟨rfl, ?_⟩; simp_all [nI_0, nI_one, bI, numB] <;> omega) d_Md_areNumbers_88
                · -- 70 -> 73
                  skip
                  refine lv_aload_n C.1 C.2.1 d_Md_areNumbers_73 rfl (lv_at hl 0 rfl) ?_
                  refine gg_r C hh (Md_0 hM) rfl in_Md 1 (by decide) rfl tw_566 rfl d_Md_areNumbers_74 ?_
                  refine lv_iload_n C.1 C.2.1 d_Md_areNumbers_77 rfl (lv_at hl 1 rfl) ?_
                  refine ga_i C hh (Md_1 hM) (k := j) rfl (by omega) (by omega) d_Md_areNumbers_78 ?_
                  refine gm_eqi hnm ?_
                  refine lv_iconst (v := nI 2) C.1 C.2.1 d_Md_areNumbers_79 rfl ?_
                  refine lv_icmp_le (tgt := 87) C.1 C.2.1 d_Md_areNumbers_80 (by decide) (fun c_31 => ?_) (fun c_31 => ?_)
                  · -- 80 -> 87
                    have c_31 := gm_let (by omega) (by omega) c_31
                    refine lv_iconst (v := nI 0) C.1 C.2.1 d_Md_areNumbers_87 rfl ?_
                    exact gr_i C hlk hret (gm_nb (Or.inl rfl)) hh (by refine ⟨rfl, ?_⟩; simp_all [nI_0, nI_one, bI, numB] <;> omega) d_Md_areNumbers_88
                  · -- 80 -> 83
                    have c_31 := gm_lef (by omega) (by omega) c_31
                    refine lv_iconst (v := nI 1) C.1 C.2.1 d_Md_areNumbers_83 rfl ?_
                    refine lv_goto (tgt := 88) C.1 C.2.1 d_Md_areNumbers_84 (by decide) ?_
                    exact gr_i C hlk hret (gm_nb (Or.inr rfl)) hh (by refine ⟨rfl, ?_⟩; simp_all [nI_0, nI_one, bI, numB] <;> omega) d_Md_areNumbers_88
          · -- 44 -> 47
            skip
            refine lv_iload C.1 C.2.1 d_Md_areNumbers_47 (lv_at hl 4 rfl) ?_
            refine lv_if_ne (tgt := 54) C.1 C.2.1 d_Md_areNumbers_49 (by decide) (fun c_32 => ?_) (fun c_32 => ?_)
            · -- 49 -> 54
              skip
              refine lv_iload_n C.1 C.2.1 d_Md_areNumbers_54 rfl (lv_at hl 3 rfl) ?_
              refine lv_if_eq (tgt := 68) C.1 C.2.1 d_Md_areNumbers_55 (by decide) (fun c_33 => ?_) (fun c_33 => ?_)
              · -- 55 -> 68
                skip
                refine lv_iload C.1 C.2.1 d_Md_areNumbers_68 (lv_at hl 4 rfl) ?_
                refine lv_if_eq (tgt := 83) C.1 C.2.1 d_Md_areNumbers_70 (by decide) (fun c_34 => ?_) (fun c_34 => ?_)
                · -- 70 -> 83
                  skip
                  refine lv_iconst (v := nI 1) C.1 C.2.1 d_Md_areNumbers_83 rfl ?_
                  refine lv_goto (tgt := 88) C.1 C.2.1 d_Md_areNumbers_84 (by decide) ?_
                  exact gr_i C hlk hret (gm_nb (Or.inr rfl)) hh (by refine ⟨rfl, ?_⟩; simp_all [nI_0, nI_one, bI, numB] <;> omega) d_Md_areNumbers_88
                · -- 70 -> 73
                  skip
                  refine lv_aload_n C.1 C.2.1 d_Md_areNumbers_73 rfl (lv_at hl 0 rfl) ?_
                  refine gg_r C hh (Md_0 hM) rfl in_Md 1 (by decide) rfl tw_566 rfl d_Md_areNumbers_74 ?_
                  refine lv_iload_n C.1 C.2.1 d_Md_areNumbers_77 rfl (lv_at hl 1 rfl) ?_
                  refine ga_i C hh (Md_1 hM) (k := j) rfl (by omega) (by omega) d_Md_areNumbers_78 ?_
                  refine gm_eqi hnm ?_
                  refine lv_iconst (v := nI 2) C.1 C.2.1 d_Md_areNumbers_79 rfl ?_
                  refine lv_icmp_le (tgt := 87) C.1 C.2.1 d_Md_areNumbers_80 (by decide) (fun c_35 => ?_) (fun c_35 => ?_)
                  · -- 80 -> 87
                    have c_35 := gm_let (by omega) (by omega) c_35
                    refine lv_iconst (v := nI 0) C.1 C.2.1 d_Md_areNumbers_87 rfl ?_
                    exact gr_i C hlk hret (gm_nb (Or.inl rfl)) hh (by refine ⟨rfl, ?_⟩; simp_all [nI_0, nI_one, bI, numB] <;> omega) d_Md_areNumbers_88
                  · -- 80 -> 83
                    have c_35 := gm_lef (by omega) (by omega) c_35
                    refine lv_iconst (v := nI 1) C.1 C.2.1 d_Md_areNumbers_83 rfl ?_
                    refine lv_goto (tgt := 88) C.1 C.2.1 d_Md_areNumbers_84 (by decide) ?_
                    exact gr_i C hlk hret (gm_nb (Or.inr rfl)) hh (by refine ⟨rfl, ?_⟩; simp_all [nI_0, nI_one, bI, numB] <;> omega) d_Md_areNumbers_88
              · -- 55 -> 58
                skip
                refine lv_aload_n C.1 C.2.1 d_Md_areNumbers_58 rfl (lv_at hl 0 rfl) ?_
                refine gg_r C hh (Md_0 hM) rfl in_Md 1 (by decide) rfl tw_566 rfl d_Md_areNumbers_59 ?_
                refine lv_iload_n C.1 C.2.1 d_Md_areNumbers_62 rfl (lv_at hl 1 rfl) ?_
                refine ga_i C hh (Md_1 hM) (k := j) rfl (by omega) (by omega) d_Md_areNumbers_63 ?_
                refine gm_eqi hnm ?_
                refine lv_iconst (v := nI 1) C.1 C.2.1 d_Md_areNumbers_64 rfl ?_
                refine lv_icmp_le (tgt := 87) C.1 C.2.1 d_Md_areNumbers_65 (by decide) (fun c_36 => ?_) (fun c_36 => ?_)
                · -- 65 -> 87
                  have c_36 := gm_let (by omega) (by omega) c_36
                  refine lv_iconst (v := nI 0) C.1 C.2.1 d_Md_areNumbers_87 rfl ?_
                  exact gr_i C hlk hret (gm_nb (Or.inl rfl)) hh (by refine ⟨rfl, ?_⟩; simp_all [nI_0, nI_one, bI, numB] <;> omega) d_Md_areNumbers_88
                · -- 65 -> 68
                  have c_36 := gm_lef (by omega) (by omega) c_36
                  refine lv_iload C.1 C.2.1 d_Md_areNumbers_68 (lv_at hl 4 rfl) ?_
                  refine lv_if_eq (tgt := 83) C.1 C.2.1 d_Md_areNumbers_70 (by decide) (fun c_37 => ?_) (fun c_37 => ?_)
                  · -- 70 -> 83
                    skip
                    refine lv_iconst (v := nI 1) C.1 C.2.1 d_Md_areNumbers_83 rfl ?_
                    refine lv_goto (tgt := 88) C.1 C.2.1 d_Md_areNumbers_84 (by decide) ?_
                    exact gr_i C hlk hret (gm_nb (Or.inr rfl)) hh (by refine ⟨rfl, ?_⟩; simp_all [nI_0, nI_one, bI, numB] <;> omega) d_Md_areNumbers_88
                  · -- 70 -> 73
                    skip
                    refine lv_aload_n C.1 C.2.1 d_Md_areNumbers_73 rfl (lv_at hl 0 rfl) ?_
                    refine gg_r C hh (Md_0 hM) rfl in_Md 1 (by decide) rfl tw_566 rfl d_Md_areNumbers_74 ?_
                    refine lv_iload_n C.1 C.2.1 d_Md_areNumbers_77 rfl (lv_at hl 1 rfl) ?_
                    refine ga_i C hh (Md_1 hM) (k := j) rfl (by omega) (by omega) d_Md_areNumbers_78 ?_
                    refine gm_eqi hnm ?_
                    refine lv_iconst (v := nI 2) C.1 C.2.1 d_Md_areNumbers_79 rfl ?_
                    refine lv_icmp_le (tgt := 87) C.1 C.2.1 d_Md_areNumbers_80 (by decide) (fun c_38 => ?_) (fun c_38 => ?_)
                    · -- 80 -> 87
                      have c_38 := gm_let (by omega) (by omega) c_38
                      refine lv_iconst (v := nI 0) C.1 C.2.1 d_Md_areNumbers_87 rfl ?_
                      exact gr_i C hlk hret (gm_nb (Or.inl rfl)) hh (by refine ⟨rfl, ?_⟩; simp_all [nI_0, nI_one, bI, numB] <;> omega) d_Md_areNumbers_88
                    · -- 80 -> 83
                      have c_38 := gm_lef (by omega) (by omega) c_38
                      refine lv_iconst (v := nI 1) C.1 C.2.1 d_Md_areNumbers_83 rfl ?_
                      refine lv_goto (tgt := 88) C.1 C.2.1 d_Md_areNumbers_84 (by decide) ?_
                      exact gr_i C hlk hret (gm_nb (Or.inr rfl)) hh (by refine ⟨rfl, ?_⟩; simp_all [nI_0, nI_one, bI, numB] <;> omega) d_Md_areNumbers_88
            · -- 49 -> 52
              skip
              refine lv_iconst (v := nI 0) C.1 C.2.1 d_Md_areNumbers_52 rfl ?_
              exact gr_i C hlk hret (gm_nb (Or.inl rfl)) hh (by refine ⟨rfl, ?_⟩; simp_all [nI_0, nI_one, bI, numB] <;> omega) d_Md_areNumbers_53
      · -- 34 -> 37
        have b_39 := bI_f hr_13 c_16
        skip
        refine lv_iconst (v := nI 0) C.1 C.2.1 d_Md_areNumbers_37 rfl ?_
        exact gr_i C hlk hret (gm_nb (Or.inl rfl)) hh (by refine ⟨rfl, ?_⟩; simp_all [nI_0, nI_one, bI, numB] <;> omega) d_Md_areNumbers_38

set_option maxHeartbeats 4000000 in
set_option maxRecDepth 100000 in
theorem c_Md_isRow (l : Launch) (D : va_G) (cs : Nat → ClassId) (sh : gm_H) (sz : Nat) (I : gm_I) (J : gm_J) (r : Nat) (hM : is_Md sh r) (hV : inv_Md I r) (j nm : Nat) (a b c d : Int32) (hj : j < 8) (hnm : I (r + 1) j = nI nm) (hn3 : nm ≤ 3) : CI l y_Md_isRow w_Md_isRow { frames := 2, cells := 0, slots := 0, locals := 47 } D cs sh sz I J [.ref r, .int (nI j), .int a, .int b, .int c, .int d] (fun x u => u = (I, J) ∧ x = bI (rowB nm a b c d)) := by
  refine gm_start (by decide) (Nat.le_of_ble_eq_true rfl) ?_
  intro p' e' s' m' be' me' co' ls C hml hlk hret hh hl
  have hl : lv_has ls 6 [(0, .ref r), (1, .int (nI j)), (2, .int a), (3, .int b), (4, .int c), (5, .int d)] := hl
  refine lv_aload_n C.1 C.2.1 d_Md_isRow_0 rfl (lv_at hl 0 rfl) ?_
  refine lv_iload_n C.1 C.2.1 d_Md_isRow_1 rfl (lv_at hl 1 rfl) ?_
  refine lv_iload_n C.1 C.2.1 d_Md_isRow_2 rfl (lv_at hl 2 rfl) ?_
  refine lv_iload_n C.1 C.2.1 d_Md_isRow_3 rfl (lv_at hl 3 rfl) ?_
  refine lv_iload C.1 C.2.1 d_Md_isRow_4 (lv_at hl 4 rfl) ?_
  refine lv_bipush (v := nI 9) C.1 C.2.1 d_Md_isRow_6 rfl ?_
  refine gc_i hh (gc_runV (As := [.int (nI j), .int a, .int b, .int c, .int (nI 9)]) (rest := []) (n := 5) C hml hh (c_Md_areNumbers l D cs sh sz I J r hM hV j nm a b c (nI 9) hj hnm hn3) (tg_V tw_703 tw_705 tw_28 tw_64 tw_706) (by decide +kernel) ⟨rfl, rfl, by decide, by decide, Nat.zero_le _, Nat.zero_le _⟩ (Md_0 hM) rfl rfl hl.1 rfl (Nat.le_of_ble_eq_true rfl) d_Md_isRow_8) (fun r_1 I_2 J_3 H locs hr_1 hh => ?_)
  obtain ⟨e_r_1, hr_1⟩ := hr_1
  rw [(Prod.mk.inj e_r_1).1, (Prod.mk.inj e_r_1).2] at hh
  refine lv_if_eq (tgt := 32) C.1 C.2.1 d_Md_isRow_11 (by decide) (fun c_4 => ?_) (fun c_4 => ?_)
  · -- 11 -> 32
    have b_5 := bI_f hr_1 c_4
    skip
    refine lv_iconst (v := nI 0) C.1 C.2.1 d_Md_isRow_32 rfl ?_
    exact gr_i C hlk hret (gm_nb (Or.inl rfl)) hh (by refine ⟨rfl, ?_⟩; simp_all [nI_0, nI_one, bI, rowB]) d_Md_isRow_33
  · -- 11 -> 14
    have b_6 := bI_t hr_1 c_4
    skip
    refine lv_iload C.1 C.2.1 d_Md_isRow_14 (lv_at hl 5 rfl) ?_
    refine lv_sipush (v := (-1000)) C.1 C.2.1 d_Md_isRow_16 rfl ?_
    refine lv_sipush (v := nI 1000) C.1 C.2.1 d_Md_isRow_19 rfl ?_
    refine gc_i hh (gc_runS (As := [.int d, .int (-1000), .int (nI 1000)]) (rest := []) (n := 3) C hml hh (c_Md_isIn l D cs sh sz I J d (-1000) (nI 1000)) (tg_S tw_684 tw_685 tw_64 tw_686) (by decide +kernel) ⟨rfl, rfl, by decide, by decide, Nat.zero_le _, Nat.zero_le _⟩ rfl hl.1 rfl (Nat.le_of_ble_eq_true rfl) d_Md_isRow_22) (fun r_7 I_8 J_9 H locs hr_7 hh => ?_)
    obtain ⟨e_r_7, hr_7⟩ := hr_7
    rw [(Prod.mk.inj e_r_7).1, (Prod.mk.inj e_r_7).2] at hh
    refine lv_if_eq (tgt := 32) C.1 C.2.1 d_Md_isRow_25 (by decide) (fun c_10 => ?_) (fun c_10 => ?_)
    · -- 25 -> 32
      have b_11 := bI_f hr_7 c_10
      skip
      refine lv_iconst (v := nI 0) C.1 C.2.1 d_Md_isRow_32 rfl ?_
      exact gr_i C hlk hret (gm_nb (Or.inl rfl)) hh (by refine ⟨rfl, ?_⟩; simp_all [nI_0, nI_one, bI, rowB]) d_Md_isRow_33
    · -- 25 -> 28
      have b_12 := bI_t hr_7 c_10
      skip
      refine lv_iconst (v := nI 1) C.1 C.2.1 d_Md_isRow_28 rfl ?_
      refine lv_goto (tgt := 33) C.1 C.2.1 d_Md_isRow_29 (by decide) ?_
      exact gr_i C hlk hret (gm_nb (Or.inr rfl)) hh (by refine ⟨rfl, ?_⟩; simp_all [nI_0, nI_one, bI, rowB]) d_Md_isRow_33
end
section
set_option maxHeartbeats 4000000 in
set_option maxRecDepth 100000 in
theorem c_Md_lay (l : Launch) (D : va_G) (cs : Nat → ClassId) (sh : gm_H) (sz : Nat) (I : gm_I) (J : gm_J) (q n k : Nat) (a b c d : Int32) (hq : sh q = some (.inr (.inl n))) (hk : k + 3 < n) (hn : n < 2 ^ 30) : CV l y_Md_lay w_Md_lay { frames := 0, cells := 0, slots := 0, locals := 0 } D cs sh sz I J [.ref q, .int (nI k), .int a, .int b, .int c, .int d] (fun u => u = (gm_up (gm_up (gm_up (gm_up I q k a) q (k + 1) b) q (k + 2) c) q (k + 3) d, J)) := by
  refine gm_start (by decide) (Nat.le_of_ble_eq_true rfl) ?_
  intro p' e' s' m' be' me' co' ls C hml hlk hret hh hl
  have hl : lv_has ls 6 [(0, .ref q), (1, .int (nI k)), (2, .int a), (3, .int b), (4, .int c), (5, .int d)] := hl
  refine lv_aload_n C.1 C.2.1 d_Md_lay_0 rfl (lv_at hl 0 rfl) ?_
  refine lv_iload_n C.1 C.2.1 d_Md_lay_1 rfl (lv_at hl 1 rfl) ?_
  refine lv_iload_n C.1 C.2.1 d_Md_lay_2 rfl (lv_at hl 2 rfl) ?_
  refine gs_i C hh hq (k := k) rfl (by omega) (by omega) d_Md_lay_3 (fun H locs hh => ?_)
  obtain ⟨I_1, eI_1⟩ : ∃ z : gm_I, z = gm_up I q k a := ⟨_, rfl⟩
  rw [← eI_1] at hh
  refine lv_aload_n C.1 C.2.1 d_Md_lay_4 rfl (lv_at hl 0 rfl) ?_
  refine lv_iload_n C.1 C.2.1 d_Md_lay_5 rfl (lv_at hl 1 rfl) ?_
  refine lv_iconst (v := nI 1) C.1 C.2.1 d_Md_lay_6 rfl ?_
  refine lv_iadd C.1 C.2.1 d_Md_lay_7 ?_
  refine gm_eqi (nI_add _ _) ?_
  refine lv_iload_n C.1 C.2.1 d_Md_lay_8 rfl (lv_at hl 3 rfl) ?_
  refine gs_i C hh hq (k := k + 1) rfl (by omega) (by omega) d_Md_lay_9 (fun H locs hh => ?_)
  obtain ⟨I_2, eI_2⟩ : ∃ z : gm_I, z = gm_up I_1 q (k + 1) b := ⟨_, rfl⟩
  rw [← eI_2] at hh
  refine lv_aload_n C.1 C.2.1 d_Md_lay_10 rfl (lv_at hl 0 rfl) ?_
  refine lv_iload_n C.1 C.2.1 d_Md_lay_11 rfl (lv_at hl 1 rfl) ?_
  refine lv_iconst (v := nI 2) C.1 C.2.1 d_Md_lay_12 rfl ?_
  refine lv_iadd C.1 C.2.1 d_Md_lay_13 ?_
  refine gm_eqi (nI_add _ _) ?_
  refine lv_iload C.1 C.2.1 d_Md_lay_14 (lv_at hl 4 rfl) ?_
  refine gs_i C hh hq (k := k + 2) rfl (by omega) (by omega) d_Md_lay_16 (fun H locs hh => ?_)
  obtain ⟨I_3, eI_3⟩ : ∃ z : gm_I, z = gm_up I_2 q (k + 2) c := ⟨_, rfl⟩
  rw [← eI_3] at hh
  refine lv_aload_n C.1 C.2.1 d_Md_lay_17 rfl (lv_at hl 0 rfl) ?_
  refine lv_iload_n C.1 C.2.1 d_Md_lay_18 rfl (lv_at hl 1 rfl) ?_
  refine lv_iconst (v := nI 3) C.1 C.2.1 d_Md_lay_19 rfl ?_
  refine lv_iadd C.1 C.2.1 d_Md_lay_20 ?_
  refine gm_eqi (nI_add _ _) ?_
  refine lv_iload C.1 C.2.1 d_Md_lay_21 (lv_at hl 5 rfl) ?_
  refine gs_i C hh hq (k := k + 3) rfl (by omega) (by omega) d_Md_lay_23 (fun H locs hh => ?_)
  obtain ⟨I_4, eI_4⟩ : ∃ z : gm_I, z = gm_up I_3 q (k + 3) d := ⟨_, rfl⟩
  rw [← eI_4] at hh
  exact gr_v C hlk hret hh (by subst_vars; rfl) d_Md_lay_24

set_option maxHeartbeats 4000000 in
set_option maxRecDepth 100000 in
theorem c_Md_clear (l : Launch) (D : va_G) (cs : Nat → ClassId) (sh : gm_H) (sz : Nat) (I : gm_I) (J : gm_J) (r : Nat) (hM : is_Md sh r) (hV : inv_Md I r)  : CI l y_Md_clear w_Md_clear { frames := 0, cells := 0, slots := 0, locals := 0 } D cs sh sz I J [.ref r] (fun x u => x = I r 0 ∧ u = (gm_up (gm_up (gm_up (gm_up I r 0 (nI 0)) r 10 (nI 0)) r 12 (nI 0)) r 13 (nI 0), J)) := by
  refine gm_start (by decide) (Nat.le_of_ble_eq_true rfl) ?_
  intro p' e' s' m' be' me' co' ls C hml hlk hret hh hl
  have hl : lv_has ls 2 [(0, .ref r)] := hl
  refine lv_aload_n C.1 C.2.1 d_Md_clear_0 rfl (lv_at hl 0 rfl) ?_
  refine gg_i C hh (Md_0 hM) rfl in_Md 0 (by decide) rfl tw_565 rfl d_Md_clear_1 ?_
  refine lv_topi (fun x_1 ex_1 => ?_)
  refine lv_istore_n (lv' := [(1, .int x_1), (0, .ref r)]) C.1 C.2.1 d_Md_clear_4 rfl hl (by decide) rfl (fun ls hl => ?_)
  refine lv_aload_n C.1 C.2.1 d_Md_clear_5 rfl (lv_at hl 1 rfl) ?_
  refine lv_iconst (v := nI 0) C.1 C.2.1 d_Md_clear_6 rfl ?_
  refine gp_i (ty := .int) C hh (Md_0 hM) rfl in_Md t_Md t_Md_ok n_Md 0 (by decide) rfl tw_565 rfl rfl (by decide +kernel) rfl rfl d_Md_clear_7 (fun H locs hh => ?_)
  obtain ⟨I_2, eI_2⟩ : ∃ z : gm_I, z = gm_up I r 0 (nI 0) := ⟨_, rfl⟩
  rw [← eI_2] at hh
  refine lv_aload_n C.1 C.2.1 d_Md_clear_10 rfl (lv_at hl 1 rfl) ?_
  refine lv_iconst (v := nI 0) C.1 C.2.1 d_Md_clear_11 rfl ?_
  refine gp_i (ty := .int) C hh (Md_0 hM) rfl in_Md t_Md t_Md_ok n_Md 10 (by decide) rfl tw_575 rfl rfl (by decide +kernel) rfl rfl d_Md_clear_12 (fun H locs hh => ?_)
  obtain ⟨I_3, eI_3⟩ : ∃ z : gm_I, z = gm_up I_2 r 10 (nI 0) := ⟨_, rfl⟩
  rw [← eI_3] at hh
  refine lv_aload_n C.1 C.2.1 d_Md_clear_15 rfl (lv_at hl 1 rfl) ?_
  refine lv_iconst (v := nI 0) C.1 C.2.1 d_Md_clear_16 rfl ?_
  refine gp_i (ty := .int) C hh (Md_0 hM) rfl in_Md t_Md t_Md_ok n_Md 12 (by decide) rfl tw_577 rfl rfl (by decide +kernel) rfl rfl d_Md_clear_17 (fun H locs hh => ?_)
  obtain ⟨I_4, eI_4⟩ : ∃ z : gm_I, z = gm_up I_3 r 12 (nI 0) := ⟨_, rfl⟩
  rw [← eI_4] at hh
  refine lv_aload_n C.1 C.2.1 d_Md_clear_20 rfl (lv_at hl 1 rfl) ?_
  refine lv_iconst (v := nI 0) C.1 C.2.1 d_Md_clear_21 rfl ?_
  refine gp_i (ty := .boolean) C hh (Md_0 hM) rfl in_Md t_Md t_Md_ok n_Md 13 (by decide) rfl tw_578 rfl rfl (by decide +kernel) (gm_nb (Or.inl rfl)) (gm_fb (Or.inl rfl)) d_Md_clear_22 (fun H locs hh => ?_)
  obtain ⟨I_5, eI_5⟩ : ∃ z : gm_I, z = gm_up I_4 r 13 (nI 0) := ⟨_, rfl⟩
  rw [← eI_5] at hh
  refine lv_iload_n C.1 C.2.1 d_Md_clear_25 rfl (lv_at hl 0 rfl) ?_
  exact gr_i C hlk hret rfl hh (by subst_vars; exact ⟨rfl, rfl⟩) d_Md_clear_26

set_option maxHeartbeats 4000000 in
set_option maxRecDepth 100000 in
theorem c_Md_left (l : Launch) (D : va_G) (cs : Nat → ClassId) (sh : gm_H) (sz : Nat) (I : gm_I) (J : gm_J) (r : Nat) (hM : is_Md sh r) (hV : inv_Md I r)  : CI l y_Md_left w_Md_left { frames := 0, cells := 0, slots := 0, locals := 0 } D cs sh sz I J [.ref r] (fun x u => u = (I, J) ∧ x = I r 12) := by
  refine gm_start (by decide) (Nat.le_of_ble_eq_true rfl) ?_
  intro p' e' s' m' be' me' co' ls C hml hlk hret hh hl
  have hl : lv_has ls 1 [(0, .ref r)] := hl
  refine lv_aload_n C.1 C.2.1 d_Md_left_0 rfl (lv_at hl 0 rfl) ?_
  refine gg_i C hh (Md_0 hM) rfl in_Md 12 (by decide) rfl tw_577 rfl d_Md_left_1 ?_
  exact gr_i C hlk hret rfl hh (by exact ⟨rfl, rfl⟩) d_Md_left_4

set_option maxHeartbeats 4000000 in
set_option maxRecDepth 100000 in
theorem c_Md_loops (l : Launch) (D : va_G) (cs : Nat → ClassId) (sh : gm_H) (sz : Nat) (I : gm_I) (J : gm_J) (r : Nat) (hM : is_Md sh r) (hV : inv_Md I r)  : CI l y_Md_loops w_Md_loops { frames := 0, cells := 0, slots := 0, locals := 0 } D cs sh sz I J [.ref r] (fun x u => u = (I, J) ∧ x = I r 0) := by
  refine gm_start (by decide) (Nat.le_of_ble_eq_true rfl) ?_
  intro p' e' s' m' be' me' co' ls C hml hlk hret hh hl
  have hl : lv_has ls 1 [(0, .ref r)] := hl
  refine lv_aload_n C.1 C.2.1 d_Md_loops_0 rfl (lv_at hl 0 rfl) ?_
  refine gg_i C hh (Md_0 hM) rfl in_Md 0 (by decide) rfl tw_565 rfl d_Md_loops_1 ?_
  exact gr_i C hlk hret rfl hh (by exact ⟨rfl, rfl⟩) d_Md_loops_4

set_option maxHeartbeats 4000000 in
set_option maxRecDepth 100000 in
theorem c_Md_loop (l : Launch) (D : va_G) (cs : Nat → ClassId) (sh : gm_H) (sz : Nat) (I : gm_I) (J : gm_J) (r : Nat) (hM : is_Md sh r) (hV : inv_Md I r) (v : Int32) (n : Nat) (hn8 : n ≤ 8) (hn : I r 0 = nI n) : CI l y_Md_loop w_Md_loop { frames := 1, cells := 0, slots := 0, locals := 22 } D cs sh sz I J [.ref r, .int v] (fun x u => (inI v (nI 1) (nI 3) = false ∧ x = -3 ∧ u = (I, J)) ∨ (inI v (nI 1) (nI 3) = true ∧ n = 8 ∧ x = -4 ∧ u = (I, J)) ∨ (inI v (nI 1) (nI 3) = true ∧ n < 8 ∧ x = nI n ∧ u = (gm_up (gm_up (gm_up (gm_up I (r + 1) n v) (r + 2) n (nI 0)) (r + 3) n (nI 0)) r 0 (nI (n + 1)), gm_up (gm_up (gm_up J (r + 9) (3 * n + 0) 0) (r + 9) (3 * n + 1) 0) (r + 9) (3 * n + 2) 0))) := by
  refine gm_start (by decide) (Nat.le_of_ble_eq_true rfl) ?_
  intro p' e' s' m' be' me' co' ls C hml hlk hret hh hl
  have hl : lv_has ls 4 [(0, .ref r), (1, .int v)] := hl
  refine lv_iload_n C.1 C.2.1 d_Md_loop_0 rfl (lv_at hl 1 rfl) ?_
  refine lv_iconst (v := nI 1) C.1 C.2.1 d_Md_loop_1 rfl ?_
  refine lv_iconst (v := nI 3) C.1 C.2.1 d_Md_loop_2 rfl ?_
  refine gc_i hh (gc_runS (As := [.int v, .int (nI 1), .int (nI 3)]) (rest := []) (n := 3) C hml hh (c_Md_isIn l D cs sh sz I J v (nI 1) (nI 3)) (tg_S tw_684 tw_685 tw_64 tw_686) (by decide +kernel) ⟨rfl, rfl, by decide, by decide, Nat.zero_le _, Nat.zero_le _⟩ rfl hl.1 rfl (Nat.le_of_ble_eq_true rfl) d_Md_loop_3) (fun r_1 I_2 J_3 H locs hr_1 hh => ?_)
  obtain ⟨e_r_1, hr_1⟩ := hr_1
  rw [(Prod.mk.inj e_r_1).1, (Prod.mk.inj e_r_1).2] at hh
  refine lv_if_ne (tgt := 12) C.1 C.2.1 d_Md_loop_6 (by decide) (fun c_4 => ?_) (fun c_4 => ?_)
  · -- 6 -> 12
    have b_5 := bI_t hr_1 c_4
    skip
    refine lv_aload_n C.1 C.2.1 d_Md_loop_12 rfl (lv_at hl 0 rfl) ?_
    refine gg_i C hh (Md_0 hM) rfl in_Md 0 (by decide) rfl tw_565 rfl d_Md_loop_13 ?_
    refine gm_eqi hn ?_
    refine lv_bipush (v := nI 8) C.1 C.2.1 d_Md_loop_16 rfl ?_
    refine lv_icmp_ne (tgt := 24) C.1 C.2.1 d_Md_loop_18 (by decide) (fun c_6 => ?_) (fun c_6 => ?_)
    · -- 18 -> 24
      have c_6 := gm_net (by omega) (by omega) c_6
      refine lv_aload_n C.1 C.2.1 d_Md_loop_24 rfl (lv_at hl 0 rfl) ?_
      refine gg_i C hh (Md_0 hM) rfl in_Md 0 (by decide) rfl tw_565 rfl d_Md_loop_25 ?_
      refine gm_eqi hn ?_
      refine lv_istore_n (lv' := [(2, .int (nI n)), (0, .ref r), (1, .int v)]) C.1 C.2.1 d_Md_loop_28 rfl hl (by decide) rfl (fun ls hl => ?_)
      refine lv_aload_n C.1 C.2.1 d_Md_loop_29 rfl (lv_at hl 1 rfl) ?_
      refine gg_r C hh (Md_0 hM) rfl in_Md 1 (by decide) rfl tw_566 rfl d_Md_loop_30 ?_
      refine lv_iload_n C.1 C.2.1 d_Md_loop_33 rfl (lv_at hl 0 rfl) ?_
      refine lv_iload_n C.1 C.2.1 d_Md_loop_34 rfl (lv_at hl 2 rfl) ?_
      refine gs_i C hh (Md_1 hM) (k := n) rfl (by omega) (by omega) d_Md_loop_35 (fun H locs hh => ?_)
      obtain ⟨I_7, eI_7⟩ : ∃ z : gm_I, z = gm_up I (r + 1) n v := ⟨_, rfl⟩
      rw [← eI_7] at hh
      refine lv_aload_n C.1 C.2.1 d_Md_loop_36 rfl (lv_at hl 1 rfl) ?_
      refine gg_r C hh (Md_0 hM) rfl in_Md 2 (by decide) rfl tw_567 rfl d_Md_loop_37 ?_
      refine lv_iload_n C.1 C.2.1 d_Md_loop_40 rfl (lv_at hl 0 rfl) ?_
      refine lv_iconst (v := nI 0) C.1 C.2.1 d_Md_loop_41 rfl ?_
      refine gs_i C hh (Md_2 hM) (k := n) rfl (by omega) (by omega) d_Md_loop_42 (fun H locs hh => ?_)
      obtain ⟨I_8, eI_8⟩ : ∃ z : gm_I, z = gm_up I_7 (r + 2) n (nI 0) := ⟨_, rfl⟩
      rw [← eI_8] at hh
      refine lv_aload_n C.1 C.2.1 d_Md_loop_43 rfl (lv_at hl 1 rfl) ?_
      refine gg_r C hh (Md_0 hM) rfl in_Md 3 (by decide) rfl tw_568 rfl d_Md_loop_44 ?_
      refine lv_iload_n C.1 C.2.1 d_Md_loop_47 rfl (lv_at hl 0 rfl) ?_
      refine lv_iconst (v := nI 0) C.1 C.2.1 d_Md_loop_48 rfl ?_
      refine gs_i C hh (Md_3 hM) (k := n) rfl (by omega) (by omega) d_Md_loop_49 (fun H locs hh => ?_)
      obtain ⟨I_9, eI_9⟩ : ∃ z : gm_I, z = gm_up I_8 (r + 3) n (nI 0) := ⟨_, rfl⟩
      rw [← eI_9] at hh
      refine lv_iconst (v := nI 0) C.1 C.2.1 d_Md_loop_50 rfl ?_
      refine lv_istore_n (lv' := [(3, .int (nI 0)), (2, .int (nI n)), (0, .ref r), (1, .int v)]) C.1 C.2.1 d_Md_loop_51 rfl hl (by decide) rfl (fun ls hl => ?_)
      refine lv_iload_n C.1 C.2.1 d_Md_loop_52 rfl (lv_at hl 0 rfl) ?_
      refine lv_iconst (v := nI 3) C.1 C.2.1 d_Md_loop_53 rfl ?_
      refine lv_icmp_ge (tgt := 74) C.1 C.2.1 d_Md_loop_54 (by decide) (fun c_ => absurd c_ (by decide)) (fun c_ => ?_)
      refine lv_aload_n C.1 C.2.1 d_Md_loop_57 rfl (lv_at hl 2 rfl) ?_
      refine gg_r C hh (Md_0 hM) rfl in_Md 9 (by decide) rfl tw_574 rfl d_Md_loop_58 ?_
      refine lv_iconst (v := nI 3) C.1 C.2.1 d_Md_loop_61 rfl ?_
      refine lv_iload_n C.1 C.2.1 d_Md_loop_62 rfl (lv_at hl 1 rfl) ?_
      refine lv_imul C.1 C.2.1 d_Md_loop_63 ?_
      refine gm_eqi (pk_mul _ _) ?_
      refine lv_iload_n C.1 C.2.1 d_Md_loop_64 rfl (lv_at hl 0 rfl) ?_
      refine lv_iadd C.1 C.2.1 d_Md_loop_65 ?_
      refine gm_eqi (nI_add _ _) ?_
      refine lv_lconst (v := 0) C.1 C.2.1 d_Md_loop_66 rfl ?_
      refine gs_l C hh (Md_9 hM) (k := (3 * n) + 0) rfl (by omega) (by omega) d_Md_loop_67 (fun H locs hh => ?_)
      obtain ⟨J_10, eJ_10⟩ : ∃ z : gm_J, z = gm_up J (r + 9) ((3 * n) + 0) (0 : Int64) := ⟨_, rfl⟩
      rw [← eJ_10] at hh
      refine lv_iinc (v := nI 1) (lv' := [(3, .int (nI 1)), (2, .int (nI n)), (0, .ref r), (1, .int v)]) C.1 C.2.1 d_Md_loop_68 hl (k := 0) rfl (gm_inc 0 1) (by decide) rfl (fun ls hl => ?_)
      refine lv_goto (tgt := 52) C.1 C.2.1 d_Md_loop_71 (by decide) ?_
      refine lv_iload_n C.1 C.2.1 d_Md_loop_52 rfl (lv_at hl 0 rfl) ?_
      refine lv_iconst (v := nI 3) C.1 C.2.1 d_Md_loop_53 rfl ?_
      refine lv_icmp_ge (tgt := 74) C.1 C.2.1 d_Md_loop_54 (by decide) (fun c_ => absurd c_ (by decide)) (fun c_ => ?_)
      refine lv_aload_n C.1 C.2.1 d_Md_loop_57 rfl (lv_at hl 2 rfl) ?_
      refine gg_r C hh (Md_0 hM) rfl in_Md 9 (by decide) rfl tw_574 rfl d_Md_loop_58 ?_
      refine lv_iconst (v := nI 3) C.1 C.2.1 d_Md_loop_61 rfl ?_
      refine lv_iload_n C.1 C.2.1 d_Md_loop_62 rfl (lv_at hl 1 rfl) ?_
      refine lv_imul C.1 C.2.1 d_Md_loop_63 ?_
      refine gm_eqi (pk_mul _ _) ?_
      refine lv_iload_n C.1 C.2.1 d_Md_loop_64 rfl (lv_at hl 0 rfl) ?_
      refine lv_iadd C.1 C.2.1 d_Md_loop_65 ?_
      refine gm_eqi (nI_add _ _) ?_
      refine lv_lconst (v := 0) C.1 C.2.1 d_Md_loop_66 rfl ?_
      refine gs_l C hh (Md_9 hM) (k := (3 * n) + 1) rfl (by omega) (by omega) d_Md_loop_67 (fun H locs hh => ?_)
      obtain ⟨J_11, eJ_11⟩ : ∃ z : gm_J, z = gm_up J_10 (r + 9) ((3 * n) + 1) (0 : Int64) := ⟨_, rfl⟩
      rw [← eJ_11] at hh
      refine lv_iinc (v := nI 2) (lv' := [(3, .int (nI 2)), (2, .int (nI n)), (0, .ref r), (1, .int v)]) C.1 C.2.1 d_Md_loop_68 hl (k := 0) rfl (gm_inc 1 1) (by decide) rfl (fun ls hl => ?_)
      refine lv_goto (tgt := 52) C.1 C.2.1 d_Md_loop_71 (by decide) ?_
      refine lv_iload_n C.1 C.2.1 d_Md_loop_52 rfl (lv_at hl 0 rfl) ?_
      refine lv_iconst (v := nI 3) C.1 C.2.1 d_Md_loop_53 rfl ?_
      refine lv_icmp_ge (tgt := 74) C.1 C.2.1 d_Md_loop_54 (by decide) (fun c_ => absurd c_ (by decide)) (fun c_ => ?_)
      refine lv_aload_n C.1 C.2.1 d_Md_loop_57 rfl (lv_at hl 2 rfl) ?_
      refine gg_r C hh (Md_0 hM) rfl in_Md 9 (by decide) rfl tw_574 rfl d_Md_loop_58 ?_
      refine lv_iconst (v := nI 3) C.1 C.2.1 d_Md_loop_61 rfl ?_
      refine lv_iload_n C.1 C.2.1 d_Md_loop_62 rfl (lv_at hl 1 rfl) ?_
      refine lv_imul C.1 C.2.1 d_Md_loop_63 ?_
      refine gm_eqi (pk_mul _ _) ?_
      refine lv_iload_n C.1 C.2.1 d_Md_loop_64 rfl (lv_at hl 0 rfl) ?_
      refine lv_iadd C.1 C.2.1 d_Md_loop_65 ?_
      refine gm_eqi (nI_add _ _) ?_
      refine lv_lconst (v := 0) C.1 C.2.1 d_Md_loop_66 rfl ?_
      refine gs_l C hh (Md_9 hM) (k := (3 * n) + 2) rfl (by omega) (by omega) d_Md_loop_67 (fun H locs hh => ?_)
      obtain ⟨J_12, eJ_12⟩ : ∃ z : gm_J, z = gm_up J_11 (r + 9) ((3 * n) + 2) (0 : Int64) := ⟨_, rfl⟩
      rw [← eJ_12] at hh
      refine lv_iinc (v := nI 3) (lv' := [(3, .int (nI 3)), (2, .int (nI n)), (0, .ref r), (1, .int v)]) C.1 C.2.1 d_Md_loop_68 hl (k := 0) rfl (gm_inc 2 1) (by decide) rfl (fun ls hl => ?_)
      refine lv_goto (tgt := 52) C.1 C.2.1 d_Md_loop_71 (by decide) ?_
      refine lv_iload_n C.1 C.2.1 d_Md_loop_52 rfl (lv_at hl 0 rfl) ?_
      refine lv_iconst (v := nI 3) C.1 C.2.1 d_Md_loop_53 rfl ?_
      refine lv_icmp_ge (tgt := 74) C.1 C.2.1 d_Md_loop_54 (by decide) (fun c_ => ?_) (fun c_ => absurd (by decide) c_)
      refine lv_aload_n C.1 C.2.1 d_Md_loop_74 rfl (lv_at hl 2 rfl) ?_
      refine lv_dup C.1 C.2.1 d_Md_loop_75 rfl ?_
      refine gg_i C hh (Md_0 hM) rfl in_Md 0 (by decide) rfl tw_565 rfl d_Md_loop_76 ?_
      refine gm_eqi (y := I r 0) (by rw [eI_9, gm_up_ne _ _ (Or.inl (by omega)), eI_8, gm_up_ne _ _ (Or.inl (by omega)), eI_7, gm_up_ne _ _ (Or.inl (by omega))]) ?_
      refine gm_eqi hn ?_
      refine lv_iconst (v := nI 1) C.1 C.2.1 d_Md_loop_79 rfl ?_
      refine lv_iadd C.1 C.2.1 d_Md_loop_80 ?_
      refine gm_eqi (nI_add _ _) ?_
      refine gp_i (ty := .int) C hh (Md_0 hM) rfl in_Md t_Md t_Md_ok n_Md 0 (by decide) rfl tw_565 rfl rfl (by decide +kernel) rfl rfl d_Md_loop_81 (fun H locs hh => ?_)
      obtain ⟨I_13, eI_13⟩ : ∃ z : gm_I, z = gm_up I_9 r 0 (nI (n + 1)) := ⟨_, rfl⟩
      rw [← eI_13] at hh
      refine lv_iload_n C.1 C.2.1 d_Md_loop_84 rfl (lv_at hl 1 rfl) ?_
      exact gr_i C hlk hret rfl hh (by subst_vars; first | exact Or.inl ⟨by assumption, rfl, rfl⟩ | exact Or.inr (Or.inl ⟨by assumption, by omega, rfl, rfl⟩) | exact Or.inr (Or.inr ⟨by assumption, by omega, rfl, rfl⟩)) d_Md_loop_85
    · -- 18 -> 21
      have c_6 := gm_nef (by omega) (by omega) c_6
      refine lv_bipush (v := (-4)) C.1 C.2.1 d_Md_loop_21 rfl ?_
      exact gr_i C hlk hret rfl hh (by subst_vars; first | exact Or.inl ⟨by assumption, rfl, rfl⟩ | exact Or.inr (Or.inl ⟨by assumption, by omega, rfl, rfl⟩) | exact Or.inr (Or.inr ⟨by assumption, by omega, rfl, rfl⟩)) d_Md_loop_23
  · -- 6 -> 9
    have b_14 := bI_f hr_1 c_4
    skip
    refine lv_bipush (v := (-3)) C.1 C.2.1 d_Md_loop_9 rfl ?_
    exact gr_i C hlk hret rfl hh (by subst_vars; first | exact Or.inl ⟨by assumption, rfl, rfl⟩ | exact Or.inr (Or.inl ⟨by assumption, by omega, rfl, rfl⟩) | exact Or.inr (Or.inr ⟨by assumption, by omega, rfl, rfl⟩)) d_Md_loop_11

set_option maxHeartbeats 4000000 in
set_option maxRecDepth 100000 in
theorem c_Md_told (l : Launch) (D : va_G) (cs : Nat → ClassId) (sh : gm_H) (sz : Nat) (I : gm_I) (J : gm_J) (r : Nat) (hM : is_Md sh r) (hV : inv_Md I r) (v w : Int32) : CI l y_Md_told w_Md_told { frames := 2, cells := 0, slots := 0, locals := 43 } D cs sh sz I J [.ref r, .int v, .int w] (fun x u => u = (I, J) ∧ x = if lpB I r v then (if w = 0 then I (r + 1) v.toNatClampNeg else if w = nI 1 then I (r + 2) v.toNatClampNeg else if w = nI 2 then I (r + 3) v.toNatClampNeg else -3) else -2) := by
  refine gm_start (by decide) (Nat.le_of_ble_eq_true rfl) ?_
  intro p' e' s' m' be' me' co' ls C hml hlk hret hh hl
  have hl : lv_has ls 3 [(0, .ref r), (1, .int v), (2, .int w)] := hl
  refine lv_aload_n C.1 C.2.1 d_Md_told_0 rfl (lv_at hl 0 rfl) ?_
  refine lv_iload_n C.1 C.2.1 d_Md_told_1 rfl (lv_at hl 1 rfl) ?_
  refine gc_i hh (gc_runV (As := [.int v]) (rest := []) (n := 1) C hml hh (c_Md_isLoop l D cs sh sz I J r hM hV v) (tg_V tw_695 tw_697 tw_26 tw_64 tw_698) (by decide +kernel) ⟨rfl, rfl, by decide, by decide, Nat.zero_le _, Nat.zero_le _⟩ (Md_0 hM) rfl rfl hl.1 rfl (Nat.le_of_ble_eq_true rfl) d_Md_told_2) (fun r_1 I_2 J_3 H locs hr_1 hh => ?_)
  obtain ⟨e_r_1, hr_1⟩ := hr_1
  rw [(Prod.mk.inj e_r_1).1, (Prod.mk.inj e_r_1).2] at hh
  refine lv_if_ne (tgt := 11) C.1 C.2.1 d_Md_told_5 (by decide) (fun c_4 => ?_) (fun c_4 => ?_)
  · -- 5 -> 11
    have b_5 := bI_t hr_1 c_4
    obtain ⟨n_7, hn_7, en_7⟩ := hV.1
    obtain ⟨j_6, hj_6, ej_6⟩ := lpB_j en_7 hn_7 b_5
    subst ej_6
    skip
    refine lv_iload_n C.1 C.2.1 d_Md_told_11 rfl (lv_at hl 2 rfl) ?_
    refine lv_if_ne (tgt := 24) C.1 C.2.1 d_Md_told_12 (by decide) (fun c_8 => ?_) (fun c_8 => ?_)
    · -- 12 -> 24
      skip
      refine lv_iload_n C.1 C.2.1 d_Md_told_24 rfl (lv_at hl 2 rfl) ?_
      refine lv_iconst (v := nI 1) C.1 C.2.1 d_Md_told_25 rfl ?_
      refine lv_icmp_ne (tgt := 38) C.1 C.2.1 d_Md_told_26 (by decide) (fun c_9 => ?_) (fun c_9 => ?_)
      · -- 26 -> 38
        skip
        refine lv_iload_n C.1 C.2.1 d_Md_told_38 rfl (lv_at hl 2 rfl) ?_
        refine lv_iconst (v := nI 2) C.1 C.2.1 d_Md_told_39 rfl ?_
        refine lv_icmp_ne (tgt := 52) C.1 C.2.1 d_Md_told_40 (by decide) (fun c_10 => ?_) (fun c_10 => ?_)
        · -- 40 -> 52
          skip
          refine lv_bipush (v := (-3)) C.1 C.2.1 d_Md_told_52 rfl ?_
          exact gr_i C hlk hret rfl hh (by refine ⟨rfl, ?_⟩; first | (simp_all; done) | (simp_all [nI_clamp (show j_6 < 2 ^ 31 by omega)]; done)) d_Md_told_54
        · -- 40 -> 43
          skip
          refine lv_aload_n C.1 C.2.1 d_Md_told_43 rfl (lv_at hl 0 rfl) ?_
          refine gg_r C hh (Md_0 hM) rfl in_Md 3 (by decide) rfl tw_568 rfl d_Md_told_44 ?_
          refine lv_iload_n C.1 C.2.1 d_Md_told_47 rfl (lv_at hl 1 rfl) ?_
          refine ga_i C hh (Md_3 hM) (k := j_6) rfl (by omega) (by omega) d_Md_told_48 ?_
          refine lv_goto (tgt := 54) C.1 C.2.1 d_Md_told_49 (by decide) ?_
          exact gr_i C hlk hret rfl hh (by refine ⟨rfl, ?_⟩; first | (simp_all; done) | (simp_all [nI_clamp (show j_6 < 2 ^ 31 by omega)]; done)) d_Md_told_54
      · -- 26 -> 29
        skip
        refine lv_aload_n C.1 C.2.1 d_Md_told_29 rfl (lv_at hl 0 rfl) ?_
        refine gg_r C hh (Md_0 hM) rfl in_Md 2 (by decide) rfl tw_567 rfl d_Md_told_30 ?_
        refine lv_iload_n C.1 C.2.1 d_Md_told_33 rfl (lv_at hl 1 rfl) ?_
        refine ga_i C hh (Md_2 hM) (k := j_6) rfl (by omega) (by omega) d_Md_told_34 ?_
        refine lv_goto (tgt := 54) C.1 C.2.1 d_Md_told_35 (by decide) ?_
        exact gr_i C hlk hret rfl hh (by refine ⟨rfl, ?_⟩; first | (simp_all; done) | (simp_all [nI_clamp (show j_6 < 2 ^ 31 by omega)]; done)) d_Md_told_54
    · -- 12 -> 15
      skip
      refine lv_aload_n C.1 C.2.1 d_Md_told_15 rfl (lv_at hl 0 rfl) ?_
      refine gg_r C hh (Md_0 hM) rfl in_Md 1 (by decide) rfl tw_566 rfl d_Md_told_16 ?_
      refine lv_iload_n C.1 C.2.1 d_Md_told_19 rfl (lv_at hl 1 rfl) ?_
      refine ga_i C hh (Md_1 hM) (k := j_6) rfl (by omega) (by omega) d_Md_told_20 ?_
      refine lv_goto (tgt := 54) C.1 C.2.1 d_Md_told_21 (by decide) ?_
      exact gr_i C hlk hret rfl hh (by refine ⟨rfl, ?_⟩; first | (simp_all; done) | (simp_all [nI_clamp (show j_6 < 2 ^ 31 by omega)]; done)) d_Md_told_54
  · -- 5 -> 8
    have b_11 := bI_f hr_1 c_4
    skip
    refine lv_bipush (v := (-2)) C.1 C.2.1 d_Md_told_8 rfl ?_
    exact gr_i C hlk hret rfl hh (by refine ⟨rfl, ?_⟩; first | (simp_all; done) | (simp_all [nI_clamp (show j_6 < 2 ^ 31 by omega)]; done)) d_Md_told_10

set_option maxHeartbeats 4000000 in
set_option maxRecDepth 100000 in
theorem c_Md_put (l : Launch) (D : va_G) (cs : Nat → ClassId) (sh : gm_H) (sz : Nat) (I : gm_I) (J : gm_J) (r : Nat) (hM : is_Md sh r) (hV : inv_Md I r) (v w x : Int32) : CI l y_Md_put w_Md_put { frames := 3, cells := 0, slots := 0, locals := 65 } D cs sh sz I J [.ref r, .int v, .int w, .int x] (fun z u => (nmB I r v w = false ∧ z = -2 ∧ u = (I, J)) ∨ (nmB I r v w = true ∧ inI x (-1000000) (nI 1000000) = false ∧ z = -3 ∧ u = (I, J)) ∨ (nmB I r v w = true ∧ inI x (-1000000) (nI 1000000) = true ∧ z = 1 ∧ u = (I, gm_up J (r + 9) (3 * v.toNatClampNeg + w.toNatClampNeg) x.toInt64))) := by
  refine gm_start (by decide) (Nat.le_of_ble_eq_true rfl) ?_
  intro p' e' s' m' be' me' co' ls C hml hlk hret hh hl
  have hl : lv_has ls 4 [(0, .ref r), (1, .int v), (2, .int w), (3, .int x)] := hl
  refine lv_aload_n C.1 C.2.1 d_Md_put_0 rfl (lv_at hl 0 rfl) ?_
  refine lv_iload_n C.1 C.2.1 d_Md_put_1 rfl (lv_at hl 1 rfl) ?_
  refine lv_iload_n C.1 C.2.1 d_Md_put_2 rfl (lv_at hl 2 rfl) ?_
  refine gc_i hh (gc_runV (As := [.int v, .int w]) (rest := []) (n := 2) C hml hh (c_Md_isName l D cs sh sz I J r hM hV v w) (tg_V tw_726 tw_728 tw_30 tw_64 tw_729) (by decide +kernel) ⟨rfl, rfl, by decide, by decide, Nat.zero_le _, Nat.zero_le _⟩ (Md_0 hM) rfl rfl hl.1 rfl (Nat.le_of_ble_eq_true rfl) d_Md_put_3) (fun r_1 I_2 J_3 H locs hr_1 hh => ?_)
  obtain ⟨e_r_1, hr_1⟩ := hr_1
  rw [(Prod.mk.inj e_r_1).1, (Prod.mk.inj e_r_1).2] at hh
  refine lv_if_ne (tgt := 12) C.1 C.2.1 d_Md_put_6 (by decide) (fun c_4 => ?_) (fun c_4 => ?_)
  · -- 6 -> 12
    have b_5 := bI_t hr_1 c_4
    obtain ⟨j_6, k_7, hj_6, hk_7, ej_6, ek_7, lp_k_7, lt_k_7⟩ := nmB_j hV b_5
    subst ej_6
    subst ek_7
    skip
    refine lv_iload_n C.1 C.2.1 d_Md_put_12 rfl (lv_at hl 3 rfl) ?_
    refine lv_ldc C.1 C.2.1 C.2.2.2.1 (C.2.2.1 _ tw_843) d_Md_put_13 ?_
    refine gm_eqi (y := (-1000000)) rfl ?_
    refine lv_ldc C.1 C.2.1 C.2.2.2.1 (C.2.2.1 _ tw_844) d_Md_put_15 ?_
    refine gm_eqi (y := nI 1000000) rfl ?_
    refine gc_i hh (gc_runS (As := [.int x, .int (-1000000), .int (nI 1000000)]) (rest := []) (n := 3) C hml hh (c_Md_isIn l D cs sh sz I J x (-1000000) (nI 1000000)) (tg_S tw_684 tw_685 tw_64 tw_686) (by decide +kernel) ⟨rfl, rfl, by decide, by decide, Nat.zero_le _, Nat.zero_le _⟩ rfl hl.1 rfl (Nat.le_of_ble_eq_true rfl) d_Md_put_17) (fun r_8 I_9 J_10 H locs hr_8 hh => ?_)
    obtain ⟨e_r_8, hr_8⟩ := hr_8
    rw [(Prod.mk.inj e_r_8).1, (Prod.mk.inj e_r_8).2] at hh
    refine lv_if_ne (tgt := 26) C.1 C.2.1 d_Md_put_20 (by decide) (fun c_11 => ?_) (fun c_11 => ?_)
    · -- 20 -> 26
      have b_12 := bI_t hr_8 c_11
      skip
      refine lv_aload_n C.1 C.2.1 d_Md_put_26 rfl (lv_at hl 0 rfl) ?_
      refine gg_r C hh (Md_0 hM) rfl in_Md 9 (by decide) rfl tw_574 rfl d_Md_put_27 ?_
      refine lv_iconst (v := nI 3) C.1 C.2.1 d_Md_put_30 rfl ?_
      refine lv_iload_n C.1 C.2.1 d_Md_put_31 rfl (lv_at hl 1 rfl) ?_
      refine lv_imul C.1 C.2.1 d_Md_put_32 ?_
      refine gm_eqi (pk_mul _ _) ?_
      refine lv_iload_n C.1 C.2.1 d_Md_put_33 rfl (lv_at hl 2 rfl) ?_
      refine lv_iadd C.1 C.2.1 d_Md_put_34 ?_
      refine gm_eqi (nI_add _ _) ?_
      refine lv_iload_n C.1 C.2.1 d_Md_put_35 rfl (lv_at hl 3 rfl) ?_
      refine lv_i2l (v := x.toInt64) C.1 C.2.1 d_Md_put_36 rfl ?_
      refine gs_l C hh (Md_9 hM) (k := (3 * j_6) + k_7) rfl (by omega) (by omega) d_Md_put_37 (fun H locs hh => ?_)
      obtain ⟨J_13, eJ_13⟩ : ∃ z : gm_J, z = gm_up J (r + 9) ((3 * j_6) + k_7) x.toInt64 := ⟨_, rfl⟩
      rw [← eJ_13] at hh
      refine lv_iconst (v := nI 1) C.1 C.2.1 d_Md_put_38 rfl ?_
      exact gr_i C hlk hret rfl hh (by subst_vars; (try rw [nI_clamp (by omega), nI_clamp (by omega)]); first | exact Or.inl ⟨by assumption, rfl, rfl⟩ | exact Or.inr (Or.inl ⟨by assumption, by assumption, rfl, rfl⟩) | exact Or.inr (Or.inr ⟨by assumption, by assumption, rfl, rfl⟩)) d_Md_put_39
    · -- 20 -> 23
      have b_14 := bI_f hr_8 c_11
      skip
      refine lv_bipush (v := (-3)) C.1 C.2.1 d_Md_put_23 rfl ?_
      exact gr_i C hlk hret rfl hh (by subst_vars; (try rw [nI_clamp (by omega), nI_clamp (by omega)]); first | exact Or.inl ⟨by assumption, rfl, rfl⟩ | exact Or.inr (Or.inl ⟨by assumption, by assumption, rfl, rfl⟩) | exact Or.inr (Or.inr ⟨by assumption, by assumption, rfl, rfl⟩)) d_Md_put_25
  · -- 6 -> 9
    have b_15 := bI_f hr_1 c_4
    skip
    refine lv_bipush (v := (-2)) C.1 C.2.1 d_Md_put_9 rfl ?_
    exact gr_i C hlk hret rfl hh (by subst_vars; (try rw [nI_clamp (by omega), nI_clamp (by omega)]); first | exact Or.inl ⟨by assumption, rfl, rfl⟩ | exact Or.inr (Or.inl ⟨by assumption, by assumption, rfl, rfl⟩) | exact Or.inr (Or.inr ⟨by assumption, by assumption, rfl, rfl⟩)) d_Md_put_11
end
section
/-- the Nat of a number that is one -/
abbrev nN (x : Int32) : Nat := x.toNatClampNeg
def lay4 (I : gm_I) (q k : Nat) (a b c d : Int32) : gm_I := gm_up (gm_up (gm_up (gm_up I q k a) q (k + 1) b) q (k + 2) c) q (k + 3) d
def sp_guard (I : gm_I) (J : gm_J) (r : Nat) (v a b c d : Int32) : Int32 × gm_M :=
  if lpB I r v = true then
    if rowB (nN (I (r + 1) (nN v))) a b c d = true then
      if nN (I (r + 3) (nN v)) = 4 then (-4, I, J)
      else (nI (nN (I (r + 3) (nN v)) + 1), gm_up (lay4 I (r + 4) (16 * nN v + 4 * nN (I (r + 3) (nN v))) a b c d) (r + 3) (nN v) (nI (nN (I (r + 3) (nN v)) + 1)), J)
    else (-3, I, J)
  else (-2, I, J)
def sp_row (I : gm_I) (J : gm_J) (r : Nat) (v w a b c d : Int32) : Int32 × gm_M :=
  if wyB I r v w = true then
    if rowB (nN (I (r + 1) (nN v))) a b c d = true then
      if nN (I (r + 5) (3 * nN v + nN w)) = 2 then (-4, I, J)
      else (nI (nN (I (r + 5) (3 * nN v + nN w)) + 1), gm_up (lay4 I (r + 6) (8 * (3 * nN v + nN w) + 4 * nN (I (r + 5) (3 * nN v + nN w))) a b c d) (r + 5) (3 * nN v + nN w) (nI (nN (I (r + 5) (3 * nN v + nN w)) + 1)), J)
    else (-3, I, J)
  else (-2, I, J)
def sp_factor (I : gm_I) (J : gm_J) (r : Nat) (v w a b x : Int32) : Int32 × gm_M :=
  if (wyB I r v w && nmB I r v a && nmB I r v b) = true then
    if inI x (-3) (nI 3) = true then (I (r + 7) (9 * (3 * nN v + nN w) + 3 * nN a + nN b) + nI 3, gm_up I (r + 7) (9 * (3 * nN v + nN w) + 3 * nN a + nN b) x, J)
    else (-3, I, J)
  else (-2, I, J)
def sp_constant (I : gm_I) (J : gm_J) (r : Nat) (v w a x : Int32) : Int32 × gm_M :=
  if (wyB I r v w && nmB I r v a) = true then
    if inI x (-99) (nI 99) = true then (I (r + 8) (3 * (3 * nN v + nN w) + nN a) + nI 99, gm_up I (r + 8) (3 * (3 * nN v + nN w) + nN a) x, J)
    else (-3, I, J)
  else (-2, I, J)
end
section
set_option maxHeartbeats 4000000 in
set_option maxRecDepth 100000 in
theorem c_Md_guard (l : Launch) (D : va_G) (cs : Nat → ClassId) (sh : gm_H) (sz : Nat) (I : gm_I) (J : gm_J) (r : Nat) (hM : is_Md sh r) (hV : inv_Md I r) (v a b c d : Int32) : CI l y_Md_guard w_Md_guard { frames := 3, cells := 0, slots := 0, locals := 72 } D cs sh sz I J [.ref r, .int v, .int a, .int b, .int c, .int d] (fun z u => (z, u) = sp_guard I J r v a b c d) := by
  refine gm_start (by decide) (Nat.le_of_ble_eq_true rfl) ?_
  intro p' e' s' m' be' me' co' ls C hml hlk hret hh hl
  have hl : lv_has ls 6 [(0, .ref r), (1, .int v), (2, .int a), (3, .int b), (4, .int c), (5, .int d)] := hl
  refine lv_aload_n C.1 C.2.1 d_Md_guard_0 rfl (lv_at hl 0 rfl) ?_
  refine lv_iload_n C.1 C.2.1 d_Md_guard_1 rfl (lv_at hl 1 rfl) ?_
  refine gc_i hh (gc_runV (As := [.int v]) (rest := []) (n := 1) C hml hh (c_Md_isLoop l D cs sh sz I J r hM hV v) (tg_V tw_695 tw_697 tw_26 tw_64 tw_698) (by decide +kernel) ⟨rfl, rfl, by decide, by decide, Nat.zero_le _, Nat.zero_le _⟩ (Md_0 hM) rfl rfl hl.1 rfl (Nat.le_of_ble_eq_true rfl) d_Md_guard_2) (fun r_1 I_2 J_3 H locs hr_1 hh => ?_)
  obtain ⟨e_r_1, hr_1⟩ := hr_1
  rw [(Prod.mk.inj e_r_1).1, (Prod.mk.inj e_r_1).2] at hh
  refine lv_if_ne (tgt := 11) C.1 C.2.1 d_Md_guard_5 (by decide) (fun c_4 => ?_) (fun c_4 => ?_)
  · -- 5 -> 11
    have b_5 := bI_t hr_1 c_4
    obtain ⟨n_7, hn_7, en_7⟩ := hV.1
    obtain ⟨j_6, hj_6, ej_6⟩ := lpB_j en_7 hn_7 b_5
    subst ej_6
    skip
    obtain ⟨nm, hnm, enm⟩ := hV.2.1 j_6 (by omega)
    refine lv_aload_n C.1 C.2.1 d_Md_guard_11 rfl (lv_at hl 0 rfl) ?_
    refine lv_iload_n C.1 C.2.1 d_Md_guard_12 rfl (lv_at hl 1 rfl) ?_
    refine lv_iload_n C.1 C.2.1 d_Md_guard_13 rfl (lv_at hl 2 rfl) ?_
    refine lv_iload_n C.1 C.2.1 d_Md_guard_14 rfl (lv_at hl 3 rfl) ?_
    refine lv_iload C.1 C.2.1 d_Md_guard_15 (lv_at hl 4 rfl) ?_
    refine lv_iload C.1 C.2.1 d_Md_guard_17 (lv_at hl 5 rfl) ?_
    refine gc_i hh (gc_runV (As := [.int (nI j_6), .int a, .int b, .int c, .int d]) (rest := []) (n := 5) C hml hh (c_Md_isRow l D cs sh sz I J r hM hV j_6 nm a b c d (by omega) enm hnm) (tg_V tw_699 tw_701 tw_27 tw_64 tw_702) (by decide +kernel) ⟨rfl, rfl, by decide, by decide, Nat.zero_le _, Nat.zero_le _⟩ (Md_0 hM) rfl rfl hl.1 rfl (Nat.le_of_ble_eq_true rfl) d_Md_guard_19) (fun r_8 I_9 J_10 H locs hr_8 hh => ?_)
    obtain ⟨e_r_8, hr_8⟩ := hr_8
    rw [(Prod.mk.inj e_r_8).1, (Prod.mk.inj e_r_8).2] at hh
    refine lv_if_ne (tgt := 28) C.1 C.2.1 d_Md_guard_22 (by decide) (fun c_11 => ?_) (fun c_11 => ?_)
    · -- 22 -> 28
      have b_12 := bI_t hr_8 c_11
      skip
      refine lv_aload_n C.1 C.2.1 d_Md_guard_28 rfl (lv_at hl 0 rfl) ?_
      refine gg_r C hh (Md_0 hM) rfl in_Md 3 (by decide) rfl tw_568 rfl d_Md_guard_29 ?_
      refine lv_iload_n C.1 C.2.1 d_Md_guard_32 rfl (lv_at hl 1 rfl) ?_
      refine ga_i C hh (Md_3 hM) (k := j_6) rfl (by omega) (by omega) d_Md_guard_33 ?_
      obtain ⟨g_13, hg_13, eg_13⟩ := hV.2.2.2.1 j_6 (by omega)
      refine gm_eqi eg_13 ?_
      refine lv_iconst (v := nI 4) C.1 C.2.1 d_Md_guard_34 rfl ?_
      refine lv_icmp_ne (tgt := 41) C.1 C.2.1 d_Md_guard_35 (by decide) (fun c_14 => ?_) (fun c_14 => ?_)
      · -- 35 -> 41
        have c_14 := gm_net (by omega) (by omega) c_14
        refine lv_aload_n C.1 C.2.1 d_Md_guard_41 rfl (lv_at hl 0 rfl) ?_
        refine gg_r C hh (Md_0 hM) rfl in_Md 4 (by decide) rfl tw_569 rfl d_Md_guard_42 ?_
        refine lv_bipush (v := nI 16) C.1 C.2.1 d_Md_guard_45 rfl ?_
        refine lv_iload_n C.1 C.2.1 d_Md_guard_47 rfl (lv_at hl 1 rfl) ?_
        refine lv_imul C.1 C.2.1 d_Md_guard_48 ?_
        refine gm_eqi (pk_mul _ _) ?_
        refine lv_iconst (v := nI 4) C.1 C.2.1 d_Md_guard_49 rfl ?_
        refine lv_aload_n C.1 C.2.1 d_Md_guard_50 rfl (lv_at hl 0 rfl) ?_
        refine gg_r C hh (Md_0 hM) rfl in_Md 3 (by decide) rfl tw_568 rfl d_Md_guard_51 ?_
        refine lv_iload_n C.1 C.2.1 d_Md_guard_54 rfl (lv_at hl 1 rfl) ?_
        refine ga_i C hh (Md_3 hM) (k := j_6) rfl (by omega) (by omega) d_Md_guard_55 ?_
        refine gm_eqi eg_13 ?_
        refine lv_imul C.1 C.2.1 d_Md_guard_56 ?_
        refine gm_eqi (pk_mul _ _) ?_
        refine lv_iadd C.1 C.2.1 d_Md_guard_57 ?_
        refine gm_eqi (nI_add _ _) ?_
        refine lv_iload_n C.1 C.2.1 d_Md_guard_58 rfl (lv_at hl 2 rfl) ?_
        refine lv_iload_n C.1 C.2.1 d_Md_guard_59 rfl (lv_at hl 3 rfl) ?_
        refine lv_iload C.1 C.2.1 d_Md_guard_60 (lv_at hl 4 rfl) ?_
        refine lv_iload C.1 C.2.1 d_Md_guard_62 (lv_at hl 5 rfl) ?_
        refine gc_v hh (gc_runS (As := [.ref (r + 4), .int (nI ((16 * j_6) + (4 * g_13))), .int a, .int b, .int c, .int d]) (rest := []) (n := 6) C hml hh (c_Md_lay l D cs sh sz I J (r + 4) 128 ((16 * j_6) + (4 * g_13)) a b c d (Md_4 hM) (by omega) (by omega)) (tg_S tw_707 tw_708 tw_64 tw_709) (by decide +kernel) ⟨rfl, rfl, by decide, by decide, Nat.zero_le _, Nat.zero_le _⟩ rfl hl.1 rfl (Nat.le_of_ble_eq_true rfl) d_Md_guard_64) (fun I_16 J_17 H locs hr_15 hh => ?_)
        obtain ⟨X_18, eX_18⟩ : ∃ z : gm_I, z = gm_up I (r + 4) ((16 * j_6) + (4 * g_13)) a := ⟨_, rfl⟩
        obtain ⟨X_19, eX_19⟩ : ∃ z : gm_I, z = gm_up X_18 (r + 4) ((16 * j_6) + (4 * g_13) + 1) b := ⟨_, rfl⟩
        obtain ⟨X_20, eX_20⟩ : ∃ z : gm_I, z = gm_up X_19 (r + 4) ((16 * j_6) + (4 * g_13) + 2) c := ⟨_, rfl⟩
        obtain ⟨X_21, eX_21⟩ : ∃ z : gm_I, z = gm_up X_20 (r + 4) ((16 * j_6) + (4 * g_13) + 3) d := ⟨_, rfl⟩
        rw [← eX_18, ← eX_19, ← eX_20, ← eX_21] at hr_15
        rw [(Prod.mk.inj hr_15).1, (Prod.mk.inj hr_15).2] at hh
        refine lv_aload_n C.1 C.2.1 d_Md_guard_67 rfl (lv_at hl 0 rfl) ?_
        refine gg_r C hh (Md_0 hM) rfl in_Md 3 (by decide) rfl tw_568 rfl d_Md_guard_68 ?_
        refine lv_iload_n C.1 C.2.1 d_Md_guard_71 rfl (lv_at hl 1 rfl) ?_
        refine lv_dup2_11 C.1 C.2.1 d_Md_guard_72 rfl rfl ?_
        refine ga_i C hh (Md_3 hM) (k := j_6) rfl (by omega) (by omega) d_Md_guard_73 ?_
        refine gm_eqi (y := I (r + 3) j_6) (by rw [eX_21, gm_up_ne _ _ (Or.inl (by omega)), eX_20, gm_up_ne _ _ (Or.inl (by omega)), eX_19, gm_up_ne _ _ (Or.inl (by omega)), eX_18, gm_up_ne _ _ (Or.inl (by omega))]) ?_
        refine gm_eqi eg_13 ?_
        refine lv_iconst (v := nI 1) C.1 C.2.1 d_Md_guard_74 rfl ?_
        refine lv_iadd C.1 C.2.1 d_Md_guard_75 ?_
        refine gm_eqi (nI_add _ _) ?_
        refine gs_i C hh (Md_3 hM) (k := j_6) rfl (by omega) (by omega) d_Md_guard_76 (fun H locs hh => ?_)
        obtain ⟨I_22, eI_22⟩ : ∃ z : gm_I, z = gm_up X_21 (r + 3) j_6 (nI (g_13 + 1)) := ⟨_, rfl⟩
        rw [← eI_22] at hh
        refine lv_aload_n C.1 C.2.1 d_Md_guard_77 rfl (lv_at hl 0 rfl) ?_
        refine gg_r C hh (Md_0 hM) rfl in_Md 3 (by decide) rfl tw_568 rfl d_Md_guard_78 ?_
        refine lv_iload_n C.1 C.2.1 d_Md_guard_81 rfl (lv_at hl 1 rfl) ?_
        refine ga_i C hh (Md_3 hM) (k := j_6) rfl (by omega) (by omega) d_Md_guard_82 ?_
        refine gm_eqi (y := nI (g_13 + 1)) (by rw [eI_22, gm_up_same]) ?_
        exact gr_i C hlk hret rfl hh (by subst_vars; simp (disch := omega) [sp_guard, lay4, nI_clamp, nI_0, nI_one, *]) d_Md_guard_83
      · -- 35 -> 38
        have c_14 := gm_nef (by omega) (by omega) c_14
        refine lv_bipush (v := (-4)) C.1 C.2.1 d_Md_guard_38 rfl ?_
        exact gr_i C hlk hret rfl hh (by subst_vars; simp (disch := omega) [sp_guard, lay4, nI_clamp, nI_0, nI_one, *]) d_Md_guard_40
    · -- 22 -> 25
      have b_23 := bI_f hr_8 c_11
      skip
      refine lv_bipush (v := (-3)) C.1 C.2.1 d_Md_guard_25 rfl ?_
      exact gr_i C hlk hret rfl hh (by subst_vars; simp (disch := omega) [sp_guard, lay4, nI_clamp, nI_0, nI_one, *]) d_Md_guard_27
  · -- 5 -> 8
    have b_24 := bI_f hr_1 c_4
    skip
    refine lv_bipush (v := (-2)) C.1 C.2.1 d_Md_guard_8 rfl ?_
    exact gr_i C hlk hret rfl hh (by subst_vars; simp (disch := omega) [sp_guard, lay4, nI_clamp, nI_0, nI_one, *]) d_Md_guard_10

set_option maxHeartbeats 4000000 in
set_option maxRecDepth 100000 in
theorem c_Md_row (l : Launch) (D : va_G) (cs : Nat → ClassId) (sh : gm_H) (sz : Nat) (I : gm_I) (J : gm_J) (r : Nat) (hM : is_Md sh r) (hV : inv_Md I r) (v w a b c d : Int32) : CI l y_Md_row w_Md_row { frames := 3, cells := 0, slots := 0, locals := 72 } D cs sh sz I J [.ref r, .int v, .int w, .int a, .int b, .int c, .int d] (fun z u => (z, u) = sp_row I J r v w a b c d) := by
  refine gm_start (by decide) (Nat.le_of_ble_eq_true rfl) ?_
  intro p' e' s' m' be' me' co' ls C hml hlk hret hh hl
  have hl : lv_has ls 8 [(0, .ref r), (1, .int v), (2, .int w), (3, .int a), (4, .int b), (5, .int c), (6, .int d)] := hl
  refine lv_aload_n C.1 C.2.1 d_Md_row_0 rfl (lv_at hl 0 rfl) ?_
  refine lv_iload_n C.1 C.2.1 d_Md_row_1 rfl (lv_at hl 1 rfl) ?_
  refine lv_iload_n C.1 C.2.1 d_Md_row_2 rfl (lv_at hl 2 rfl) ?_
  refine gc_i hh (gc_runV (As := [.int v, .int w]) (rest := []) (n := 2) C hml hh (c_Md_isWay l D cs sh sz I J r hM hV v w) (tg_V tw_718 tw_720 tw_29 tw_64 tw_721) (by decide +kernel) ⟨rfl, rfl, by decide, by decide, Nat.zero_le _, Nat.zero_le _⟩ (Md_0 hM) rfl rfl hl.1 rfl (Nat.le_of_ble_eq_true rfl) d_Md_row_3) (fun r_1 I_2 J_3 H locs hr_1 hh => ?_)
  obtain ⟨e_r_1, hr_1⟩ := hr_1
  rw [(Prod.mk.inj e_r_1).1, (Prod.mk.inj e_r_1).2] at hh
  refine lv_if_ne (tgt := 12) C.1 C.2.1 d_Md_row_6 (by decide) (fun c_4 => ?_) (fun c_4 => ?_)
  · -- 6 -> 12
    have b_5 := bI_t hr_1 c_4
    obtain ⟨j_6, k_7, hj_6, hk_7, ej_6, ek_7, lp_k_7, lt_k_7⟩ := wyB_j hV b_5
    subst ej_6
    subst ek_7
    skip
    obtain ⟨nm, hnm, enm⟩ := hV.2.1 j_6 (by omega)
    refine lv_aload_n C.1 C.2.1 d_Md_row_12 rfl (lv_at hl 0 rfl) ?_
    refine lv_iload_n C.1 C.2.1 d_Md_row_13 rfl (lv_at hl 1 rfl) ?_
    refine lv_iload_n C.1 C.2.1 d_Md_row_14 rfl (lv_at hl 3 rfl) ?_
    refine lv_iload C.1 C.2.1 d_Md_row_15 (lv_at hl 4 rfl) ?_
    refine lv_iload C.1 C.2.1 d_Md_row_17 (lv_at hl 5 rfl) ?_
    refine lv_iload C.1 C.2.1 d_Md_row_19 (lv_at hl 6 rfl) ?_
    refine gc_i hh (gc_runV (As := [.int (nI j_6), .int a, .int b, .int c, .int d]) (rest := []) (n := 5) C hml hh (c_Md_isRow l D cs sh sz I J r hM hV j_6 nm a b c d (by omega) enm hnm) (tg_V tw_699 tw_701 tw_27 tw_64 tw_702) (by decide +kernel) ⟨rfl, rfl, by decide, by decide, Nat.zero_le _, Nat.zero_le _⟩ (Md_0 hM) rfl rfl hl.1 rfl (Nat.le_of_ble_eq_true rfl) d_Md_row_21) (fun r_8 I_9 J_10 H locs hr_8 hh => ?_)
    obtain ⟨e_r_8, hr_8⟩ := hr_8
    rw [(Prod.mk.inj e_r_8).1, (Prod.mk.inj e_r_8).2] at hh
    refine lv_if_ne (tgt := 30) C.1 C.2.1 d_Md_row_24 (by decide) (fun c_11 => ?_) (fun c_11 => ?_)
    · -- 24 -> 30
      have b_12 := bI_t hr_8 c_11
      skip
      refine lv_iconst (v := nI 3) C.1 C.2.1 d_Md_row_30 rfl ?_
      refine lv_iload_n C.1 C.2.1 d_Md_row_31 rfl (lv_at hl 1 rfl) ?_
      refine lv_imul C.1 C.2.1 d_Md_row_32 ?_
      refine gm_eqi (pk_mul _ _) ?_
      refine lv_iload_n C.1 C.2.1 d_Md_row_33 rfl (lv_at hl 2 rfl) ?_
      refine lv_iadd C.1 C.2.1 d_Md_row_34 ?_
      refine gm_eqi (nI_add _ _) ?_
      refine lv_istore (lv' := [(7, .int (nI ((3 * j_6) + k_7))), (0, .ref r), (1, .int (nI j_6)), (2, .int (nI k_7)), (3, .int a), (4, .int b), (5, .int c), (6, .int d)]) C.1 C.2.1 d_Md_row_35 hl (by decide) rfl (fun ls hl => ?_)
      refine lv_aload_n C.1 C.2.1 d_Md_row_37 rfl (lv_at hl 1 rfl) ?_
      refine gg_r C hh (Md_0 hM) rfl in_Md 5 (by decide) rfl tw_570 rfl d_Md_row_38 ?_
      refine lv_iload C.1 C.2.1 d_Md_row_41 (lv_at hl 0 rfl) ?_
      refine ga_i C hh (Md_5 hM) (k := (3 * j_6) + k_7) rfl (by omega) (by omega) d_Md_row_43 ?_
      obtain ⟨g_13, hg_13, eg_13⟩ := hV.2.2.2.2.1 ((3 * j_6) + k_7) (by omega)
      refine gm_eqi eg_13 ?_
      refine lv_iconst (v := nI 2) C.1 C.2.1 d_Md_row_44 rfl ?_
      refine lv_icmp_ne (tgt := 51) C.1 C.2.1 d_Md_row_45 (by decide) (fun c_14 => ?_) (fun c_14 => ?_)
      · -- 45 -> 51
        have c_14 := gm_net (by omega) (by omega) c_14
        refine lv_aload_n C.1 C.2.1 d_Md_row_51 rfl (lv_at hl 1 rfl) ?_
        refine gg_r C hh (Md_0 hM) rfl in_Md 6 (by decide) rfl tw_571 rfl d_Md_row_52 ?_
        refine lv_bipush (v := nI 8) C.1 C.2.1 d_Md_row_55 rfl ?_
        refine lv_iload C.1 C.2.1 d_Md_row_57 (lv_at hl 0 rfl) ?_
        refine lv_imul C.1 C.2.1 d_Md_row_59 ?_
        refine gm_eqi (pk_mul _ _) ?_
        refine lv_iconst (v := nI 4) C.1 C.2.1 d_Md_row_60 rfl ?_
        refine lv_aload_n C.1 C.2.1 d_Md_row_61 rfl (lv_at hl 1 rfl) ?_
        refine gg_r C hh (Md_0 hM) rfl in_Md 5 (by decide) rfl tw_570 rfl d_Md_row_62 ?_
        refine lv_iload C.1 C.2.1 d_Md_row_65 (lv_at hl 0 rfl) ?_
        refine ga_i C hh (Md_5 hM) (k := (3 * j_6) + k_7) rfl (by omega) (by omega) d_Md_row_67 ?_
        refine gm_eqi eg_13 ?_
        refine lv_imul C.1 C.2.1 d_Md_row_68 ?_
        refine gm_eqi (pk_mul _ _) ?_
        refine lv_iadd C.1 C.2.1 d_Md_row_69 ?_
        refine gm_eqi (nI_add _ _) ?_
        refine lv_iload_n C.1 C.2.1 d_Md_row_70 rfl (lv_at hl 4 rfl) ?_
        refine lv_iload C.1 C.2.1 d_Md_row_71 (lv_at hl 5 rfl) ?_
        refine lv_iload C.1 C.2.1 d_Md_row_73 (lv_at hl 6 rfl) ?_
        refine lv_iload C.1 C.2.1 d_Md_row_75 (lv_at hl 7 rfl) ?_
        refine gc_v hh (gc_runS (As := [.ref (r + 6), .int (nI ((8 * ((3 * j_6) + k_7)) + (4 * g_13))), .int a, .int b, .int c, .int d]) (rest := []) (n := 6) C hml hh (c_Md_lay l D cs sh sz I J (r + 6) 192 ((8 * ((3 * j_6) + k_7)) + (4 * g_13)) a b c d (Md_6 hM) (by omega) (by omega)) (tg_S tw_707 tw_708 tw_64 tw_709) (by decide +kernel) ⟨rfl, rfl, by decide, by decide, Nat.zero_le _, Nat.zero_le _⟩ rfl hl.1 rfl (Nat.le_of_ble_eq_true rfl) d_Md_row_77) (fun I_16 J_17 H locs hr_15 hh => ?_)
        obtain ⟨X_18, eX_18⟩ : ∃ z : gm_I, z = gm_up I (r + 6) ((8 * ((3 * j_6) + k_7)) + (4 * g_13)) a := ⟨_, rfl⟩
        obtain ⟨X_19, eX_19⟩ : ∃ z : gm_I, z = gm_up X_18 (r + 6) ((8 * ((3 * j_6) + k_7)) + (4 * g_13) + 1) b := ⟨_, rfl⟩
        obtain ⟨X_20, eX_20⟩ : ∃ z : gm_I, z = gm_up X_19 (r + 6) ((8 * ((3 * j_6) + k_7)) + (4 * g_13) + 2) c := ⟨_, rfl⟩
        obtain ⟨X_21, eX_21⟩ : ∃ z : gm_I, z = gm_up X_20 (r + 6) ((8 * ((3 * j_6) + k_7)) + (4 * g_13) + 3) d := ⟨_, rfl⟩
        rw [← eX_18, ← eX_19, ← eX_20, ← eX_21] at hr_15
        rw [(Prod.mk.inj hr_15).1, (Prod.mk.inj hr_15).2] at hh
        refine lv_aload_n C.1 C.2.1 d_Md_row_80 rfl (lv_at hl 1 rfl) ?_
        refine gg_r C hh (Md_0 hM) rfl in_Md 5 (by decide) rfl tw_570 rfl d_Md_row_81 ?_
        refine lv_iload C.1 C.2.1 d_Md_row_84 (lv_at hl 0 rfl) ?_
        refine lv_dup2_11 C.1 C.2.1 d_Md_row_86 rfl rfl ?_
        refine ga_i C hh (Md_5 hM) (k := (3 * j_6) + k_7) rfl (by omega) (by omega) d_Md_row_87 ?_
        refine gm_eqi (y := I (r + 5) ((3 * j_6) + k_7)) (by rw [eX_21, gm_up_ne _ _ (Or.inl (by omega)), eX_20, gm_up_ne _ _ (Or.inl (by omega)), eX_19, gm_up_ne _ _ (Or.inl (by omega)), eX_18, gm_up_ne _ _ (Or.inl (by omega))]) ?_
        refine gm_eqi eg_13 ?_
        refine lv_iconst (v := nI 1) C.1 C.2.1 d_Md_row_88 rfl ?_
        refine lv_iadd C.1 C.2.1 d_Md_row_89 ?_
        refine gm_eqi (nI_add _ _) ?_
        refine gs_i C hh (Md_5 hM) (k := (3 * j_6) + k_7) rfl (by omega) (by omega) d_Md_row_90 (fun H locs hh => ?_)
        obtain ⟨I_22, eI_22⟩ : ∃ z : gm_I, z = gm_up X_21 (r + 5) ((3 * j_6) + k_7) (nI (g_13 + 1)) := ⟨_, rfl⟩
        rw [← eI_22] at hh
        refine lv_aload_n C.1 C.2.1 d_Md_row_91 rfl (lv_at hl 1 rfl) ?_
        refine gg_r C hh (Md_0 hM) rfl in_Md 5 (by decide) rfl tw_570 rfl d_Md_row_92 ?_
        refine lv_iload C.1 C.2.1 d_Md_row_95 (lv_at hl 0 rfl) ?_
        refine ga_i C hh (Md_5 hM) (k := (3 * j_6) + k_7) rfl (by omega) (by omega) d_Md_row_97 ?_
        refine gm_eqi (y := nI (g_13 + 1)) (by rw [eI_22, gm_up_same]) ?_
        exact gr_i C hlk hret rfl hh (by subst_vars; simp (disch := omega) [sp_row, lay4, nI_clamp, nI_0, nI_one, *]) d_Md_row_98
      · -- 45 -> 48
        have c_14 := gm_nef (by omega) (by omega) c_14
        refine lv_bipush (v := (-4)) C.1 C.2.1 d_Md_row_48 rfl ?_
        exact gr_i C hlk hret rfl hh (by subst_vars; simp (disch := omega) [sp_row, lay4, nI_clamp, nI_0, nI_one, *]) d_Md_row_50
    · -- 24 -> 27
      have b_23 := bI_f hr_8 c_11
      skip
      refine lv_bipush (v := (-3)) C.1 C.2.1 d_Md_row_27 rfl ?_
      exact gr_i C hlk hret rfl hh (by subst_vars; simp (disch := omega) [sp_row, lay4, nI_clamp, nI_0, nI_one, *]) d_Md_row_29
  · -- 6 -> 9
    have b_24 := bI_f hr_1 c_4
    skip
    refine lv_bipush (v := (-2)) C.1 C.2.1 d_Md_row_9 rfl ?_
    exact gr_i C hlk hret rfl hh (by subst_vars; simp (disch := omega) [sp_row, lay4, nI_clamp, nI_0, nI_one, *]) d_Md_row_11

set_option maxHeartbeats 4000000 in
set_option maxRecDepth 100000 in
theorem c_Md_factor (l : Launch) (D : va_G) (cs : Nat → ClassId) (sh : gm_H) (sz : Nat) (I : gm_I) (J : gm_J) (r : Nat) (hM : is_Md sh r) (hV : inv_Md I r) (v w a b x : Int32) : CI l y_Md_factor w_Md_factor { frames := 3, cells := 0, slots := 0, locals := 72 } D cs sh sz I J [.ref r, .int v, .int w, .int a, .int b, .int x] (fun z u => (z, u) = sp_factor I J r v w a b x) := by
  refine gm_start (by decide) (Nat.le_of_ble_eq_true rfl) ?_
  intro p' e' s' m' be' me' co' ls C hml hlk hret hh hl
  have hl : lv_has ls 8 [(0, .ref r), (1, .int v), (2, .int w), (3, .int a), (4, .int b), (5, .int x)] := hl
  refine lv_aload_n C.1 C.2.1 d_Md_factor_0 rfl (lv_at hl 0 rfl) ?_
  refine lv_iload_n C.1 C.2.1 d_Md_factor_1 rfl (lv_at hl 1 rfl) ?_
  refine lv_iload_n C.1 C.2.1 d_Md_factor_2 rfl (lv_at hl 2 rfl) ?_
  refine gc_i hh (gc_runV (As := [.int v, .int w]) (rest := []) (n := 2) C hml hh (c_Md_isWay l D cs sh sz I J r hM hV v w) (tg_V tw_718 tw_720 tw_29 tw_64 tw_721) (by decide +kernel) ⟨rfl, rfl, by decide, by decide, Nat.zero_le _, Nat.zero_le _⟩ (Md_0 hM) rfl rfl hl.1 rfl (Nat.le_of_ble_eq_true rfl) d_Md_factor_3) (fun r_1 I_2 J_3 H locs hr_1 hh => ?_)
  obtain ⟨e_r_1, hr_1⟩ := hr_1
  rw [(Prod.mk.inj e_r_1).1, (Prod.mk.inj e_r_1).2] at hh
  refine lv_if_eq (tgt := 28) C.1 C.2.1 d_Md_factor_6 (by decide) (fun c_4 => ?_) (fun c_4 => ?_)
  · -- 6 -> 28
    have b_5 := bI_f hr_1 c_4
    skip
    refine lv_bipush (v := (-2)) C.1 C.2.1 d_Md_factor_28 rfl ?_
    exact gr_i C hlk hret rfl hh (by subst_vars; simp (disch := omega) [sp_factor, lay4, nI_clamp, nI_0, nI_one, *]) d_Md_factor_30
  · -- 6 -> 9
    have b_6 := bI_t hr_1 c_4
    obtain ⟨j_7, k_8, hj_7, hk_8, ej_7, ek_8, lp_k_8, lt_k_8⟩ := wyB_j hV b_6
    subst ej_7
    subst ek_8
    skip
    refine lv_aload_n C.1 C.2.1 d_Md_factor_9 rfl (lv_at hl 0 rfl) ?_
    refine lv_iload_n C.1 C.2.1 d_Md_factor_10 rfl (lv_at hl 1 rfl) ?_
    refine lv_iload_n C.1 C.2.1 d_Md_factor_11 rfl (lv_at hl 3 rfl) ?_
    refine gc_i hh (gc_runV (As := [.int (nI j_7), .int a]) (rest := []) (n := 2) C hml hh (c_Md_isName l D cs sh sz I J r hM hV (nI j_7) a) (tg_V tw_726 tw_728 tw_30 tw_64 tw_729) (by decide +kernel) ⟨rfl, rfl, by decide, by decide, Nat.zero_le _, Nat.zero_le _⟩ (Md_0 hM) rfl rfl hl.1 rfl (Nat.le_of_ble_eq_true rfl) d_Md_factor_12) (fun r_9 I_10 J_11 H locs hr_9 hh => ?_)
    obtain ⟨e_r_9, hr_9⟩ := hr_9
    rw [(Prod.mk.inj e_r_9).1, (Prod.mk.inj e_r_9).2] at hh
    refine lv_if_eq (tgt := 28) C.1 C.2.1 d_Md_factor_15 (by decide) (fun c_12 => ?_) (fun c_12 => ?_)
    · -- 15 -> 28
      have b_13 := bI_f hr_9 c_12
      skip
      refine lv_bipush (v := (-2)) C.1 C.2.1 d_Md_factor_28 rfl ?_
      exact gr_i C hlk hret rfl hh (by subst_vars; simp (disch := omega) [sp_factor, lay4, nI_clamp, nI_0, nI_one, *]) d_Md_factor_30
    · -- 15 -> 18
      have b_14 := bI_t hr_9 c_12
      obtain ⟨j_15, k_16, hj_15, hk_16, ej_15, ek_16, lp_k_16, lt_k_16⟩ := nmB_j hV b_14
      obtain rfl : j_7 = j_15 := gm_eqt (by omega) (by omega) ej_15
      subst ek_16
      skip
      refine lv_aload_n C.1 C.2.1 d_Md_factor_18 rfl (lv_at hl 0 rfl) ?_
      refine lv_iload_n C.1 C.2.1 d_Md_factor_19 rfl (lv_at hl 1 rfl) ?_
      refine lv_iload C.1 C.2.1 d_Md_factor_20 (lv_at hl 4 rfl) ?_
      refine gc_i hh (gc_runV (As := [.int (nI j_7), .int b]) (rest := []) (n := 2) C hml hh (c_Md_isName l D cs sh sz I J r hM hV (nI j_7) b) (tg_V tw_726 tw_728 tw_30 tw_64 tw_729) (by decide +kernel) ⟨rfl, rfl, by decide, by decide, Nat.zero_le _, Nat.zero_le _⟩ (Md_0 hM) rfl rfl hl.1 rfl (Nat.le_of_ble_eq_true rfl) d_Md_factor_22) (fun r_17 I_18 J_19 H locs hr_17 hh => ?_)
      obtain ⟨e_r_17, hr_17⟩ := hr_17
      rw [(Prod.mk.inj e_r_17).1, (Prod.mk.inj e_r_17).2] at hh
      refine lv_if_ne (tgt := 31) C.1 C.2.1 d_Md_factor_25 (by decide) (fun c_20 => ?_) (fun c_20 => ?_)
      · -- 25 -> 31
        have b_21 := bI_t hr_17 c_20
        obtain ⟨j_22, k_23, hj_22, hk_23, ej_22, ek_23, lp_k_23, lt_k_23⟩ := nmB_j hV b_21
        obtain rfl : j_7 = j_22 := gm_eqt (by omega) (by omega) ej_22
        subst ek_23
        skip
        refine lv_iload C.1 C.2.1 d_Md_factor_31 (lv_at hl 5 rfl) ?_
        refine lv_bipush (v := (-3)) C.1 C.2.1 d_Md_factor_33 rfl ?_
        refine lv_iconst (v := nI 3) C.1 C.2.1 d_Md_factor_35 rfl ?_
        refine gc_i hh (gc_runS (As := [.int x, .int (-3), .int (nI 3)]) (rest := []) (n := 3) C hml hh (c_Md_isIn l D cs sh sz I J x (-3) (nI 3)) (tg_S tw_684 tw_685 tw_64 tw_686) (by decide +kernel) ⟨rfl, rfl, by decide, by decide, Nat.zero_le _, Nat.zero_le _⟩ rfl hl.1 rfl (Nat.le_of_ble_eq_true rfl) d_Md_factor_36) (fun r_24 I_25 J_26 H locs hr_24 hh => ?_)
        obtain ⟨e_r_24, hr_24⟩ := hr_24
        rw [(Prod.mk.inj e_r_24).1, (Prod.mk.inj e_r_24).2] at hh
        refine lv_if_ne (tgt := 45) C.1 C.2.1 d_Md_factor_39 (by decide) (fun c_27 => ?_) (fun c_27 => ?_)
        · -- 39 -> 45
          have b_28 := bI_t hr_24 c_27
          skip
          refine lv_bipush (v := nI 9) C.1 C.2.1 d_Md_factor_45 rfl ?_
          refine lv_iconst (v := nI 3) C.1 C.2.1 d_Md_factor_47 rfl ?_
          refine lv_iload_n C.1 C.2.1 d_Md_factor_48 rfl (lv_at hl 1 rfl) ?_
          refine lv_imul C.1 C.2.1 d_Md_factor_49 ?_
          refine gm_eqi (pk_mul _ _) ?_
          refine lv_iload_n C.1 C.2.1 d_Md_factor_50 rfl (lv_at hl 2 rfl) ?_
          refine lv_iadd C.1 C.2.1 d_Md_factor_51 ?_
          refine gm_eqi (nI_add _ _) ?_
          refine lv_imul C.1 C.2.1 d_Md_factor_52 ?_
          refine gm_eqi (pk_mul _ _) ?_
          refine lv_iconst (v := nI 3) C.1 C.2.1 d_Md_factor_53 rfl ?_
          refine lv_iload_n C.1 C.2.1 d_Md_factor_54 rfl (lv_at hl 3 rfl) ?_
          refine lv_imul C.1 C.2.1 d_Md_factor_55 ?_
          refine gm_eqi (pk_mul _ _) ?_
          refine lv_iadd C.1 C.2.1 d_Md_factor_56 ?_
          refine gm_eqi (nI_add _ _) ?_
          refine lv_iload C.1 C.2.1 d_Md_factor_57 (lv_at hl 4 rfl) ?_
          refine lv_iadd C.1 C.2.1 d_Md_factor_59 ?_
          refine gm_eqi (nI_add _ _) ?_
          refine lv_istore (lv' := [(6, .int (nI (((9 * ((3 * j_7) + k_8)) + (3 * k_16)) + k_23))), (0, .ref r), (1, .int (nI j_7)), (2, .int (nI k_8)), (3, .int (nI k_16)), (4, .int (nI k_23)), (5, .int x)]) C.1 C.2.1 d_Md_factor_60 hl (by decide) rfl (fun ls hl => ?_)
          refine lv_aload_n C.1 C.2.1 d_Md_factor_62 rfl (lv_at hl 1 rfl) ?_
          refine gg_r C hh (Md_0 hM) rfl in_Md 7 (by decide) rfl tw_572 rfl d_Md_factor_63 ?_
          refine lv_iload C.1 C.2.1 d_Md_factor_66 (lv_at hl 0 rfl) ?_
          refine ga_i C hh (Md_7 hM) (k := ((9 * ((3 * j_7) + k_8)) + (3 * k_16)) + k_23) rfl (by omega) (by omega) d_Md_factor_68 ?_
          refine lv_topi (fun x_29 ex_29 => ?_)
          refine lv_istore (lv' := [(7, .int x_29), (6, .int (nI (((9 * ((3 * j_7) + k_8)) + (3 * k_16)) + k_23))), (0, .ref r), (1, .int (nI j_7)), (2, .int (nI k_8)), (3, .int (nI k_16)), (4, .int (nI k_23)), (5, .int x)]) C.1 C.2.1 d_Md_factor_69 hl (by decide) rfl (fun ls hl => ?_)
          refine lv_aload_n C.1 C.2.1 d_Md_factor_71 rfl (lv_at hl 2 rfl) ?_
          refine gg_r C hh (Md_0 hM) rfl in_Md 7 (by decide) rfl tw_572 rfl d_Md_factor_72 ?_
          refine lv_iload C.1 C.2.1 d_Md_factor_75 (lv_at hl 1 rfl) ?_
          refine lv_iload C.1 C.2.1 d_Md_factor_77 (lv_at hl 7 rfl) ?_
          refine gs_i C hh (Md_7 hM) (k := ((9 * ((3 * j_7) + k_8)) + (3 * k_16)) + k_23) rfl (by omega) (by omega) d_Md_factor_79 (fun H locs hh => ?_)
          obtain ⟨I_30, eI_30⟩ : ∃ z : gm_I, z = gm_up I (r + 7) (((9 * ((3 * j_7) + k_8)) + (3 * k_16)) + k_23) x := ⟨_, rfl⟩
          rw [← eI_30] at hh
          refine lv_iload C.1 C.2.1 d_Md_factor_80 (lv_at hl 0 rfl) ?_
          refine lv_iconst (v := nI 3) C.1 C.2.1 d_Md_factor_82 rfl ?_
          refine lv_iadd C.1 C.2.1 d_Md_factor_83 ?_
          exact gr_i C hlk hret rfl hh (by subst_vars; simp (disch := omega) [sp_factor, lay4, nI_clamp, nI_0, nI_one, *]) d_Md_factor_84
        · -- 39 -> 42
          have b_31 := bI_f hr_24 c_27
          skip
          refine lv_bipush (v := (-3)) C.1 C.2.1 d_Md_factor_42 rfl ?_
          exact gr_i C hlk hret rfl hh (by subst_vars; simp (disch := omega) [sp_factor, lay4, nI_clamp, nI_0, nI_one, *]) d_Md_factor_44
      · -- 25 -> 28
        have b_32 := bI_f hr_17 c_20
        skip
        refine lv_bipush (v := (-2)) C.1 C.2.1 d_Md_factor_28 rfl ?_
        exact gr_i C hlk hret rfl hh (by subst_vars; simp (disch := omega) [sp_factor, lay4, nI_clamp, nI_0, nI_one, *]) d_Md_factor_30

set_option maxHeartbeats 4000000 in
set_option maxRecDepth 100000 in
theorem c_Md_constant (l : Launch) (D : va_G) (cs : Nat → ClassId) (sh : gm_H) (sz : Nat) (I : gm_I) (J : gm_J) (r : Nat) (hM : is_Md sh r) (hV : inv_Md I r) (v w a x : Int32) : CI l y_Md_constant w_Md_constant { frames := 3, cells := 0, slots := 0, locals := 72 } D cs sh sz I J [.ref r, .int v, .int w, .int a, .int x] (fun z u => (z, u) = sp_constant I J r v w a x) := by
  refine gm_start (by decide) (Nat.le_of_ble_eq_true rfl) ?_
  intro p' e' s' m' be' me' co' ls C hml hlk hret hh hl
  have hl : lv_has ls 7 [(0, .ref r), (1, .int v), (2, .int w), (3, .int a), (4, .int x)] := hl
  refine lv_aload_n C.1 C.2.1 d_Md_constant_0 rfl (lv_at hl 0 rfl) ?_
  refine lv_iload_n C.1 C.2.1 d_Md_constant_1 rfl (lv_at hl 1 rfl) ?_
  refine lv_iload_n C.1 C.2.1 d_Md_constant_2 rfl (lv_at hl 2 rfl) ?_
  refine gc_i hh (gc_runV (As := [.int v, .int w]) (rest := []) (n := 2) C hml hh (c_Md_isWay l D cs sh sz I J r hM hV v w) (tg_V tw_718 tw_720 tw_29 tw_64 tw_721) (by decide +kernel) ⟨rfl, rfl, by decide, by decide, Nat.zero_le _, Nat.zero_le _⟩ (Md_0 hM) rfl rfl hl.1 rfl (Nat.le_of_ble_eq_true rfl) d_Md_constant_3) (fun r_1 I_2 J_3 H locs hr_1 hh => ?_)
  obtain ⟨e_r_1, hr_1⟩ := hr_1
  rw [(Prod.mk.inj e_r_1).1, (Prod.mk.inj e_r_1).2] at hh
  refine lv_if_eq (tgt := 18) C.1 C.2.1 d_Md_constant_6 (by decide) (fun c_4 => ?_) (fun c_4 => ?_)
  · -- 6 -> 18
    have b_5 := bI_f hr_1 c_4
    skip
    refine lv_bipush (v := (-2)) C.1 C.2.1 d_Md_constant_18 rfl ?_
    exact gr_i C hlk hret rfl hh (by subst_vars; simp (disch := omega) [sp_constant, lay4, nI_clamp, nI_0, nI_one, *]) d_Md_constant_20
  · -- 6 -> 9
    have b_6 := bI_t hr_1 c_4
    obtain ⟨j_7, k_8, hj_7, hk_8, ej_7, ek_8, lp_k_8, lt_k_8⟩ := wyB_j hV b_6
    subst ej_7
    subst ek_8
    skip
    refine lv_aload_n C.1 C.2.1 d_Md_constant_9 rfl (lv_at hl 0 rfl) ?_
    refine lv_iload_n C.1 C.2.1 d_Md_constant_10 rfl (lv_at hl 1 rfl) ?_
    refine lv_iload_n C.1 C.2.1 d_Md_constant_11 rfl (lv_at hl 3 rfl) ?_
    refine gc_i hh (gc_runV (As := [.int (nI j_7), .int a]) (rest := []) (n := 2) C hml hh (c_Md_isName l D cs sh sz I J r hM hV (nI j_7) a) (tg_V tw_726 tw_728 tw_30 tw_64 tw_729) (by decide +kernel) ⟨rfl, rfl, by decide, by decide, Nat.zero_le _, Nat.zero_le _⟩ (Md_0 hM) rfl rfl hl.1 rfl (Nat.le_of_ble_eq_true rfl) d_Md_constant_12) (fun r_9 I_10 J_11 H locs hr_9 hh => ?_)
    obtain ⟨e_r_9, hr_9⟩ := hr_9
    rw [(Prod.mk.inj e_r_9).1, (Prod.mk.inj e_r_9).2] at hh
    refine lv_if_ne (tgt := 21) C.1 C.2.1 d_Md_constant_15 (by decide) (fun c_12 => ?_) (fun c_12 => ?_)
    · -- 15 -> 21
      have b_13 := bI_t hr_9 c_12
      obtain ⟨j_14, k_15, hj_14, hk_15, ej_14, ek_15, lp_k_15, lt_k_15⟩ := nmB_j hV b_13
      obtain rfl : j_7 = j_14 := gm_eqt (by omega) (by omega) ej_14
      subst ek_15
      skip
      refine lv_iload C.1 C.2.1 d_Md_constant_21 (lv_at hl 4 rfl) ?_
      refine lv_bipush (v := (-99)) C.1 C.2.1 d_Md_constant_23 rfl ?_
      refine lv_bipush (v := nI 99) C.1 C.2.1 d_Md_constant_25 rfl ?_
      refine gc_i hh (gc_runS (As := [.int x, .int (-99), .int (nI 99)]) (rest := []) (n := 3) C hml hh (c_Md_isIn l D cs sh sz I J x (-99) (nI 99)) (tg_S tw_684 tw_685 tw_64 tw_686) (by decide +kernel) ⟨rfl, rfl, by decide, by decide, Nat.zero_le _, Nat.zero_le _⟩ rfl hl.1 rfl (Nat.le_of_ble_eq_true rfl) d_Md_constant_27) (fun r_16 I_17 J_18 H locs hr_16 hh => ?_)
      obtain ⟨e_r_16, hr_16⟩ := hr_16
      rw [(Prod.mk.inj e_r_16).1, (Prod.mk.inj e_r_16).2] at hh
      refine lv_if_ne (tgt := 36) C.1 C.2.1 d_Md_constant_30 (by decide) (fun c_19 => ?_) (fun c_19 => ?_)
      · -- 30 -> 36
        have b_20 := bI_t hr_16 c_19
        skip
        refine lv_iconst (v := nI 3) C.1 C.2.1 d_Md_constant_36 rfl ?_
        refine lv_iconst (v := nI 3) C.1 C.2.1 d_Md_constant_37 rfl ?_
        refine lv_iload_n C.1 C.2.1 d_Md_constant_38 rfl (lv_at hl 1 rfl) ?_
        refine lv_imul C.1 C.2.1 d_Md_constant_39 ?_
        refine gm_eqi (pk_mul _ _) ?_
        refine lv_iload_n C.1 C.2.1 d_Md_constant_40 rfl (lv_at hl 2 rfl) ?_
        refine lv_iadd C.1 C.2.1 d_Md_constant_41 ?_
        refine gm_eqi (nI_add _ _) ?_
        refine lv_imul C.1 C.2.1 d_Md_constant_42 ?_
        refine gm_eqi (pk_mul _ _) ?_
        refine lv_iload_n C.1 C.2.1 d_Md_constant_43 rfl (lv_at hl 3 rfl) ?_
        refine lv_iadd C.1 C.2.1 d_Md_constant_44 ?_
        refine gm_eqi (nI_add _ _) ?_
        refine lv_istore (lv' := [(5, .int (nI ((3 * ((3 * j_7) + k_8)) + k_15))), (0, .ref r), (1, .int (nI j_7)), (2, .int (nI k_8)), (3, .int (nI k_15)), (4, .int x)]) C.1 C.2.1 d_Md_constant_45 hl (by decide) rfl (fun ls hl => ?_)
        refine lv_aload_n C.1 C.2.1 d_Md_constant_47 rfl (lv_at hl 1 rfl) ?_
        refine gg_r C hh (Md_0 hM) rfl in_Md 8 (by decide) rfl tw_573 rfl d_Md_constant_48 ?_
        refine lv_iload C.1 C.2.1 d_Md_constant_51 (lv_at hl 0 rfl) ?_
        refine ga_i C hh (Md_8 hM) (k := (3 * ((3 * j_7) + k_8)) + k_15) rfl (by omega) (by omega) d_Md_constant_53 ?_
        refine lv_topi (fun x_21 ex_21 => ?_)
        refine lv_istore (lv' := [(6, .int x_21), (5, .int (nI ((3 * ((3 * j_7) + k_8)) + k_15))), (0, .ref r), (1, .int (nI j_7)), (2, .int (nI k_8)), (3, .int (nI k_15)), (4, .int x)]) C.1 C.2.1 d_Md_constant_54 hl (by decide) rfl (fun ls hl => ?_)
        refine lv_aload_n C.1 C.2.1 d_Md_constant_56 rfl (lv_at hl 2 rfl) ?_
        refine gg_r C hh (Md_0 hM) rfl in_Md 8 (by decide) rfl tw_573 rfl d_Md_constant_57 ?_
        refine lv_iload C.1 C.2.1 d_Md_constant_60 (lv_at hl 1 rfl) ?_
        refine lv_iload C.1 C.2.1 d_Md_constant_62 (lv_at hl 6 rfl) ?_
        refine gs_i C hh (Md_8 hM) (k := (3 * ((3 * j_7) + k_8)) + k_15) rfl (by omega) (by omega) d_Md_constant_64 (fun H locs hh => ?_)
        obtain ⟨I_22, eI_22⟩ : ∃ z : gm_I, z = gm_up I (r + 8) ((3 * ((3 * j_7) + k_8)) + k_15) x := ⟨_, rfl⟩
        rw [← eI_22] at hh
        refine lv_iload C.1 C.2.1 d_Md_constant_65 (lv_at hl 0 rfl) ?_
        refine lv_bipush (v := nI 99) C.1 C.2.1 d_Md_constant_67 rfl ?_
        refine lv_iadd C.1 C.2.1 d_Md_constant_69 ?_
        exact gr_i C hlk hret rfl hh (by subst_vars; simp (disch := omega) [sp_constant, lay4, nI_clamp, nI_0, nI_one, *]) d_Md_constant_70
      · -- 30 -> 33
        have b_23 := bI_f hr_16 c_19
        skip
        refine lv_bipush (v := (-3)) C.1 C.2.1 d_Md_constant_33 rfl ?_
        exact gr_i C hlk hret rfl hh (by subst_vars; simp (disch := omega) [sp_constant, lay4, nI_clamp, nI_0, nI_one, *]) d_Md_constant_35
    · -- 15 -> 18
      have b_24 := bI_f hr_9 c_12
      skip
      refine lv_bipush (v := (-2)) C.1 C.2.1 d_Md_constant_18 rfl ?_
      exact gr_i C hlk hret rfl hh (by subst_vars; simp (disch := omega) [sp_constant, lay4, nI_clamp, nI_0, nI_one, *]) d_Md_constant_20
end
