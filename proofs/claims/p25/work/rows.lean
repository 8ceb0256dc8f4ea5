section
-- ===== PART A: goes FIRST, ahead of the names: the tables' words, and 'selects' of the private methods out of them =====
/-- a private method of a class that the tables say can be made, by its rows of tables_1 -/
def lw_okq (q : MethodName × Nat) : Prop := (q.1.cls ≠ "java/lang/invoke/MethodHandle" ∧ q.1.cls ≠ "java/lang/invoke/VarHandle") ∧ Cond.instantiable q.1.cls q.2 ∈ tables_1 ∧ Cond.privateMethod q.1 ∈ tables_1 ∧ Cond.instanceMethod q.1 ∈ tables_1
theorem lw_p0 : lw_okq (⟨"FallingTerms", "isLoop", "(I)Z"⟩, 11) := ⟨⟨by decide +kernel, by decide +kernel⟩, List.mem_of_getElem? (i := 10) (by decide +kernel), List.mem_of_getElem? (i := 209) (by decide +kernel), List.mem_of_getElem? (i := 210) (by decide +kernel)⟩
theorem lw_p1 : lw_okq (⟨"FallingTerms", "rowFits", "(IIIII)Z"⟩, 11) := ⟨⟨by decide +kernel, by decide +kernel⟩, List.mem_of_getElem? (i := 10) (by decide +kernel), List.mem_of_getElem? (i := 213) (by decide +kernel), List.mem_of_getElem? (i := 214) (by decide +kernel)⟩
theorem lw_p2 : lw_okq (⟨"FallingTerms", "isWay", "(II)Z"⟩, 11) := ⟨⟨by decide +kernel, by decide +kernel⟩, List.mem_of_getElem? (i := 10) (by decide +kernel), List.mem_of_getElem? (i := 243) (by decide +kernel), List.mem_of_getElem? (i := 244) (by decide +kernel)⟩
theorem lw_p3 : lw_okq (⟨"FallingTerms", "isName", "(II)Z"⟩, 11) := ⟨⟨by decide +kernel, by decide +kernel⟩, List.mem_of_getElem? (i := 10) (by decide +kernel), List.mem_of_getElem? (i := 251) (by decide +kernel), List.mem_of_getElem? (i := 252) (by decide +kernel)⟩
theorem lw_p4 : lw_okq (⟨"FallingTerms", "spaceOf", "(II)LFallingTerms$Space;"⟩, 11) := ⟨⟨by decide +kernel, by decide +kernel⟩, List.mem_of_getElem? (i := 10) (by decide +kernel), List.mem_of_getElem? (i := 267) (by decide +kernel), List.mem_of_getElem? (i := 268) (by decide +kernel)⟩
theorem lw_p5 : lw_okq (⟨"FallingTerms$Space", "begin", "(I)V"⟩, 8) := ⟨⟨by decide +kernel, by decide +kernel⟩, List.mem_of_getElem? (i := 124) (by decide +kernel), List.mem_of_getElem? (i := 275) (by decide +kernel), List.mem_of_getElem? (i := 276) (by decide +kernel)⟩
theorem lw_p6 : lw_okq (⟨"FallingTerms$Space", "appendPivot", "(I)V"⟩, 8) := ⟨⟨by decide +kernel, by decide +kernel⟩, List.mem_of_getElem? (i := 124) (by decide +kernel), List.mem_of_getElem? (i := 279) (by decide +kernel), List.mem_of_getElem? (i := 280) (by decide +kernel)⟩
theorem lw_p7 : lw_okq (⟨"FallingTerms$Space", "lineAcross", "(III)I"⟩, 8) := ⟨⟨by decide +kernel, by decide +kernel⟩, List.mem_of_getElem? (i := 124) (by decide +kernel), List.mem_of_getElem? (i := 287) (by decide +kernel), List.mem_of_getElem? (i := 288) (by decide +kernel)⟩
theorem lw_p8 : lw_okq (⟨"FallingTerms$Space", "slope", "(IIII)J"⟩, 8) := ⟨⟨by decide +kernel, by decide +kernel⟩, List.mem_of_getElem? (i := 124) (by decide +kernel), List.mem_of_getElem? (i := 291) (by decide +kernel), List.mem_of_getElem? (i := 292) (by decide +kernel)⟩
theorem lw_p9 : lw_okq (⟨"FallingTerms$Space", "turn", "(IIIII)V"⟩, 8) := ⟨⟨by decide +kernel, by decide +kernel⟩, List.mem_of_getElem? (i := 124) (by decide +kernel), List.mem_of_getElem? (i := 295) (by decide +kernel), List.mem_of_getElem? (i := 296) (by decide +kernel)⟩
theorem lw_p10 : lw_okq (⟨"FallingTerms$Space", "shift", "([JIJJ)V"⟩, 8) := ⟨⟨by decide +kernel, by decide +kernel⟩, List.mem_of_getElem? (i := 124) (by decide +kernel), List.mem_of_getElem? (i := 300) (by decide +kernel), List.mem_of_getElem? (i := 301) (by decide +kernel)⟩
theorem lw_p11 : lw_okq (⟨"FallingTerms$Space", "worth", "(IIIII)J"⟩, 8) := ⟨⟨by decide +kernel, by decide +kernel⟩, List.mem_of_getElem? (i := 124) (by decide +kernel), List.mem_of_getElem? (i := 307) (by decide +kernel), List.mem_of_getElem? (i := 308) (by decide +kernel)⟩
theorem lw_p12 : lw_okq (⟨"FallingTerms$Space", "cut", "(IIII)V"⟩, 8) := ⟨⟨by decide +kernel, by decide +kernel⟩, List.mem_of_getElem? (i := 124) (by decide +kernel), List.mem_of_getElem? (i := 311) (by decide +kernel), List.mem_of_getElem? (i := 312) (by decide +kernel)⟩
theorem lw_p13 : lw_okq (⟨"FallingTerms$Space", "areNeighbours", "(III)Z"⟩, 8) := ⟨⟨by decide +kernel, by decide +kernel⟩, List.mem_of_getElem? (i := 124) (by decide +kernel), List.mem_of_getElem? (i := 315) (by decide +kernel), List.mem_of_getElem? (i := 316) (by decide +kernel)⟩
theorem lw_p14 : lw_okq (⟨"FallingTerms$Space", "appendBetween", "(II)V"⟩, 8) := ⟨⟨by decide +kernel, by decide +kernel⟩, List.mem_of_getElem? (i := 124) (by decide +kernel), List.mem_of_getElem? (i := 319) (by decide +kernel), List.mem_of_getElem? (i := 320) (by decide +kernel)⟩
theorem lw_p15 : lw_okq (⟨"FallingTerms$Space", "dropBeyond", "(I)V"⟩, 8) := ⟨⟨by decide +kernel, by decide +kernel⟩, List.mem_of_getElem? (i := 124) (by decide +kernel), List.mem_of_getElem? (i := 323) (by decide +kernel), List.mem_of_getElem? (i := 324) (by decide +kernel)⟩
def lw_privs_1 : List (MethodName × Nat) := [(⟨"FallingTerms", "isLoop", "(I)Z"⟩, 11), (⟨"FallingTerms", "rowFits", "(IIIII)Z"⟩, 11), (⟨"FallingTerms", "isWay", "(II)Z"⟩, 11), (⟨"FallingTerms", "isName", "(II)Z"⟩, 11), (⟨"FallingTerms", "spaceOf", "(II)LFallingTerms$Space;"⟩, 11), (⟨"FallingTerms$Space", "begin", "(I)V"⟩, 8), (⟨"FallingTerms$Space", "appendPivot", "(I)V"⟩, 8), (⟨"FallingTerms$Space", "lineAcross", "(III)I"⟩, 8), (⟨"FallingTerms$Space", "slope", "(IIII)J"⟩, 8), (⟨"FallingTerms$Space", "turn", "(IIIII)V"⟩, 8), (⟨"FallingTerms$Space", "shift", "([JIJJ)V"⟩, 8), (⟨"FallingTerms$Space", "worth", "(IIIII)J"⟩, 8), (⟨"FallingTerms$Space", "cut", "(IIII)V"⟩, 8), (⟨"FallingTerms$Space", "areNeighbours", "(III)Z"⟩, 8), (⟨"FallingTerms$Space", "appendBetween", "(II)V"⟩, 8), (⟨"FallingTerms$Space", "dropBeyond", "(I)V"⟩, 8)]
theorem lw_r1 : ∀ q ∈ lw_privs_1, lw_okq q := List.forall_mem_cons.mpr ⟨lw_p0, List.forall_mem_cons.mpr ⟨lw_p1, List.forall_mem_cons.mpr ⟨lw_p2, List.forall_mem_cons.mpr ⟨lw_p3, List.forall_mem_cons.mpr ⟨lw_p4, List.forall_mem_cons.mpr ⟨lw_p5, List.forall_mem_cons.mpr ⟨lw_p6, List.forall_mem_cons.mpr ⟨lw_p7, List.forall_mem_cons.mpr ⟨lw_p8, List.forall_mem_cons.mpr ⟨lw_p9, List.forall_mem_cons.mpr ⟨lw_p10, List.forall_mem_cons.mpr ⟨lw_p11, List.forall_mem_cons.mpr ⟨lw_p12, List.forall_mem_cons.mpr ⟨lw_p13, List.forall_mem_cons.mpr ⟨lw_p14, List.forall_mem_cons.mpr ⟨lw_p15, fun _ h => absurd h List.not_mem_nil⟩⟩⟩⟩⟩⟩⟩⟩⟩⟩⟩⟩⟩⟩⟩⟩
theorem lw_p16 : lw_okq (⟨"FallingTerms$Space", "dropIfNoPoint", "()V"⟩, 8) := ⟨⟨by decide +kernel, by decide +kernel⟩, List.mem_of_getElem? (i := 124) (by decide +kernel), List.mem_of_getElem? (i := 327) (by decide +kernel), List.mem_of_getElem? (i := 328) (by decide +kernel)⟩
theorem lw_p17 : lw_okq (⟨"FallingTerms", "fillSpaces", "(LFallingTerms$Loop;)V"⟩, 11) := ⟨⟨by decide +kernel, by decide +kernel⟩, List.mem_of_getElem? (i := 10) (by decide +kernel), List.mem_of_getElem? (i := 368) (by decide +kernel), List.mem_of_getElem? (i := 369) (by decide +kernel)⟩
theorem lw_p18 : lw_okq (⟨"FallingTerms$Proof", "takeMore", "(LFallingTerms$Loop;[LFallingTerms$Space;)Z"⟩, 3) := ⟨⟨by decide +kernel, by decide +kernel⟩, List.mem_of_getElem? (i := 22) (by decide +kernel), List.mem_of_getElem? (i := 376) (by decide +kernel), List.mem_of_getElem? (i := 377) (by decide +kernel)⟩
theorem lw_p19 : lw_okq (⟨"FallingTerms$Proof", "takenBy", "(LFallingTerms$Loop;[LFallingTerms$Space;III)I"⟩, 3) := ⟨⟨by decide +kernel, by decide +kernel⟩, List.mem_of_getElem? (i := 22) (by decide +kernel), List.mem_of_getElem? (i := 384) (by decide +kernel), List.mem_of_getElem? (i := 385) (by decide +kernel)⟩
theorem lw_p20 : lw_okq (⟨"FallingTerms$Proof", "append", "(IIII)V"⟩, 3) := ⟨⟨by decide +kernel, by decide +kernel⟩, List.mem_of_getElem? (i := 22) (by decide +kernel), List.mem_of_getElem? (i := 390) (by decide +kernel), List.mem_of_getElem? (i := 391) (by decide +kernel)⟩
theorem lw_p21 : lw_okq (⟨"FallingTerms", "findNeed", "(LFallingTerms$Loop;III)Z"⟩, 11) := ⟨⟨by decide +kernel, by decide +kernel⟩, List.mem_of_getElem? (i := 10) (by decide +kernel), List.mem_of_getElem? (i := 407) (by decide +kernel), List.mem_of_getElem? (i := 408) (by decide +kernel)⟩
theorem lw_p22 : lw_okq (⟨"FallingTerms", "narrowSpaces", "(LFallingTerms$Loop;IIII)V"⟩, 11) := ⟨⟨by decide +kernel, by decide +kernel⟩, List.mem_of_getElem? (i := 10) (by decide +kernel), List.mem_of_getElem? (i := 411) (by decide +kernel), List.mem_of_getElem? (i := 412) (by decide +kernel)⟩
theorem lw_p23 : lw_okq (⟨"FallingTerms", "lasts", "(LFallingTerms$Loop;IIII)Z"⟩, 11) := ⟨⟨by decide +kernel, by decide +kernel⟩, List.mem_of_getElem? (i := 10) (by decide +kernel), List.mem_of_getElem? (i := 420) (by decide +kernel), List.mem_of_getElem? (i := 421) (by decide +kernel)⟩
theorem lw_p24 : lw_okq (⟨"FallingTerms", "keepNeed", "(IIII)V"⟩, 11) := ⟨⟨by decide +kernel, by decide +kernel⟩, List.mem_of_getElem? (i := 10) (by decide +kernel), List.mem_of_getElem? (i := 428) (by decide +kernel), List.mem_of_getElem? (i := 429) (by decide +kernel)⟩
theorem lw_p25 : lw_okq (⟨"FallingTerms", "ringFrom", "(LFallingTerms$Loop;III)I"⟩, 11) := ⟨⟨by decide +kernel, by decide +kernel⟩, List.mem_of_getElem? (i := 10) (by decide +kernel), List.mem_of_getElem? (i := 492) (by decide +kernel), List.mem_of_getElem? (i := 493) (by decide +kernel)⟩
theorem lw_p26 : lw_okq (⟨"FallingTermsModel", "isLoop", "(I)Z"⟩, 38) := ⟨⟨by decide +kernel, by decide +kernel⟩, List.mem_of_getElem? (i := 504) (by decide +kernel), List.mem_of_getElem? (i := 640) (by decide +kernel), List.mem_of_getElem? (i := 641) (by decide +kernel)⟩
theorem lw_p27 : lw_okq (⟨"FallingTermsModel", "isRow", "(IIIII)Z"⟩, 38) := ⟨⟨by decide +kernel, by decide +kernel⟩, List.mem_of_getElem? (i := 504) (by decide +kernel), List.mem_of_getElem? (i := 644) (by decide +kernel), List.mem_of_getElem? (i := 645) (by decide +kernel)⟩
theorem lw_p28 : lw_okq (⟨"FallingTermsModel", "areNumbers", "(IIIII)Z"⟩, 38) := ⟨⟨by decide +kernel, by decide +kernel⟩, List.mem_of_getElem? (i := 504) (by decide +kernel), List.mem_of_getElem? (i := 648) (by decide +kernel), List.mem_of_getElem? (i := 649) (by decide +kernel)⟩
theorem lw_p29 : lw_okq (⟨"FallingTermsModel", "isWay", "(II)Z"⟩, 38) := ⟨⟨by decide +kernel, by decide +kernel⟩, List.mem_of_getElem? (i := 504) (by decide +kernel), List.mem_of_getElem? (i := 663) (by decide +kernel), List.mem_of_getElem? (i := 664) (by decide +kernel)⟩
theorem lw_p30 : lw_okq (⟨"FallingTermsModel", "isName", "(II)Z"⟩, 38) := ⟨⟨by decide +kernel, by decide +kernel⟩, List.mem_of_getElem? (i := 504) (by decide +kernel), List.mem_of_getElem? (i := 671) (by decide +kernel), List.mem_of_getElem? (i := 672) (by decide +kernel)⟩
theorem lw_p31 : lw_okq (⟨"FallingTermsModel", "space", "(IIZ)V"⟩, 38) := ⟨⟨by decide +kernel, by decide +kernel⟩, List.mem_of_getElem? (i := 504) (by decide +kernel), List.mem_of_getElem? (i := 687) (by decide +kernel), List.mem_of_getElem? (i := 688) (by decide +kernel)⟩
def lw_privs_2 : List (MethodName × Nat) := [(⟨"FallingTerms$Space", "dropIfNoPoint", "()V"⟩, 8), (⟨"FallingTerms", "fillSpaces", "(LFallingTerms$Loop;)V"⟩, 11), (⟨"FallingTerms$Proof", "takeMore", "(LFallingTerms$Loop;[LFallingTerms$Space;)Z"⟩, 3), (⟨"FallingTerms$Proof", "takenBy", "(LFallingTerms$Loop;[LFallingTerms$Space;III)I"⟩, 3), (⟨"FallingTerms$Proof", "append", "(IIII)V"⟩, 3), (⟨"FallingTerms", "findNeed", "(LFallingTerms$Loop;III)Z"⟩, 11), (⟨"FallingTerms", "narrowSpaces", "(LFallingTerms$Loop;IIII)V"⟩, 11), (⟨"FallingTerms", "lasts", "(LFallingTerms$Loop;IIII)Z"⟩, 11), (⟨"FallingTerms", "keepNeed", "(IIII)V"⟩, 11), (⟨"FallingTerms", "ringFrom", "(LFallingTerms$Loop;III)I"⟩, 11), (⟨"FallingTermsModel", "isLoop", "(I)Z"⟩, 38), (⟨"FallingTermsModel", "isRow", "(IIIII)Z"⟩, 38), (⟨"FallingTermsModel", "areNumbers", "(IIIII)Z"⟩, 38), (⟨"FallingTermsModel", "isWay", "(II)Z"⟩, 38), (⟨"FallingTermsModel", "isName", "(II)Z"⟩, 38), (⟨"FallingTermsModel", "space", "(IIZ)V"⟩, 38)]
theorem lw_r2 : ∀ q ∈ lw_privs_2, lw_okq q := List.forall_mem_cons.mpr ⟨lw_p16, List.forall_mem_cons.mpr ⟨lw_p17, List.forall_mem_cons.mpr ⟨lw_p18, List.forall_mem_cons.mpr ⟨lw_p19, List.forall_mem_cons.mpr ⟨lw_p20, List.forall_mem_cons.mpr ⟨lw_p21, List.forall_mem_cons.mpr ⟨lw_p22, List.forall_mem_cons.mpr ⟨lw_p23, List.forall_mem_cons.mpr ⟨lw_p24, List.forall_mem_cons.mpr ⟨lw_p25, List.forall_mem_cons.mpr ⟨lw_p26, List.forall_mem_cons.mpr ⟨lw_p27, List.forall_mem_cons.mpr ⟨lw_p28, List.forall_mem_cons.mpr ⟨lw_p29, List.forall_mem_cons.mpr ⟨lw_p30, List.forall_mem_cons.mpr ⟨lw_p31, fun _ h => absurd h List.not_mem_nil⟩⟩⟩⟩⟩⟩⟩⟩⟩⟩⟩⟩⟩⟩⟩⟩
theorem lw_p32 : lw_okq (⟨"FallingTermsModel", "comes", "(JJJJ)V"⟩, 38) := ⟨⟨by decide +kernel, by decide +kernel⟩, List.mem_of_getElem? (i := 504) (by decide +kernel), List.mem_of_getElem? (i := 691) (by decide +kernel), List.mem_of_getElem? (i := 692) (by decide +kernel)⟩
theorem lw_p33 : lw_okq (⟨"FallingTermsModel", "isNothing", "()Z"⟩, 38) := ⟨⟨by decide +kernel, by decide +kernel⟩, List.mem_of_getElem? (i := 504) (by decide +kernel), List.mem_of_getElem? (i := 695) (by decide +kernel), List.mem_of_getElem? (i := 696) (by decide +kernel)⟩
theorem lw_p34 : lw_okq (⟨"FallingTermsModel", "goal", "(JJJ)V"⟩, 38) := ⟨⟨by decide +kernel, by decide +kernel⟩, List.mem_of_getElem? (i := 504) (by decide +kernel), List.mem_of_getElem? (i := 699) (by decide +kernel), List.mem_of_getElem? (i := 700) (by decide +kernel)⟩
theorem lw_p35 : lw_okq (⟨"FallingTermsModel", "least", "(I)V"⟩, 38) := ⟨⟨by decide +kernel, by decide +kernel⟩, List.mem_of_getElem? (i := 504) (by decide +kernel), List.mem_of_getElem? (i := 703) (by decide +kernel), List.mem_of_getElem? (i := 704) (by decide +kernel)⟩
theorem lw_p36 : lw_okq (⟨"FallingTermsModel", "bears", "(JJ)V"⟩, 38) := ⟨⟨by decide +kernel, by decide +kernel⟩, List.mem_of_getElem? (i := 504) (by decide +kernel), List.mem_of_getElem? (i := 707) (by decide +kernel), List.mem_of_getElem? (i := 708) (by decide +kernel)⟩
theorem lw_p37 : lw_okq (⟨"FallingTermsModel", "byOne", "(I)V"⟩, 38) := ⟨⟨by decide +kernel, by decide +kernel⟩, List.mem_of_getElem? (i := 504) (by decide +kernel), List.mem_of_getElem? (i := 711) (by decide +kernel), List.mem_of_getElem? (i := 712) (by decide +kernel)⟩
theorem lw_p38 : lw_okq (⟨"FallingTermsModel", "byTwo", "(II)V"⟩, 38) := ⟨⟨by decide +kernel, by decide +kernel⟩, List.mem_of_getElem? (i := 504) (by decide +kernel), List.mem_of_getElem? (i := 715) (by decide +kernel), List.mem_of_getElem? (i := 716) (by decide +kernel)⟩
theorem lw_p39 : lw_okq (⟨"FallingTermsModel", "upright", "(II)V"⟩, 38) := ⟨⟨by decide +kernel, by decide +kernel⟩, List.mem_of_getElem? (i := 504) (by decide +kernel), List.mem_of_getElem? (i := 719) (by decide +kernel), List.mem_of_getElem? (i := 720) (by decide +kernel)⟩
theorem lw_p40 : lw_okq (⟨"FallingTermsModel", "byThree", "(III)V"⟩, 38) := ⟨⟨by decide +kernel, by decide +kernel⟩, List.mem_of_getElem? (i := 504) (by decide +kernel), List.mem_of_getElem? (i := 723) (by decide +kernel), List.mem_of_getElem? (i := 724) (by decide +kernel)⟩
theorem lw_p41 : lw_okq (⟨"FallingTermsModel", "isLeast", "(J)Z"⟩, 38) := ⟨⟨by decide +kernel, by decide +kernel⟩, List.mem_of_getElem? (i := 504) (by decide +kernel), List.mem_of_getElem? (i := 732) (by decide +kernel), List.mem_of_getElem? (i := 733) (by decide +kernel)⟩
theorem lw_p42 : lw_okq (⟨"FallingTermsModel", "isBounded", "(III)Z"⟩, 38) := ⟨⟨by decide +kernel, by decide +kernel⟩, List.mem_of_getElem? (i := 504) (by decide +kernel), List.mem_of_getElem? (i := 740) (by decide +kernel), List.mem_of_getElem? (i := 741) (by decide +kernel)⟩
theorem lw_p43 : lw_okq (⟨"FallingTermsModel", "falls", "(IIIII)I"⟩, 38) := ⟨⟨by decide +kernel, by decide +kernel⟩, List.mem_of_getElem? (i := 504) (by decide +kernel), List.mem_of_getElem? (i := 744) (by decide +kernel), List.mem_of_getElem? (i := 745) (by decide +kernel)⟩
theorem lw_p44 : lw_okq (⟨"FallingTermsModel", "changed", "(IIJJJ)J"⟩, 38) := ⟨⟨by decide +kernel, by decide +kernel⟩, List.mem_of_getElem? (i := 504) (by decide +kernel), List.mem_of_getElem? (i := 748) (by decide +kernel), List.mem_of_getElem? (i := 749) (by decide +kernel)⟩
theorem lw_p45 : lw_okq (⟨"FallingTermsModel", "leftBy", "(IZ)I"⟩, 38) := ⟨⟨by decide +kernel, by decide +kernel⟩, List.mem_of_getElem? (i := 504) (by decide +kernel), List.mem_of_getElem? (i := 756) (by decide +kernel), List.mem_of_getElem? (i := 757) (by decide +kernel)⟩
theorem lw_p46 : lw_okq (⟨"FallingTermsModel", "taken", "(IZIIIII)I"⟩, 38) := ⟨⟨by decide +kernel, by decide +kernel⟩, List.mem_of_getElem? (i := 504) (by decide +kernel), List.mem_of_getElem? (i := 760) (by decide +kernel), List.mem_of_getElem? (i := 761) (by decide +kernel)⟩
theorem lw_p47 : lw_okq (⟨"FallingTermsModel", "lasts", "(I)Z"⟩, 38) := ⟨⟨by decide +kernel, by decide +kernel⟩, List.mem_of_getElem? (i := 504) (by decide +kernel), List.mem_of_getElem? (i := 776) (by decide +kernel), List.mem_of_getElem? (i := 777) (by decide +kernel)⟩
def lw_privs_3 : List (MethodName × Nat) := [(⟨"FallingTermsModel", "comes", "(JJJJ)V"⟩, 38), (⟨"FallingTermsModel", "isNothing", "()Z"⟩, 38), (⟨"FallingTermsModel", "goal", "(JJJ)V"⟩, 38), (⟨"FallingTermsModel", "least", "(I)V"⟩, 38), (⟨"FallingTermsModel", "bears", "(JJ)V"⟩, 38), (⟨"FallingTermsModel", "byOne", "(I)V"⟩, 38), (⟨"FallingTermsModel", "byTwo", "(II)V"⟩, 38), (⟨"FallingTermsModel", "upright", "(II)V"⟩, 38), (⟨"FallingTermsModel", "byThree", "(III)V"⟩, 38), (⟨"FallingTermsModel", "isLeast", "(J)Z"⟩, 38), (⟨"FallingTermsModel", "isBounded", "(III)Z"⟩, 38), (⟨"FallingTermsModel", "falls", "(IIIII)I"⟩, 38), (⟨"FallingTermsModel", "changed", "(IIJJJ)J"⟩, 38), (⟨"FallingTermsModel", "leftBy", "(IZ)I"⟩, 38), (⟨"FallingTermsModel", "taken", "(IZIIIII)I"⟩, 38), (⟨"FallingTermsModel", "lasts", "(I)Z"⟩, 38)]
theorem lw_r3 : ∀ q ∈ lw_privs_3, lw_okq q := List.forall_mem_cons.mpr ⟨lw_p32, List.forall_mem_cons.mpr ⟨lw_p33, List.forall_mem_cons.mpr ⟨lw_p34, List.forall_mem_cons.mpr ⟨lw_p35, List.forall_mem_cons.mpr ⟨lw_p36, List.forall_mem_cons.mpr ⟨lw_p37, List.forall_mem_cons.mpr ⟨lw_p38, List.forall_mem_cons.mpr ⟨lw_p39, List.forall_mem_cons.mpr ⟨lw_p40, List.forall_mem_cons.mpr ⟨lw_p41, List.forall_mem_cons.mpr ⟨lw_p42, List.forall_mem_cons.mpr ⟨lw_p43, List.forall_mem_cons.mpr ⟨lw_p44, List.forall_mem_cons.mpr ⟨lw_p45, List.forall_mem_cons.mpr ⟨lw_p46, List.forall_mem_cons.mpr ⟨lw_p47, fun _ h => absurd h List.not_mem_nil⟩⟩⟩⟩⟩⟩⟩⟩⟩⟩⟩⟩⟩⟩⟩⟩
theorem lw_p48 : lw_okq (⟨"FallingTermsModel", "stand", "(I)V"⟩, 38) := ⟨⟨by decide +kernel, by decide +kernel⟩, List.mem_of_getElem? (i := 504) (by decide +kernel), List.mem_of_getElem? (i := 799) (by decide +kernel), List.mem_of_getElem? (i := 800) (by decide +kernel)⟩
theorem lw_p49 : lw_okq (⟨"FallingTermsModel", "openAt", "(I)I"⟩, 38) := ⟨⟨by decide +kernel, by decide +kernel⟩, List.mem_of_getElem? (i := 504) (by decide +kernel), List.mem_of_getElem? (i := 803) (by decide +kernel), List.mem_of_getElem? (i := 804) (by decide +kernel)⟩
theorem lw_p50 : lw_okq (⟨"FallingTermsModel", "isMet", "([II)Z"⟩, 38) := ⟨⟨by decide +kernel, by decide +kernel⟩, List.mem_of_getElem? (i := 504) (by decide +kernel), List.mem_of_getElem? (i := 807) (by decide +kernel), List.mem_of_getElem? (i := 808) (by decide +kernel)⟩
theorem lw_p51 : lw_okq (⟨"FallingTermsModel", "walks", "(I)I"⟩, 38) := ⟨⟨by decide +kernel, by decide +kernel⟩, List.mem_of_getElem? (i := 504) (by decide +kernel), List.mem_of_getElem? (i := 815) (by decide +kernel), List.mem_of_getElem? (i := 816) (by decide +kernel)⟩
theorem lw_p52 : lw_okq (⟨"FallingTermsModel", "goes", "(II)Z"⟩, 38) := ⟨⟨by decide +kernel, by decide +kernel⟩, List.mem_of_getElem? (i := 504) (by decide +kernel), List.mem_of_getElem? (i := 819) (by decide +kernel), List.mem_of_getElem? (i := 820) (by decide +kernel)⟩
theorem lw_p53 : lw_okq (⟨"FallingTermsModel", "becomes", "(II)J"⟩, 38) := ⟨⟨by decide +kernel, by decide +kernel⟩, List.mem_of_getElem? (i := 504) (by decide +kernel), List.mem_of_getElem? (i := 823) (by decide +kernel), List.mem_of_getElem? (i := 824) (by decide +kernel)⟩
theorem lw_p54 : lw_okq (⟨"FallingTermsModel", "stay", "(I)V"⟩, 38) := ⟨⟨by decide +kernel, by decide +kernel⟩, List.mem_of_getElem? (i := 504) (by decide +kernel), List.mem_of_getElem? (i := 832) (by decide +kernel), List.mem_of_getElem? (i := 833) (by decide +kernel)⟩
theorem lw_p55 : lw_okq (⟨"FallingTermsModel", "comesBack", "(IIII)I"⟩, 38) := ⟨⟨by decide +kernel, by decide +kernel⟩, List.mem_of_getElem? (i := 504) (by decide +kernel), List.mem_of_getElem? (i := 848) (by decide +kernel), List.mem_of_getElem? (i := 849) (by decide +kernel)⟩
def lw_privs_4 : List (MethodName × Nat) := [(⟨"FallingTermsModel", "stand", "(I)V"⟩, 38), (⟨"FallingTermsModel", "openAt", "(I)I"⟩, 38), (⟨"FallingTermsModel", "isMet", "([II)Z"⟩, 38), (⟨"FallingTermsModel", "walks", "(I)I"⟩, 38), (⟨"FallingTermsModel", "goes", "(II)Z"⟩, 38), (⟨"FallingTermsModel", "becomes", "(II)J"⟩, 38), (⟨"FallingTermsModel", "stay", "(I)V"⟩, 38), (⟨"FallingTermsModel", "comesBack", "(IIII)I"⟩, 38)]
theorem lw_r4 : ∀ q ∈ lw_privs_4, lw_okq q := List.forall_mem_cons.mpr ⟨lw_p48, List.forall_mem_cons.mpr ⟨lw_p49, List.forall_mem_cons.mpr ⟨lw_p50, List.forall_mem_cons.mpr ⟨lw_p51, List.forall_mem_cons.mpr ⟨lw_p52, List.forall_mem_cons.mpr ⟨lw_p53, List.forall_mem_cons.mpr ⟨lw_p54, List.forall_mem_cons.mpr ⟨lw_p55, fun _ h => absurd h List.not_mem_nil⟩⟩⟩⟩⟩⟩⟩⟩
def lw_privs : List (MethodName × Nat) := lw_privs_1 ++ (lw_privs_2 ++ (lw_privs_3 ++ (lw_privs_4)))
def lw_tbl : List Cond := k2_sels lw_privs ++ tables_1
theorem lw_privs_ok : ∀ q ∈ lw_privs, lw_okq q := by
  show ∀ q ∈ lw_privs_1 ++ (lw_privs_2 ++ (lw_privs_3 ++ (lw_privs_4))), lw_okq q
  exact List.forall_mem_append.mpr ⟨lw_r1, List.forall_mem_append.mpr ⟨lw_r2, List.forall_mem_append.mpr ⟨lw_r3, lw_r4⟩⟩⟩
end
section
-- M-WORLDS: a world is a function from addresses to what lies there; a contract speaks of the whole function, so that no call cuts or joins
abbrev mw_M : Type := Nat → Option va_E
def mw_P (D : va_G) (cl : List vw_C) (M : mw_M) (H : Heap) : Prop := ∀ (a : Nat) (e : va_E), M a = some e → va_at D cl (a, e) H
def mw_up (M : mw_M) (a : Nat) (e : va_E) : mw_M := fun q => if q = a then some e else M q
theorem mw_up_self {M : mw_M} {a : Nat} {e : va_E} : mw_up M a e a = some e := by simp [mw_up]
theorem mw_up_ne {M : mw_M} {a q : Nat} {e : va_E} (h : q ≠ a) : mw_up M a e q = M q := by simp [mw_up, h]
def mw_A (M : mw_M) (sz : Nat) : Nat → Prop := fun q => (∃ e : va_E, M q = some e) ∨ sz ≤ q
theorem mw_P.one {D : va_G} {cl : List vw_C} {M : mw_M} {H : Heap} (h : mw_P D cl M H) {a : Nat} {e : va_E} (ha : M a = some e) : va_P D cl [(a, e)] H := by
  intro k q hk
  match k, hk with
  | 0, hk => cases hk; exact h a e ha
  | k + 1, hk => simp at hk
theorem mw_P.set {D : va_G} {cl : List vw_C} {M : mw_M} {H H1 : Heap} {a : Nat} {e : va_E} (h : mw_P D cl M H) (he : va_at D cl (a, e) H1) (oq : ∀ q : Nat, q ≠ a → H1[q]? = H[q]?) : mw_P D cl (mw_up M a e) H1 := by
  intro q e' hq
  by_cases hqa : q = a
  · subst hqa
    rw [mw_up_self] at hq
    cases hq
    exact he
  · rw [mw_up_ne hqa] at hq
    exact (h q e' hq).kept (oq q hqa)
theorem mw_P.new {D : va_G} {cl : List vw_C} {M : mw_M} {H H1 : Heap} {a : Nat} {e : va_E} (h : mw_P D cl M H) (he : va_at D cl (a, e) H1) (oq : ∀ q : Nat, q < H.size → H1[q]? = H[q]?) : mw_P D cl (mw_up M a e) H1 := by
  intro q e' hq
  by_cases hqa : q = a
  · subst hqa
    rw [mw_up_self] at hq
    cases hq
    exact he
  · rw [mw_up_ne hqa] at hq
    exact (h q e' hq).kept (oq q (h q e' hq).lt)
theorem mw_A.up {M : mw_M} {sz a : Nat} {e : va_E} {A : Nat → Prop} (h : ∀ q, mw_A M sz q → A q) (ha : A a) : ∀ q, mw_A (mw_up M a e) sz q → A q := by
  intro q hq
  rcases hq with ⟨e', hq⟩ | hq
  · by_cases hqa : q = a
    · subst hqa; exact ha
    · rw [mw_up_ne hqa] at hq
      exact h q (Or.inl ⟨e', hq⟩)
  · exact h q (Or.inr hq)
section MW
variable {p : Program} {l : Launch} {e : Env} {R : Room} {s : State} {m : MethodId} {args : Array Value} {below : List Frame} {meth : Method} {c : Code} {H : Heap} {locs : List Loc} {cells slots : Nat} {Q : State → Prop}
variable {cc : ByteArray} {pc : Nat} {ls : Array Slot} {rest : List Value} {D : va_G} {cl : List vw_C} {A : Nat → Prop} {a : Nat} {tys : List (ClassId × FieldType)} {M : mw_M} {H0 : Heap}
theorem mw_get (hexec : p.tables.exec = Jvm.exec) (hb : c.code = cc) {own ref C : String} {T : u_T} {N ci index : Nat} {Ts : List Cond} (hts : ∀ w ∈ Ts, w.before args s = true) (hin : ∀ w ∈ u_ws C T N, w ∈ Ts) (hown : s.vm.findClass own = some m.cls) (hK : va_K D cl tys s) (hP : mw_P D cl M H) {fs : List Value} (he : M a = some (.inr (ci, fs))) (hc : cl[ci]? = some (C, T, N)) (k : Nat) (hk : k < N) (hlink : (Cond.fieldLink own index ref (T k).2.1 (T k).2.2.1).before args s = true) (hsame : ∀ x, s.fieldFound? (T k).1 (T k).2.1 (T k).2.2.1 = some x → s.fieldFound? ref (T k).2.1 (T k).2.2.1 = some x) {v : Value} (hv : fs[k]? = some v) (hdg : decode cc pc = .ok (.getfield index, 3))
    (kk : W p l e R s m args below meth c H locs cells slots Q (F0 m (pc + 3) ls (v :: rest))) : W p l e R s m args below meth c H locs cells slots Q (F0 m pc ls (.ref a :: rest)) :=
  va_get hexec hb hts hin hown hK (hP.one he) 0 rfl hc k hk hlink hsame hv hdg kk
theorem mw_getN (hexec : p.tables.exec = Jvm.exec) (hb : c.code = cc) {own ref C host : String} {T : u_T} {N ci index : Nat} {Ts : List Cond} (hts : ∀ w ∈ Ts, w.before args s = true) (hin : ∀ w ∈ u_ws C T N, w ∈ Ts) (hown : s.vm.findClass own = some m.cls) (hK : va_K D cl tys s) (hP : mw_P D cl M H) {fs : List Value} (he : M a = some (.inr (ci, fs))) (hc : cl[ci]? = some (C, T, N)) (k : Nat) (hk : k < N) (hlink : (Cond.fieldLinkNest own index ref (T k).2.1 (T k).2.2.1 host).before args s = true) (hsame : ∀ x, s.fieldFound? (T k).1 (T k).2.1 (T k).2.2.1 = some x → s.fieldFound? ref (T k).2.1 (T k).2.2.1 = some x) {v : Value} (hv : fs[k]? = some v) (hdg : decode cc pc = .ok (.getfield index, 3))
    (kk : W p l e R s m args below meth c H locs cells slots Q (F0 m (pc + 3) ls (v :: rest))) : W p l e R s m args below meth c H locs cells slots Q (F0 m pc ls (.ref a :: rest)) :=
  va_getN hexec hb hts hin hown hK (hP.one he) 0 rfl hc k hk hlink hsame hv hdg kk
theorem mw_put (hexec : p.tables.exec = Jvm.exec) (hb : c.code = cc) {own ref C : String} {T : u_T} {N ci index : Nat} {Ts : List Cond} (hts : ∀ w ∈ Ts, w.before args s = true) (hin : ∀ w ∈ u_ws C T N, w ∈ Ts) (ty0 : Nat → FieldType) (hty : ∀ k, k < N → parseFieldDescriptor (T k).2.2.1 = some (ty0 k)) (hnm : ∀ a, a < N → ∀ b, b < N → a ≠ b → (T a).2.1 ≠ (T b).2.1) (hown : s.vm.findClass own = some m.cls) (hK : va_K D cl tys s) (hP : mw_P D cl M H) (hS0 : va_S A H0 H locs) {fs : List Value} (he : M a = some (.inr (ci, fs))) (haA : A a) (hc : cl[ci]? = some (C, T, N)) (k : Nat) (hk : k < N) (hlink : (Cond.fieldLink own index ref (T k).2.1 (T k).2.2.1).before args s = true) (hsame : ∀ x, s.fieldFound? (T k).1 (T k).2.1 (T k).2.2.1 = some x → s.fieldFound? ref (T k).2.1 (T k).2.2.1 = some x) (hfin : (T k).2.2.2 = false) {ty : FieldType} {v : Value} (hd : parseFieldDescriptor (T k).2.2.1 = some ty) (hn : narrow ty v = v) (hfit : fits ty v = true) (hl : k < fs.length)
    (hdg : decode cc pc = .ok (.putfield index, 3)) (kk : ∀ (H1 : Heap) (locs1 : List Loc), mw_P D cl (mw_up M a (.inr (ci, fs.set k v))) H1 → va_S A H0 H1 locs1 → H1.size = H.size → W p l e R s m args below meth c H1 locs1 cells slots Q (F0 m (pc + 3) ls rest)) : W p l e R s m args below meth c H locs cells slots Q (F0 m pc ls (v :: .ref a :: rest)) := by
  have hap := va_apart (own := own) hts hin ty0 hty hnm hK hc
  obtain ⟨r, h1, cell, q1, q2, q3, q4⟩ := hP a _ he
  have hr : r = (C, T, N) := Option.some.inj (h1.symm.trans hc)
  subst hr
  obtain ⟨hS, hfc, kC, hkC, hkind⟩ := hK.1 ci _ hc
  obtain ⟨cf, kf, fi, f, hi, hsl⟩ := hS k hk
  have hlay := hts _ (hin _ (u_in_lay hk))
  unfold u_lay at hlay
  rw [if_neg (by rw [hfin]; decide)] at hlay
  have hst := (u_facts hfc hkC (u_lays hts hin hk) hi).1
  have h6 := u_store hfc hkC hkind hlay hi hd hn hfit
  refine W.putK hexec hb (f := f) ⟨hown, hlink, ⟨_, _, _, hsame _ hi⟩, hst⟩ (by rw [q2]; exact h6) q1 q3 (by rw [hsl]; exact k2_hasslot (q4 k hk)) rfl rfl hdg fun H' e1 e2 e3 => ?_
  rw [hsl] at e1 ⊢
  exact kk H' _ (hP.set ⟨_, hc, t_OB.to (V := updV (vp_V fs) k v) ⟨_, e1, q2, q3, t_set q4 hap hk v⟩ (fun j _ => vp_updV_set hl v j)⟩ e3) (hS0.put e2 e3 haA) e2
theorem mw_putF (hexec : p.tables.exec = Jvm.exec) (hb : c.code = cc) {own ref C : String} {T : u_T} {N ci index : Nat} {Ts : List Cond} (hts : ∀ w ∈ Ts, w.before args s = true) (hin : ∀ w ∈ u_ws C T N, w ∈ Ts) (ty0 : Nat → FieldType) (hty : ∀ k, k < N → parseFieldDescriptor (T k).2.2.1 = some (ty0 k)) (hnm : ∀ a, a < N → ∀ b, b < N → a ≠ b → (T a).2.1 ≠ (T b).2.1) (hown : s.vm.findClass own = some m.cls) (hK : va_K D cl tys s) (hP : mw_P D cl M H) (hS0 : va_S A H0 H locs) {fs : List Value} (he : M a = some (.inr (ci, fs))) (haA : A a) (hc : cl[ci]? = some (C, T, N)) (k : Nat) (hk : k < N) (hlink : (Cond.fieldLink own index ref (T k).2.1 (T k).2.2.1).before args s = true) (hsame : ∀ x, s.fieldFound? (T k).1 (T k).2.1 (T k).2.2.1 = some x → s.fieldFound? ref (T k).2.1 (T k).2.2.1 = some x) (hfin : (T k).2.2.2 = true) (hin2 : meth.name = "<init>") (hdecl : (T k).1 = own) {ty : FieldType} {v : Value} (hd : parseFieldDescriptor (T k).2.2.1 = some ty) (hn : narrow ty v = v) (hfit : fits ty v = true) (hl : k < fs.length)
    (hdg : decode cc pc = .ok (.putfield index, 3)) (kk : ∀ (H1 : Heap) (locs1 : List Loc), mw_P D cl (mw_up M a (.inr (ci, fs.set k v))) H1 → va_S A H0 H1 locs1 → H1.size = H.size → W p l e R s m args below meth c H1 locs1 cells slots Q (F0 m (pc + 3) ls rest)) : W p l e R s m args below meth c H locs cells slots Q (F0 m pc ls (v :: .ref a :: rest)) := by
  have hap := va_apart (own := own) hts hin ty0 hty hnm hK hc
  obtain ⟨r, h1, cell, q1, q2, q3, q4⟩ := hP a _ he
  have hr : r = (C, T, N) := Option.some.inj (h1.symm.trans hc)
  subst hr
  obtain ⟨hS, hfc, kC, hkC, hkind⟩ := hK.1 ci _ hc
  obtain ⟨cf, kf, fi, f, hi, hsl⟩ := hS k hk
  have hlay := hts _ (hin _ (u_in_lay hk))
  unfold u_lay at hlay
  rw [if_pos hfin] at hlay
  have hst := (u_facts hfc hkC (u_lays hts hin hk) hi).1
  have hcf : m.cls = cf := by
    obtain ⟨_, _, c', _, _, _, -, -, hf', -, -, -, hown2, -⟩ := Cond.laysFinal_spec hlay
    have e1 : c' = cf := by have := hi.symm.trans hf'; simp at this; exact this.1.symm
    rw [hdecl] at hown2
    rw [← e1]; exact Option.some.inj (hown.symm.trans hown2)
  have h6 := u_fits hfc hkC hkind (Or.inr hlay) hi hd hn hfit
  refine W.putFinK hexec hb hown hlink (hsame _ hi) hst hcf hin2 (by rw [q2]; exact h6) q1 q3 (by rw [hsl]; exact k2_hasslot (q4 k hk)) rfl rfl hdg fun H' e1 e2 e3 => ?_
  rw [hsl] at e1 ⊢
  exact kk H' _ (hP.set ⟨_, hc, t_OB.to (V := updV (vp_V fs) k v) ⟨_, e1, q2, q3, t_set q4 hap hk v⟩ (fun j _ => vp_updV_set hl v j)⟩ e3) (hS0.put e2 e3 haA) e2
theorem mw_putN (hexec : p.tables.exec = Jvm.exec) (hb : c.code = cc) {own ref C host : String} {T : u_T} {N ci index : Nat} {Ts : List Cond} (hts : ∀ w ∈ Ts, w.before args s = true) (hin : ∀ w ∈ u_ws C T N, w ∈ Ts) (ty0 : Nat → FieldType) (hty : ∀ k, k < N → parseFieldDescriptor (T k).2.2.1 = some (ty0 k)) (hnm : ∀ a, a < N → ∀ b, b < N → a ≠ b → (T a).2.1 ≠ (T b).2.1) (hown : s.vm.findClass own = some m.cls) (hK : va_K D cl tys s) (hP : mw_P D cl M H) (hS0 : va_S A H0 H locs) {fs : List Value} (he : M a = some (.inr (ci, fs))) (haA : A a) (hc : cl[ci]? = some (C, T, N)) (k : Nat) (hk : k < N) (hlink : (Cond.fieldLinkNest own index ref (T k).2.1 (T k).2.2.1 host).before args s = true) (hsame : ∀ x, s.fieldFound? (T k).1 (T k).2.1 (T k).2.2.1 = some x → s.fieldFound? ref (T k).2.1 (T k).2.2.1 = some x) (hfin : (T k).2.2.2 = false) {ty : FieldType} {v : Value} (hd : parseFieldDescriptor (T k).2.2.1 = some ty) (hn : narrow ty v = v) (hfit : fits ty v = true) (hl : k < fs.length)
    (hdg : decode cc pc = .ok (.putfield index, 3)) (kk : ∀ (H1 : Heap) (locs1 : List Loc), mw_P D cl (mw_up M a (.inr (ci, fs.set k v))) H1 → va_S A H0 H1 locs1 → H1.size = H.size → W p l e R s m args below meth c H1 locs1 cells slots Q (F0 m (pc + 3) ls rest)) : W p l e R s m args below meth c H locs cells slots Q (F0 m pc ls (v :: .ref a :: rest)) := by
  have hap := va_apart (own := own) hts hin ty0 hty hnm hK hc
  obtain ⟨r, h1, cell, q1, q2, q3, q4⟩ := hP a _ he
  have hr : r = (C, T, N) := Option.some.inj (h1.symm.trans hc)
  subst hr
  obtain ⟨hS, hfc, kC, hkC, hkind⟩ := hK.1 ci _ hc
  obtain ⟨cf, kf, fi, f, hi, hsl⟩ := hS k hk
  have hlay := hts _ (hin _ (u_in_lay hk))
  unfold u_lay at hlay
  rw [if_neg (by rw [hfin]; decide)] at hlay
  have hst := (u_facts hfc hkC (u_lays hts hin hk) hi).1
  have h6 := u_store hfc hkC hkind hlay hi hd hn hfit
  refine va_WputK hexec hb (f := f) hown hlink (hsame _ hi) hst (by rw [q2]; exact h6) q1 q3 (by rw [hsl]; exact k2_hasslot (q4 k hk)) rfl rfl hdg fun H' e1 e2 e3 => ?_
  rw [hsl] at e1 ⊢
  exact kk H' _ (hP.set ⟨_, hc, t_OB.to (V := updV (vp_V fs) k v) ⟨_, e1, q2, q3, t_set q4 hap hk v⟩ (fun j _ => vp_updV_set hl v j)⟩ e3) (hS0.put e2 e3 haA) e2
theorem mw_iald (hexec : p.tables.exec = Jvm.exec) (hb : c.code = cc) (hK : va_K D cl tys s) (hP : mw_P D cl M H) (t0 : Nat) {cA : ClassId} {n : Nat} {f : Nat → Int32} (ha : M a = some (.inl (cA, n, .inl f))) (ht : tys[t0]? = some (cA, .int)) {i : Int32} (hin : vp_in i n) (hdg : decode cc pc = .ok (.iaload, 1))
    (kk : W p l e R s m args below meth c H locs cells slots Q (F0 m (pc + 1) ls (.int (f i.toNatClampNeg) :: rest))) : W p l e R s m args below meth c H locs cells slots Q (F0 m pc ls (.int i :: .ref a :: rest)) :=
  va_iald hexec hb hK (hP.one ha) 0 t0 rfl ht hin hdg kk
theorem mw_lald (hexec : p.tables.exec = Jvm.exec) (hb : c.code = cc) (hK : va_K D cl tys s) (hP : mw_P D cl M H) (t0 : Nat) {cA : ClassId} {n : Nat} {f : Nat → Int64} (ha : M a = some (.inl (cA, n, .inr (.inl f)))) (ht : tys[t0]? = some (cA, .long)) {i : Int32} (hin : vp_in i n) (hdg : decode cc pc = .ok (.laload, 1))
    (kk : W p l e R s m args below meth c H locs cells slots Q (F0 m (pc + 1) ls (.long (f i.toNatClampNeg) :: rest))) : W p l e R s m args below meth c H locs cells slots Q (F0 m pc ls (.int i :: .ref a :: rest)) :=
  va_lald hexec hb hK (hP.one ha) 0 t0 rfl ht hin hdg kk
theorem mw_aldq (hexec : p.tables.exec = Jvm.exec) (hb : c.code = cc) (hK : va_K D cl tys s) (hP : mw_P D cl M H) (t0 : Nat) {cA : ClassId} {C : String} {n : Nat} {f : Nat → Option Nat} (ha : M a = some (.inl (cA, n, .inr (.inr (.inr (.inr f)))))) (ht : tys[t0]? = some (cA, .object C)) {i : Int32} (hin : vp_in i n) (hdg : decode cc pc = .ok (.aaload, 1))
    {v : Nat} (hv : f i.toNatClampNeg = some v) (kk : W p l e R s m args below meth c H locs cells slots Q (F0 m (pc + 1) ls (.ref v :: rest))) : W p l e R s m args below meth c H locs cells slots Q (F0 m pc ls (.int i :: .ref a :: rest)) :=
  va_aldq hexec hb hK (hP.one ha) 0 t0 rfl ht hin hdg (by rw [hv]; exact kk)
theorem mw_alen (hexec : p.tables.exec = Jvm.exec) (hb : c.code = cc) (hK : va_K D cl tys s) (hP : mw_P D cl M H) (t0 : Nat) {cA : ClassId} {x : vp_A} (ha : M a = some (.inl (cA, x))) {ty : FieldType} (ht : tys[t0]? = some (cA, ty)) {v : Int32} (hv : Int32.ofNat x.1 = v) (hdg : decode cc pc = .ok (.arraylength, 1))
    (kk : W p l e R s m args below meth c H locs cells slots Q (F0 m (pc + 1) ls (.int v :: rest))) : W p l e R s m args below meth c H locs cells slots Q (F0 m pc ls (.ref a :: rest)) :=
  va_alen hexec hb hK (hP.one ha) 0 t0 rfl ht hv hdg kk
theorem mw_iast (hexec : p.tables.exec = Jvm.exec) (hb : c.code = cc) (hK : va_K D cl tys s) (hP : mw_P D cl M H) (hS : va_S A H0 H locs) (t0 : Nat) {cA : ClassId} {n : Nat} {f : Nat → Int32} (ha : M a = some (.inl (cA, n, .inl f))) (haA : A a) (ht : tys[t0]? = some (cA, .int)) {i : Int32} {x : Int32} (hin : vp_in i n) (hdg : decode cc pc = .ok (.iastore, 1))
    (kk : ∀ (H1 : Heap) (locs1 : List Loc), mw_P D cl (mw_up M a (.inl (cA, n, .inl (upd f i.toNatClampNeg x)))) H1 → va_S A H0 H1 locs1 → H1.size = H.size → W p l e R s m args below meth c H1 locs1 cells slots Q (F0 m (pc + 1) ls rest)) : W p l e R s m args below meth c H locs cells slots Q (F0 m pc ls (.int x :: .int i :: .ref a :: rest)) := by
  refine W.iast hexec hb (hP a _ ha) ((hK.2 t0 _ ht).1 n (fun j => .int (f j))) (fun q => by cases q) (by show ¬ (i < 0 ∨ (arrV _ _ _).slots.size ≤ _); rw [arrV_size]; exact hin) rfl rfl hdg fun H1 e z oq => ?_
  refine kk H1 _ (hP.set ?_ oq) (hS.put z oq haA) z
  show H1[a]? = some (vp_cell _ _)
  rw [e]
  rw [vp_cell_i, vp_cell_i, arrV_store]
  congr 2
  funext q
  by_cases hq : q = i.toNatClampNeg
  · subst hq
    simp [updV, upd]
  · simp [updV, upd, hq]
theorem mw_last (hexec : p.tables.exec = Jvm.exec) (hb : c.code = cc) (hK : va_K D cl tys s) (hP : mw_P D cl M H) (hS : va_S A H0 H locs) (t0 : Nat) {cA : ClassId} {n : Nat} {f : Nat → Int64} (ha : M a = some (.inl (cA, n, .inr (.inl f)))) (haA : A a) (ht : tys[t0]? = some (cA, .long)) {i : Int32} {x : Int64} (hin : vp_in i n) (hdg : decode cc pc = .ok (.lastore, 1))
    (kk : ∀ (H1 : Heap) (locs1 : List Loc), mw_P D cl (mw_up M a (.inl (cA, n, .inr (.inl (vp_updL f i.toNatClampNeg x))))) H1 → va_S A H0 H1 locs1 → H1.size = H.size → W p l e R s m args below meth c H1 locs1 cells slots Q (F0 m (pc + 1) ls rest)) : W p l e R s m args below meth c H locs cells slots Q (F0 m pc ls (.long x :: .int i :: .ref a :: rest)) := by
  refine W.last hexec hb (hP a _ ha) ((hK.2 t0 _ ht).1 n (fun j => .long (f j))) (fun q => by cases q) (by show ¬ (i < 0 ∨ (arrV _ _ _).slots.size ≤ _); rw [arrV_size]; exact hin) rfl rfl hdg fun H1 e z oq => ?_
  refine kk H1 _ (hP.set ?_ oq) (hS.put z oq haA) z
  show H1[a]? = some (vp_cell _ _)
  rw [e]
  rw [vp_cell_l, vp_cell_l, arrV_store]
  congr 2
  funext q
  by_cases hq : q = i.toNatClampNeg
  · subst hq
    simp [updV, vp_updL]
  · simp [updV, vp_updL, hq]
theorem mw_astq (hexec : p.tables.exec = Jvm.exec) (hb : c.code = cc) (hK : va_K D cl tys s) (hP : mw_P D cl M H) (hS : va_S A H0 H locs) (t0 ci : Nat) {cA : ClassId} {r : vw_C} {n v : Nat} {vs : List Value} {f : Nat → Option Nat} (ha : M a = some (.inl (cA, n, .inr (.inr (.inr (.inr f)))))) (haA : A a) (ht : tys[t0]? = some (cA, .object r.1)) (hv : M v = some (.inr (ci, vs))) (hc : cl[ci]? = some r) {i : Int32} (hin : vp_in i n) (hdg : decode cc pc = .ok (.aastore, 1))
    (kk : ∀ (H1 : Heap) (locs1 : List Loc), mw_P D cl (mw_up M a (.inl (cA, n, .inr (.inr (.inr (.inr (va_up f i.toNatClampNeg (some v)))))))) H1 → va_S A H0 H1 locs1 → H1.size = H.size → W p l e R s m args below meth c H1 locs1 cells slots Q (F0 m (pc + 1) ls rest)) : W p l e R s m args below meth c H locs cells slots Q (F0 m pc ls (.ref v :: .int i :: .ref a :: rest)) := by
  have hlt : i.toNatClampNeg < n := Nat.not_le.mp fun q => hin (Or.inr q)
  have h0 : ¬ i < 0 := fun q => hin (Or.inl q)
  obtain ⟨r', hr', cellV, g1, g2, g3, -⟩ := hP v _ hv
  have hcls := (hK.1 ci r hc).2
  obtain ⟨kA, comp, k1, k2, k3, -⟩ := (hK.2 t0 _ ht).2
  have hcomp : comp = D.1 ci := Option.some.inj (k3.symm.trans hcls.1)
  subst hcomp
  obtain ⟨kC, hkC, -⟩ := hcls.2
  refine W.aast hexec hb (hP a _ ha) (fun q h => by cases h) (fun h => by cases h) k1 k2 rfl hkC ⟨h0, by show _ < (arrV _ _ _).slots.size; rw [arrV_size]; exact hlt⟩ g1 (fun q h => by rw [g3] at h; cases h) (by rw [g2]; exact hkC) (by rw [g2]; exact va_assign hcls) rfl rfl hdg fun H1 e z oq => ?_
  refine kk H1 _ (hP.set ?_ oq) (hS.put z oq haA) z
  show H1[a]? = some (vp_cell _ _)
  rw [e]
  rw [vp_cell_q, vp_cell_q, arrV_store]
  congr 2
  funext q
  by_cases hq : q = i.toNatClampNeg
  · subst hq
    simp [updV, va_up, va_rf]
  · simp [updV, va_up, hq]
end MW
end
section
-- THE DOUBLE DESCRIPTION, as whole numbers: vectors of four, rows as vectors, generators
abbrev dd_V : Type := Int × Int × Int × Int
def dd_add (x y : dd_V) : dd_V := (x.1 + y.1, x.2.1 + y.2.1, x.2.2.1 + y.2.2.1, x.2.2.2 + y.2.2.2)
def dd_mul (k : Int) (x : dd_V) : dd_V := (k * x.1, k * x.2.1, k * x.2.2.1, k * x.2.2.2)
def dd_ev (w x : dd_V) : Int := w.1 * x.1 + w.2.1 * x.2.1 + w.2.2.1 * x.2.2.1 + w.2.2.2 * x.2.2.2
def dd_0 : dd_V := (0, 0, 0, 0)
theorem dd_ev_add (w x y : dd_V) : dd_ev w (dd_add x y) = dd_ev w x + dd_ev w y := by
  simp only [dd_ev, dd_add]; grind
theorem dd_ev_mul (w : dd_V) (k : Int) (x : dd_V) : dd_ev w (dd_mul k x) = k * dd_ev w x := by
  simp only [dd_ev, dd_mul]; grind
theorem dd_ev_0 (w : dd_V) : dd_ev w dd_0 = 0 := by
  simp [dd_ev, dd_0]
theorem dd_mul_add (k : Int) (x y : dd_V) : dd_mul k (dd_add x y) = dd_add (dd_mul k x) (dd_mul k y) := by
  simp only [dd_mul, dd_add, Int.mul_add]
theorem dd_mul_mul (k j : Int) (x : dd_V) : dd_mul k (dd_mul j x) = dd_mul (k * j) x := by
  simp only [dd_mul, Int.mul_assoc]
theorem dd_mul_0 (k : Int) : dd_mul k dd_0 = dd_0 := by simp [dd_mul, dd_0]
theorem dd_0_mul (x : dd_V) : dd_mul 0 x = dd_0 := by simp [dd_mul, dd_0]
theorem dd_1_mul (x : dd_V) : dd_mul 1 x = x := by simp [dd_mul]
theorem dd_add_0 (x : dd_V) : dd_add x dd_0 = x := by simp [dd_add, dd_0]
theorem dd_0_add (x : dd_V) : dd_add dd_0 x = x := by simp [dd_add, dd_0]
theorem dd_add_mul (j k : Int) (x : dd_V) : dd_mul (j + k) x = dd_add (dd_mul j x) (dd_mul k x) := by
  simp only [dd_mul, dd_add, Int.add_mul]
theorem dd_add_swap (a b c d : dd_V) : dd_add (dd_add a b) (dd_add c d) = dd_add (dd_add a c) (dd_add b d) := by
  simp only [dd_add, Prod.mk.injEq]; omega
theorem dd_add_comm (a b : dd_V) : dd_add a b = dd_add b a := by
  simp only [dd_add, Prod.mk.injEq]; omega
theorem dd_add_assoc (a b c : dd_V) : dd_add (dd_add a b) c = dd_add a (dd_add b c) := by
  simp only [dd_add, Prod.mk.injEq]; omega
/-- what lines (any number of times) and rays (0 times or more) make together -/
def dd_Gen (L G : dd_V → Prop) (x : dd_V) : Prop := ∀ P : dd_V → Prop, P dd_0 → (∀ x y, P x → P y → P (dd_add x y)) → (∀ v, L v → ∀ k : Int, P (dd_mul k v)) → (∀ v, G v → ∀ k : Int, 0 ≤ k → P (dd_mul k v)) → P x
theorem dd_Gen.zero {L G : dd_V → Prop} : dd_Gen L G dd_0 := fun _ h0 _ _ _ => h0
theorem dd_Gen.add {L G : dd_V → Prop} {x y : dd_V} (hx : dd_Gen L G x) (hy : dd_Gen L G y) : dd_Gen L G (dd_add x y) := fun P h0 ha hl hg => ha x y (hx P h0 ha hl hg) (hy P h0 ha hl hg)
theorem dd_Gen.line {L G : dd_V → Prop} {v : dd_V} (hv : L v) (k : Int) : dd_Gen L G (dd_mul k v) := fun _ _ _ hl _ => hl v hv k
theorem dd_Gen.ray {L G : dd_V → Prop} {v : dd_V} (hv : G v) {k : Int} (hk : 0 ≤ k) : dd_Gen L G (dd_mul k v) := fun _ _ _ _ hg => hg v hv k hk
theorem dd_Gen.ray1 {L G : dd_V → Prop} {v : dd_V} (hv : G v) : dd_Gen L G v := by
  have h := dd_Gen.ray (L := L) hv (k := 1) (by omega)
  rwa [dd_1_mul] at h
theorem dd_Gen.mono {L L' G G' : dd_V → Prop} {x : dd_V} (hL : ∀ v, L v → L' v) (hG : ∀ v, G v → G' v) (h : dd_Gen L G x) : dd_Gen L' G' x := fun P h0 ha hl hg => h P h0 ha (fun v hv => hl v (hL v hv)) (fun v hv => hg v (hG v hv))
theorem dd_Gen.mul {L G : dd_V → Prop} {x : dd_V} {k : Int} (hk : 0 ≤ k) (h : dd_Gen L G x) : dd_Gen L G (dd_mul k x) := by
  refine h (fun y => dd_Gen L G (dd_mul k y)) ?_ ?_ ?_ ?_
  · rw [dd_mul_0]; exact dd_Gen.zero
  · intro x y hx hy
    rw [dd_mul_add]; exact hx.add hy
  · intro v hv j
    rw [dd_mul_mul]; exact dd_Gen.line hv _
  · intro v hv j hj
    rw [dd_mul_mul]; exact dd_Gen.ray hv (Int.mul_nonneg hk hj)
/-- some multiple of it is made -/
def dd_Q (L G : dd_V → Prop) (x : dd_V) : Prop := ∃ k : Int, 0 < k ∧ dd_Gen L G (dd_mul k x)
theorem dd_Q.of {L G : dd_V → Prop} {x : dd_V} (h : dd_Gen L G x) : dd_Q L G x := ⟨1, by omega, by rw [dd_1_mul]; exact h⟩
theorem dd_Q.add {L G : dd_V → Prop} {x y : dd_V} (hx : dd_Q L G x) (hy : dd_Q L G y) : dd_Q L G (dd_add x y) := by
  obtain ⟨j, hj, h1⟩ := hx
  obtain ⟨k, hk, h2⟩ := hy
  refine ⟨j * k, Int.mul_pos hj hk, ?_⟩
  rw [dd_mul_add]
  refine dd_Gen.add ?_ ?_
  · rw [Int.mul_comm, ← dd_mul_mul]; exact h1.mul (by omega)
  · rw [← dd_mul_mul]; exact h2.mul (by omega)
theorem dd_Q.mul {L G : dd_V → Prop} {x : dd_V} {k : Int} (hk : 0 ≤ k) (h : dd_Q L G x) : dd_Q L G (dd_mul k x) := by
  obtain ⟨j, hj, h1⟩ := h
  refine ⟨j, hj, ?_⟩
  rw [dd_mul_mul, Int.mul_comm, ← dd_mul_mul]
  exact h1.mul hk
theorem dd_Q.div {L G : dd_V → Prop} {x : dd_V} {k : Int} (hk : 0 < k) (h : dd_Q L G (dd_mul k x)) : dd_Q L G x := by
  obtain ⟨j, hj, h1⟩ := h
  exact ⟨j * k, Int.mul_pos hj hk, by rw [← dd_mul_mul]; exact h1⟩
theorem dd_Q.trans {L G L' G' : dd_V → Prop} {x : dd_V} (hL : ∀ v, L v → ∀ k : Int, dd_Q L' G' (dd_mul k v)) (hG : ∀ v, G v → dd_Q L' G' v) (h : dd_Q L G x) : dd_Q L' G' x := by
  obtain ⟨k, hk, h⟩ := h
  refine dd_Q.div hk (h (dd_Q L' G') (dd_Q.of dd_Gen.zero) (fun x y hx hy => hx.add hy) hL (fun v hv j hj => (hG v hv).mul hj))
theorem dd_Q.transG {L G G' : dd_V → Prop} {x : dd_V} (hG : ∀ v, G v → dd_Q L G' v) (h : dd_Q L G x) : dd_Q L G' x :=
  h.trans (fun v hv k => dd_Q.of (dd_Gen.line hv k)) hG
/-- only generators that just hold where it just holds are needed -/
theorem dd_Gen.face {L G : dd_V → Prop} {rows : List dd_V} (hL : ∀ v, L v → ∀ w ∈ rows, dd_ev w v = 0) (hG : ∀ v, G v → ∀ w ∈ rows, 0 ≤ dd_ev w v) {x : dd_V} (h : dd_Gen L G x) :
    (∀ w ∈ rows, 0 ≤ dd_ev w x) ∧ dd_Gen L (fun v => G v ∧ ∀ w ∈ rows, dd_ev w x = 0 → dd_ev w v = 0) x := by
  refine h (fun x => (∀ w ∈ rows, 0 ≤ dd_ev w x) ∧ dd_Gen L (fun v => G v ∧ ∀ w ∈ rows, dd_ev w x = 0 → dd_ev w v = 0) x) ?_ ?_ ?_ ?_
  · exact ⟨fun w _ => by rw [dd_ev_0]; omega, dd_Gen.zero⟩
  · intro x y hx hy
    refine ⟨fun w hw => by rw [dd_ev_add]; have := hx.1 w hw; have := hy.1 w hw; omega, dd_Gen.add ?_ ?_⟩
    · refine hx.2.mono (fun _ h => h) (fun v hv => ⟨hv.1, fun w hw h0 => hv.2 w hw ?_⟩)
      rw [dd_ev_add] at h0; have := hx.1 w hw; have := hy.1 w hw; omega
    · refine hy.2.mono (fun _ h => h) (fun v hv => ⟨hv.1, fun w hw h0 => hv.2 w hw ?_⟩)
      rw [dd_ev_add] at h0; have := hx.1 w hw; have := hy.1 w hw; omega
  · intro v hv k
    exact ⟨fun w hw => by rw [dd_ev_mul, hL v hv w hw]; omega, dd_Gen.line hv k⟩
  · intro v hv k hk
    refine ⟨fun w hw => by rw [dd_ev_mul]; exact Int.mul_nonneg hk (hG v hv w hw), ?_⟩
    by_cases h0 : k = 0
    · subst h0; rw [dd_0_mul]; exact dd_Gen.zero
    · refine dd_Gen.ray ⟨hv, fun w hw h1 => ?_⟩ hk
      rw [dd_ev_mul] at h1
      rcases Int.mul_eq_zero.mp h1 with h2 | h2
      · exact absurd h2 h0
      · exact h2
/-- the ray between one within and one beyond, where h just holds -/
def dd_comb (h r s : dd_V) : dd_V := dd_add (dd_mul (dd_ev h r) s) (dd_mul (-(dd_ev h s)) r)
theorem dd_comb_ev (w h r s : dd_V) : dd_ev w (dd_comb h r s) = dd_ev h r * dd_ev w s + (-(dd_ev h s)) * dd_ev w r := by
  simp only [dd_comb, dd_ev_add, dd_ev_mul]
theorem dd_comb_h (h r s : dd_V) : dd_ev h (dd_comb h r s) = 0 := by
  rw [dd_comb_ev]; grind
def dd_GA (h : dd_V) (G : dd_V → Prop) : dd_V → Prop := fun v => (G v ∧ 0 ≤ dd_ev h v) ∨ ∃ r s, G r ∧ G s ∧ 0 < dd_ev h r ∧ dd_ev h s < 0 ∧ v = dd_comb h r s
theorem dd_neg {G : dd_V → Prop} {h b : dd_V} (hb : dd_Gen (fun _ => False) (fun v => G v ∧ dd_ev h v < 0) b) : b = dd_0 ∨ dd_ev h b < 0 := by
  refine hb (fun b => b = dd_0 ∨ dd_ev h b < 0) (Or.inl rfl) ?_ (fun _ h => h.elim) ?_
  · intro x y hx hy
    rcases hx with rfl | hx
    · rw [dd_0_add]; exact hy
    · rcases hy with rfl | hy
      · rw [dd_add_0]; exact Or.inr hx
      · right; rw [dd_ev_add]; omega
  · intro v hv k hk
    by_cases h0 : k = 0
    · subst h0; left; exact dd_0_mul v
    · right; rw [dd_ev_mul]; exact Int.mul_neg_of_pos_of_neg (by omega) hv.2
theorem dd_split {L G : dd_V → Prop} {h x : dd_V} (hx : dd_Gen L G x) : ∃ a b, x = dd_add a b ∧ dd_Gen L (fun v => G v ∧ 0 ≤ dd_ev h v) a ∧ dd_Gen (fun _ => False) (fun v => G v ∧ dd_ev h v < 0) b := by
  refine hx (fun x => ∃ a b, x = dd_add a b ∧ dd_Gen L (fun v => G v ∧ 0 ≤ dd_ev h v) a ∧ dd_Gen (fun _ => False) (fun v => G v ∧ dd_ev h v < 0) b) ?_ ?_ ?_ ?_
  · exact ⟨dd_0, dd_0, (dd_0_add _).symm, dd_Gen.zero, dd_Gen.zero⟩
  · rintro x y ⟨a, b, rfl, h1, h2⟩ ⟨a', b', rfl, h3, h4⟩
    exact ⟨dd_add a a', dd_add b b', dd_add_swap a b a' b', h1.add h3, h2.add h4⟩
  · intro v hv k
    exact ⟨_, dd_0, (dd_add_0 _).symm, dd_Gen.line hv k, dd_Gen.zero⟩
  · intro v hv k hk
    by_cases h0 : 0 ≤ dd_ev h v
    · exact ⟨_, dd_0, (dd_add_0 _).symm, dd_Gen.ray ⟨hv, h0⟩ hk, dd_Gen.zero⟩
    · exact ⟨dd_0, _, (dd_0_add _).symm, dd_Gen.zero, dd_Gen.ray ⟨hv, by omega⟩ hk⟩
theorem dd_mix {L G : dd_V → Prop} {h a b : dd_V} (hL : ∀ v, L v → dd_ev h v = 0) (ha : dd_Gen L (fun v => G v ∧ 0 ≤ dd_ev h v) a) (hb : dd_Gen (fun _ => False) (fun v => G v ∧ dd_ev h v < 0) b) :
    dd_Gen L (dd_GA h G) (dd_comb h a b) := by
  refine hb (fun b => dd_Gen L (dd_GA h G) (dd_comb h a b)) ?_ ?_ (fun _ h => h.elim) ?_
  · have e : dd_comb h a dd_0 = dd_0 := by
      simp only [dd_comb, dd_ev_0, dd_mul_0, Int.neg_zero, dd_0_mul, dd_0_add]
    rw [e]; exact dd_Gen.zero
  · intro x y hx hy
    have e : dd_comb h a (dd_add x y) = dd_add (dd_comb h a x) (dd_comb h a y) := by
      simp only [dd_comb, dd_ev_add, dd_mul_add]
      rw [dd_add_swap, show (-(dd_ev h x + dd_ev h y)) = (-(dd_ev h x)) + (-(dd_ev h y)) by omega, dd_add_mul]
    rw [e]; exact hx.add hy
  · intro s hs k hk
    refine ha (fun a => dd_Gen L (dd_GA h G) (dd_comb h a (dd_mul k s))) ?_ ?_ ?_ ?_
    · have e : dd_comb h dd_0 (dd_mul k s) = dd_0 := by
        simp only [dd_comb, dd_ev_0, dd_mul_0, dd_0_mul, dd_0_add]
      rw [e]; exact dd_Gen.zero
    · intro x y hx hy
      have e : dd_comb h (dd_add x y) (dd_mul k s) = dd_add (dd_comb h x (dd_mul k s)) (dd_comb h y (dd_mul k s)) := by
        simp only [dd_comb, dd_ev_add, dd_mul_add]
        rw [dd_add_swap, dd_add_mul]
      rw [e]; exact hx.add hy
    · intro v hv j
      have e : dd_comb h (dd_mul j v) (dd_mul k s) = dd_mul ((-(dd_ev h (dd_mul k s))) * j) v := by
        simp only [dd_comb]
        rw [dd_ev_mul h j v, hL v hv, Int.mul_zero, dd_0_mul, dd_0_add, dd_mul_mul]
      rw [e]; exact dd_Gen.line hv _
    · intro r hr j hj
      have hs' : 0 < -(dd_ev h s) := by have := hs.2; omega
      rcases Int.lt_or_eq_of_le hr.2 with h1 | h1
      · have e : dd_comb h (dd_mul j r) (dd_mul k s) = dd_mul (j * k) (dd_comb h r s) := by
          simp only [dd_comb, dd_ev_mul, dd_mul_add, dd_mul_mul]
          congr 2 <;> grind
        rw [e]
        exact dd_Gen.ray (Or.inr ⟨r, s, hr.1, hs.1, h1, hs.2, rfl⟩) (Int.mul_nonneg hj hk)
      · have e : dd_comb h (dd_mul j r) (dd_mul k s) = dd_mul ((-(dd_ev h (dd_mul k s))) * j) r := by
          simp only [dd_comb]
          rw [dd_ev_mul h j r, ← h1, Int.mul_zero, dd_0_mul, dd_0_add, dd_mul_mul]
        rw [e]
        refine dd_Gen.ray (Or.inl ⟨hr.1, by omega⟩) (Int.mul_nonneg ?_ hj)
        rw [dd_ev_mul, ← Int.mul_neg]
        exact Int.mul_nonneg hk (by omega)
/-- with ALL rays between, nothing is lost -/
theorem dd_all {L G : dd_V → Prop} {h x : dd_V} (hL : ∀ v, L v → dd_ev h v = 0) (hx : dd_Q L G x) (h0 : 0 ≤ dd_ev h x) : dd_Q L (dd_GA h G) x := by
  obtain ⟨k, hk, hg⟩ := hx
  refine dd_Q.div hk ?_
  obtain ⟨a, b, e, ha, hb⟩ := dd_split (h := h) hg
  have hsum : 0 ≤ dd_ev h a + dd_ev h b := by
    have := dd_ev_mul h k x
    rw [e, dd_ev_add] at this
    rw [this]; exact Int.mul_nonneg (by omega) h0
  have hmix := dd_mix hL ha hb
  have ha' : dd_Gen L (dd_GA h G) a := ha.mono (fun _ h => h) (fun v hv => Or.inl hv)
  rw [e]
  rcases dd_neg hb with rfl | hneg
  · rw [dd_add_0]; exact dd_Q.of ha'
  · refine ⟨dd_ev h a, by omega, ?_⟩
    have e2 : dd_mul (dd_ev h a) (dd_add a b) = dd_add (dd_comb h a b) (dd_mul (dd_ev h a + dd_ev h b) a) := by
      simp only [dd_comb, dd_mul, dd_add, Prod.mk.injEq]
      refine ⟨?_, ?_, ?_, ?_⟩ <;> grind
    rw [e2]
    exact hmix.add (ha'.mul hsum)
end
