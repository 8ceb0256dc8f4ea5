set_option maxHeartbeats 4000000 in
set_option maxRecDepth 100000 in
theorem c_Md_byOne (l : Launch) (D : va_G) (cs : Nat → ClassId) (sh : gm_H) (sz : Nat) (I : gm_I) (J : gm_J) (r : Nat) (hM : is_Md sh r) (s : LSt) (w : V3) (i : Nat) (hi : i < 8) : CV l y_Md_byOne w_Md_byOne { frames := 1, cells := 0, slots := 0, locals := 24 } D cs sh sz (lsI I r s.1) (lsJ J r s.2.1 s.2.2 w) [.ref r, .int (nI i)] (fun u => ∃ w2 : V3, u = (lsI I r (one J r i s).1, lsJ J r (one J r i s).2.1 (one J r i s).2.2 w2)) := by
  refine gm_start (by decide) (Nat.le_of_ble_eq_true rfl) ?_
  intro p' e' s' m' be' me' co' ls C hml hlk hret hh hl
  have hl : lv_has ls 5 [(0, .ref r), (1, .int (nI i))] := hl
  refine lv_aload_n C.1 C.2.1 d_Md_byOne_0 rfl (lv_at hl 0 rfl) ?_
  refine gg_l C hh (Md_0 hM) rfl in_Md 24 (by decide) rfl tw_589 rfl d_Md_byOne_1 ?_
  refine gm_eql (y := J r 24) (by exact lsJ_o J (by omega)) ?_
  refine lv_aload_n C.1 C.2.1 d_Md_byOne_4 rfl (lv_at hl 0 rfl) ?_
  refine gg_r C hh (Md_0 hM) rfl in_Md 18 (by decide) rfl tw_583 rfl d_Md_byOne_5 ?_
  refine lv_iload_n C.1 C.2.1 d_Md_byOne_8 rfl (lv_at hl 1 rfl) ?_
  refine ga_l C hh (Md_14 hM) (k := i) rfl (by omega) (by omega) d_Md_byOne_9 ?_
  refine gm_eql (y := J (r + 14) i) (by exact lsJ_o J (by omega)) ?_
  refine lv_lmul C.1 C.2.1 d_Md_byOne_10 ?_
  refine lv_aload_n C.1 C.2.1 d_Md_byOne_11 rfl (lv_at hl 0 rfl) ?_
  refine gg_l C hh (Md_0 hM) rfl in_Md 25 (by decide) rfl tw_590 rfl d_Md_byOne_12 ?_
  refine gm_eql (y := J r 25) (by exact lsJ_o J (by omega)) ?_
  refine lv_aload_n C.1 C.2.1 d_Md_byOne_15 rfl (lv_at hl 0 rfl) ?_
  refine gg_r C hh (Md_0 hM) rfl in_Md 17 (by decide) rfl tw_582 rfl d_Md_byOne_16 ?_
  refine lv_iload_n C.1 C.2.1 d_Md_byOne_19 rfl (lv_at hl 1 rfl) ?_
  refine ga_l C hh (Md_13 hM) (k := i) rfl (by omega) (by omega) d_Md_byOne_20 ?_
  refine gm_eql (y := J (r + 13) i) (by exact lsJ_o J (by omega)) ?_
  refine lv_lmul C.1 C.2.1 d_Md_byOne_21 ?_
  refine W.lcmp C.1 C.2.1 d_Md_byOne_22 ?_
  refine lv_if_ne (tgt := 82) C.1 C.2.1 d_Md_byOne_23 (by decide) (fun c_1 => ?_) (fun c_1 => ?_)
  · -- 23 -> 82
    have c_1 := gm_lnet c_1
    refine lv_iconst (v := nI 0) C.1 C.2.1 d_Md_byOne_82 rfl ?_
    refine lv_istore_n (lv' := [(2, .int (nI 0)), (0, .ref r), (1, .int (nI i))]) C.1 C.2.1 d_Md_byOne_83 rfl hl (by decide) rfl (fun ls hl => ?_)
    refine lv_aload_n C.1 C.2.1 d_Md_byOne_84 rfl (lv_at hl 1 rfl) ?_
    refine gg_l C hh (Md_0 hM) rfl in_Md 23 (by decide) rfl tw_588 rfl d_Md_byOne_85 ?_
    refine gm_eql (y := J r 23) (by exact lsJ_o J (by omega)) ?_
    refine lv_aload_n C.1 C.2.1 d_Md_byOne_88 rfl (lv_at hl 1 rfl) ?_
    refine gg_r C hh (Md_0 hM) rfl in_Md 16 (by decide) rfl tw_581 rfl d_Md_byOne_89 ?_
    refine lv_iload_n C.1 C.2.1 d_Md_byOne_92 rfl (lv_at hl 2 rfl) ?_
    refine ga_l C hh (Md_12 hM) (k := i) rfl (by omega) (by omega) d_Md_byOne_93 ?_
    refine gm_eql (y := J (r + 12) i) (by exact lsJ_o J (by omega)) ?_
    refine lv_lmul C.1 C.2.1 d_Md_byOne_94 ?_
    refine lv_aload_n C.1 C.2.1 d_Md_byOne_95 rfl (lv_at hl 1 rfl) ?_
    refine gg_l C hh (Md_0 hM) rfl in_Md 24 (by decide) rfl tw_589 rfl d_Md_byOne_96 ?_
    refine gm_eql (y := J r 24) (by exact lsJ_o J (by omega)) ?_
    refine lv_aload_n C.1 C.2.1 d_Md_byOne_99 rfl (lv_at hl 1 rfl) ?_
    refine gg_r C hh (Md_0 hM) rfl in_Md 17 (by decide) rfl tw_582 rfl d_Md_byOne_100 ?_
    refine lv_iload_n C.1 C.2.1 d_Md_byOne_103 rfl (lv_at hl 2 rfl) ?_
    refine ga_l C hh (Md_13 hM) (k := i) rfl (by omega) (by omega) d_Md_byOne_104 ?_
    refine gm_eql (y := J (r + 13) i) (by exact lsJ_o J (by omega)) ?_
    refine lv_lmul C.1 C.2.1 d_Md_byOne_105 ?_
    refine lv_ladd C.1 C.2.1 d_Md_byOne_106 ?_
    refine lv_aload_n C.1 C.2.1 d_Md_byOne_107 rfl (lv_at hl 1 rfl) ?_
    refine gg_l C hh (Md_0 hM) rfl in_Md 25 (by decide) rfl tw_590 rfl d_Md_byOne_108 ?_
    refine gm_eql (y := J r 25) (by exact lsJ_o J (by omega)) ?_
    refine lv_aload_n C.1 C.2.1 d_Md_byOne_111 rfl (lv_at hl 1 rfl) ?_
    refine gg_r C hh (Md_0 hM) rfl in_Md 18 (by decide) rfl tw_583 rfl d_Md_byOne_112 ?_
    refine lv_iload_n C.1 C.2.1 d_Md_byOne_115 rfl (lv_at hl 2 rfl) ?_
    refine ga_l C hh (Md_14 hM) (k := i) rfl (by omega) (by omega) d_Md_byOne_116 ?_
    refine gm_eql (y := J (r + 14) i) (by exact lsJ_o J (by omega)) ?_
    refine lv_lmul C.1 C.2.1 d_Md_byOne_117 ?_
    refine lv_ladd C.1 C.2.1 d_Md_byOne_118 ?_
    refine lv_topl (fun x_2 ex_2 => ?_)
    refine lv_lstore_n (lv' := [(3, .long x_2), (2, .int (nI 0)), (0, .ref r), (1, .int (nI i))]) C.1 C.2.1 d_Md_byOne_119 rfl hl (by decide) rfl (fun ls hl => ?_)
    refine lv_iload_n C.1 C.2.1 d_Md_byOne_120 rfl (lv_at hl 1 rfl) ?_
    refine lv_if_eq (tgt := 183) C.1 C.2.1 d_Md_byOne_121 (by decide) (fun c_ => ?_) (fun c_ => absurd (by decide) c_)
    exact gr_v C hlk hret hh (by refine ⟨w, ?_⟩; subst ex_2; first | (rw [one, if_pos ⟨⟨by assumption, by assumption, by assumption⟩, by assumption⟩]; done) | (rw [one, if_neg (by rintro ⟨⟨q1, q2, q3⟩, q4⟩; contradiction)]; done)) d_Md_byOne_183
  · -- 23 -> 26
    have c_1 := gm_lnef c_1
    refine lv_aload_n C.1 C.2.1 d_Md_byOne_26 rfl (lv_at hl 0 rfl) ?_
    refine gg_l C hh (Md_0 hM) rfl in_Md 25 (by decide) rfl tw_590 rfl d_Md_byOne_27 ?_
    refine gm_eql (y := J r 25) (by exact lsJ_o J (by omega)) ?_
    refine lv_aload_n C.1 C.2.1 d_Md_byOne_30 rfl (lv_at hl 0 rfl) ?_
    refine gg_r C hh (Md_0 hM) rfl in_Md 16 (by decide) rfl tw_581 rfl d_Md_byOne_31 ?_
    refine lv_iload_n C.1 C.2.1 d_Md_byOne_34 rfl (lv_at hl 1 rfl) ?_
    refine ga_l C hh (Md_12 hM) (k := i) rfl (by omega) (by omega) d_Md_byOne_35 ?_
    refine gm_eql (y := J (r + 12) i) (by exact lsJ_o J (by omega)) ?_
    refine lv_lmul C.1 C.2.1 d_Md_byOne_36 ?_
    refine lv_aload_n C.1 C.2.1 d_Md_byOne_37 rfl (lv_at hl 0 rfl) ?_
    refine gg_l C hh (Md_0 hM) rfl in_Md 23 (by decide) rfl tw_588 rfl d_Md_byOne_38 ?_
    refine gm_eql (y := J r 23) (by exact lsJ_o J (by omega)) ?_
    refine lv_aload_n C.1 C.2.1 d_Md_byOne_41 rfl (lv_at hl 0 rfl) ?_
    refine gg_r C hh (Md_0 hM) rfl in_Md 18 (by decide) rfl tw_583 rfl d_Md_byOne_42 ?_
    refine lv_iload_n C.1 C.2.1 d_Md_byOne_45 rfl (lv_at hl 1 rfl) ?_
    refine ga_l C hh (Md_14 hM) (k := i) rfl (by omega) (by omega) d_Md_byOne_46 ?_
    refine gm_eql (y := J (r + 14) i) (by exact lsJ_o J (by omega)) ?_
    refine lv_lmul C.1 C.2.1 d_Md_byOne_47 ?_
    refine W.lcmp C.1 C.2.1 d_Md_byOne_48 ?_
    refine lv_if_ne (tgt := 82) C.1 C.2.1 d_Md_byOne_49 (by decide) (fun c_3 => ?_) (fun c_3 => ?_)
    · -- 49 -> 82
      have c_3 := gm_lnet c_3
      refine lv_iconst (v := nI 0) C.1 C.2.1 d_Md_byOne_82 rfl ?_
      refine lv_istore_n (lv' := [(2, .int (nI 0)), (0, .ref r), (1, .int (nI i))]) C.1 C.2.1 d_Md_byOne_83 rfl hl (by decide) rfl (fun ls hl => ?_)
      refine lv_aload_n C.1 C.2.1 d_Md_byOne_84 rfl (lv_at hl 1 rfl) ?_
      refine gg_l C hh (Md_0 hM) rfl in_Md 23 (by decide) rfl tw_588 rfl d_Md_byOne_85 ?_
      refine gm_eql (y := J r 23) (by exact lsJ_o J (by omega)) ?_
      refine lv_aload_n C.1 C.2.1 d_Md_byOne_88 rfl (lv_at hl 1 rfl) ?_
      refine gg_r C hh (Md_0 hM) rfl in_Md 16 (by decide) rfl tw_581 rfl d_Md_byOne_89 ?_
      refine lv_iload_n C.1 C.2.1 d_Md_byOne_92 rfl (lv_at hl 2 rfl) ?_
      refine ga_l C hh (Md_12 hM) (k := i) rfl (by omega) (by omega) d_Md_byOne_93 ?_
      refine gm_eql (y := J (r + 12) i) (by exact lsJ_o J (by omega)) ?_
      refine lv_lmul C.1 C.2.1 d_Md_byOne_94 ?_
      refine lv_aload_n C.1 C.2.1 d_Md_byOne_95 rfl (lv_at hl 1 rfl) ?_
      refine gg_l C hh (Md_0 hM) rfl in_Md 24 (by decide) rfl tw_589 rfl d_Md_byOne_96 ?_
      refine gm_eql (y := J r 24) (by exact lsJ_o J (by omega)) ?_
      refine lv_aload_n C.1 C.2.1 d_Md_byOne_99 rfl (lv_at hl 1 rfl) ?_
      refine gg_r C hh (Md_0 hM) rfl in_Md 17 (by decide) rfl tw_582 rfl d_Md_byOne_100 ?_
      refine lv_iload_n C.1 C.2.1 d_Md_byOne_103 rfl (lv_at hl 2 rfl) ?_
      refine ga_l C hh (Md_13 hM) (k := i) rfl (by omega) (by omega) d_Md_byOne_104 ?_
      refine gm_eql (y := J (r + 13) i) (by exact lsJ_o J (by omega)) ?_
      refine lv_lmul C.1 C.2.1 d_Md_byOne_105 ?_
      refine lv_ladd C.1 C.2.1 d_Md_byOne_106 ?_
      refine lv_aload_n C.1 C.2.1 d_Md_byOne_107 rfl (lv_at hl 1 rfl) ?_
      refine gg_l C hh (Md_0 hM) rfl in_Md 25 (by decide) rfl tw_590 rfl d_Md_byOne_108 ?_
      refine gm_eql (y := J r 25) (by exact lsJ_o J (by omega)) ?_
      refine lv_aload_n C.1 C.2.1 d_Md_byOne_111 rfl (lv_at hl 1 rfl) ?_
      refine gg_r C hh (Md_0 hM) rfl in_Md 18 (by decide) rfl tw_583 rfl d_Md_byOne_112 ?_
      refine lv_iload_n C.1 C.2.1 d_Md_byOne_115 rfl (lv_at hl 2 rfl) ?_
      refine ga_l C hh (Md_14 hM) (k := i) rfl (by omega) (by omega) d_Md_byOne_116 ?_
      refine gm_eql (y := J (r + 14) i) (by exact lsJ_o J (by omega)) ?_
      refine lv_lmul C.1 C.2.1 d_Md_byOne_117 ?_
      refine lv_ladd C.1 C.2.1 d_Md_byOne_118 ?_
      refine lv_topl (fun x_4 ex_4 => ?_)
      refine lv_lstore_n (lv' := [(3, .long x_4), (2, .int (nI 0)), (0, .ref r), (1, .int (nI i))]) C.1 C.2.1 d_Md_byOne_119 rfl hl (by decide) rfl (fun ls hl => ?_)
      refine lv_iload_n C.1 C.2.1 d_Md_byOne_120 rfl (lv_at hl 1 rfl) ?_
      refine lv_if_eq (tgt := 183) C.1 C.2.1 d_Md_byOne_121 (by decide) (fun c_ => ?_) (fun c_ => absurd (by decide) c_)
      exact gr_v C hlk hret hh (by refine ⟨w, ?_⟩; subst ex_4; first | (rw [one, if_pos ⟨⟨by assumption, by assumption, by assumption⟩, by assumption⟩]; done) | (rw [one, if_neg (by rintro ⟨⟨q1, q2, q3⟩, q4⟩; contradiction)]; done)) d_Md_byOne_183
    · -- 49 -> 52
      have c_3 := gm_lnef c_3
      refine lv_aload_n C.1 C.2.1 d_Md_byOne_52 rfl (lv_at hl 0 rfl) ?_
      refine gg_l C hh (Md_0 hM) rfl in_Md 23 (by decide) rfl tw_588 rfl d_Md_byOne_53 ?_
      refine gm_eql (y := J r 23) (by exact lsJ_o J (by omega)) ?_
      refine lv_aload_n C.1 C.2.1 d_Md_byOne_56 rfl (lv_at hl 0 rfl) ?_
      refine gg_r C hh (Md_0 hM) rfl in_Md 17 (by decide) rfl tw_582 rfl d_Md_byOne_57 ?_
      refine lv_iload_n C.1 C.2.1 d_Md_byOne_60 rfl (lv_at hl 1 rfl) ?_
      refine ga_l C hh (Md_13 hM) (k := i) rfl (by omega) (by omega) d_Md_byOne_61 ?_
      refine gm_eql (y := J (r + 13) i) (by exact lsJ_o J (by omega)) ?_
      refine lv_lmul C.1 C.2.1 d_Md_byOne_62 ?_
      refine lv_aload_n C.1 C.2.1 d_Md_byOne_63 rfl (lv_at hl 0 rfl) ?_
      refine gg_l C hh (Md_0 hM) rfl in_Md 24 (by decide) rfl tw_589 rfl d_Md_byOne_64 ?_
      refine gm_eql (y := J r 24) (by exact lsJ_o J (by omega)) ?_
      refine lv_aload_n C.1 C.2.1 d_Md_byOne_67 rfl (lv_at hl 0 rfl) ?_
      refine gg_r C hh (Md_0 hM) rfl in_Md 16 (by decide) rfl tw_581 rfl d_Md_byOne_68 ?_
      refine lv_iload_n C.1 C.2.1 d_Md_byOne_71 rfl (lv_at hl 1 rfl) ?_
      refine ga_l C hh (Md_12 hM) (k := i) rfl (by omega) (by omega) d_Md_byOne_72 ?_
      refine gm_eql (y := J (r + 12) i) (by exact lsJ_o J (by omega)) ?_
      refine lv_lmul C.1 C.2.1 d_Md_byOne_73 ?_
      refine W.lcmp C.1 C.2.1 d_Md_byOne_74 ?_
      refine lv_if_ne (tgt := 82) C.1 C.2.1 d_Md_byOne_75 (by decide) (fun c_5 => ?_) (fun c_5 => ?_)
      · -- 75 -> 82
        have c_5 := gm_lnet c_5
        refine lv_iconst (v := nI 0) C.1 C.2.1 d_Md_byOne_82 rfl ?_
        refine lv_istore_n (lv' := [(2, .int (nI 0)), (0, .ref r), (1, .int (nI i))]) C.1 C.2.1 d_Md_byOne_83 rfl hl (by decide) rfl (fun ls hl => ?_)
        refine lv_aload_n C.1 C.2.1 d_Md_byOne_84 rfl (lv_at hl 1 rfl) ?_
        refine gg_l C hh (Md_0 hM) rfl in_Md 23 (by decide) rfl tw_588 rfl d_Md_byOne_85 ?_
        refine gm_eql (y := J r 23) (by exact lsJ_o J (by omega)) ?_
        refine lv_aload_n C.1 C.2.1 d_Md_byOne_88 rfl (lv_at hl 1 rfl) ?_
        refine gg_r C hh (Md_0 hM) rfl in_Md 16 (by decide) rfl tw_581 rfl d_Md_byOne_89 ?_
        refine lv_iload_n C.1 C.2.1 d_Md_byOne_92 rfl (lv_at hl 2 rfl) ?_
        refine ga_l C hh (Md_12 hM) (k := i) rfl (by omega) (by omega) d_Md_byOne_93 ?_
        refine gm_eql (y := J (r + 12) i) (by exact lsJ_o J (by omega)) ?_
        refine lv_lmul C.1 C.2.1 d_Md_byOne_94 ?_
        refine lv_aload_n C.1 C.2.1 d_Md_byOne_95 rfl (lv_at hl 1 rfl) ?_
        refine gg_l C hh (Md_0 hM) rfl in_Md 24 (by decide) rfl tw_589 rfl d_Md_byOne_96 ?_
        refine gm_eql (y := J r 24) (by exact lsJ_o J (by omega)) ?_
        refine lv_aload_n C.1 C.2.1 d_Md_byOne_99 rfl (lv_at hl 1 rfl) ?_
        refine gg_r C hh (Md_0 hM) rfl in_Md 17 (by decide) rfl tw_582 rfl d_Md_byOne_100 ?_
        refine lv_iload_n C.1 C.2.1 d_Md_byOne_103 rfl (lv_at hl 2 rfl) ?_
        refine ga_l C hh (Md_13 hM) (k := i) rfl (by omega) (by omega) d_Md_byOne_104 ?_
        refine gm_eql (y := J (r + 13) i) (by exact lsJ_o J (by omega)) ?_
        refine lv_lmul C.1 C.2.1 d_Md_byOne_105 ?_
        refine lv_ladd C.1 C.2.1 d_Md_byOne_106 ?_
        refine lv_aload_n C.1 C.2.1 d_Md_byOne_107 rfl (lv_at hl 1 rfl) ?_
        refine gg_l C hh (Md_0 hM) rfl in_Md 25 (by decide) rfl tw_590 rfl d_Md_byOne_108 ?_
        refine gm_eql (y := J r 25) (by exact lsJ_o J (by omega)) ?_
        refine lv_aload_n C.1 C.2.1 d_Md_byOne_111 rfl (lv_at hl 1 rfl) ?_
        refine gg_r C hh (Md_0 hM) rfl in_Md 18 (by decide) rfl tw_583 rfl d_Md_byOne_112 ?_
        refine lv_iload_n C.1 C.2.1 d_Md_byOne_115 rfl (lv_at hl 2 rfl) ?_
        refine ga_l C hh (Md_14 hM) (k := i) rfl (by omega) (by omega) d_Md_byOne_116 ?_
        refine gm_eql (y := J (r + 14) i) (by exact lsJ_o J (by omega)) ?_
        refine lv_lmul C.1 C.2.1 d_Md_byOne_117 ?_
        refine lv_ladd C.1 C.2.1 d_Md_byOne_118 ?_
        refine lv_topl (fun x_6 ex_6 => ?_)
        refine lv_lstore_n (lv' := [(3, .long x_6), (2, .int (nI 0)), (0, .ref r), (1, .int (nI i))]) C.1 C.2.1 d_Md_byOne_119 rfl hl (by decide) rfl (fun ls hl => ?_)
        refine lv_iload_n C.1 C.2.1 d_Md_byOne_120 rfl (lv_at hl 1 rfl) ?_
        refine lv_if_eq (tgt := 183) C.1 C.2.1 d_Md_byOne_121 (by decide) (fun c_ => ?_) (fun c_ => absurd (by decide) c_)
        exact gr_v C hlk hret hh (by refine ⟨w, ?_⟩; subst ex_6; first | (rw [one, if_pos ⟨⟨by assumption, by assumption, by assumption⟩, by assumption⟩]; done) | (rw [one, if_neg (by rintro ⟨⟨q1, q2, q3⟩, q4⟩; contradiction)]; done)) d_Md_byOne_183
      · -- 75 -> 78
        have c_5 := gm_lnef c_5
        refine lv_iconst (v := nI 1) C.1 C.2.1 d_Md_byOne_78 rfl ?_
        refine lv_goto (tgt := 83) C.1 C.2.1 d_Md_byOne_79 (by decide) ?_
        refine lv_istore_n (lv' := [(2, .int (nI 1)), (0, .ref r), (1, .int (nI i))]) C.1 C.2.1 d_Md_byOne_83 rfl hl (by decide) rfl (fun ls hl => ?_)
        refine lv_aload_n C.1 C.2.1 d_Md_byOne_84 rfl (lv_at hl 1 rfl) ?_
        refine gg_l C hh (Md_0 hM) rfl in_Md 23 (by decide) rfl tw_588 rfl d_Md_byOne_85 ?_
        refine gm_eql (y := J r 23) (by exact lsJ_o J (by omega)) ?_
        refine lv_aload_n C.1 C.2.1 d_Md_byOne_88 rfl (lv_at hl 1 rfl) ?_
        refine gg_r C hh (Md_0 hM) rfl in_Md 16 (by decide) rfl tw_581 rfl d_Md_byOne_89 ?_
        refine lv_iload_n C.1 C.2.1 d_Md_byOne_92 rfl (lv_at hl 2 rfl) ?_
        refine ga_l C hh (Md_12 hM) (k := i) rfl (by omega) (by omega) d_Md_byOne_93 ?_
        refine gm_eql (y := J (r + 12) i) (by exact lsJ_o J (by omega)) ?_
        refine lv_lmul C.1 C.2.1 d_Md_byOne_94 ?_
        refine lv_aload_n C.1 C.2.1 d_Md_byOne_95 rfl (lv_at hl 1 rfl) ?_
        refine gg_l C hh (Md_0 hM) rfl in_Md 24 (by decide) rfl tw_589 rfl d_Md_byOne_96 ?_
        refine gm_eql (y := J r 24) (by exact lsJ_o J (by omega)) ?_
        refine lv_aload_n C.1 C.2.1 d_Md_byOne_99 rfl (lv_at hl 1 rfl) ?_
        refine gg_r C hh (Md_0 hM) rfl in_Md 17 (by decide) rfl tw_582 rfl d_Md_byOne_100 ?_
        refine lv_iload_n C.1 C.2.1 d_Md_byOne_103 rfl (lv_at hl 2 rfl) ?_
        refine ga_l C hh (Md_13 hM) (k := i) rfl (by omega) (by omega) d_Md_byOne_104 ?_
        refine gm_eql (y := J (r + 13) i) (by exact lsJ_o J (by omega)) ?_
        refine lv_lmul C.1 C.2.1 d_Md_byOne_105 ?_
        refine lv_ladd C.1 C.2.1 d_Md_byOne_106 ?_
        refine lv_aload_n C.1 C.2.1 d_Md_byOne_107 rfl (lv_at hl 1 rfl) ?_
        refine gg_l C hh (Md_0 hM) rfl in_Md 25 (by decide) rfl tw_590 rfl d_Md_byOne_108 ?_
        refine gm_eql (y := J r 25) (by exact lsJ_o J (by omega)) ?_
        refine lv_aload_n C.1 C.2.1 d_Md_byOne_111 rfl (lv_at hl 1 rfl) ?_
        refine gg_r C hh (Md_0 hM) rfl in_Md 18 (by decide) rfl tw_583 rfl d_Md_byOne_112 ?_
        refine lv_iload_n C.1 C.2.1 d_Md_byOne_115 rfl (lv_at hl 2 rfl) ?_
        refine ga_l C hh (Md_14 hM) (k := i) rfl (by omega) (by omega) d_Md_byOne_116 ?_
        refine gm_eql (y := J (r + 14) i) (by exact lsJ_o J (by omega)) ?_
        refine lv_lmul C.1 C.2.1 d_Md_byOne_117 ?_
        refine lv_ladd C.1 C.2.1 d_Md_byOne_118 ?_
        refine lv_topl (fun x_7 ex_7 => ?_)
        refine lv_lstore_n (lv' := [(3, .long x_7), (2, .int (nI 1)), (0, .ref r), (1, .int (nI i))]) C.1 C.2.1 d_Md_byOne_119 rfl hl (by decide) rfl (fun ls hl => ?_)
        refine lv_iload_n C.1 C.2.1 d_Md_byOne_120 rfl (lv_at hl 1 rfl) ?_
        refine lv_if_eq (tgt := 183) C.1 C.2.1 d_Md_byOne_121 (by decide) (fun c_ => absurd c_ (by decide)) (fun c_ => ?_)
        refine lv_lload_n C.1 C.2.1 d_Md_byOne_124 rfl (lv_at hl 0 rfl) ?_
        refine lv_lconst (v := 0) C.1 C.2.1 d_Md_byOne_125 rfl ?_
        refine W.lcmp C.1 C.2.1 d_Md_byOne_126 ?_
        refine lv_if_le (tgt := 183) C.1 C.2.1 d_Md_byOne_127 (by decide) (fun c_8 => ?_) (fun c_8 => ?_)
        · -- 127 -> 183
          have c_8 := gm_llet c_8
          exact gr_v C hlk hret hh (by refine ⟨w, ?_⟩; subst ex_7; first | (rw [one, if_pos ⟨⟨by assumption, by assumption, by assumption⟩, by assumption⟩]; done) | (rw [one, if_neg (by rintro ⟨⟨q1, q2, q3⟩, q4⟩; contradiction)]; done)) d_Md_byOne_183
        · -- 127 -> 130
          have c_8 := gm_llef c_8
          refine lv_aload_n C.1 C.2.1 d_Md_byOne_130 rfl (lv_at hl 2 rfl) ?_
          refine lv_lload_n C.1 C.2.1 d_Md_byOne_131 rfl (lv_at hl 0 rfl) ?_
          refine lv_aload_n C.1 C.2.1 d_Md_byOne_132 rfl (lv_at hl 2 rfl) ?_
          refine gg_r C hh (Md_0 hM) rfl in_Md 19 (by decide) rfl tw_584 rfl d_Md_byOne_133 ?_
          refine lv_iload_n C.1 C.2.1 d_Md_byOne_136 rfl (lv_at hl 3 rfl) ?_
          refine ga_l C hh (Md_15 hM) (k := i) rfl (by omega) (by omega) d_Md_byOne_137 ?_
          refine gm_eql (y := J (r + 15) i) (by exact lsJ_o J (by omega)) ?_
          refine lv_lmul C.1 C.2.1 d_Md_byOne_138 ?_
          refine lv_aload_n C.1 C.2.1 d_Md_byOne_139 rfl (lv_at hl 2 rfl) ?_
          refine gg_r C hh (Md_0 hM) rfl in_Md 16 (by decide) rfl tw_581 rfl d_Md_byOne_140 ?_
          refine lv_iload_n C.1 C.2.1 d_Md_byOne_143 rfl (lv_at hl 3 rfl) ?_
          refine ga_l C hh (Md_12 hM) (k := i) rfl (by omega) (by omega) d_Md_byOne_144 ?_
          refine gm_eql (y := J (r + 12) i) (by exact lsJ_o J (by omega)) ?_
          refine lv_aload_n C.1 C.2.1 d_Md_byOne_145 rfl (lv_at hl 2 rfl) ?_
          refine gg_r C hh (Md_0 hM) rfl in_Md 16 (by decide) rfl tw_581 rfl d_Md_byOne_146 ?_
          refine lv_iload_n C.1 C.2.1 d_Md_byOne_149 rfl (lv_at hl 3 rfl) ?_
          refine ga_l C hh (Md_12 hM) (k := i) rfl (by omega) (by omega) d_Md_byOne_150 ?_
          refine gm_eql (y := J (r + 12) i) (by exact lsJ_o J (by omega)) ?_
          refine lv_lmul C.1 C.2.1 d_Md_byOne_151 ?_
          refine lv_aload_n C.1 C.2.1 d_Md_byOne_152 rfl (lv_at hl 2 rfl) ?_
          refine gg_r C hh (Md_0 hM) rfl in_Md 17 (by decide) rfl tw_582 rfl d_Md_byOne_153 ?_
          refine lv_iload_n C.1 C.2.1 d_Md_byOne_156 rfl (lv_at hl 3 rfl) ?_
          refine ga_l C hh (Md_13 hM) (k := i) rfl (by omega) (by omega) d_Md_byOne_157 ?_
          refine gm_eql (y := J (r + 13) i) (by exact lsJ_o J (by omega)) ?_
          refine lv_aload_n C.1 C.2.1 d_Md_byOne_158 rfl (lv_at hl 2 rfl) ?_
          refine gg_r C hh (Md_0 hM) rfl in_Md 17 (by decide) rfl tw_582 rfl d_Md_byOne_159 ?_
          refine lv_iload_n C.1 C.2.1 d_Md_byOne_162 rfl (lv_at hl 3 rfl) ?_
          refine ga_l C hh (Md_13 hM) (k := i) rfl (by omega) (by omega) d_Md_byOne_163 ?_
          refine gm_eql (y := J (r + 13) i) (by exact lsJ_o J (by omega)) ?_
          refine lv_lmul C.1 C.2.1 d_Md_byOne_164 ?_
          refine lv_ladd C.1 C.2.1 d_Md_byOne_165 ?_
          refine lv_aload_n C.1 C.2.1 d_Md_byOne_166 rfl (lv_at hl 2 rfl) ?_
          refine gg_r C hh (Md_0 hM) rfl in_Md 18 (by decide) rfl tw_583 rfl d_Md_byOne_167 ?_
          refine lv_iload_n C.1 C.2.1 d_Md_byOne_170 rfl (lv_at hl 3 rfl) ?_
          refine ga_l C hh (Md_14 hM) (k := i) rfl (by omega) (by omega) d_Md_byOne_171 ?_
          refine gm_eql (y := J (r + 14) i) (by exact lsJ_o J (by omega)) ?_
          refine lv_aload_n C.1 C.2.1 d_Md_byOne_172 rfl (lv_at hl 2 rfl) ?_
          refine gg_r C hh (Md_0 hM) rfl in_Md 18 (by decide) rfl tw_583 rfl d_Md_byOne_173 ?_
          refine lv_iload_n C.1 C.2.1 d_Md_byOne_176 rfl (lv_at hl 3 rfl) ?_
          refine ga_l C hh (Md_14 hM) (k := i) rfl (by omega) (by omega) d_Md_byOne_177 ?_
          refine gm_eql (y := J (r + 14) i) (by exact lsJ_o J (by omega)) ?_
          refine lv_lmul C.1 C.2.1 d_Md_byOne_178 ?_
          refine lv_ladd C.1 C.2.1 d_Md_byOne_179 ?_
          refine gc_v hh (gc_runV (As := [.long (x_7 * (J (r + 15) i)), .long ((((J (r + 12) i) * (J (r + 12) i)) + ((J (r + 13) i) * (J (r + 13) i))) + ((J (r + 14) i) * (J (r + 14) i)))]) (rest := []) (n := 2) C hml hh (c_Md_bears l D cs sh sz (lsI I r s.1) (lsJ J r s.2.1 s.2.2 w) r hM (x_7 * (J (r + 15) i)) ((((J (r + 12) i) * (J (r + 12) i)) + ((J (r + 13) i) * (J (r + 13) i))) + ((J (r + 14) i) * (J (r + 14) i)))) (tg_V tw_762 tw_764 tw_36 tw_64 tw_765) (by decide +kernel) ⟨rfl, rfl, by decide, by decide, Nat.zero_le _, Nat.zero_le _⟩ (Md_0 hM) rfl rfl hl.1 rfl (Nat.le_of_ble_eq_true rfl) d_Md_byOne_180) (fun I_10 J_11 H locs hr_9 hh => ?_)
          rw [bears_ls] at hr_9
          rw [(Prod.mk.inj hr_9).1, (Prod.mk.inj hr_9).2] at hh
          exact gr_v C hlk hret hh (by refine ⟨w, ?_⟩; subst ex_7; first | (rw [one, if_pos ⟨⟨by assumption, by assumption, by assumption⟩, by assumption⟩]; done) | (rw [one, if_neg (by rintro ⟨⟨q1, q2, q3⟩, q4⟩; contradiction)]; done)) d_Md_byOne_183

set_option maxHeartbeats 4000000 in
set_option maxRecDepth 100000 in
theorem c_Md_byTwo (l : Launch) (D : va_G) (cs : Nat → ClassId) (sh : gm_H) (sz : Nat) (I : gm_I) (J : gm_J) (r : Nat) (hM : is_Md sh r) (s : LSt) (w : V3) (i j : Nat) (hi : i < 8) (hj : j < 8) : CV l y_Md_byTwo w_Md_byTwo { frames := 1, cells := 0, slots := 0, locals := 24 } D cs sh sz (lsI I r s.1) (lsJ J r s.2.1 s.2.2 w) [.ref r, .int (nI i), .int (nI j)] (fun u => ∃ w2 : V3, u = (lsI I r (two J r i j s).1, lsJ J r (two J r i j s).2.1 (two J r i j s).2.2 w2)) := by
  refine gm_start (by decide) (Nat.le_of_ble_eq_true rfl) ?_
  intro p' e' s' m' be' me' co' ls C hml hlk hret hh hl
  have hl : lv_has ls 9 [(0, .ref r), (1, .int (nI i)), (2, .int (nI j))] := hl
  refine lv_aload_n C.1 C.2.1 d_Md_byTwo_0 rfl (lv_at hl 0 rfl) ?_
  refine lv_iload_n C.1 C.2.1 d_Md_byTwo_1 rfl (lv_at hl 1 rfl) ?_
  refine lv_iload_n C.1 C.2.1 d_Md_byTwo_2 rfl (lv_at hl 2 rfl) ?_
  refine gc_v hh (gc_runV (As := [.int (nI i), .int (nI j)]) (rest := []) (n := 2) C hml hh (c_Md_upright l D cs sh sz (lsI I r s.1) (lsJ J r s.2.1 s.2.2 w) r hM i j (by omega) (by omega)) (tg_V tw_774 tw_776 tw_39 tw_64 tw_777) (by decide +kernel) ⟨rfl, rfl, by decide, by decide, Nat.zero_le _, Nat.zero_le _⟩ (Md_0 hM) rfl rfl hl.1 rfl (Nat.le_of_ble_eq_true rfl) d_Md_byTwo_3) (fun I_2 J_3 H locs hr_1 hh => ?_)
  rw [upr_ls] at hr_1
  rw [(Prod.mk.inj hr_1).1, (Prod.mk.inj hr_1).2] at hh
  refine lv_aload_n C.1 C.2.1 d_Md_byTwo_6 rfl (lv_at hl 0 rfl) ?_
  refine gg_l C hh (Md_0 hM) rfl in_Md 26 (by decide) rfl tw_591 rfl d_Md_byTwo_7 ?_
  refine gm_eql (y := (upr J r i j).1) (by simp [lsJ, gm_up]) ?_
  refine lv_aload_n C.1 C.2.1 d_Md_byTwo_10 rfl (lv_at hl 0 rfl) ?_
  refine gg_l C hh (Md_0 hM) rfl in_Md 26 (by decide) rfl tw_591 rfl d_Md_byTwo_11 ?_
  refine gm_eql (y := (upr J r i j).1) (by simp [lsJ, gm_up]) ?_
  refine lv_lmul C.1 C.2.1 d_Md_byTwo_14 ?_
  refine lv_aload_n C.1 C.2.1 d_Md_byTwo_15 rfl (lv_at hl 0 rfl) ?_
  refine gg_l C hh (Md_0 hM) rfl in_Md 27 (by decide) rfl tw_592 rfl d_Md_byTwo_16 ?_
  refine gm_eql (y := (upr J r i j).2.1) (by simp [lsJ, gm_up]) ?_
  refine lv_aload_n C.1 C.2.1 d_Md_byTwo_19 rfl (lv_at hl 0 rfl) ?_
  refine gg_l C hh (Md_0 hM) rfl in_Md 27 (by decide) rfl tw_592 rfl d_Md_byTwo_20 ?_
  refine gm_eql (y := (upr J r i j).2.1) (by simp [lsJ, gm_up]) ?_
  refine lv_lmul C.1 C.2.1 d_Md_byTwo_23 ?_
  refine lv_ladd C.1 C.2.1 d_Md_byTwo_24 ?_
  refine lv_aload_n C.1 C.2.1 d_Md_byTwo_25 rfl (lv_at hl 0 rfl) ?_
  refine gg_l C hh (Md_0 hM) rfl in_Md 28 (by decide) rfl tw_593 rfl d_Md_byTwo_26 ?_
  refine gm_eql (y := (upr J r i j).2.2) (by simp [lsJ, gm_up]) ?_
  refine lv_aload_n C.1 C.2.1 d_Md_byTwo_29 rfl (lv_at hl 0 rfl) ?_
  refine gg_l C hh (Md_0 hM) rfl in_Md 28 (by decide) rfl tw_593 rfl d_Md_byTwo_30 ?_
  refine gm_eql (y := (upr J r i j).2.2) (by simp [lsJ, gm_up]) ?_
  refine lv_lmul C.1 C.2.1 d_Md_byTwo_33 ?_
  refine lv_ladd C.1 C.2.1 d_Md_byTwo_34 ?_
  refine lv_topl (fun x_4 ex_4 => ?_)
  refine lv_lstore_n (lv' := [(3, .long x_4), (0, .ref r), (1, .int (nI i)), (2, .int (nI j))]) C.1 C.2.1 d_Md_byTwo_35 rfl hl (by decide) rfl (fun ls hl => ?_)
  refine lv_lload_n C.1 C.2.1 d_Md_byTwo_36 rfl (lv_at hl 0 rfl) ?_
  refine lv_lconst (v := 0) C.1 C.2.1 d_Md_byTwo_37 rfl ?_
  refine W.lcmp C.1 C.2.1 d_Md_byTwo_38 ?_
  refine lv_if_eq (tgt := 76) C.1 C.2.1 d_Md_byTwo_39 (by decide) (fun c_5 => ?_) (fun c_5 => ?_)
  · -- 39 -> 76
    have c_5 := gm_leqt c_5
    exact gr_v C hlk hret hh (by refine ⟨(upr J r i j), ?_⟩; subst ex_4; first | (rw [two, if_pos (by assumption)]; done) | (rw [two, if_neg (by assumption), if_neg (by assumption)]; done) | (rw [two, if_neg (by assumption), if_pos (by assumption), if_pos ⟨Int64.not_lt.mpr (by assumption), Int64.not_lt.mpr (by assumption)⟩]; rfl) | (rw [two, if_neg (by assumption), if_pos (by assumption), if_neg (by rintro ⟨q1, q2⟩; first | exact q1 (by assumption) | exact q2 (by assumption))]; done)) d_Md_byTwo_76
  · -- 39 -> 42
    have c_5 := gm_leqf c_5
    refine lv_aload_n C.1 C.2.1 d_Md_byTwo_42 rfl (lv_at hl 1 rfl) ?_
    refine gg_l C hh (Md_0 hM) rfl in_Md 23 (by decide) rfl tw_588 rfl d_Md_byTwo_43 ?_
    refine gm_eql (y := J r 23) (by exact lsJ_o J (by omega)) ?_
    refine lv_aload_n C.1 C.2.1 d_Md_byTwo_46 rfl (lv_at hl 1 rfl) ?_
    refine gg_l C hh (Md_0 hM) rfl in_Md 26 (by decide) rfl tw_591 rfl d_Md_byTwo_47 ?_
    refine gm_eql (y := (upr J r i j).1) (by simp [lsJ, gm_up]) ?_
    refine lv_lmul C.1 C.2.1 d_Md_byTwo_50 ?_
    refine lv_aload_n C.1 C.2.1 d_Md_byTwo_51 rfl (lv_at hl 1 rfl) ?_
    refine gg_l C hh (Md_0 hM) rfl in_Md 24 (by decide) rfl tw_589 rfl d_Md_byTwo_52 ?_
    refine gm_eql (y := J r 24) (by exact lsJ_o J (by omega)) ?_
    refine lv_aload_n C.1 C.2.1 d_Md_byTwo_55 rfl (lv_at hl 1 rfl) ?_
    refine gg_l C hh (Md_0 hM) rfl in_Md 27 (by decide) rfl tw_592 rfl d_Md_byTwo_56 ?_
    refine gm_eql (y := (upr J r i j).2.1) (by simp [lsJ, gm_up]) ?_
    refine lv_lmul C.1 C.2.1 d_Md_byTwo_59 ?_
    refine lv_ladd C.1 C.2.1 d_Md_byTwo_60 ?_
    refine lv_aload_n C.1 C.2.1 d_Md_byTwo_61 rfl (lv_at hl 1 rfl) ?_
    refine gg_l C hh (Md_0 hM) rfl in_Md 25 (by decide) rfl tw_590 rfl d_Md_byTwo_62 ?_
    refine gm_eql (y := J r 25) (by exact lsJ_o J (by omega)) ?_
    refine lv_aload_n C.1 C.2.1 d_Md_byTwo_65 rfl (lv_at hl 1 rfl) ?_
    refine gg_l C hh (Md_0 hM) rfl in_Md 28 (by decide) rfl tw_593 rfl d_Md_byTwo_66 ?_
    refine gm_eql (y := (upr J r i j).2.2) (by simp [lsJ, gm_up]) ?_
    refine lv_lmul C.1 C.2.1 d_Md_byTwo_69 ?_
    refine lv_ladd C.1 C.2.1 d_Md_byTwo_70 ?_
    refine lv_lconst (v := 0) C.1 C.2.1 d_Md_byTwo_71 rfl ?_
    refine W.lcmp C.1 C.2.1 d_Md_byTwo_72 ?_
    refine lv_if_eq (tgt := 77) C.1 C.2.1 d_Md_byTwo_73 (by decide) (fun c_6 => ?_) (fun c_6 => ?_)
    · -- 73 -> 77
      have c_6 := gm_leqt c_6
      refine lv_aload_n C.1 C.2.1 d_Md_byTwo_77 rfl (lv_at hl 1 rfl) ?_
      refine gg_l C hh (Md_0 hM) rfl in_Md 24 (by decide) rfl tw_589 rfl d_Md_byTwo_78 ?_
      refine gm_eql (y := J r 24) (by exact lsJ_o J (by omega)) ?_
      refine lv_aload_n C.1 C.2.1 d_Md_byTwo_81 rfl (lv_at hl 1 rfl) ?_
      refine gg_r C hh (Md_0 hM) rfl in_Md 18 (by decide) rfl tw_583 rfl d_Md_byTwo_82 ?_
      refine lv_iload_n C.1 C.2.1 d_Md_byTwo_85 rfl (lv_at hl 3 rfl) ?_
      refine ga_l C hh (Md_14 hM) (k := j) rfl (by omega) (by omega) d_Md_byTwo_86 ?_
      refine gm_eql (y := J (r + 14) j) (by exact lsJ_o J (by omega)) ?_
      refine lv_lmul C.1 C.2.1 d_Md_byTwo_87 ?_
      refine lv_aload_n C.1 C.2.1 d_Md_byTwo_88 rfl (lv_at hl 1 rfl) ?_
      refine gg_l C hh (Md_0 hM) rfl in_Md 25 (by decide) rfl tw_590 rfl d_Md_byTwo_89 ?_
      refine gm_eql (y := J r 25) (by exact lsJ_o J (by omega)) ?_
      refine lv_aload_n C.1 C.2.1 d_Md_byTwo_92 rfl (lv_at hl 1 rfl) ?_
      refine gg_r C hh (Md_0 hM) rfl in_Md 17 (by decide) rfl tw_582 rfl d_Md_byTwo_93 ?_
      refine lv_iload_n C.1 C.2.1 d_Md_byTwo_96 rfl (lv_at hl 3 rfl) ?_
      refine ga_l C hh (Md_13 hM) (k := j) rfl (by omega) (by omega) d_Md_byTwo_97 ?_
      refine gm_eql (y := J (r + 13) j) (by exact lsJ_o J (by omega)) ?_
      refine lv_lmul C.1 C.2.1 d_Md_byTwo_98 ?_
      refine lv_lsub C.1 C.2.1 d_Md_byTwo_99 ?_
      refine lv_aload_n C.1 C.2.1 d_Md_byTwo_100 rfl (lv_at hl 1 rfl) ?_
      refine gg_l C hh (Md_0 hM) rfl in_Md 26 (by decide) rfl tw_591 rfl d_Md_byTwo_101 ?_
      refine gm_eql (y := (upr J r i j).1) (by simp [lsJ, gm_up]) ?_
      refine lv_lmul C.1 C.2.1 d_Md_byTwo_104 ?_
      refine lv_aload_n C.1 C.2.1 d_Md_byTwo_105 rfl (lv_at hl 1 rfl) ?_
      refine gg_l C hh (Md_0 hM) rfl in_Md 25 (by decide) rfl tw_590 rfl d_Md_byTwo_106 ?_
      refine gm_eql (y := J r 25) (by exact lsJ_o J (by omega)) ?_
      refine lv_aload_n C.1 C.2.1 d_Md_byTwo_109 rfl (lv_at hl 1 rfl) ?_
      refine gg_r C hh (Md_0 hM) rfl in_Md 16 (by decide) rfl tw_581 rfl d_Md_byTwo_110 ?_
      refine lv_iload_n C.1 C.2.1 d_Md_byTwo_113 rfl (lv_at hl 3 rfl) ?_
      refine ga_l C hh (Md_12 hM) (k := j) rfl (by omega) (by omega) d_Md_byTwo_114 ?_
      refine gm_eql (y := J (r + 12) j) (by exact lsJ_o J (by omega)) ?_
      refine lv_lmul C.1 C.2.1 d_Md_byTwo_115 ?_
      refine lv_aload_n C.1 C.2.1 d_Md_byTwo_116 rfl (lv_at hl 1 rfl) ?_
      refine gg_l C hh (Md_0 hM) rfl in_Md 23 (by decide) rfl tw_588 rfl d_Md_byTwo_117 ?_
      refine gm_eql (y := J r 23) (by exact lsJ_o J (by omega)) ?_
      refine lv_aload_n C.1 C.2.1 d_Md_byTwo_120 rfl (lv_at hl 1 rfl) ?_
      refine gg_r C hh (Md_0 hM) rfl in_Md 18 (by decide) rfl tw_583 rfl d_Md_byTwo_121 ?_
      refine lv_iload_n C.1 C.2.1 d_Md_byTwo_124 rfl (lv_at hl 3 rfl) ?_
      refine ga_l C hh (Md_14 hM) (k := j) rfl (by omega) (by omega) d_Md_byTwo_125 ?_
      refine gm_eql (y := J (r + 14) j) (by exact lsJ_o J (by omega)) ?_
      refine lv_lmul C.1 C.2.1 d_Md_byTwo_126 ?_
      refine lv_lsub C.1 C.2.1 d_Md_byTwo_127 ?_
      refine lv_aload_n C.1 C.2.1 d_Md_byTwo_128 rfl (lv_at hl 1 rfl) ?_
      refine gg_l C hh (Md_0 hM) rfl in_Md 27 (by decide) rfl tw_592 rfl d_Md_byTwo_129 ?_
      refine gm_eql (y := (upr J r i j).2.1) (by simp [lsJ, gm_up]) ?_
      refine lv_lmul C.1 C.2.1 d_Md_byTwo_132 ?_
      refine lv_ladd C.1 C.2.1 d_Md_byTwo_133 ?_
      refine lv_aload_n C.1 C.2.1 d_Md_byTwo_134 rfl (lv_at hl 1 rfl) ?_
      refine gg_l C hh (Md_0 hM) rfl in_Md 23 (by decide) rfl tw_588 rfl d_Md_byTwo_135 ?_
      refine gm_eql (y := J r 23) (by exact lsJ_o J (by omega)) ?_
      refine lv_aload_n C.1 C.2.1 d_Md_byTwo_138 rfl (lv_at hl 1 rfl) ?_
      refine gg_r C hh (Md_0 hM) rfl in_Md 17 (by decide) rfl tw_582 rfl d_Md_byTwo_139 ?_
      refine lv_iload_n C.1 C.2.1 d_Md_byTwo_142 rfl (lv_at hl 3 rfl) ?_
      refine ga_l C hh (Md_13 hM) (k := j) rfl (by omega) (by omega) d_Md_byTwo_143 ?_
      refine gm_eql (y := J (r + 13) j) (by exact lsJ_o J (by omega)) ?_
      refine lv_lmul C.1 C.2.1 d_Md_byTwo_144 ?_
      refine lv_aload_n C.1 C.2.1 d_Md_byTwo_145 rfl (lv_at hl 1 rfl) ?_
      refine gg_l C hh (Md_0 hM) rfl in_Md 24 (by decide) rfl tw_589 rfl d_Md_byTwo_146 ?_
      refine gm_eql (y := J r 24) (by exact lsJ_o J (by omega)) ?_
      refine lv_aload_n C.1 C.2.1 d_Md_byTwo_149 rfl (lv_at hl 1 rfl) ?_
      refine gg_r C hh (Md_0 hM) rfl in_Md 16 (by decide) rfl tw_581 rfl d_Md_byTwo_150 ?_
      refine lv_iload_n C.1 C.2.1 d_Md_byTwo_153 rfl (lv_at hl 3 rfl) ?_
      refine ga_l C hh (Md_12 hM) (k := j) rfl (by omega) (by omega) d_Md_byTwo_154 ?_
      refine gm_eql (y := J (r + 12) j) (by exact lsJ_o J (by omega)) ?_
      refine lv_lmul C.1 C.2.1 d_Md_byTwo_155 ?_
      refine lv_lsub C.1 C.2.1 d_Md_byTwo_156 ?_
      refine lv_aload_n C.1 C.2.1 d_Md_byTwo_157 rfl (lv_at hl 1 rfl) ?_
      refine gg_l C hh (Md_0 hM) rfl in_Md 28 (by decide) rfl tw_593 rfl d_Md_byTwo_158 ?_
      refine gm_eql (y := (upr J r i j).2.2) (by simp [lsJ, gm_up]) ?_
      refine lv_lmul C.1 C.2.1 d_Md_byTwo_161 ?_
      refine lv_ladd C.1 C.2.1 d_Md_byTwo_162 ?_
      refine lv_topl (fun x_7 ex_7 => ?_)
      refine lv_lstore (lv' := [(5, .long x_7), (3, .long x_4), (0, .ref r), (1, .int (nI i)), (2, .int (nI j))]) C.1 C.2.1 d_Md_byTwo_163 hl (by decide) rfl (fun ls hl => ?_)
      refine lv_aload_n C.1 C.2.1 d_Md_byTwo_165 rfl (lv_at hl 2 rfl) ?_
      refine gg_r C hh (Md_0 hM) rfl in_Md 17 (by decide) rfl tw_582 rfl d_Md_byTwo_166 ?_
      refine lv_iload_n C.1 C.2.1 d_Md_byTwo_169 rfl (lv_at hl 3 rfl) ?_
      refine ga_l C hh (Md_13 hM) (k := i) rfl (by omega) (by omega) d_Md_byTwo_170 ?_
      refine gm_eql (y := J (r + 13) i) (by exact lsJ_o J (by omega)) ?_
      refine lv_aload_n C.1 C.2.1 d_Md_byTwo_171 rfl (lv_at hl 2 rfl) ?_
      refine gg_l C hh (Md_0 hM) rfl in_Md 25 (by decide) rfl tw_590 rfl d_Md_byTwo_172 ?_
      refine gm_eql (y := J r 25) (by exact lsJ_o J (by omega)) ?_
      refine lv_lmul C.1 C.2.1 d_Md_byTwo_175 ?_
      refine lv_aload_n C.1 C.2.1 d_Md_byTwo_176 rfl (lv_at hl 2 rfl) ?_
      refine gg_r C hh (Md_0 hM) rfl in_Md 18 (by decide) rfl tw_583 rfl d_Md_byTwo_177 ?_
      refine lv_iload_n C.1 C.2.1 d_Md_byTwo_180 rfl (lv_at hl 3 rfl) ?_
      refine ga_l C hh (Md_14 hM) (k := i) rfl (by omega) (by omega) d_Md_byTwo_181 ?_
      refine gm_eql (y := J (r + 14) i) (by exact lsJ_o J (by omega)) ?_
      refine lv_aload_n C.1 C.2.1 d_Md_byTwo_182 rfl (lv_at hl 2 rfl) ?_
      refine gg_l C hh (Md_0 hM) rfl in_Md 24 (by decide) rfl tw_589 rfl d_Md_byTwo_183 ?_
      refine gm_eql (y := J r 24) (by exact lsJ_o J (by omega)) ?_
      refine lv_lmul C.1 C.2.1 d_Md_byTwo_186 ?_
      refine lv_lsub C.1 C.2.1 d_Md_byTwo_187 ?_
      refine lv_aload_n C.1 C.2.1 d_Md_byTwo_188 rfl (lv_at hl 2 rfl) ?_
      refine gg_l C hh (Md_0 hM) rfl in_Md 26 (by decide) rfl tw_591 rfl d_Md_byTwo_189 ?_
      refine gm_eql (y := (upr J r i j).1) (by simp [lsJ, gm_up]) ?_
      refine lv_lmul C.1 C.2.1 d_Md_byTwo_192 ?_
      refine lv_aload_n C.1 C.2.1 d_Md_byTwo_193 rfl (lv_at hl 2 rfl) ?_
      refine gg_r C hh (Md_0 hM) rfl in_Md 18 (by decide) rfl tw_583 rfl d_Md_byTwo_194 ?_
      refine lv_iload_n C.1 C.2.1 d_Md_byTwo_197 rfl (lv_at hl 3 rfl) ?_
      refine ga_l C hh (Md_14 hM) (k := i) rfl (by omega) (by omega) d_Md_byTwo_198 ?_
      refine gm_eql (y := J (r + 14) i) (by exact lsJ_o J (by omega)) ?_
      refine lv_aload_n C.1 C.2.1 d_Md_byTwo_199 rfl (lv_at hl 2 rfl) ?_
      refine gg_l C hh (Md_0 hM) rfl in_Md 23 (by decide) rfl tw_588 rfl d_Md_byTwo_200 ?_
      refine gm_eql (y := J r 23) (by exact lsJ_o J (by omega)) ?_
      refine lv_lmul C.1 C.2.1 d_Md_byTwo_203 ?_
      refine lv_aload_n C.1 C.2.1 d_Md_byTwo_204 rfl (lv_at hl 2 rfl) ?_
      refine gg_r C hh (Md_0 hM) rfl in_Md 16 (by decide) rfl tw_581 rfl d_Md_byTwo_205 ?_
      refine lv_iload_n C.1 C.2.1 d_Md_byTwo_208 rfl (lv_at hl 3 rfl) ?_
      refine ga_l C hh (Md_12 hM) (k := i) rfl (by omega) (by omega) d_Md_byTwo_209 ?_
      refine gm_eql (y := J (r + 12) i) (by exact lsJ_o J (by omega)) ?_
      refine lv_aload_n C.1 C.2.1 d_Md_byTwo_210 rfl (lv_at hl 2 rfl) ?_
      refine gg_l C hh (Md_0 hM) rfl in_Md 25 (by decide) rfl tw_590 rfl d_Md_byTwo_211 ?_
      refine gm_eql (y := J r 25) (by exact lsJ_o J (by omega)) ?_
      refine lv_lmul C.1 C.2.1 d_Md_byTwo_214 ?_
      refine lv_lsub C.1 C.2.1 d_Md_byTwo_215 ?_
      refine lv_aload_n C.1 C.2.1 d_Md_byTwo_216 rfl (lv_at hl 2 rfl) ?_
      refine gg_l C hh (Md_0 hM) rfl in_Md 27 (by decide) rfl tw_592 rfl d_Md_byTwo_217 ?_
      refine gm_eql (y := (upr J r i j).2.1) (by simp [lsJ, gm_up]) ?_
      refine lv_lmul C.1 C.2.1 d_Md_byTwo_220 ?_
      refine lv_ladd C.1 C.2.1 d_Md_byTwo_221 ?_
      refine lv_aload_n C.1 C.2.1 d_Md_byTwo_222 rfl (lv_at hl 2 rfl) ?_
      refine gg_r C hh (Md_0 hM) rfl in_Md 16 (by decide) rfl tw_581 rfl d_Md_byTwo_223 ?_
      refine lv_iload_n C.1 C.2.1 d_Md_byTwo_226 rfl (lv_at hl 3 rfl) ?_
      refine ga_l C hh (Md_12 hM) (k := i) rfl (by omega) (by omega) d_Md_byTwo_227 ?_
      refine gm_eql (y := J (r + 12) i) (by exact lsJ_o J (by omega)) ?_
      refine lv_aload_n C.1 C.2.1 d_Md_byTwo_228 rfl (lv_at hl 2 rfl) ?_
      refine gg_l C hh (Md_0 hM) rfl in_Md 24 (by decide) rfl tw_589 rfl d_Md_byTwo_229 ?_
      refine gm_eql (y := J r 24) (by exact lsJ_o J (by omega)) ?_
      refine lv_lmul C.1 C.2.1 d_Md_byTwo_232 ?_
      refine lv_aload_n C.1 C.2.1 d_Md_byTwo_233 rfl (lv_at hl 2 rfl) ?_
      refine gg_r C hh (Md_0 hM) rfl in_Md 17 (by decide) rfl tw_582 rfl d_Md_byTwo_234 ?_
      refine lv_iload_n C.1 C.2.1 d_Md_byTwo_237 rfl (lv_at hl 3 rfl) ?_
      refine ga_l C hh (Md_13 hM) (k := i) rfl (by omega) (by omega) d_Md_byTwo_238 ?_
      refine gm_eql (y := J (r + 13) i) (by exact lsJ_o J (by omega)) ?_
      refine lv_aload_n C.1 C.2.1 d_Md_byTwo_239 rfl (lv_at hl 2 rfl) ?_
      refine gg_l C hh (Md_0 hM) rfl in_Md 23 (by decide) rfl tw_588 rfl d_Md_byTwo_240 ?_
      refine gm_eql (y := J r 23) (by exact lsJ_o J (by omega)) ?_
      refine lv_lmul C.1 C.2.1 d_Md_byTwo_243 ?_
      refine lv_lsub C.1 C.2.1 d_Md_byTwo_244 ?_
      refine lv_aload_n C.1 C.2.1 d_Md_byTwo_245 rfl (lv_at hl 2 rfl) ?_
      refine gg_l C hh (Md_0 hM) rfl in_Md 28 (by decide) rfl tw_593 rfl d_Md_byTwo_246 ?_
      refine gm_eql (y := (upr J r i j).2.2) (by simp [lsJ, gm_up]) ?_
      refine lv_lmul C.1 C.2.1 d_Md_byTwo_249 ?_
      refine lv_ladd C.1 C.2.1 d_Md_byTwo_250 ?_
      refine lv_topl (fun x_8 ex_8 => ?_)
      refine lv_lstore (lv' := [(7, .long x_8), (5, .long x_7), (3, .long x_4), (0, .ref r), (1, .int (nI i)), (2, .int (nI j))]) C.1 C.2.1 d_Md_byTwo_251 hl (by decide) rfl (fun ls hl => ?_)
      refine lv_lload C.1 C.2.1 d_Md_byTwo_253 (lv_at hl 1 rfl) ?_
      refine lv_lconst (v := 0) C.1 C.2.1 d_Md_byTwo_255 rfl ?_
      refine W.lcmp C.1 C.2.1 d_Md_byTwo_256 ?_
      refine lv_if_lt (tgt := 291) C.1 C.2.1 d_Md_byTwo_257 (by decide) (fun c_9 => ?_) (fun c_9 => ?_)
      · -- 257 -> 291
        have c_9 := gm_lltt c_9
        exact gr_v C hlk hret hh (by refine ⟨(upr J r i j), ?_⟩; subst ex_4 ex_7 ex_8; first | (rw [two, if_pos (by assumption)]; done) | (rw [two, if_neg (by assumption), if_neg (by assumption)]; done) | (rw [two, if_neg (by assumption), if_pos (by assumption), if_pos ⟨Int64.not_lt.mpr (by assumption), Int64.not_lt.mpr (by assumption)⟩]; rfl) | (rw [two, if_neg (by assumption), if_pos (by assumption), if_neg (by rintro ⟨q1, q2⟩; first | exact q1 (by assumption) | exact q2 (by assumption))]; done)) d_Md_byTwo_291
      · -- 257 -> 260
        have c_9 := gm_lltf c_9
        refine lv_lload C.1 C.2.1 d_Md_byTwo_260 (lv_at hl 0 rfl) ?_
        refine lv_lconst (v := 0) C.1 C.2.1 d_Md_byTwo_262 rfl ?_
        refine W.lcmp C.1 C.2.1 d_Md_byTwo_263 ?_
        refine lv_if_lt (tgt := 291) C.1 C.2.1 d_Md_byTwo_264 (by decide) (fun c_10 => ?_) (fun c_10 => ?_)
        · -- 264 -> 291
          have c_10 := gm_lltt c_10
          exact gr_v C hlk hret hh (by refine ⟨(upr J r i j), ?_⟩; subst ex_4 ex_7 ex_8; first | (rw [two, if_pos (by assumption)]; done) | (rw [two, if_neg (by assumption), if_neg (by assumption)]; done) | (rw [two, if_neg (by assumption), if_pos (by assumption), if_pos ⟨Int64.not_lt.mpr (by assumption), Int64.not_lt.mpr (by assumption)⟩]; rfl) | (rw [two, if_neg (by assumption), if_pos (by assumption), if_neg (by rintro ⟨q1, q2⟩; first | exact q1 (by assumption) | exact q2 (by assumption))]; done)) d_Md_byTwo_291
        · -- 264 -> 267
          have c_10 := gm_lltf c_10
          refine lv_aload_n C.1 C.2.1 d_Md_byTwo_267 rfl (lv_at hl 3 rfl) ?_
          refine lv_lload C.1 C.2.1 d_Md_byTwo_268 (lv_at hl 1 rfl) ?_
          refine lv_aload_n C.1 C.2.1 d_Md_byTwo_270 rfl (lv_at hl 3 rfl) ?_
          refine gg_r C hh (Md_0 hM) rfl in_Md 19 (by decide) rfl tw_584 rfl d_Md_byTwo_271 ?_
          refine lv_iload_n C.1 C.2.1 d_Md_byTwo_274 rfl (lv_at hl 4 rfl) ?_
          refine ga_l C hh (Md_15 hM) (k := i) rfl (by omega) (by omega) d_Md_byTwo_275 ?_
          refine gm_eql (y := J (r + 15) i) (by exact lsJ_o J (by omega)) ?_
          refine lv_lmul C.1 C.2.1 d_Md_byTwo_276 ?_
          refine lv_lload C.1 C.2.1 d_Md_byTwo_277 (lv_at hl 0 rfl) ?_
          refine lv_aload_n C.1 C.2.1 d_Md_byTwo_279 rfl (lv_at hl 3 rfl) ?_
          refine gg_r C hh (Md_0 hM) rfl in_Md 19 (by decide) rfl tw_584 rfl d_Md_byTwo_280 ?_
          refine lv_iload_n C.1 C.2.1 d_Md_byTwo_283 rfl (lv_at hl 5 rfl) ?_
          refine ga_l C hh (Md_15 hM) (k := j) rfl (by omega) (by omega) d_Md_byTwo_284 ?_
          refine gm_eql (y := J (r + 15) j) (by exact lsJ_o J (by omega)) ?_
          refine lv_lmul C.1 C.2.1 d_Md_byTwo_285 ?_
          refine lv_ladd C.1 C.2.1 d_Md_byTwo_286 ?_
          refine lv_lload_n C.1 C.2.1 d_Md_byTwo_287 rfl (lv_at hl 2 rfl) ?_
          refine gc_v hh (gc_runV (As := [.long ((x_7 * (J (r + 15) i)) + (x_8 * (J (r + 15) j))), .long x_4]) (rest := []) (n := 2) C hml hh (c_Md_bears l D cs sh sz (lsI I r s.1) (lsJ J r s.2.1 s.2.2 (upr J r i j)) r hM ((x_7 * (J (r + 15) i)) + (x_8 * (J (r + 15) j))) x_4) (tg_V tw_762 tw_764 tw_36 tw_64 tw_765) (by decide +kernel) ⟨rfl, rfl, by decide, by decide, Nat.zero_le _, Nat.zero_le _⟩ (Md_0 hM) rfl rfl hl.1 rfl (Nat.le_of_ble_eq_true rfl) d_Md_byTwo_288) (fun I_12 J_13 H locs hr_11 hh => ?_)
          rw [bears_ls] at hr_11
          rw [(Prod.mk.inj hr_11).1, (Prod.mk.inj hr_11).2] at hh
          exact gr_v C hlk hret hh (by refine ⟨(upr J r i j), ?_⟩; subst ex_4 ex_7 ex_8; first | (rw [two, if_pos (by assumption)]; done) | (rw [two, if_neg (by assumption), if_neg (by assumption)]; done) | (rw [two, if_neg (by assumption), if_pos (by assumption), if_pos ⟨Int64.not_lt.mpr (by assumption), Int64.not_lt.mpr (by assumption)⟩]; rfl) | (rw [two, if_neg (by assumption), if_pos (by assumption), if_neg (by rintro ⟨q1, q2⟩; first | exact q1 (by assumption) | exact q2 (by assumption))]; done)) d_Md_byTwo_291
    · -- 73 -> 76
      have c_6 := gm_leqf c_6
      exact gr_v C hlk hret hh (by refine ⟨(upr J r i j), ?_⟩; subst ex_4; first | (rw [two, if_pos (by assumption)]; done) | (rw [two, if_neg (by assumption), if_neg (by assumption)]; done) | (rw [two, if_neg (by assumption), if_pos (by assumption), if_pos ⟨Int64.not_lt.mpr (by assumption), Int64.not_lt.mpr (by assumption)⟩]; rfl) | (rw [two, if_neg (by assumption), if_pos (by assumption), if_neg (by rintro ⟨q1, q2⟩; first | exact q1 (by assumption) | exact q2 (by assumption))]; done)) d_Md_byTwo_76

set_option maxHeartbeats 4000000 in
set_option maxRecDepth 100000 in
theorem c_Md_byThree (l : Launch) (D : va_G) (cs : Nat → ClassId) (sh : gm_H) (sz : Nat) (I : gm_I) (J : gm_J) (r : Nat) (hM : is_Md sh r) (s : LSt) (w : V3) (i j k : Nat) (hi : i < 8) (hj : j < 8) (hk : k < 8) : CV l y_Md_byThree w_Md_byThree { frames := 1, cells := 0, slots := 0, locals := 24 } D cs sh sz (lsI I r s.1) (lsJ J r s.2.1 s.2.2 w) [.ref r, .int (nI i), .int (nI j), .int (nI k)] (fun u => ∃ w2 : V3, u = (lsI I r (three J r i j k s).1, lsJ J r (three J r i j k s).2.1 (three J r i j k s).2.2 w2)) := by
  refine gm_start (by decide) (Nat.le_of_ble_eq_true rfl) ?_
  intro p' e' s' m' be' me' co' ls C hml hlk hret hh hl
  have hl : lv_has ls 14 [(0, .ref r), (1, .int (nI i)), (2, .int (nI j)), (3, .int (nI k))] := hl
  refine lv_aload_n C.1 C.2.1 d_Md_byThree_0 rfl (lv_at hl 0 rfl) ?_
  refine lv_iload_n C.1 C.2.1 d_Md_byThree_1 rfl (lv_at hl 1 rfl) ?_
  refine lv_iload_n C.1 C.2.1 d_Md_byThree_2 rfl (lv_at hl 2 rfl) ?_
  refine gc_v hh (gc_runV (As := [.int (nI i), .int (nI j)]) (rest := []) (n := 2) C hml hh (c_Md_upright l D cs sh sz (lsI I r s.1) (lsJ J r s.2.1 s.2.2 w) r hM i j (by omega) (by omega)) (tg_V tw_774 tw_776 tw_39 tw_64 tw_777) (by decide +kernel) ⟨rfl, rfl, by decide, by decide, Nat.zero_le _, Nat.zero_le _⟩ (Md_0 hM) rfl rfl hl.1 rfl (Nat.le_of_ble_eq_true rfl) d_Md_byThree_3) (fun I_2 J_3 H locs hr_1 hh => ?_)
  rw [upr_ls] at hr_1
  rw [(Prod.mk.inj hr_1).1, (Prod.mk.inj hr_1).2] at hh
  refine lv_aload_n C.1 C.2.1 d_Md_byThree_6 rfl (lv_at hl 0 rfl) ?_
  refine gg_l C hh (Md_0 hM) rfl in_Md 26 (by decide) rfl tw_591 rfl d_Md_byThree_7 ?_
  refine gm_eql (y := (upr J r i j).1) (by simp [lsJ, gm_up]) ?_
  refine lv_aload_n C.1 C.2.1 d_Md_byThree_10 rfl (lv_at hl 0 rfl) ?_
  refine gg_r C hh (Md_0 hM) rfl in_Md 16 (by decide) rfl tw_581 rfl d_Md_byThree_11 ?_
  refine lv_iload_n C.1 C.2.1 d_Md_byThree_14 rfl (lv_at hl 3 rfl) ?_
  refine ga_l C hh (Md_12 hM) (k := k) rfl (by omega) (by omega) d_Md_byThree_15 ?_
  refine gm_eql (y := J (r + 12) k) (by exact lsJ_o J (by omega)) ?_
  refine lv_lmul C.1 C.2.1 d_Md_byThree_16 ?_
  refine lv_aload_n C.1 C.2.1 d_Md_byThree_17 rfl (lv_at hl 0 rfl) ?_
  refine gg_l C hh (Md_0 hM) rfl in_Md 27 (by decide) rfl tw_592 rfl d_Md_byThree_18 ?_
  refine gm_eql (y := (upr J r i j).2.1) (by simp [lsJ, gm_up]) ?_
  refine lv_aload_n C.1 C.2.1 d_Md_byThree_21 rfl (lv_at hl 0 rfl) ?_
  refine gg_r C hh (Md_0 hM) rfl in_Md 17 (by decide) rfl tw_582 rfl d_Md_byThree_22 ?_
  refine lv_iload_n C.1 C.2.1 d_Md_byThree_25 rfl (lv_at hl 3 rfl) ?_
  refine ga_l C hh (Md_13 hM) (k := k) rfl (by omega) (by omega) d_Md_byThree_26 ?_
  refine gm_eql (y := J (r + 13) k) (by exact lsJ_o J (by omega)) ?_
  refine lv_lmul C.1 C.2.1 d_Md_byThree_27 ?_
  refine lv_ladd C.1 C.2.1 d_Md_byThree_28 ?_
  refine lv_aload_n C.1 C.2.1 d_Md_byThree_29 rfl (lv_at hl 0 rfl) ?_
  refine gg_l C hh (Md_0 hM) rfl in_Md 28 (by decide) rfl tw_593 rfl d_Md_byThree_30 ?_
  refine gm_eql (y := (upr J r i j).2.2) (by simp [lsJ, gm_up]) ?_
  refine lv_aload_n C.1 C.2.1 d_Md_byThree_33 rfl (lv_at hl 0 rfl) ?_
  refine gg_r C hh (Md_0 hM) rfl in_Md 18 (by decide) rfl tw_583 rfl d_Md_byThree_34 ?_
  refine lv_iload_n C.1 C.2.1 d_Md_byThree_37 rfl (lv_at hl 3 rfl) ?_
  refine ga_l C hh (Md_14 hM) (k := k) rfl (by omega) (by omega) d_Md_byThree_38 ?_
  refine gm_eql (y := J (r + 14) k) (by exact lsJ_o J (by omega)) ?_
  refine lv_lmul C.1 C.2.1 d_Md_byThree_39 ?_
  refine lv_ladd C.1 C.2.1 d_Md_byThree_40 ?_
  refine lv_topl (fun x_4 ex_4 => ?_)
  refine lv_lstore (lv' := [(4, .long x_4), (0, .ref r), (1, .int (nI i)), (2, .int (nI j)), (3, .int (nI k))]) C.1 C.2.1 d_Md_byThree_41 hl (by decide) rfl (fun ls hl => ?_)
  refine lv_lload C.1 C.2.1 d_Md_byThree_43 (lv_at hl 0 rfl) ?_
  refine lv_lconst (v := 0) C.1 C.2.1 d_Md_byThree_45 rfl ?_
  refine W.lcmp C.1 C.2.1 d_Md_byThree_46 ?_
  refine lv_if_ne (tgt := 51) C.1 C.2.1 d_Md_byThree_47 (by decide) (fun c_5 => ?_) (fun c_5 => ?_)
  · -- 47 -> 51
    have c_5 := gm_lnet c_5
    refine lv_lload C.1 C.2.1 d_Md_byThree_51 (lv_at hl 0 rfl) ?_
    refine lv_lconst (v := 0) C.1 C.2.1 d_Md_byThree_53 rfl ?_
    refine W.lcmp C.1 C.2.1 d_Md_byThree_54 ?_
    refine lv_if_le (tgt := 62) C.1 C.2.1 d_Md_byThree_55 (by decide) (fun c_6 => ?_) (fun c_6 => ?_)
    · -- 55 -> 62
      have c_6 := gm_llet c_6
      refine lv_ldc2 C.1 C.2.1 C.2.2.2.1 (C.2.2.1 _ tw_782) d_Md_byThree_62 ?_
      refine lv_topl (fun x_7 ex_7 => ?_)
      refine lv_lstore (lv' := [(6, .long x_7), (4, .long x_4), (0, .ref r), (1, .int (nI i)), (2, .int (nI j)), (3, .int (nI k))]) C.1 C.2.1 d_Md_byThree_65 hl (by decide) rfl (fun ls hl => ?_)
      refine lv_lload C.1 C.2.1 d_Md_byThree_67 (lv_at hl 0 rfl) ?_
      refine lv_aload_n C.1 C.2.1 d_Md_byThree_69 rfl (lv_at hl 2 rfl) ?_
      refine gg_l C hh (Md_0 hM) rfl in_Md 26 (by decide) rfl tw_591 rfl d_Md_byThree_70 ?_
      refine gm_eql (y := (upr J r i j).1) (by simp [lsJ, gm_up]) ?_
      refine lv_aload_n C.1 C.2.1 d_Md_byThree_73 rfl (lv_at hl 2 rfl) ?_
      refine gg_l C hh (Md_0 hM) rfl in_Md 23 (by decide) rfl tw_588 rfl d_Md_byThree_74 ?_
      refine gm_eql (y := J r 23) (by exact lsJ_o J (by omega)) ?_
      refine lv_lmul C.1 C.2.1 d_Md_byThree_77 ?_
      refine lv_aload_n C.1 C.2.1 d_Md_byThree_78 rfl (lv_at hl 2 rfl) ?_
      refine gg_l C hh (Md_0 hM) rfl in_Md 27 (by decide) rfl tw_592 rfl d_Md_byThree_79 ?_
      refine gm_eql (y := (upr J r i j).2.1) (by simp [lsJ, gm_up]) ?_
      refine lv_aload_n C.1 C.2.1 d_Md_byThree_82 rfl (lv_at hl 2 rfl) ?_
      refine gg_l C hh (Md_0 hM) rfl in_Md 24 (by decide) rfl tw_589 rfl d_Md_byThree_83 ?_
      refine gm_eql (y := J r 24) (by exact lsJ_o J (by omega)) ?_
      refine lv_lmul C.1 C.2.1 d_Md_byThree_86 ?_
      refine lv_ladd C.1 C.2.1 d_Md_byThree_87 ?_
      refine lv_aload_n C.1 C.2.1 d_Md_byThree_88 rfl (lv_at hl 2 rfl) ?_
      refine gg_l C hh (Md_0 hM) rfl in_Md 28 (by decide) rfl tw_593 rfl d_Md_byThree_89 ?_
      refine gm_eql (y := (upr J r i j).2.2) (by simp [lsJ, gm_up]) ?_
      refine lv_aload_n C.1 C.2.1 d_Md_byThree_92 rfl (lv_at hl 2 rfl) ?_
      refine gg_l C hh (Md_0 hM) rfl in_Md 25 (by decide) rfl tw_590 rfl d_Md_byThree_93 ?_
      refine gm_eql (y := J r 25) (by exact lsJ_o J (by omega)) ?_
      refine lv_lmul C.1 C.2.1 d_Md_byThree_96 ?_
      refine lv_ladd C.1 C.2.1 d_Md_byThree_97 ?_
      refine lv_lmul C.1 C.2.1 d_Md_byThree_98 ?_
      refine lv_topl (fun x_8 ex_8 => ?_)
      refine lv_lstore (lv' := [(8, .long x_8), (6, .long x_7), (4, .long x_4), (0, .ref r), (1, .int (nI i)), (2, .int (nI j)), (3, .int (nI k))]) C.1 C.2.1 d_Md_byThree_99 hl (by decide) rfl (fun ls hl => ?_)
      refine lv_aload_n C.1 C.2.1 d_Md_byThree_101 rfl (lv_at hl 3 rfl) ?_
      refine lv_iload_n C.1 C.2.1 d_Md_byThree_102 rfl (lv_at hl 5 rfl) ?_
      refine lv_iload_n C.1 C.2.1 d_Md_byThree_103 rfl (lv_at hl 6 rfl) ?_
      refine gc_v hh (gc_runV (As := [.int (nI j), .int (nI k)]) (rest := []) (n := 2) C hml hh (c_Md_upright l D cs sh sz (lsI I r s.1) (lsJ J r s.2.1 s.2.2 (upr J r i j)) r hM j k (by omega) (by omega)) (tg_V tw_774 tw_776 tw_39 tw_64 tw_777) (by decide +kernel) ⟨rfl, rfl, by decide, by decide, Nat.zero_le _, Nat.zero_le _⟩ (Md_0 hM) rfl rfl hl.1 rfl (Nat.le_of_ble_eq_true rfl) d_Md_byThree_104) (fun I_10 J_11 H locs hr_9 hh => ?_)
      rw [upr_ls] at hr_9
      rw [(Prod.mk.inj hr_9).1, (Prod.mk.inj hr_9).2] at hh
      refine lv_lload C.1 C.2.1 d_Md_byThree_107 (lv_at hl 1 rfl) ?_
      refine lv_aload_n C.1 C.2.1 d_Md_byThree_109 rfl (lv_at hl 3 rfl) ?_
      refine gg_l C hh (Md_0 hM) rfl in_Md 26 (by decide) rfl tw_591 rfl d_Md_byThree_110 ?_
      refine gm_eql (y := (upr J r j k).1) (by simp [lsJ, gm_up]) ?_
      refine lv_aload_n C.1 C.2.1 d_Md_byThree_113 rfl (lv_at hl 3 rfl) ?_
      refine gg_l C hh (Md_0 hM) rfl in_Md 23 (by decide) rfl tw_588 rfl d_Md_byThree_114 ?_
      refine gm_eql (y := J r 23) (by exact lsJ_o J (by omega)) ?_
      refine lv_lmul C.1 C.2.1 d_Md_byThree_117 ?_
      refine lv_aload_n C.1 C.2.1 d_Md_byThree_118 rfl (lv_at hl 3 rfl) ?_
      refine gg_l C hh (Md_0 hM) rfl in_Md 27 (by decide) rfl tw_592 rfl d_Md_byThree_119 ?_
      refine gm_eql (y := (upr J r j k).2.1) (by simp [lsJ, gm_up]) ?_
      refine lv_aload_n C.1 C.2.1 d_Md_byThree_122 rfl (lv_at hl 3 rfl) ?_
      refine gg_l C hh (Md_0 hM) rfl in_Md 24 (by decide) rfl tw_589 rfl d_Md_byThree_123 ?_
      refine gm_eql (y := J r 24) (by exact lsJ_o J (by omega)) ?_
      refine lv_lmul C.1 C.2.1 d_Md_byThree_126 ?_
      refine lv_ladd C.1 C.2.1 d_Md_byThree_127 ?_
      refine lv_aload_n C.1 C.2.1 d_Md_byThree_128 rfl (lv_at hl 3 rfl) ?_
      refine gg_l C hh (Md_0 hM) rfl in_Md 28 (by decide) rfl tw_593 rfl d_Md_byThree_129 ?_
      refine gm_eql (y := (upr J r j k).2.2) (by simp [lsJ, gm_up]) ?_
      refine lv_aload_n C.1 C.2.1 d_Md_byThree_132 rfl (lv_at hl 3 rfl) ?_
      refine gg_l C hh (Md_0 hM) rfl in_Md 25 (by decide) rfl tw_590 rfl d_Md_byThree_133 ?_
      refine gm_eql (y := J r 25) (by exact lsJ_o J (by omega)) ?_
      refine lv_lmul C.1 C.2.1 d_Md_byThree_136 ?_
      refine lv_ladd C.1 C.2.1 d_Md_byThree_137 ?_
      refine lv_lmul C.1 C.2.1 d_Md_byThree_138 ?_
      refine lv_topl (fun x_12 ex_12 => ?_)
      refine lv_lstore (lv' := [(10, .long x_12), (8, .long x_8), (6, .long x_7), (4, .long x_4), (0, .ref r), (1, .int (nI i)), (2, .int (nI j)), (3, .int (nI k))]) C.1 C.2.1 d_Md_byThree_139 hl (by decide) rfl (fun ls hl => ?_)
      refine lv_aload_n C.1 C.2.1 d_Md_byThree_141 rfl (lv_at hl 4 rfl) ?_
      refine lv_iload_n C.1 C.2.1 d_Md_byThree_142 rfl (lv_at hl 7 rfl) ?_
      refine lv_iload_n C.1 C.2.1 d_Md_byThree_143 rfl (lv_at hl 5 rfl) ?_
      refine gc_v hh (gc_runV (As := [.int (nI k), .int (nI i)]) (rest := []) (n := 2) C hml hh (c_Md_upright l D cs sh sz (lsI I r s.1) (lsJ J r s.2.1 s.2.2 (upr J r j k)) r hM k i (by omega) (by omega)) (tg_V tw_774 tw_776 tw_39 tw_64 tw_777) (by decide +kernel) ⟨rfl, rfl, by decide, by decide, Nat.zero_le _, Nat.zero_le _⟩ (Md_0 hM) rfl rfl hl.1 rfl (Nat.le_of_ble_eq_true rfl) d_Md_byThree_144) (fun I_14 J_15 H locs hr_13 hh => ?_)
      rw [upr_ls] at hr_13
      rw [(Prod.mk.inj hr_13).1, (Prod.mk.inj hr_13).2] at hh
      refine lv_lload C.1 C.2.1 d_Md_byThree_147 (lv_at hl 2 rfl) ?_
      refine lv_aload_n C.1 C.2.1 d_Md_byThree_149 rfl (lv_at hl 4 rfl) ?_
      refine gg_l C hh (Md_0 hM) rfl in_Md 26 (by decide) rfl tw_591 rfl d_Md_byThree_150 ?_
      refine gm_eql (y := (upr J r k i).1) (by simp [lsJ, gm_up]) ?_
      refine lv_aload_n C.1 C.2.1 d_Md_byThree_153 rfl (lv_at hl 4 rfl) ?_
      refine gg_l C hh (Md_0 hM) rfl in_Md 23 (by decide) rfl tw_588 rfl d_Md_byThree_154 ?_
      refine gm_eql (y := J r 23) (by exact lsJ_o J (by omega)) ?_
      refine lv_lmul C.1 C.2.1 d_Md_byThree_157 ?_
      refine lv_aload_n C.1 C.2.1 d_Md_byThree_158 rfl (lv_at hl 4 rfl) ?_
      refine gg_l C hh (Md_0 hM) rfl in_Md 27 (by decide) rfl tw_592 rfl d_Md_byThree_159 ?_
      refine gm_eql (y := (upr J r k i).2.1) (by simp [lsJ, gm_up]) ?_
      refine lv_aload_n C.1 C.2.1 d_Md_byThree_162 rfl (lv_at hl 4 rfl) ?_
      refine gg_l C hh (Md_0 hM) rfl in_Md 24 (by decide) rfl tw_589 rfl d_Md_byThree_163 ?_
      refine gm_eql (y := J r 24) (by exact lsJ_o J (by omega)) ?_
      refine lv_lmul C.1 C.2.1 d_Md_byThree_166 ?_
      refine lv_ladd C.1 C.2.1 d_Md_byThree_167 ?_
      refine lv_aload_n C.1 C.2.1 d_Md_byThree_168 rfl (lv_at hl 4 rfl) ?_
      refine gg_l C hh (Md_0 hM) rfl in_Md 28 (by decide) rfl tw_593 rfl d_Md_byThree_169 ?_
      refine gm_eql (y := (upr J r k i).2.2) (by simp [lsJ, gm_up]) ?_
      refine lv_aload_n C.1 C.2.1 d_Md_byThree_172 rfl (lv_at hl 4 rfl) ?_
      refine gg_l C hh (Md_0 hM) rfl in_Md 25 (by decide) rfl tw_590 rfl d_Md_byThree_173 ?_
      refine gm_eql (y := J r 25) (by exact lsJ_o J (by omega)) ?_
      refine lv_lmul C.1 C.2.1 d_Md_byThree_176 ?_
      refine lv_ladd C.1 C.2.1 d_Md_byThree_177 ?_
      refine lv_lmul C.1 C.2.1 d_Md_byThree_178 ?_
      refine lv_topl (fun x_16 ex_16 => ?_)
      refine lv_lstore (lv' := [(12, .long x_16), (10, .long x_12), (8, .long x_8), (6, .long x_7), (4, .long x_4), (0, .ref r), (1, .int (nI i)), (2, .int (nI j)), (3, .int (nI k))]) C.1 C.2.1 d_Md_byThree_179 hl (by decide) rfl (fun ls hl => ?_)
      refine lv_lload C.1 C.2.1 d_Md_byThree_181 (lv_at hl 1 rfl) ?_
      refine lv_lconst (v := 0) C.1 C.2.1 d_Md_byThree_183 rfl ?_
      refine W.lcmp C.1 C.2.1 d_Md_byThree_184 ?_
      refine lv_if_lt (tgt := 240) C.1 C.2.1 d_Md_byThree_185 (by decide) (fun c_17 => ?_) (fun c_17 => ?_)
      · -- 185 -> 240
        have c_17 := gm_lltt c_17
        exact gr_v C hlk hret hh (by refine ⟨(upr J r k i), ?_⟩; subst ex_4 ex_7 ex_8 ex_12 ex_16; first | (rw [three, if_pos (by assumption)]; done) | (rw [three, if_neg (by assumption), show sgn (all3 J r k (upr J r i j)) = 1 from if_pos (by assumption)]; first | (rw [if_pos ⟨Int64.not_lt.mpr (by assumption), Int64.not_lt.mpr (by assumption), Int64.not_lt.mpr (by assumption)⟩]; rfl) | (rw [if_neg (by rintro ⟨q1, q2, q3⟩; first | exact q1 (by assumption) | exact q2 (by assumption) | exact q3 (by assumption))]; done)) | (rw [three, if_neg (by assumption), show sgn (all3 J r k (upr J r i j)) = -1 from if_neg (by assumption)]; first | (rw [if_pos ⟨Int64.not_lt.mpr (by assumption), Int64.not_lt.mpr (by assumption), Int64.not_lt.mpr (by assumption)⟩]; rfl) | (rw [if_neg (by rintro ⟨q1, q2, q3⟩; first | exact q1 (by assumption) | exact q2 (by assumption) | exact q3 (by assumption))]; done))) d_Md_byThree_240
      · -- 185 -> 188
        have c_17 := gm_lltf c_17
        refine lv_lload C.1 C.2.1 d_Md_byThree_188 (lv_at hl 0 rfl) ?_
        refine lv_lconst (v := 0) C.1 C.2.1 d_Md_byThree_190 rfl ?_
        refine W.lcmp C.1 C.2.1 d_Md_byThree_191 ?_
        refine lv_if_lt (tgt := 240) C.1 C.2.1 d_Md_byThree_192 (by decide) (fun c_18 => ?_) (fun c_18 => ?_)
        · -- 192 -> 240
          have c_18 := gm_lltt c_18
          exact gr_v C hlk hret hh (by refine ⟨(upr J r k i), ?_⟩; subst ex_4 ex_7 ex_8 ex_12 ex_16; first | (rw [three, if_pos (by assumption)]; done) | (rw [three, if_neg (by assumption), show sgn (all3 J r k (upr J r i j)) = 1 from if_pos (by assumption)]; first | (rw [if_pos ⟨Int64.not_lt.mpr (by assumption), Int64.not_lt.mpr (by assumption), Int64.not_lt.mpr (by assumption)⟩]; rfl) | (rw [if_neg (by rintro ⟨q1, q2, q3⟩; first | exact q1 (by assumption) | exact q2 (by assumption) | exact q3 (by assumption))]; done)) | (rw [three, if_neg (by assumption), show sgn (all3 J r k (upr J r i j)) = -1 from if_neg (by assumption)]; first | (rw [if_pos ⟨Int64.not_lt.mpr (by assumption), Int64.not_lt.mpr (by assumption), Int64.not_lt.mpr (by assumption)⟩]; rfl) | (rw [if_neg (by rintro ⟨q1, q2, q3⟩; first | exact q1 (by assumption) | exact q2 (by assumption) | exact q3 (by assumption))]; done))) d_Md_byThree_240
        · -- 192 -> 195
          have c_18 := gm_lltf c_18
          refine lv_lload C.1 C.2.1 d_Md_byThree_195 (lv_at hl 2 rfl) ?_
          refine lv_lconst (v := 0) C.1 C.2.1 d_Md_byThree_197 rfl ?_
          refine W.lcmp C.1 C.2.1 d_Md_byThree_198 ?_
          refine lv_if_lt (tgt := 240) C.1 C.2.1 d_Md_byThree_199 (by decide) (fun c_19 => ?_) (fun c_19 => ?_)
          · -- 199 -> 240
            have c_19 := gm_lltt c_19
            exact gr_v C hlk hret hh (by refine ⟨(upr J r k i), ?_⟩; subst ex_4 ex_7 ex_8 ex_12 ex_16; first | (rw [three, if_pos (by assumption)]; done) | (rw [three, if_neg (by assumption), show sgn (all3 J r k (upr J r i j)) = 1 from if_pos (by assumption)]; first | (rw [if_pos ⟨Int64.not_lt.mpr (by assumption), Int64.not_lt.mpr (by assumption), Int64.not_lt.mpr (by assumption)⟩]; rfl) | (rw [if_neg (by rintro ⟨q1, q2, q3⟩; first | exact q1 (by assumption) | exact q2 (by assumption) | exact q3 (by assumption))]; done)) | (rw [three, if_neg (by assumption), show sgn (all3 J r k (upr J r i j)) = -1 from if_neg (by assumption)]; first | (rw [if_pos ⟨Int64.not_lt.mpr (by assumption), Int64.not_lt.mpr (by assumption), Int64.not_lt.mpr (by assumption)⟩]; rfl) | (rw [if_neg (by rintro ⟨q1, q2, q3⟩; first | exact q1 (by assumption) | exact q2 (by assumption) | exact q3 (by assumption))]; done))) d_Md_byThree_240
          · -- 199 -> 202
            have c_19 := gm_lltf c_19
            refine lv_aload_n C.1 C.2.1 d_Md_byThree_202 rfl (lv_at hl 5 rfl) ?_
            refine lv_lload C.1 C.2.1 d_Md_byThree_203 (lv_at hl 1 rfl) ?_
            refine lv_aload_n C.1 C.2.1 d_Md_byThree_205 rfl (lv_at hl 5 rfl) ?_
            refine gg_r C hh (Md_0 hM) rfl in_Md 19 (by decide) rfl tw_584 rfl d_Md_byThree_206 ?_
            refine lv_iload_n C.1 C.2.1 d_Md_byThree_209 rfl (lv_at hl 6 rfl) ?_
            refine ga_l C hh (Md_15 hM) (k := i) rfl (by omega) (by omega) d_Md_byThree_210 ?_
            refine gm_eql (y := J (r + 15) i) (by exact lsJ_o J (by omega)) ?_
            refine lv_lmul C.1 C.2.1 d_Md_byThree_211 ?_
            refine lv_lload C.1 C.2.1 d_Md_byThree_212 (lv_at hl 0 rfl) ?_
            refine lv_aload_n C.1 C.2.1 d_Md_byThree_214 rfl (lv_at hl 5 rfl) ?_
            refine gg_r C hh (Md_0 hM) rfl in_Md 19 (by decide) rfl tw_584 rfl d_Md_byThree_215 ?_
            refine lv_iload_n C.1 C.2.1 d_Md_byThree_218 rfl (lv_at hl 7 rfl) ?_
            refine ga_l C hh (Md_15 hM) (k := j) rfl (by omega) (by omega) d_Md_byThree_219 ?_
            refine gm_eql (y := J (r + 15) j) (by exact lsJ_o J (by omega)) ?_
            refine lv_lmul C.1 C.2.1 d_Md_byThree_220 ?_
            refine lv_ladd C.1 C.2.1 d_Md_byThree_221 ?_
            refine lv_lload C.1 C.2.1 d_Md_byThree_222 (lv_at hl 2 rfl) ?_
            refine lv_aload_n C.1 C.2.1 d_Md_byThree_224 rfl (lv_at hl 5 rfl) ?_
            refine gg_r C hh (Md_0 hM) rfl in_Md 19 (by decide) rfl tw_584 rfl d_Md_byThree_225 ?_
            refine lv_iload_n C.1 C.2.1 d_Md_byThree_228 rfl (lv_at hl 8 rfl) ?_
            refine ga_l C hh (Md_15 hM) (k := k) rfl (by omega) (by omega) d_Md_byThree_229 ?_
            refine gm_eql (y := J (r + 15) k) (by exact lsJ_o J (by omega)) ?_
            refine lv_lmul C.1 C.2.1 d_Md_byThree_230 ?_
            refine lv_ladd C.1 C.2.1 d_Md_byThree_231 ?_
            refine lv_lload C.1 C.2.1 d_Md_byThree_232 (lv_at hl 3 rfl) ?_
            refine lv_lload C.1 C.2.1 d_Md_byThree_234 (lv_at hl 4 rfl) ?_
            refine lv_lmul C.1 C.2.1 d_Md_byThree_236 ?_
            refine gc_v hh (gc_runV (As := [.long (((x_12 * (J (r + 15) i)) + (x_16 * (J (r + 15) j))) + (x_8 * (J (r + 15) k))), .long (x_7 * x_4)]) (rest := []) (n := 2) C hml hh (c_Md_bears l D cs sh sz (lsI I r s.1) (lsJ J r s.2.1 s.2.2 (upr J r k i)) r hM (((x_12 * (J (r + 15) i)) + (x_16 * (J (r + 15) j))) + (x_8 * (J (r + 15) k))) (x_7 * x_4)) (tg_V tw_762 tw_764 tw_36 tw_64 tw_765) (by decide +kernel) ⟨rfl, rfl, by decide, by decide, Nat.zero_le _, Nat.zero_le _⟩ (Md_0 hM) rfl rfl hl.1 rfl (Nat.le_of_ble_eq_true rfl) d_Md_byThree_237) (fun I_21 J_22 H locs hr_20 hh => ?_)
            rw [bears_ls] at hr_20
            rw [(Prod.mk.inj hr_20).1, (Prod.mk.inj hr_20).2] at hh
            exact gr_v C hlk hret hh (by refine ⟨(upr J r k i), ?_⟩; subst ex_4 ex_7 ex_8 ex_12 ex_16; first | (rw [three, if_pos (by assumption)]; done) | (rw [three, if_neg (by assumption), show sgn (all3 J r k (upr J r i j)) = 1 from if_pos (by assumption)]; first | (rw [if_pos ⟨Int64.not_lt.mpr (by assumption), Int64.not_lt.mpr (by assumption), Int64.not_lt.mpr (by assumption)⟩]; rfl) | (rw [if_neg (by rintro ⟨q1, q2, q3⟩; first | exact q1 (by assumption) | exact q2 (by assumption) | exact q3 (by assumption))]; done)) | (rw [three, if_neg (by assumption), show sgn (all3 J r k (upr J r i j)) = -1 from if_neg (by assumption)]; first | (rw [if_pos ⟨Int64.not_lt.mpr (by assumption), Int64.not_lt.mpr (by assumption), Int64.not_lt.mpr (by assumption)⟩]; rfl) | (rw [if_neg (by rintro ⟨q1, q2, q3⟩; first | exact q1 (by assumption) | exact q2 (by assumption) | exact q3 (by assumption))]; done))) d_Md_byThree_240
    · -- 55 -> 58
      have c_6 := gm_llef c_6
      refine lv_lconst (v := 1) C.1 C.2.1 d_Md_byThree_58 rfl ?_
      refine lv_goto (tgt := 65) C.1 C.2.1 d_Md_byThree_59 (by decide) ?_
      refine lv_topl (fun x_23 ex_23 => ?_)
      refine lv_lstore (lv' := [(6, .long x_23), (4, .long x_4), (0, .ref r), (1, .int (nI i)), (2, .int (nI j)), (3, .int (nI k))]) C.1 C.2.1 d_Md_byThree_65 hl (by decide) rfl (fun ls hl => ?_)
      refine lv_lload C.1 C.2.1 d_Md_byThree_67 (lv_at hl 0 rfl) ?_
      refine lv_aload_n C.1 C.2.1 d_Md_byThree_69 rfl (lv_at hl 2 rfl) ?_
      refine gg_l C hh (Md_0 hM) rfl in_Md 26 (by decide) rfl tw_591 rfl d_Md_byThree_70 ?_
      refine gm_eql (y := (upr J r i j).1) (by simp [lsJ, gm_up]) ?_
      refine lv_aload_n C.1 C.2.1 d_Md_byThree_73 rfl (lv_at hl 2 rfl) ?_
      refine gg_l C hh (Md_0 hM) rfl in_Md 23 (by decide) rfl tw_588 rfl d_Md_byThree_74 ?_
      refine gm_eql (y := J r 23) (by exact lsJ_o J (by omega)) ?_
      refine lv_lmul C.1 C.2.1 d_Md_byThree_77 ?_
      refine lv_aload_n C.1 C.2.1 d_Md_byThree_78 rfl (lv_at hl 2 rfl) ?_
      refine gg_l C hh (Md_0 hM) rfl in_Md 27 (by decide) rfl tw_592 rfl d_Md_byThree_79 ?_
      refine gm_eql (y := (upr J r i j).2.1) (by simp [lsJ, gm_up]) ?_
      refine lv_aload_n C.1 C.2.1 d_Md_byThree_82 rfl (lv_at hl 2 rfl) ?_
      refine gg_l C hh (Md_0 hM) rfl in_Md 24 (by decide) rfl tw_589 rfl d_Md_byThree_83 ?_
      refine gm_eql (y := J r 24) (by exact lsJ_o J (by omega)) ?_
      refine lv_lmul C.1 C.2.1 d_Md_byThree_86 ?_
      refine lv_ladd C.1 C.2.1 d_Md_byThree_87 ?_
      refine lv_aload_n C.1 C.2.1 d_Md_byThree_88 rfl (lv_at hl 2 rfl) ?_
      refine gg_l C hh (Md_0 hM) rfl in_Md 28 (by decide) rfl tw_593 rfl d_Md_byThree_89 ?_
      refine gm_eql (y := (upr J r i j).2.2) (by simp [lsJ, gm_up]) ?_
      refine lv_aload_n C.1 C.2.1 d_Md_byThree_92 rfl (lv_at hl 2 rfl) ?_
      refine gg_l C hh (Md_0 hM) rfl in_Md 25 (by decide) rfl tw_590 rfl d_Md_byThree_93 ?_
      refine gm_eql (y := J r 25) (by exact lsJ_o J (by omega)) ?_
      refine lv_lmul C.1 C.2.1 d_Md_byThree_96 ?_
      refine lv_ladd C.1 C.2.1 d_Md_byThree_97 ?_
      refine lv_lmul C.1 C.2.1 d_Md_byThree_98 ?_
      refine lv_topl (fun x_24 ex_24 => ?_)
      refine lv_lstore (lv' := [(8, .long x_24), (6, .long x_23), (4, .long x_4), (0, .ref r), (1, .int (nI i)), (2, .int (nI j)), (3, .int (nI k))]) C.1 C.2.1 d_Md_byThree_99 hl (by decide) rfl (fun ls hl => ?_)
      refine lv_aload_n C.1 C.2.1 d_Md_byThree_101 rfl (lv_at hl 3 rfl) ?_
      refine lv_iload_n C.1 C.2.1 d_Md_byThree_102 rfl (lv_at hl 5 rfl) ?_
      refine lv_iload_n C.1 C.2.1 d_Md_byThree_103 rfl (lv_at hl 6 rfl) ?_
      refine gc_v hh (gc_runV (As := [.int (nI j), .int (nI k)]) (rest := []) (n := 2) C hml hh (c_Md_upright l D cs sh sz (lsI I r s.1) (lsJ J r s.2.1 s.2.2 (upr J r i j)) r hM j k (by omega) (by omega)) (tg_V tw_774 tw_776 tw_39 tw_64 tw_777) (by decide +kernel) ⟨rfl, rfl, by decide, by decide, Nat.zero_le _, Nat.zero_le _⟩ (Md_0 hM) rfl rfl hl.1 rfl (Nat.le_of_ble_eq_true rfl) d_Md_byThree_104) (fun I_26 J_27 H locs hr_25 hh => ?_)
      rw [upr_ls] at hr_25
      rw [(Prod.mk.inj hr_25).1, (Prod.mk.inj hr_25).2] at hh
      refine lv_lload C.1 C.2.1 d_Md_byThree_107 (lv_at hl 1 rfl) ?_
      refine lv_aload_n C.1 C.2.1 d_Md_byThree_109 rfl (lv_at hl 3 rfl) ?_
      refine gg_l C hh (Md_0 hM) rfl in_Md 26 (by decide) rfl tw_591 rfl d_Md_byThree_110 ?_
      refine gm_eql (y := (upr J r j k).1) (by simp [lsJ, gm_up]) ?_
      refine lv_aload_n C.1 C.2.1 d_Md_byThree_113 rfl (lv_at hl 3 rfl) ?_
      refine gg_l C hh (Md_0 hM) rfl in_Md 23 (by decide) rfl tw_588 rfl d_Md_byThree_114 ?_
      refine gm_eql (y := J r 23) (by exact lsJ_o J (by omega)) ?_
      refine lv_lmul C.1 C.2.1 d_Md_byThree_117 ?_
      refine lv_aload_n C.1 C.2.1 d_Md_byThree_118 rfl (lv_at hl 3 rfl) ?_
      refine gg_l C hh (Md_0 hM) rfl in_Md 27 (by decide) rfl tw_592 rfl d_Md_byThree_119 ?_
      refine gm_eql (y := (upr J r j k).2.1) (by simp [lsJ, gm_up]) ?_
      refine lv_aload_n C.1 C.2.1 d_Md_byThree_122 rfl (lv_at hl 3 rfl) ?_
      refine gg_l C hh (Md_0 hM) rfl in_Md 24 (by decide) rfl tw_589 rfl d_Md_byThree_123 ?_
      refine gm_eql (y := J r 24) (by exact lsJ_o J (by omega)) ?_
      refine lv_lmul C.1 C.2.1 d_Md_byThree_126 ?_
      refine lv_ladd C.1 C.2.1 d_Md_byThree_127 ?_
      refine lv_aload_n C.1 C.2.1 d_Md_byThree_128 rfl (lv_at hl 3 rfl) ?_
      refine gg_l C hh (Md_0 hM) rfl in_Md 28 (by decide) rfl tw_593 rfl d_Md_byThree_129 ?_
      refine gm_eql (y := (upr J r j k).2.2) (by simp [lsJ, gm_up]) ?_
      refine lv_aload_n C.1 C.2.1 d_Md_byThree_132 rfl (lv_at hl 3 rfl) ?_
      refine gg_l C hh (Md_0 hM) rfl in_Md 25 (by decide) rfl tw_590 rfl d_Md_byThree_133 ?_
      refine gm_eql (y := J r 25) (by exact lsJ_o J (by omega)) ?_
      refine lv_lmul C.1 C.2.1 d_Md_byThree_136 ?_
      refine lv_ladd C.1 C.2.1 d_Md_byThree_137 ?_
      refine lv_lmul C.1 C.2.1 d_Md_byThree_138 ?_
      refine lv_topl (fun x_28 ex_28 => ?_)
      refine lv_lstore (lv' := [(10, .long x_28), (8, .long x_24), (6, .long x_23), (4, .long x_4), (0, .ref r), (1, .int (nI i)), (2, .int (nI j)), (3, .int (nI k))]) C.1 C.2.1 d_Md_byThree_139 hl (by decide) rfl (fun ls hl => ?_)
      refine lv_aload_n C.1 C.2.1 d_Md_byThree_141 rfl (lv_at hl 4 rfl) ?_
      refine lv_iload_n C.1 C.2.1 d_Md_byThree_142 rfl (lv_at hl 7 rfl) ?_
      refine lv_iload_n C.1 C.2.1 d_Md_byThree_143 rfl (lv_at hl 5 rfl) ?_
      refine gc_v hh (gc_runV (As := [.int (nI k), .int (nI i)]) (rest := []) (n := 2) C hml hh (c_Md_upright l D cs sh sz (lsI I r s.1) (lsJ J r s.2.1 s.2.2 (upr J r j k)) r hM k i (by omega) (by omega)) (tg_V tw_774 tw_776 tw_39 tw_64 tw_777) (by decide +kernel) ⟨rfl, rfl, by decide, by decide, Nat.zero_le _, Nat.zero_le _⟩ (Md_0 hM) rfl rfl hl.1 rfl (Nat.le_of_ble_eq_true rfl) d_Md_byThree_144) (fun I_30 J_31 H locs hr_29 hh => ?_)
      rw [upr_ls] at hr_29
      rw [(Prod.mk.inj hr_29).1, (Prod.mk.inj hr_29).2] at hh
      refine lv_lload C.1 C.2.1 d_Md_byThree_147 (lv_at hl 2 rfl) ?_
      refine lv_aload_n C.1 C.2.1 d_Md_byThree_149 rfl (lv_at hl 4 rfl) ?_
      refine gg_l C hh (Md_0 hM) rfl in_Md 26 (by decide) rfl tw_591 rfl d_Md_byThree_150 ?_
      refine gm_eql (y := (upr J r k i).1) (by simp [lsJ, gm_up]) ?_
      refine lv_aload_n C.1 C.2.1 d_Md_byThree_153 rfl (lv_at hl 4 rfl) ?_
      refine gg_l C hh (Md_0 hM) rfl in_Md 23 (by decide) rfl tw_588 rfl d_Md_byThree_154 ?_
      refine gm_eql (y := J r 23) (by exact lsJ_o J (by omega)) ?_
      refine lv_lmul C.1 C.2.1 d_Md_byThree_157 ?_
      refine lv_aload_n C.1 C.2.1 d_Md_byThree_158 rfl (lv_at hl 4 rfl) ?_
      refine gg_l C hh (Md_0 hM) rfl in_Md 27 (by decide) rfl tw_592 rfl d_Md_byThree_159 ?_
      refine gm_eql (y := (upr J r k i).2.1) (by simp [lsJ, gm_up]) ?_
      refine lv_aload_n C.1 C.2.1 d_Md_byThree_162 rfl (lv_at hl 4 rfl) ?_
      refine gg_l C hh (Md_0 hM) rfl in_Md 24 (by decide) rfl tw_589 rfl d_Md_byThree_163 ?_
      refine gm_eql (y := J r 24) (by exact lsJ_o J (by omega)) ?_
      refine lv_lmul C.1 C.2.1 d_Md_byThree_166 ?_
      refine lv_ladd C.1 C.2.1 d_Md_byThree_167 ?_
      refine lv_aload_n C.1 C.2.1 d_Md_byThree_168 rfl (lv_at hl 4 rfl) ?_
      refine gg_l C hh (Md_0 hM) rfl in_Md 28 (by decide) rfl tw_593 rfl d_Md_byThree_169 ?_
      refine gm_eql (y := (upr J r k i).2.2) (by simp [lsJ, gm_up]) ?_
      refine lv_aload_n C.1 C.2.1 d_Md_byThree_172 rfl (lv_at hl 4 rfl) ?_
      refine gg_l C hh (Md_0 hM) rfl in_Md 25 (by decide) rfl tw_590 rfl d_Md_byThree_173 ?_
      refine gm_eql (y := J r 25) (by exact lsJ_o J (by omega)) ?_
      refine lv_lmul C.1 C.2.1 d_Md_byThree_176 ?_
      refine lv_ladd C.1 C.2.1 d_Md_byThree_177 ?_
      refine lv_lmul C.1 C.2.1 d_Md_byThree_178 ?_
      refine lv_topl (fun x_32 ex_32 => ?_)
      refine lv_lstore (lv' := [(12, .long x_32), (10, .long x_28), (8, .long x_24), (6, .long x_23), (4, .long x_4), (0, .ref r), (1, .int (nI i)), (2, .int (nI j)), (3, .int (nI k))]) C.1 C.2.1 d_Md_byThree_179 hl (by decide) rfl (fun ls hl => ?_)
      refine lv_lload C.1 C.2.1 d_Md_byThree_181 (lv_at hl 1 rfl) ?_
      refine lv_lconst (v := 0) C.1 C.2.1 d_Md_byThree_183 rfl ?_
      refine W.lcmp C.1 C.2.1 d_Md_byThree_184 ?_
      refine lv_if_lt (tgt := 240) C.1 C.2.1 d_Md_byThree_185 (by decide) (fun c_33 => ?_) (fun c_33 => ?_)
      · -- 185 -> 240
        have c_33 := gm_lltt c_33
        exact gr_v C hlk hret hh (by refine ⟨(upr J r k i), ?_⟩; subst ex_4 ex_23 ex_24 ex_28 ex_32; first | (rw [three, if_pos (by assumption)]; done) | (rw [three, if_neg (by assumption), show sgn (all3 J r k (upr J r i j)) = 1 from if_pos (by assumption)]; first | (rw [if_pos ⟨Int64.not_lt.mpr (by assumption), Int64.not_lt.mpr (by assumption), Int64.not_lt.mpr (by assumption)⟩]; rfl) | (rw [if_neg (by rintro ⟨q1, q2, q3⟩; first | exact q1 (by assumption) | exact q2 (by assumption) | exact q3 (by assumption))]; done)) | (rw [three, if_neg (by assumption), show sgn (all3 J r k (upr J r i j)) = -1 from if_neg (by assumption)]; first | (rw [if_pos ⟨Int64.not_lt.mpr (by assumption), Int64.not_lt.mpr (by assumption), Int64.not_lt.mpr (by assumption)⟩]; rfl) | (rw [if_neg (by rintro ⟨q1, q2, q3⟩; first | exact q1 (by assumption) | exact q2 (by assumption) | exact q3 (by assumption))]; done))) d_Md_byThree_240
      · -- 185 -> 188
        have c_33 := gm_lltf c_33
        refine lv_lload C.1 C.2.1 d_Md_byThree_188 (lv_at hl 0 rfl) ?_
        refine lv_lconst (v := 0) C.1 C.2.1 d_Md_byThree_190 rfl ?_
        refine W.lcmp C.1 C.2.1 d_Md_byThree_191 ?_
        refine lv_if_lt (tgt := 240) C.1 C.2.1 d_Md_byThree_192 (by decide) (fun c_34 => ?_) (fun c_34 => ?_)
        · -- 192 -> 240
          have c_34 := gm_lltt c_34
          exact gr_v C hlk hret hh (by refine ⟨(upr J r k i), ?_⟩; subst ex_4 ex_23 ex_24 ex_28 ex_32; first | (rw [three, if_pos (by assumption)]; done) | (rw [three, if_neg (by assumption), show sgn (all3 J r k (upr J r i j)) = 1 from if_pos (by assumption)]; first | (rw [if_pos ⟨Int64.not_lt.mpr (by assumption), Int64.not_lt.mpr (by assumption), Int64.not_lt.mpr (by assumption)⟩]; rfl) | (rw [if_neg (by rintro ⟨q1, q2, q3⟩; first | exact q1 (by assumption) | exact q2 (by assumption) | exact q3 (by assumption))]; done)) | (rw [three, if_neg (by assumption), show sgn (all3 J r k (upr J r i j)) = -1 from if_neg (by assumption)]; first | (rw [if_pos ⟨Int64.not_lt.mpr (by assumption), Int64.not_lt.mpr (by assumption), Int64.not_lt.mpr (by assumption)⟩]; rfl) | (rw [if_neg (by rintro ⟨q1, q2, q3⟩; first | exact q1 (by assumption) | exact q2 (by assumption) | exact q3 (by assumption))]; done))) d_Md_byThree_240
        · -- 192 -> 195
          have c_34 := gm_lltf c_34
          refine lv_lload C.1 C.2.1 d_Md_byThree_195 (lv_at hl 2 rfl) ?_
          refine lv_lconst (v := 0) C.1 C.2.1 d_Md_byThree_197 rfl ?_
          refine W.lcmp C.1 C.2.1 d_Md_byThree_198 ?_
          refine lv_if_lt (tgt := 240) C.1 C.2.1 d_Md_byThree_199 (by decide) (fun c_35 => ?_) (fun c_35 => ?_)
          · -- 199 -> 240
            have c_35 := gm_lltt c_35
            exact gr_v C hlk hret hh (by refine ⟨(upr J r k i), ?_⟩; subst ex_4 ex_23 ex_24 ex_28 ex_32; first | (rw [three, if_pos (by assumption)]; done) | (rw [three, if_neg (by assumption), show sgn (all3 J r k (upr J r i j)) = 1 from if_pos (by assumption)]; first | (rw [if_pos ⟨Int64.not_lt.mpr (by assumption), Int64.not_lt.mpr (by assumption), Int64.not_lt.mpr (by assumption)⟩]; rfl) | (rw [if_neg (by rintro ⟨q1, q2, q3⟩; first | exact q1 (by assumption) | exact q2 (by assumption) | exact q3 (by assumption))]; done)) | (rw [three, if_neg (by assumption), show sgn (all3 J r k (upr J r i j)) = -1 from if_neg (by assumption)]; first | (rw [if_pos ⟨Int64.not_lt.mpr (by assumption), Int64.not_lt.mpr (by assumption), Int64.not_lt.mpr (by assumption)⟩]; rfl) | (rw [if_neg (by rintro ⟨q1, q2, q3⟩; first | exact q1 (by assumption) | exact q2 (by assumption) | exact q3 (by assumption))]; done))) d_Md_byThree_240
          · -- 199 -> 202
            have c_35 := gm_lltf c_35
            refine lv_aload_n C.1 C.2.1 d_Md_byThree_202 rfl (lv_at hl 5 rfl) ?_
            refine lv_lload C.1 C.2.1 d_Md_byThree_203 (lv_at hl 1 rfl) ?_
            refine lv_aload_n C.1 C.2.1 d_Md_byThree_205 rfl (lv_at hl 5 rfl) ?_
            refine gg_r C hh (Md_0 hM) rfl in_Md 19 (by decide) rfl tw_584 rfl d_Md_byThree_206 ?_
            refine lv_iload_n C.1 C.2.1 d_Md_byThree_209 rfl (lv_at hl 6 rfl) ?_
            refine ga_l C hh (Md_15 hM) (k := i) rfl (by omega) (by omega) d_Md_byThree_210 ?_
            refine gm_eql (y := J (r + 15) i) (by exact lsJ_o J (by omega)) ?_
            refine lv_lmul C.1 C.2.1 d_Md_byThree_211 ?_
            refine lv_lload C.1 C.2.1 d_Md_byThree_212 (lv_at hl 0 rfl) ?_
            refine lv_aload_n C.1 C.2.1 d_Md_byThree_214 rfl (lv_at hl 5 rfl) ?_
            refine gg_r C hh (Md_0 hM) rfl in_Md 19 (by decide) rfl tw_584 rfl d_Md_byThree_215 ?_
            refine lv_iload_n C.1 C.2.1 d_Md_byThree_218 rfl (lv_at hl 7 rfl) ?_
            refine ga_l C hh (Md_15 hM) (k := j) rfl (by omega) (by omega) d_Md_byThree_219 ?_
            refine gm_eql (y := J (r + 15) j) (by exact lsJ_o J (by omega)) ?_
            refine lv_lmul C.1 C.2.1 d_Md_byThree_220 ?_
            refine lv_ladd C.1 C.2.1 d_Md_byThree_221 ?_
            refine lv_lload C.1 C.2.1 d_Md_byThree_222 (lv_at hl 2 rfl) ?_
            refine lv_aload_n C.1 C.2.1 d_Md_byThree_224 rfl (lv_at hl 5 rfl) ?_
            refine gg_r C hh (Md_0 hM) rfl in_Md 19 (by decide) rfl tw_584 rfl d_Md_byThree_225 ?_
            refine lv_iload_n C.1 C.2.1 d_Md_byThree_228 rfl (lv_at hl 8 rfl) ?_
            refine ga_l C hh (Md_15 hM) (k := k) rfl (by omega) (by omega) d_Md_byThree_229 ?_
            refine gm_eql (y := J (r + 15) k) (by exact lsJ_o J (by omega)) ?_
            refine lv_lmul C.1 C.2.1 d_Md_byThree_230 ?_
            refine lv_ladd C.1 C.2.1 d_Md_byThree_231 ?_
            refine lv_lload C.1 C.2.1 d_Md_byThree_232 (lv_at hl 3 rfl) ?_
            refine lv_lload C.1 C.2.1 d_Md_byThree_234 (lv_at hl 4 rfl) ?_
            refine lv_lmul C.1 C.2.1 d_Md_byThree_236 ?_
            refine gc_v hh (gc_runV (As := [.long (((x_28 * (J (r + 15) i)) + (x_32 * (J (r + 15) j))) + (x_24 * (J (r + 15) k))), .long (x_23 * x_4)]) (rest := []) (n := 2) C hml hh (c_Md_bears l D cs sh sz (lsI I r s.1) (lsJ J r s.2.1 s.2.2 (upr J r k i)) r hM (((x_28 * (J (r + 15) i)) + (x_32 * (J (r + 15) j))) + (x_24 * (J (r + 15) k))) (x_23 * x_4)) (tg_V tw_762 tw_764 tw_36 tw_64 tw_765) (by decide +kernel) ⟨rfl, rfl, by decide, by decide, Nat.zero_le _, Nat.zero_le _⟩ (Md_0 hM) rfl rfl hl.1 rfl (Nat.le_of_ble_eq_true rfl) d_Md_byThree_237) (fun I_37 J_38 H locs hr_36 hh => ?_)
            rw [bears_ls] at hr_36
            rw [(Prod.mk.inj hr_36).1, (Prod.mk.inj hr_36).2] at hh
            exact gr_v C hlk hret hh (by refine ⟨(upr J r k i), ?_⟩; subst ex_4 ex_23 ex_24 ex_28 ex_32; first | (rw [three, if_pos (by assumption)]; done) | (rw [three, if_neg (by assumption), show sgn (all3 J r k (upr J r i j)) = 1 from if_pos (by assumption)]; first | (rw [if_pos ⟨Int64.not_lt.mpr (by assumption), Int64.not_lt.mpr (by assumption), Int64.not_lt.mpr (by assumption)⟩]; rfl) | (rw [if_neg (by rintro ⟨q1, q2, q3⟩; first | exact q1 (by assumption) | exact q2 (by assumption) | exact q3 (by assumption))]; done)) | (rw [three, if_neg (by assumption), show sgn (all3 J r k (upr J r i j)) = -1 from if_neg (by assumption)]; first | (rw [if_pos ⟨Int64.not_lt.mpr (by assumption), Int64.not_lt.mpr (by assumption), Int64.not_lt.mpr (by assumption)⟩]; rfl) | (rw [if_neg (by rintro ⟨q1, q2, q3⟩; first | exact q1 (by assumption) | exact q2 (by assumption) | exact q3 (by assumption))]; done))) d_Md_byThree_240
  · -- 47 -> 50
    have c_5 := gm_lnef c_5
    exact gr_v C hlk hret hh (by refine ⟨(upr J r i j), ?_⟩; subst ex_4; first | (rw [three, if_pos (by assumption)]; done) | (rw [three, if_neg (by assumption), show sgn (all3 J r k (upr J r i j)) = 1 from if_pos (by assumption)]; first | (rw [if_pos ⟨Int64.not_lt.mpr (by assumption), Int64.not_lt.mpr (by assumption), Int64.not_lt.mpr (by assumption)⟩]; rfl) | (rw [if_neg (by rintro ⟨q1, q2, q3⟩; first | exact q1 (by assumption) | exact q2 (by assumption) | exact q3 (by assumption))]; done)) | (rw [three, if_neg (by assumption), show sgn (all3 J r k (upr J r i j)) = -1 from if_neg (by assumption)]; first | (rw [if_pos ⟨Int64.not_lt.mpr (by assumption), Int64.not_lt.mpr (by assumption), Int64.not_lt.mpr (by assumption)⟩]; rfl) | (rw [if_neg (by rintro ⟨q1, q2, q3⟩; first | exact q1 (by assumption) | exact q2 (by assumption) | exact q3 (by assumption))]; done))) d_Md_byThree_50
