set_option maxHeartbeats 4000000 in
set_option maxRecDepth 100000 in
theorem c_Md_way (l : Launch) (D : va_G) (cs : Nat → ClassId) (sh : gm_H) (sz : Nat) (I : gm_I) (J : gm_J) (r : Nat) (hM : is_Md sh r) (hV : inv_Md I r) (v : Int32) : CI l y_Md_way w_Md_way { frames := 2, cells := 0, slots := 0, locals := 43 } D cs sh sz I J [.ref r, .int v] (fun z u => (z, u) = sp_way I J r v) := by
  refine gm_start (by decide) (Nat.le_of_ble_eq_true rfl) ?_
  intro p' e' s' m' be' me' co' ls C hml hlk hret hh hl
  have hl : lv_has ls 4 [(0, .ref r), (1, .int v)] := hl
  refine lv_aload_n C.1 C.2.1 d_Md_way_0 rfl (lv_at hl 0 rfl) ?_
  refine lv_iload_n C.1 C.2.1 d_Md_way_1 rfl (lv_at hl 1 rfl) ?_
  refine gc_i hh (gc_runV (As := [.int v]) (rest := []) (n := 1) C hml hh (c_Md_isLoop l D cs sh sz I J r hM hV v) (tg_V tw_695 tw_697 tw_26 tw_64 tw_698) (by decide +kernel) ⟨rfl, rfl, by decide, by decide, Nat.zero_le _, Nat.zero_le _⟩ (Md_0 hM) rfl rfl hl.1 rfl (Nat.le_of_ble_eq_true rfl) d_Md_way_2) (fun r_1 I_2 J_3 H locs hr_1 hh => ?_)
  obtain ⟨e_r_1, hr_1⟩ := hr_1
  rw [(Prod.mk.inj e_r_1).1, (Prod.mk.inj e_r_1).2] at hh
  refine lv_if_ne (tgt := 11) C.1 C.2.1 d_Md_way_5 (by decide) (fun c_4 => ?_) (fun c_4 => ?_)
  · -- 5 -> 11
    have b_5 := bI_t hr_1 c_4
    obtain ⟨n_7, hn_7, en_7⟩ := hV.1
    obtain ⟨j_6, hj_6, ej_6⟩ := lpB_j en_7 hn_7 b_5
    subst ej_6
    skip
    refine lv_aload_n C.1 C.2.1 d_Md_way_11 rfl (lv_at hl 0 rfl) ?_
    refine gg_r C hh (Md_0 hM) rfl in_Md 2 (by decide) rfl tw_567 rfl d_Md_way_12 ?_
    refine lv_iload_n C.1 C.2.1 d_Md_way_15 rfl (lv_at hl 1 rfl) ?_
    refine ga_i C hh (Md_2 hM) (k := j_6) rfl (by omega) (by omega) d_Md_way_16 ?_
    obtain ⟨g_8, hg_8, eg_8⟩ := hV.2.2.1 j_6 (by omega)
    refine gm_eqi eg_8 ?_
    refine lv_iconst (v := nI 3) C.1 C.2.1 d_Md_way_17 rfl ?_
    refine lv_icmp_ne (tgt := 24) C.1 C.2.1 d_Md_way_18 (by decide) (fun c_9 => ?_) (fun c_9 => ?_)
    · -- 18 -> 24
      have c_9 := gm_net (by omega) (by omega) c_9
      refine lv_iconst (v := nI 3) C.1 C.2.1 d_Md_way_24 rfl ?_
      refine lv_iload_n C.1 C.2.1 d_Md_way_25 rfl (lv_at hl 1 rfl) ?_
      refine lv_imul C.1 C.2.1 d_Md_way_26 ?_
      refine gm_eqi (pk_mul _ _) ?_
      refine lv_aload_n C.1 C.2.1 d_Md_way_27 rfl (lv_at hl 0 rfl) ?_
      refine gg_r C hh (Md_0 hM) rfl in_Md 2 (by decide) rfl tw_567 rfl d_Md_way_28 ?_
      refine lv_iload_n C.1 C.2.1 d_Md_way_31 rfl (lv_at hl 1 rfl) ?_
      refine ga_i C hh (Md_2 hM) (k := j_6) rfl (by omega) (by omega) d_Md_way_32 ?_
      refine gm_eqi eg_8 ?_
      refine lv_iadd C.1 C.2.1 d_Md_way_33 ?_
      refine gm_eqi (nI_add _ _) ?_
      refine lv_istore_n (lv' := [(2, .int (nI ((3 * j_6) + g_8))), (0, .ref r), (1, .int (nI j_6))]) C.1 C.2.1 d_Md_way_34 rfl hl (by decide) rfl (fun ls hl => ?_)
      refine lv_aload_n C.1 C.2.1 d_Md_way_35 rfl (lv_at hl 1 rfl) ?_
      refine gg_r C hh (Md_0 hM) rfl in_Md 5 (by decide) rfl tw_570 rfl d_Md_way_36 ?_
      refine lv_iload_n C.1 C.2.1 d_Md_way_39 rfl (lv_at hl 0 rfl) ?_
      refine lv_iconst (v := nI 0) C.1 C.2.1 d_Md_way_40 rfl ?_
      refine gs_i C hh (Md_5 hM) (k := (3 * j_6) + g_8) rfl (by omega) (by omega) d_Md_way_41 (fun H locs hh => ?_)
      obtain ⟨I_10, eI_10⟩ : ∃ z : gm_I, z = gm_up I (r + 5) ((3 * j_6) + g_8) (nI 0) := ⟨_, rfl⟩
      rw [← eI_10] at hh
      refine lv_iconst (v := nI 0) C.1 C.2.1 d_Md_way_42 rfl ?_
      refine lv_istore_n (lv' := [(3, .int (nI 0)), (2, .int (nI ((3 * j_6) + g_8))), (0, .ref r), (1, .int (nI j_6))]) C.1 C.2.1 d_Md_way_43 rfl hl (by decide) rfl (fun ls hl => ?_)
      refine lv_iload_n C.1 C.2.1 d_Md_way_44 rfl (lv_at hl 0 rfl) ?_
      refine lv_bipush (v := nI 9) C.1 C.2.1 d_Md_way_45 rfl ?_
      refine lv_icmp_ge (tgt := 78) C.1 C.2.1 d_Md_way_47 (by decide) (fun c_ => absurd c_ (by decide)) (fun c_ => ?_)
      refine lv_aload_n C.1 C.2.1 d_Md_way_50 rfl (lv_at hl 2 rfl) ?_
      refine gg_r C hh (Md_0 hM) rfl in_Md 7 (by decide) rfl tw_572 rfl d_Md_way_51 ?_
      refine lv_bipush (v := nI 9) C.1 C.2.1 d_Md_way_54 rfl ?_
      refine lv_iload_n C.1 C.2.1 d_Md_way_56 rfl (lv_at hl 1 rfl) ?_
      refine lv_imul C.1 C.2.1 d_Md_way_57 ?_
      refine gm_eqi (pk_mul _ _) ?_
      refine lv_iload_n C.1 C.2.1 d_Md_way_58 rfl (lv_at hl 0 rfl) ?_
      refine lv_iadd C.1 C.2.1 d_Md_way_59 ?_
      refine gm_eqi (nI_add _ _) ?_
      refine lv_iload_n C.1 C.2.1 d_Md_way_60 rfl (lv_at hl 0 rfl) ?_
      refine lv_iconst (v := nI 4) C.1 C.2.1 d_Md_way_61 rfl ?_
      refine lv_irem C.1 C.2.1 d_Md_way_62 (by decide) ?_
      refine gm_eqi (y := nI 0) (by decide) ?_
      refine lv_if_ne (tgt := 70) C.1 C.2.1 d_Md_way_63 (by decide) (fun c_ => absurd (by decide) c_) (fun c_ => ?_)
      refine lv_iconst (v := nI 1) C.1 C.2.1 d_Md_way_66 rfl ?_
      refine lv_goto (tgt := 71) C.1 C.2.1 d_Md_way_67 (by decide) ?_
      refine gs_i C hh (Md_7 hM) (k := (9 * ((3 * j_6) + g_8)) + 0) rfl (by omega) (by omega) d_Md_way_71 (fun H locs hh => ?_)
      obtain ⟨I_11, eI_11⟩ : ∃ z : gm_I, z = gm_up I_10 (r + 7) ((9 * ((3 * j_6) + g_8)) + 0) (nI 1) := ⟨_, rfl⟩
      rw [← eI_11] at hh
      refine lv_iinc (v := nI 1) (lv' := [(3, .int (nI 1)), (2, .int (nI ((3 * j_6) + g_8))), (0, .ref r), (1, .int (nI j_6))]) C.1 C.2.1 d_Md_way_72 hl (k := 0) rfl (gm_inc 0 1) (by decide) rfl (fun ls hl => ?_)
      refine lv_goto (tgt := 44) C.1 C.2.1 d_Md_way_75 (by decide) ?_
      refine lv_iload_n C.1 C.2.1 d_Md_way_44 rfl (lv_at hl 0 rfl) ?_
      refine lv_bipush (v := nI 9) C.1 C.2.1 d_Md_way_45 rfl ?_
      refine lv_icmp_ge (tgt := 78) C.1 C.2.1 d_Md_way_47 (by decide) (fun c_ => absurd c_ (by decide)) (fun c_ => ?_)
      refine lv_aload_n C.1 C.2.1 d_Md_way_50 rfl (lv_at hl 2 rfl) ?_
      refine gg_r C hh (Md_0 hM) rfl in_Md 7 (by decide) rfl tw_572 rfl d_Md_way_51 ?_
      refine lv_bipush (v := nI 9) C.1 C.2.1 d_Md_way_54 rfl ?_
      refine lv_iload_n C.1 C.2.1 d_Md_way_56 rfl (lv_at hl 1 rfl) ?_
      refine lv_imul C.1 C.2.1 d_Md_way_57 ?_
      refine gm_eqi (pk_mul _ _) ?_
      refine lv_iload_n C.1 C.2.1 d_Md_way_58 rfl (lv_at hl 0 rfl) ?_
      refine lv_iadd C.1 C.2.1 d_Md_way_59 ?_
      refine gm_eqi (nI_add _ _) ?_
      refine lv_iload_n C.1 C.2.1 d_Md_way_60 rfl (lv_at hl 0 rfl) ?_
      refine lv_iconst (v := nI 4) C.1 C.2.1 d_Md_way_61 rfl ?_
      refine lv_irem C.1 C.2.1 d_Md_way_62 (by decide) ?_
      refine gm_eqi (y := nI 1) (by decide) ?_
      refine lv_if_ne (tgt := 70) C.1 C.2.1 d_Md_way_63 (by decide) (fun c_ => ?_) (fun c_ => absurd c_ (by decide))
      refine lv_iconst (v := nI 0) C.1 C.2.1 d_Md_way_70 rfl ?_
      refine gs_i C hh (Md_7 hM) (k := (9 * ((3 * j_6) + g_8)) + 1) rfl (by omega) (by omega) d_Md_way_71 (fun H locs hh => ?_)
      obtain ⟨I_12, eI_12⟩ : ∃ z : gm_I, z = gm_up I_11 (r + 7) ((9 * ((3 * j_6) + g_8)) + 1) (nI 0) := ⟨_, rfl⟩
      rw [← eI_12] at hh
      refine lv_iinc (v := nI 2) (lv' := [(3, .int (nI 2)), (2, .int (nI ((3 * j_6) + g_8))), (0, .ref r), (1, .int (nI j_6))]) C.1 C.2.1 d_Md_way_72 hl (k := 0) rfl (gm_inc 1 1) (by decide) rfl (fun ls hl => ?_)
      refine lv_goto (tgt := 44) C.1 C.2.1 d_Md_way_75 (by decide) ?_
      refine lv_iload_n C.1 C.2.1 d_Md_way_44 rfl (lv_at hl 0 rfl) ?_
      refine lv_bipush (v := nI 9) C.1 C.2.1 d_Md_way_45 rfl ?_
      refine lv_icmp_ge (tgt := 78) C.1 C.2.1 d_Md_way_47 (by decide) (fun c_ => absurd c_ (by decide)) (fun c_ => ?_)
      refine lv_aload_n C.1 C.2.1 d_Md_way_50 rfl (lv_at hl 2 rfl) ?_
      refine gg_r C hh (Md_0 hM) rfl in_Md 7 (by decide) rfl tw_572 rfl d_Md_way_51 ?_
      refine lv_bipush (v := nI 9) C.1 C.2.1 d_Md_way_54 rfl ?_
      refine lv_iload_n C.1 C.2.1 d_Md_way_56 rfl (lv_at hl 1 rfl) ?_
      refine lv_imul C.1 C.2.1 d_Md_way_57 ?_
      refine gm_eqi (pk_mul _ _) ?_
      refine lv_iload_n C.1 C.2.1 d_Md_way_58 rfl (lv_at hl 0 rfl) ?_
      refine lv_iadd C.1 C.2.1 d_Md_way_59 ?_
      refine gm_eqi (nI_add _ _) ?_
      refine lv_iload_n C.1 C.2.1 d_Md_way_60 rfl (lv_at hl 0 rfl) ?_
      refine lv_iconst (v := nI 4) C.1 C.2.1 d_Md_way_61 rfl ?_
      refine lv_irem C.1 C.2.1 d_Md_way_62 (by decide) ?_
      refine gm_eqi (y := nI 2) (by decide) ?_
      refine lv_if_ne (tgt := 70) C.1 C.2.1 d_Md_way_63 (by decide) (fun c_ => ?_) (fun c_ => absurd c_ (by decide))
      refine lv_iconst (v := nI 0) C.1 C.2.1 d_Md_way_70 rfl ?_
      refine gs_i C hh (Md_7 hM) (k := (9 * ((3 * j_6) + g_8)) + 2) rfl (by omega) (by omega) d_Md_way_71 (fun H locs hh => ?_)
      obtain ⟨I_13, eI_13⟩ : ∃ z : gm_I, z = gm_up I_12 (r + 7) ((9 * ((3 * j_6) + g_8)) + 2) (nI 0) := ⟨_, rfl⟩
      rw [← eI_13] at hh
      refine lv_iinc (v := nI 3) (lv' := [(3, .int (nI 3)), (2, .int (nI ((3 * j_6) + g_8))), (0, .ref r), (1, .int (nI j_6))]) C.1 C.2.1 d_Md_way_72 hl (k := 0) rfl (gm_inc 2 1) (by decide) rfl (fun ls hl => ?_)
      refine lv_goto (tgt := 44) C.1 C.2.1 d_Md_way_75 (by decide) ?_
      refine lv_iload_n C.1 C.2.1 d_Md_way_44 rfl (lv_at hl 0 rfl) ?_
      refine lv_bipush (v := nI 9) C.1 C.2.1 d_Md_way_45 rfl ?_
      refine lv_icmp_ge (tgt := 78) C.1 C.2.1 d_Md_way_47 (by decide) (fun c_ => absurd c_ (by decide)) (fun c_ => ?_)
      refine lv_aload_n C.1 C.2.1 d_Md_way_50 rfl (lv_at hl 2 rfl) ?_
      refine gg_r C hh (Md_0 hM) rfl in_Md 7 (by decide) rfl tw_572 rfl d_Md_way_51 ?_
      refine lv_bipush (v := nI 9) C.1 C.2.1 d_Md_way_54 rfl ?_
      refine lv_iload_n C.1 C.2.1 d_Md_way_56 rfl (lv_at hl 1 rfl) ?_
      refine lv_imul C.1 C.2.1 d_Md_way_57 ?_
      refine gm_eqi (pk_mul _ _) ?_
      refine lv_iload_n C.1 C.2.1 d_Md_way_58 rfl (lv_at hl 0 rfl) ?_
      refine lv_iadd C.1 C.2.1 d_Md_way_59 ?_
      refine gm_eqi (nI_add _ _) ?_
      refine lv_iload_n C.1 C.2.1 d_Md_way_60 rfl (lv_at hl 0 rfl) ?_
      refine lv_iconst (v := nI 4) C.1 C.2.1 d_Md_way_61 rfl ?_
      refine lv_irem C.1 C.2.1 d_Md_way_62 (by decide) ?_
      refine gm_eqi (y := nI 3) (by decide) ?_
      refine lv_if_ne (tgt := 70) C.1 C.2.1 d_Md_way_63 (by decide) (fun c_ => ?_) (fun c_ => absurd c_ (by decide))
      refine lv_iconst (v := nI 0) C.1 C.2.1 d_Md_way_70 rfl ?_
      refine gs_i C hh (Md_7 hM) (k := (9 * ((3 * j_6) + g_8)) + 3) rfl (by omega) (by omega) d_Md_way_71 (fun H locs hh => ?_)
      obtain ⟨I_14, eI_14⟩ : ∃ z : gm_I, z = gm_up I_13 (r + 7) ((9 * ((3 * j_6) + g_8)) + 3) (nI 0) := ⟨_, rfl⟩
      rw [← eI_14] at hh
      refine lv_iinc (v := nI 4) (lv' := [(3, .int (nI 4)), (2, .int (nI ((3 * j_6) + g_8))), (0, .ref r), (1, .int (nI j_6))]) C.1 C.2.1 d_Md_way_72 hl (k := 0) rfl (gm_inc 3 1) (by decide) rfl (fun ls hl => ?_)
      refine lv_goto (tgt := 44) C.1 C.2.1 d_Md_way_75 (by decide) ?_
      refine lv_iload_n C.1 C.2.1 d_Md_way_44 rfl (lv_at hl 0 rfl) ?_
      refine lv_bipush (v := nI 9) C.1 C.2.1 d_Md_way_45 rfl ?_
      refine lv_icmp_ge (tgt := 78) C.1 C.2.1 d_Md_way_47 (by decide) (fun c_ => absurd c_ (by decide)) (fun c_ => ?_)
      refine lv_aload_n C.1 C.2.1 d_Md_way_50 rfl (lv_at hl 2 rfl) ?_
      refine gg_r C hh (Md_0 hM) rfl in_Md 7 (by decide) rfl tw_572 rfl d_Md_way_51 ?_
      refine lv_bipush (v := nI 9) C.1 C.2.1 d_Md_way_54 rfl ?_
      refine lv_iload_n C.1 C.2.1 d_Md_way_56 rfl (lv_at hl 1 rfl) ?_
      refine lv_imul C.1 C.2.1 d_Md_way_57 ?_
      refine gm_eqi (pk_mul _ _) ?_
      refine lv_iload_n C.1 C.2.1 d_Md_way_58 rfl (lv_at hl 0 rfl) ?_
      refine lv_iadd C.1 C.2.1 d_Md_way_59 ?_
      refine gm_eqi (nI_add _ _) ?_
      refine lv_iload_n C.1 C.2.1 d_Md_way_60 rfl (lv_at hl 0 rfl) ?_
      refine lv_iconst (v := nI 4) C.1 C.2.1 d_Md_way_61 rfl ?_
      refine lv_irem C.1 C.2.1 d_Md_way_62 (by decide) ?_
      refine gm_eqi (y := nI 0) (by decide) ?_
      refine lv_if_ne (tgt := 70) C.1 C.2.1 d_Md_way_63 (by decide) (fun c_ => absurd (by decide) c_) (fun c_ => ?_)
      refine lv_iconst (v := nI 1) C.1 C.2.1 d_Md_way_66 rfl ?_
      refine lv_goto (tgt := 71) C.1 C.2.1 d_Md_way_67 (by decide) ?_
      refine gs_i C hh (Md_7 hM) (k := (9 * ((3 * j_6) + g_8)) + 4) rfl (by omega) (by omega) d_Md_way_71 (fun H locs hh => ?_)
      obtain ⟨I_15, eI_15⟩ : ∃ z : gm_I, z = gm_up I_14 (r + 7) ((9 * ((3 * j_6) + g_8)) + 4) (nI 1) := ⟨_, rfl⟩
      rw [← eI_15] at hh
      refine lv_iinc (v := nI 5) (lv' := [(3, .int (nI 5)), (2, .int (nI ((3 * j_6) + g_8))), (0, .ref r), (1, .int (nI j_6))]) C.1 C.2.1 d_Md_way_72 hl (k := 0) rfl (gm_inc 4 1) (by decide) rfl (fun ls hl => ?_)
      refine lv_goto (tgt := 44) C.1 C.2.1 d_Md_way_75 (by decide) ?_
      refine lv_iload_n C.1 C.2.1 d_Md_way_44 rfl (lv_at hl 0 rfl) ?_
      refine lv_bipush (v := nI 9) C.1 C.2.1 d_Md_way_45 rfl ?_
      refine lv_icmp_ge (tgt := 78) C.1 C.2.1 d_Md_way_47 (by decide) (fun c_ => absurd c_ (by decide)) (fun c_ => ?_)
      refine lv_aload_n C.1 C.2.1 d_Md_way_50 rfl (lv_at hl 2 rfl) ?_
      refine gg_r C hh (Md_0 hM) rfl in_Md 7 (by decide) rfl tw_572 rfl d_Md_way_51 ?_
      refine lv_bipush (v := nI 9) C.1 C.2.1 d_Md_way_54 rfl ?_
      refine lv_iload_n C.1 C.2.1 d_Md_way_56 rfl (lv_at hl 1 rfl) ?_
      refine lv_imul C.1 C.2.1 d_Md_way_57 ?_
      refine gm_eqi (pk_mul _ _) ?_
      refine lv_iload_n C.1 C.2.1 d_Md_way_58 rfl (lv_at hl 0 rfl) ?_
      refine lv_iadd C.1 C.2.1 d_Md_way_59 ?_
      refine gm_eqi (nI_add _ _) ?_
      refine lv_iload_n C.1 C.2.1 d_Md_way_60 rfl (lv_at hl 0 rfl) ?_
      refine lv_iconst (v := nI 4) C.1 C.2.1 d_Md_way_61 rfl ?_
      refine lv_irem C.1 C.2.1 d_Md_way_62 (by decide) ?_
      refine gm_eqi (y := nI 1) (by decide) ?_
      refine lv_if_ne (tgt := 70) C.1 C.2.1 d_Md_way_63 (by decide) (fun c_ => ?_) (fun c_ => absurd c_ (by decide))
      refine lv_iconst (v := nI 0) C.1 C.2.1 d_Md_way_70 rfl ?_
      refine gs_i C hh (Md_7 hM) (k := (9 * ((3 * j_6) + g_8)) + 5) rfl (by omega) (by omega) d_Md_way_71 (fun H locs hh => ?_)
      obtain ⟨I_16, eI_16⟩ : ∃ z : gm_I, z = gm_up I_15 (r + 7) ((9 * ((3 * j_6) + g_8)) + 5) (nI 0) := ⟨_, rfl⟩
      rw [← eI_16] at hh
      refine lv_iinc (v := nI 6) (lv' := [(3, .int (nI 6)), (2, .int (nI ((3 * j_6) + g_8))), (0, .ref r), (1, .int (nI j_6))]) C.1 C.2.1 d_Md_way_72 hl (k := 0) rfl (gm_inc 5 1) (by decide) rfl (fun ls hl => ?_)
      refine lv_goto (tgt := 44) C.1 C.2.1 d_Md_way_75 (by decide) ?_
      refine lv_iload_n C.1 C.2.1 d_Md_way_44 rfl (lv_at hl 0 rfl) ?_
      refine lv_bipush (v := nI 9) C.1 C.2.1 d_Md_way_45 rfl ?_
      refine lv_icmp_ge (tgt := 78) C.1 C.2.1 d_Md_way_47 (by decide) (fun c_ => absurd c_ (by decide)) (fun c_ => ?_)
      refine lv_aload_n C.1 C.2.1 d_Md_way_50 rfl (lv_at hl 2 rfl) ?_
      refine gg_r C hh (Md_0 hM) rfl in_Md 7 (by decide) rfl tw_572 rfl d_Md_way_51 ?_
      refine lv_bipush (v := nI 9) C.1 C.2.1 d_Md_way_54 rfl ?_
      refine lv_iload_n C.1 C.2.1 d_Md_way_56 rfl (lv_at hl 1 rfl) ?_
      refine lv_imul C.1 C.2.1 d_Md_way_57 ?_
      refine gm_eqi (pk_mul _ _) ?_
      refine lv_iload_n C.1 C.2.1 d_Md_way_58 rfl (lv_at hl 0 rfl) ?_
      refine lv_iadd C.1 C.2.1 d_Md_way_59 ?_
      refine gm_eqi (nI_add _ _) ?_
      refine lv_iload_n C.1 C.2.1 d_Md_way_60 rfl (lv_at hl 0 rfl) ?_
      refine lv_iconst (v := nI 4) C.1 C.2.1 d_Md_way_61 rfl ?_
      refine lv_irem C.1 C.2.1 d_Md_way_62 (by decide) ?_
      refine gm_eqi (y := nI 2) (by decide) ?_
      refine lv_if_ne (tgt := 70) C.1 C.2.1 d_Md_way_63 (by decide) (fun c_ => ?_) (fun c_ => absurd c_ (by decide))
      refine lv_iconst (v := nI 0) C.1 C.2.1 d_Md_way_70 rfl ?_
      refine gs_i C hh (Md_7 hM) (k := (9 * ((3 * j_6) + g_8)) + 6) rfl (by omega) (by omega) d_Md_way_71 (fun H locs hh => ?_)
      obtain ⟨I_17, eI_17⟩ : ∃ z : gm_I, z = gm_up I_16 (r + 7) ((9 * ((3 * j_6) + g_8)) + 6) (nI 0) := ⟨_, rfl⟩
      rw [← eI_17] at hh
      refine lv_iinc (v := nI 7) (lv' := [(3, .int (nI 7)), (2, .int (nI ((3 * j_6) + g_8))), (0, .ref r), (1, .int (nI j_6))]) C.1 C.2.1 d_Md_way_72 hl (k := 0) rfl (gm_inc 6 1) (by decide) rfl (fun ls hl => ?_)
      refine lv_goto (tgt := 44) C.1 C.2.1 d_Md_way_75 (by decide) ?_
      refine lv_iload_n C.1 C.2.1 d_Md_way_44 rfl (lv_at hl 0 rfl) ?_
      refine lv_bipush (v := nI 9) C.1 C.2.1 d_Md_way_45 rfl ?_
      refine lv_icmp_ge (tgt := 78) C.1 C.2.1 d_Md_way_47 (by decide) (fun c_ => absurd c_ (by decide)) (fun c_ => ?_)
      refine lv_aload_n C.1 C.2.1 d_Md_way_50 rfl (lv_at hl 2 rfl) ?_
      refine gg_r C hh (Md_0 hM) rfl in_Md 7 (by decide) rfl tw_572 rfl d_Md_way_51 ?_
      refine lv_bipush (v := nI 9) C.1 C.2.1 d_Md_way_54 rfl ?_
      refine lv_iload_n C.1 C.2.1 d_Md_way_56 rfl (lv_at hl 1 rfl) ?_
      refine lv_imul C.1 C.2.1 d_Md_way_57 ?_
      refine gm_eqi (pk_mul _ _) ?_
      refine lv_iload_n C.1 C.2.1 d_Md_way_58 rfl (lv_at hl 0 rfl) ?_
      refine lv_iadd C.1 C.2.1 d_Md_way_59 ?_
      refine gm_eqi (nI_add _ _) ?_
      refine lv_iload_n C.1 C.2.1 d_Md_way_60 rfl (lv_at hl 0 rfl) ?_
      refine lv_iconst (v := nI 4) C.1 C.2.1 d_Md_way_61 rfl ?_
      refine lv_irem C.1 C.2.1 d_Md_way_62 (by decide) ?_
      refine gm_eqi (y := nI 3) (by decide) ?_
      refine lv_if_ne (tgt := 70) C.1 C.2.1 d_Md_way_63 (by decide) (fun c_ => ?_) (fun c_ => absurd c_ (by decide))
      refine lv_iconst (v := nI 0) C.1 C.2.1 d_Md_way_70 rfl ?_
      refine gs_i C hh (Md_7 hM) (k := (9 * ((3 * j_6) + g_8)) + 7) rfl (by omega) (by omega) d_Md_way_71 (fun H locs hh => ?_)
      obtain ⟨I_18, eI_18⟩ : ∃ z : gm_I, z = gm_up I_17 (r + 7) ((9 * ((3 * j_6) + g_8)) + 7) (nI 0) := ⟨_, rfl⟩
      rw [← eI_18] at hh
      refine lv_iinc (v := nI 8) (lv' := [(3, .int (nI 8)), (2, .int (nI ((3 * j_6) + g_8))), (0, .ref r), (1, .int (nI j_6))]) C.1 C.2.1 d_Md_way_72 hl (k := 0) rfl (gm_inc 7 1) (by decide) rfl (fun ls hl => ?_)
      refine lv_goto (tgt := 44) C.1 C.2.1 d_Md_way_75 (by decide) ?_
      refine lv_iload_n C.1 C.2.1 d_Md_way_44 rfl (lv_at hl 0 rfl) ?_
      refine lv_bipush (v := nI 9) C.1 C.2.1 d_Md_way_45 rfl ?_
      refine lv_icmp_ge (tgt := 78) C.1 C.2.1 d_Md_way_47 (by decide) (fun c_ => absurd c_ (by decide)) (fun c_ => ?_)
      refine lv_aload_n C.1 C.2.1 d_Md_way_50 rfl (lv_at hl 2 rfl) ?_
      refine gg_r C hh (Md_0 hM) rfl in_Md 7 (by decide) rfl tw_572 rfl d_Md_way_51 ?_
      refine lv_bipush (v := nI 9) C.1 C.2.1 d_Md_way_54 rfl ?_
      refine lv_iload_n C.1 C.2.1 d_Md_way_56 rfl (lv_at hl 1 rfl) ?_
      refine lv_imul C.1 C.2.1 d_Md_way_57 ?_
      refine gm_eqi (pk_mul _ _) ?_
      refine lv_iload_n C.1 C.2.1 d_Md_way_58 rfl (lv_at hl 0 rfl) ?_
      refine lv_iadd C.1 C.2.1 d_Md_way_59 ?_
      refine gm_eqi (nI_add _ _) ?_
      refine lv_iload_n C.1 C.2.1 d_Md_way_60 rfl (lv_at hl 0 rfl) ?_
      refine lv_iconst (v := nI 4) C.1 C.2.1 d_Md_way_61 rfl ?_
      refine lv_irem C.1 C.2.1 d_Md_way_62 (by decide) ?_
      refine gm_eqi (y := nI 0) (by decide) ?_
      refine lv_if_ne (tgt := 70) C.1 C.2.1 d_Md_way_63 (by decide) (fun c_ => absurd (by decide) c_) (fun c_ => ?_)
      refine lv_iconst (v := nI 1) C.1 C.2.1 d_Md_way_66 rfl ?_
      refine lv_goto (tgt := 71) C.1 C.2.1 d_Md_way_67 (by decide) ?_
      refine gs_i C hh (Md_7 hM) (k := (9 * ((3 * j_6) + g_8)) + 8) rfl (by omega) (by omega) d_Md_way_71 (fun H locs hh => ?_)
      obtain ⟨I_19, eI_19⟩ : ∃ z : gm_I, z = gm_up I_18 (r + 7) ((9 * ((3 * j_6) + g_8)) + 8) (nI 1) := ⟨_, rfl⟩
      rw [← eI_19] at hh
      refine lv_iinc (v := nI 9) (lv' := [(3, .int (nI 9)), (2, .int (nI ((3 * j_6) + g_8))), (0, .ref r), (1, .int (nI j_6))]) C.1 C.2.1 d_Md_way_72 hl (k := 0) rfl (gm_inc 8 1) (by decide) rfl (fun ls hl => ?_)
      refine lv_goto (tgt := 44) C.1 C.2.1 d_Md_way_75 (by decide) ?_
      refine lv_iload_n C.1 C.2.1 d_Md_way_44 rfl (lv_at hl 0 rfl) ?_
      refine lv_bipush (v := nI 9) C.1 C.2.1 d_Md_way_45 rfl ?_
      refine lv_icmp_ge (tgt := 78) C.1 C.2.1 d_Md_way_47 (by decide) (fun c_ => ?_) (fun c_ => absurd (by decide) c_)
      refine lv_iconst (v := nI 0) C.1 C.2.1 d_Md_way_78 rfl ?_
      refine lv_istore_n (lv' := [(3, .int (nI 0)), (2, .int (nI ((3 * j_6) + g_8))), (0, .ref r), (1, .int (nI j_6))]) C.1 C.2.1 d_Md_way_79 rfl hl (by decide) rfl (fun ls hl => ?_)
      refine lv_iload_n C.1 C.2.1 d_Md_way_80 rfl (lv_at hl 0 rfl) ?_
      refine lv_iconst (v := nI 3) C.1 C.2.1 d_Md_way_81 rfl ?_
      refine lv_icmp_ge (tgt := 102) C.1 C.2.1 d_Md_way_82 (by decide) (fun c_ => absurd c_ (by decide)) (fun c_ => ?_)
      refine lv_aload_n C.1 C.2.1 d_Md_way_85 rfl (lv_at hl 2 rfl) ?_
      refine gg_r C hh (Md_0 hM) rfl in_Md 8 (by decide) rfl tw_573 rfl d_Md_way_86 ?_
      refine lv_iconst (v := nI 3) C.1 C.2.1 d_Md_way_89 rfl ?_
      refine lv_iload_n C.1 C.2.1 d_Md_way_90 rfl (lv_at hl 1 rfl) ?_
      refine lv_imul C.1 C.2.1 d_Md_way_91 ?_
      refine gm_eqi (pk_mul _ _) ?_
      refine lv_iload_n C.1 C.2.1 d_Md_way_92 rfl (lv_at hl 0 rfl) ?_
      refine lv_iadd C.1 C.2.1 d_Md_way_93 ?_
      refine gm_eqi (nI_add _ _) ?_
      refine lv_iconst (v := nI 0) C.1 C.2.1 d_Md_way_94 rfl ?_
      refine gs_i C hh (Md_8 hM) (k := (3 * ((3 * j_6) + g_8)) + 0) rfl (by omega) (by omega) d_Md_way_95 (fun H locs hh => ?_)
      obtain ⟨I_20, eI_20⟩ : ∃ z : gm_I, z = gm_up I_19 (r + 8) ((3 * ((3 * j_6) + g_8)) + 0) (nI 0) := ⟨_, rfl⟩
      rw [← eI_20] at hh
      refine lv_iinc (v := nI 1) (lv' := [(3, .int (nI 1)), (2, .int (nI ((3 * j_6) + g_8))), (0, .ref r), (1, .int (nI j_6))]) C.1 C.2.1 d_Md_way_96 hl (k := 0) rfl (gm_inc 0 1) (by decide) rfl (fun ls hl => ?_)
      refine lv_goto (tgt := 80) C.1 C.2.1 d_Md_way_99 (by decide) ?_
      refine lv_iload_n C.1 C.2.1 d_Md_way_80 rfl (lv_at hl 0 rfl) ?_
      refine lv_iconst (v := nI 3) C.1 C.2.1 d_Md_way_81 rfl ?_
      refine lv_icmp_ge (tgt := 102) C.1 C.2.1 d_Md_way_82 (by decide) (fun c_ => absurd c_ (by decide)) (fun c_ => ?_)
      refine lv_aload_n C.1 C.2.1 d_Md_way_85 rfl (lv_at hl 2 rfl) ?_
      refine gg_r C hh (Md_0 hM) rfl in_Md 8 (by decide) rfl tw_573 rfl d_Md_way_86 ?_
      refine lv_iconst (v := nI 3) C.1 C.2.1 d_Md_way_89 rfl ?_
      refine lv_iload_n C.1 C.2.1 d_Md_way_90 rfl (lv_at hl 1 rfl) ?_
      refine lv_imul C.1 C.2.1 d_Md_way_91 ?_
      refine gm_eqi (pk_mul _ _) ?_
      refine lv_iload_n C.1 C.2.1 d_Md_way_92 rfl (lv_at hl 0 rfl) ?_
      refine lv_iadd C.1 C.2.1 d_Md_way_93 ?_
      refine gm_eqi (nI_add _ _) ?_
      refine lv_iconst (v := nI 0) C.1 C.2.1 d_Md_way_94 rfl ?_
      refine gs_i C hh (Md_8 hM) (k := (3 * ((3 * j_6) + g_8)) + 1) rfl (by omega) (by omega) d_Md_way_95 (fun H locs hh => ?_)
      obtain ⟨I_21, eI_21⟩ : ∃ z : gm_I, z = gm_up I_20 (r + 8) ((3 * ((3 * j_6) + g_8)) + 1) (nI 0) := ⟨_, rfl⟩
      rw [← eI_21] at hh
      refine lv_iinc (v := nI 2) (lv' := [(3, .int (nI 2)), (2, .int (nI ((3 * j_6) + g_8))), (0, .ref r), (1, .int (nI j_6))]) C.1 C.2.1 d_Md_way_96 hl (k := 0) rfl (gm_inc 1 1) (by decide) rfl (fun ls hl => ?_)
      refine lv_goto (tgt := 80) C.1 C.2.1 d_Md_way_99 (by decide) ?_
      refine lv_iload_n C.1 C.2.1 d_Md_way_80 rfl (lv_at hl 0 rfl) ?_
      refine lv_iconst (v := nI 3) C.1 C.2.1 d_Md_way_81 rfl ?_
      refine lv_icmp_ge (tgt := 102) C.1 C.2.1 d_Md_way_82 (by decide) (fun c_ => absurd c_ (by decide)) (fun c_ => ?_)
      refine lv_aload_n C.1 C.2.1 d_Md_way_85 rfl (lv_at hl 2 rfl) ?_
      refine gg_r C hh (Md_0 hM) rfl in_Md 8 (by decide) rfl tw_573 rfl d_Md_way_86 ?_
      refine lv_iconst (v := nI 3) C.1 C.2.1 d_Md_way_89 rfl ?_
      refine lv_iload_n C.1 C.2.1 d_Md_way_90 rfl (lv_at hl 1 rfl) ?_
      refine lv_imul C.1 C.2.1 d_Md_way_91 ?_
      refine gm_eqi (pk_mul _ _) ?_
      refine lv_iload_n C.1 C.2.1 d_Md_way_92 rfl (lv_at hl 0 rfl) ?_
      refine lv_iadd C.1 C.2.1 d_Md_way_93 ?_
      refine gm_eqi (nI_add _ _) ?_
      refine lv_iconst (v := nI 0) C.1 C.2.1 d_Md_way_94 rfl ?_
      refine gs_i C hh (Md_8 hM) (k := (3 * ((3 * j_6) + g_8)) + 2) rfl (by omega) (by omega) d_Md_way_95 (fun H locs hh => ?_)
      obtain ⟨I_22, eI_22⟩ : ∃ z : gm_I, z = gm_up I_21 (r + 8) ((3 * ((3 * j_6) + g_8)) + 2) (nI 0) := ⟨_, rfl⟩
      rw [← eI_22] at hh
      refine lv_iinc (v := nI 3) (lv' := [(3, .int (nI 3)), (2, .int (nI ((3 * j_6) + g_8))), (0, .ref r), (1, .int (nI j_6))]) C.1 C.2.1 d_Md_way_96 hl (k := 0) rfl (gm_inc 2 1) (by decide) rfl (fun ls hl => ?_)
      refine lv_goto (tgt := 80) C.1 C.2.1 d_Md_way_99 (by decide) ?_
      refine lv_iload_n C.1 C.2.1 d_Md_way_80 rfl (lv_at hl 0 rfl) ?_
      refine lv_iconst (v := nI 3) C.1 C.2.1 d_Md_way_81 rfl ?_
      refine lv_icmp_ge (tgt := 102) C.1 C.2.1 d_Md_way_82 (by decide) (fun c_ => ?_) (fun c_ => absurd (by decide) c_)
      refine lv_aload_n C.1 C.2.1 d_Md_way_102 rfl (lv_at hl 2 rfl) ?_
      refine gg_r C hh (Md_0 hM) rfl in_Md 2 (by decide) rfl tw_567 rfl d_Md_way_103 ?_
      refine lv_iload_n C.1 C.2.1 d_Md_way_106 rfl (lv_at hl 3 rfl) ?_
      refine lv_dup2_11 C.1 C.2.1 d_Md_way_107 rfl rfl ?_
      refine ga_i C hh (Md_2 hM) (k := j_6) rfl (by omega) (by omega) d_Md_way_108 ?_
      refine gm_eqi (y := I (r + 2) j_6) (by rw [eI_22, gm_up_ne _ _ (Or.inl (by omega)), eI_21, gm_up_ne _ _ (Or.inl (by omega)), eI_20, gm_up_ne _ _ (Or.inl (by omega)), eI_19, gm_up_ne _ _ (Or.inl (by omega)), eI_18, gm_up_ne _ _ (Or.inl (by omega)), eI_17, gm_up_ne _ _ (Or.inl (by omega)), eI_16, gm_up_ne _ _ (Or.inl (by omega)), eI_15, gm_up_ne _ _ (Or.inl (by omega)), eI_14, gm_up_ne _ _ (Or.inl (by omega)), eI_13, gm_up_ne _ _ (Or.inl (by omega)), eI_12, gm_up_ne _ _ (Or.inl (by omega)), eI_11, gm_up_ne _ _ (Or.inl (by omega)), eI_10, gm_up_ne _ _ (Or.inl (by omega))]) ?_
      refine gm_eqi eg_8 ?_
      refine lv_iconst (v := nI 1) C.1 C.2.1 d_Md_way_109 rfl ?_
      refine lv_iadd C.1 C.2.1 d_Md_way_110 ?_
      refine gm_eqi (nI_add _ _) ?_
      refine gs_i C hh (Md_2 hM) (k := j_6) rfl (by omega) (by omega) d_Md_way_111 (fun H locs hh => ?_)
      obtain ⟨I_23, eI_23⟩ : ∃ z : gm_I, z = gm_up I_22 (r + 2) j_6 (nI (g_8 + 1)) := ⟨_, rfl⟩
      rw [← eI_23] at hh
      refine lv_aload_n C.1 C.2.1 d_Md_way_112 rfl (lv_at hl 2 rfl) ?_
      refine gg_r C hh (Md_0 hM) rfl in_Md 2 (by decide) rfl tw_567 rfl d_Md_way_113 ?_
      refine lv_iload_n C.1 C.2.1 d_Md_way_116 rfl (lv_at hl 3 rfl) ?_
      refine ga_i C hh (Md_2 hM) (k := j_6) rfl (by omega) (by omega) d_Md_way_117 ?_
      refine gm_eqi (y := nI (g_8 + 1)) (by rw [eI_23, gm_up_same]) ?_
      refine lv_iconst (v := nI 1) C.1 C.2.1 d_Md_way_118 rfl ?_
      refine lv_isub C.1 C.2.1 d_Md_way_119 ?_
      refine gm_eqi (nI_pred _) ?_
      exact gr_i C hlk hret rfl hh (by subst_vars; simp (disch := omega) [sp_way, way9, way3, nI_clamp, bI, *]) d_Md_way_120
    · -- 18 -> 21
      have c_9 := gm_nef (by omega) (by omega) c_9
      refine lv_bipush (v := (-4)) C.1 C.2.1 d_Md_way_21 rfl ?_
      exact gr_i C hlk hret rfl hh (by subst_vars; simp (disch := omega) [sp_way, way9, way3, nI_clamp, bI, *]) d_Md_way_23
  · -- 5 -> 8
    have b_24 := bI_f hr_1 c_4
    skip
    refine lv_bipush (v := (-2)) C.1 C.2.1 d_Md_way_8 rfl ?_
    exact gr_i C hlk hret rfl hh (by subst_vars; simp (disch := omega) [sp_way, way9, way3, nI_clamp, bI, *]) d_Md_way_10

set_option maxHeartbeats 4000000 in
set_option maxRecDepth 100000 in
theorem c_Md_at (l : Launch) (D : va_G) (cs : Nat → ClassId) (sh : gm_H) (sz : Nat) (I : gm_I) (J : gm_J) (r : Nat) (hM : is_Md sh r) (hV : inv_Md I r) (v w : Int32) : CL l y_Md_at w_Md_at { frames := 3, cells := 0, slots := 0, locals := 65 } D cs sh sz I J [.ref r, .int v, .int w] (fun z u => u = (I, J) ∧ z = sp_at I J r v w) := by
  refine gm_start (by decide) (Nat.le_of_ble_eq_true rfl) ?_
  intro p' e' s' m' be' me' co' ls C hml hlk hret hh hl
  have hl : lv_has ls 3 [(0, .ref r), (1, .int v), (2, .int w)] := hl
  refine lv_aload_n C.1 C.2.1 d_Md_at_0 rfl (lv_at hl 0 rfl) ?_
  refine lv_iload_n C.1 C.2.1 d_Md_at_1 rfl (lv_at hl 1 rfl) ?_
  refine lv_iload_n C.1 C.2.1 d_Md_at_2 rfl (lv_at hl 2 rfl) ?_
  refine gc_i hh (gc_runV (As := [.int v, .int w]) (rest := []) (n := 2) C hml hh (c_Md_isName l D cs sh sz I J r hM hV v w) (tg_V tw_726 tw_728 tw_30 tw_64 tw_729) (by decide +kernel) ⟨rfl, rfl, by decide, by decide, Nat.zero_le _, Nat.zero_le _⟩ (Md_0 hM) rfl rfl hl.1 rfl (Nat.le_of_ble_eq_true rfl) d_Md_at_3) (fun r_1 I_2 J_3 H locs hr_1 hh => ?_)
  obtain ⟨e_r_1, hr_1⟩ := hr_1
  rw [(Prod.mk.inj e_r_1).1, (Prod.mk.inj e_r_1).2] at hh
  refine lv_if_eq (tgt := 22) C.1 C.2.1 d_Md_at_6 (by decide) (fun c_4 => ?_) (fun c_4 => ?_)
  · -- 6 -> 22
    have b_5 := bI_f hr_1 c_4
    skip
    refine lv_ldc2 C.1 C.2.1 C.2.2.2.1 (C.2.2.1 _ tw_849) d_Md_at_22 ?_
    exact gr_l C hlk hret hh (by subst_vars; simp (disch := omega) [sp_at, nI_clamp, bI, *]) d_Md_at_25
  · -- 6 -> 9
    have b_6 := bI_t hr_1 c_4
    obtain ⟨j_7, k_8, hj_7, hk_8, ej_7, ek_8, lp_k_8, lt_k_8⟩ := nmB_j hV b_6
    subst ej_7
    subst ek_8
    skip
    refine lv_aload_n C.1 C.2.1 d_Md_at_9 rfl (lv_at hl 0 rfl) ?_
    refine gg_r C hh (Md_0 hM) rfl in_Md 9 (by decide) rfl tw_574 rfl d_Md_at_10 ?_
    refine lv_iconst (v := nI 3) C.1 C.2.1 d_Md_at_13 rfl ?_
    refine lv_iload_n C.1 C.2.1 d_Md_at_14 rfl (lv_at hl 1 rfl) ?_
    refine lv_imul C.1 C.2.1 d_Md_at_15 ?_
    refine gm_eqi (pk_mul _ _) ?_
    refine lv_iload_n C.1 C.2.1 d_Md_at_16 rfl (lv_at hl 2 rfl) ?_
    refine lv_iadd C.1 C.2.1 d_Md_at_17 ?_
    refine gm_eqi (nI_add _ _) ?_
    refine ga_l C hh (Md_9 hM) (k := (3 * j_7) + k_8) rfl (by omega) (by omega) d_Md_at_18 ?_
    refine lv_goto (tgt := 25) C.1 C.2.1 d_Md_at_19 (by decide) ?_
    exact gr_l C hlk hret hh (by subst_vars; simp (disch := omega) [sp_at, nI_clamp, bI, *]) d_Md_at_25

set_option maxHeartbeats 4000000 in
set_option maxRecDepth 100000 in
theorem c_Md_proof (l : Launch) (D : va_G) (cs : Nat → ClassId) (sh : gm_H) (sz : Nat) (I : gm_I) (J : gm_J) (r : Nat) (hM : is_Md sh r) (hV : inv_Md I r) (k w : Int32) : CI l y_Md_proof w_Md_proof { frames := 1, cells := 0, slots := 0, locals := 22 } D cs sh sz I J [.ref r, .int k, .int w] (fun z u => u = (I, J) ∧ z = sp_proof I r k w) := by
  refine gm_start (by decide) (Nat.le_of_ble_eq_true rfl) ?_
  intro p' e' s' m' be' me' co' ls C hml hlk hret hh hl
  have hl : lv_has ls 3 [(0, .ref r), (1, .int k), (2, .int w)] := hl
  refine lv_iload_n C.1 C.2.1 d_Md_proof_0 rfl (lv_at hl 1 rfl) ?_
  refine lv_iconst (v := nI 0) C.1 C.2.1 d_Md_proof_1 rfl ?_
  refine lv_aload_n C.1 C.2.1 d_Md_proof_2 rfl (lv_at hl 0 rfl) ?_
  refine gg_i C hh (Md_0 hM) rfl in_Md 10 (by decide) rfl tw_575 rfl d_Md_proof_3 ?_
  obtain ⟨g_1, hg_1, eg_1⟩ := hV.2.2.2.2.2
  refine gm_eqi eg_1 ?_
  refine lv_iconst (v := nI 1) C.1 C.2.1 d_Md_proof_6 rfl ?_
  refine lv_isub C.1 C.2.1 d_Md_proof_7 ?_
  refine gc_i hh (gc_runS (As := [.int k, .int (nI 0), .int ((nI g_1) - (nI 1))]) (rest := []) (n := 3) C hml hh (c_Md_isIn l D cs sh sz I J k (nI 0) ((nI g_1) - (nI 1))) (tg_S tw_684 tw_685 tw_64 tw_686) (by decide +kernel) ⟨rfl, rfl, by decide, by decide, Nat.zero_le _, Nat.zero_le _⟩ rfl hl.1 rfl (Nat.le_of_ble_eq_true rfl) d_Md_proof_8) (fun r_2 I_3 J_4 H locs hr_2 hh => ?_)
  obtain ⟨e_r_2, hr_2⟩ := hr_2
  rw [(Prod.mk.inj e_r_2).1, (Prod.mk.inj e_r_2).2] at hh
  refine lv_if_eq (tgt := 36) C.1 C.2.1 d_Md_proof_11 (by decide) (fun c_5 => ?_) (fun c_5 => ?_)
  · -- 11 -> 36
    have b_6 := bI_f hr_2 c_5
    skip
    refine lv_sipush (v := (-1000)) C.1 C.2.1 d_Md_proof_36 rfl ?_
    exact gr_i C hlk hret rfl hh (by subst_vars; simp (disch := omega) [sp_proof, nI_clamp, bI, *]) d_Md_proof_39
  · -- 11 -> 14
    have b_7 := bI_t hr_2 c_5
    obtain ⟨k_8, hk_8, ek_8⟩ := inI_nat (by omega) b_7
    subst ek_8
    skip
    refine lv_iload_n C.1 C.2.1 d_Md_proof_14 rfl (lv_at hl 2 rfl) ?_
    refine lv_iconst (v := nI 0) C.1 C.2.1 d_Md_proof_15 rfl ?_
    refine lv_iconst (v := nI 3) C.1 C.2.1 d_Md_proof_16 rfl ?_
    refine gc_i hh (gc_runS (As := [.int w, .int (nI 0), .int (nI 3)]) (rest := []) (n := 3) C hml hh (c_Md_isIn l D cs sh sz I J w (nI 0) (nI 3)) (tg_S tw_684 tw_685 tw_64 tw_686) (by decide +kernel) ⟨rfl, rfl, by decide, by decide, Nat.zero_le _, Nat.zero_le _⟩ rfl hl.1 rfl (Nat.le_of_ble_eq_true rfl) d_Md_proof_17) (fun r_9 I_10 J_11 H locs hr_9 hh => ?_)
    obtain ⟨e_r_9, hr_9⟩ := hr_9
    rw [(Prod.mk.inj e_r_9).1, (Prod.mk.inj e_r_9).2] at hh
    refine lv_if_eq (tgt := 36) C.1 C.2.1 d_Md_proof_20 (by decide) (fun c_12 => ?_) (fun c_12 => ?_)
    · -- 20 -> 36
      have b_13 := bI_f hr_9 c_12
      skip
      refine lv_sipush (v := (-1000)) C.1 C.2.1 d_Md_proof_36 rfl ?_
      exact gr_i C hlk hret rfl hh (by subst_vars; simp (disch := omega) [sp_proof, nI_clamp, bI, *]) d_Md_proof_39
    · -- 20 -> 23
      have b_14 := bI_t hr_9 c_12
      obtain ⟨k_15, hk_15, ek_15⟩ := inI_k (by omega) b_14
      subst ek_15
      skip
      refine lv_aload_n C.1 C.2.1 d_Md_proof_23 rfl (lv_at hl 0 rfl) ?_
      refine gg_r C hh (Md_0 hM) rfl in_Md 11 (by decide) rfl tw_576 rfl d_Md_proof_24 ?_
      refine lv_iconst (v := nI 4) C.1 C.2.1 d_Md_proof_27 rfl ?_
      refine lv_iload_n C.1 C.2.1 d_Md_proof_28 rfl (lv_at hl 1 rfl) ?_
      refine lv_imul C.1 C.2.1 d_Md_proof_29 ?_
      refine gm_eqi (pk_mul _ _) ?_
      refine lv_iload_n C.1 C.2.1 d_Md_proof_30 rfl (lv_at hl 2 rfl) ?_
      refine lv_iadd C.1 C.2.1 d_Md_proof_31 ?_
      refine gm_eqi (nI_add _ _) ?_
      refine ga_i C hh (Md_10 hM) (k := (4 * k_8) + k_15) rfl (by omega) (by omega) d_Md_proof_32 ?_
      refine lv_goto (tgt := 39) C.1 C.2.1 d_Md_proof_33 (by decide) ?_
      exact gr_i C hlk hret rfl hh (by subst_vars; simp (disch := omega) [sp_proof, nI_clamp, bI, *]) d_Md_proof_39

set_option maxHeartbeats 4000000 in
set_option maxRecDepth 100000 in
theorem c_Md_needed (l : Launch) (D : va_G) (cs : Nat → ClassId) (sh : gm_H) (sz : Nat) (I : gm_I) (J : gm_J) (r : Nat) (hM : is_Md sh r) (hV : inv_Md I r) (k : Int32) : CI l y_Md_needed w_Md_needed { frames := 1, cells := 0, slots := 0, locals := 22 } D cs sh sz I J [.ref r, .int k] (fun z u => u = (I, J) ∧ z = sp_needed I r k) := by
  refine gm_start (by decide) (Nat.le_of_ble_eq_true rfl) ?_
  intro p' e' s' m' be' me' co' ls C hml hlk hret hh hl
  have hl : lv_has ls 2 [(0, .ref r), (1, .int k)] := hl
  refine lv_aload_n C.1 C.2.1 d_Md_needed_0 rfl (lv_at hl 0 rfl) ?_
  refine gg_i C hh (Md_0 hM) rfl in_Md 13 (by decide) rfl tw_578 rfl d_Md_needed_1 ?_
  refine lv_if_eq (tgt := 25) C.1 C.2.1 d_Md_needed_4 (by decide) (fun c_1 => ?_) (fun c_1 => ?_)
  · -- 4 -> 25
    skip
    refine lv_sipush (v := (-1000)) C.1 C.2.1 d_Md_needed_25 rfl ?_
    exact gr_i C hlk hret rfl hh (by subst_vars; simp (disch := omega) [sp_needed, nI_clamp, bI, *]) d_Md_needed_28
  · -- 4 -> 7
    skip
    refine lv_iload_n C.1 C.2.1 d_Md_needed_7 rfl (lv_at hl 1 rfl) ?_
    refine lv_iconst (v := nI 0) C.1 C.2.1 d_Md_needed_8 rfl ?_
    refine lv_iconst (v := nI 3) C.1 C.2.1 d_Md_needed_9 rfl ?_
    refine gc_i hh (gc_runS (As := [.int k, .int (nI 0), .int (nI 3)]) (rest := []) (n := 3) C hml hh (c_Md_isIn l D cs sh sz I J k (nI 0) (nI 3)) (tg_S tw_684 tw_685 tw_64 tw_686) (by decide +kernel) ⟨rfl, rfl, by decide, by decide, Nat.zero_le _, Nat.zero_le _⟩ rfl hl.1 rfl (Nat.le_of_ble_eq_true rfl) d_Md_needed_10) (fun r_2 I_3 J_4 H locs hr_2 hh => ?_)
    obtain ⟨e_r_2, hr_2⟩ := hr_2
    rw [(Prod.mk.inj e_r_2).1, (Prod.mk.inj e_r_2).2] at hh
    refine lv_if_eq (tgt := 25) C.1 C.2.1 d_Md_needed_13 (by decide) (fun c_5 => ?_) (fun c_5 => ?_)
    · -- 13 -> 25
      have b_6 := bI_f hr_2 c_5
      skip
      refine lv_sipush (v := (-1000)) C.1 C.2.1 d_Md_needed_25 rfl ?_
      exact gr_i C hlk hret rfl hh (by subst_vars; simp (disch := omega) [sp_needed, nI_clamp, bI, *]) d_Md_needed_28
    · -- 13 -> 16
      have b_7 := bI_t hr_2 c_5
      obtain ⟨k_8, hk_8, ek_8⟩ := inI_k (by omega) b_7
      subst ek_8
      skip
      refine lv_aload_n C.1 C.2.1 d_Md_needed_16 rfl (lv_at hl 0 rfl) ?_
      refine gg_r C hh (Md_0 hM) rfl in_Md 14 (by decide) rfl tw_579 rfl d_Md_needed_17 ?_
      refine lv_iload_n C.1 C.2.1 d_Md_needed_20 rfl (lv_at hl 1 rfl) ?_
      refine ga_i C hh (Md_11 hM) (k := k_8) rfl (by omega) (by omega) d_Md_needed_21 ?_
      refine lv_goto (tgt := 28) C.1 C.2.1 d_Md_needed_22 (by decide) ?_
      exact gr_i C hlk hret rfl hh (by subst_vars; simp (disch := omega) [sp_needed, nI_clamp, bI, *]) d_Md_needed_28

set_option maxHeartbeats 4000000 in
set_option maxRecDepth 100000 in
theorem c_Md_stand (l : Launch) (D : va_G) (cs : Nat → ClassId) (sh : gm_H) (sz : Nat) (I : gm_I) (J : gm_J) (r : Nat) (hM : is_Md sh r) (j : Nat) (hj : j < 8) : CV l y_Md_stand w_Md_stand { frames := 0, cells := 0, slots := 0, locals := 0 } D cs sh sz I J [.ref r, .int (nI j)] (fun u => u = (I, gm_up (gm_up (gm_up J r 35 (J (r + 9) (3 * j))) r 36 (J (r + 9) (3 * j + 1))) r 37 (J (r + 9) (3 * j + 2)))) := by
  refine gm_start (by decide) (Nat.le_of_ble_eq_true rfl) ?_
  intro p' e' s' m' be' me' co' ls C hml hlk hret hh hl
  have hl : lv_has ls 2 [(0, .ref r), (1, .int (nI j))] := hl
  refine lv_aload_n C.1 C.2.1 d_Md_stand_0 rfl (lv_at hl 0 rfl) ?_
  refine lv_aload_n C.1 C.2.1 d_Md_stand_1 rfl (lv_at hl 0 rfl) ?_
  refine gg_r C hh (Md_0 hM) rfl in_Md 9 (by decide) rfl tw_574 rfl d_Md_stand_2 ?_
  refine lv_iconst (v := nI 3) C.1 C.2.1 d_Md_stand_5 rfl ?_
  refine lv_iload_n C.1 C.2.1 d_Md_stand_6 rfl (lv_at hl 1 rfl) ?_
  refine lv_imul C.1 C.2.1 d_Md_stand_7 ?_
  refine gm_eqi (pk_mul _ _) ?_
  refine ga_l C hh (Md_9 hM) (k := 3 * j) rfl (by omega) (by omega) d_Md_stand_8 ?_
  refine gp_l C hh (Md_0 hM) rfl in_Md t_Md t_Md_ok n_Md 35 (by decide) rfl tw_600 rfl rfl (by decide +kernel) d_Md_stand_9 (fun H locs hh => ?_)
  obtain ⟨J_1, eJ_1⟩ : ∃ z : gm_J, z = gm_up J r 35 (J (r + 9) (3 * j)) := ⟨_, rfl⟩
  rw [← eJ_1] at hh
  refine lv_aload_n C.1 C.2.1 d_Md_stand_12 rfl (lv_at hl 0 rfl) ?_
  refine lv_aload_n C.1 C.2.1 d_Md_stand_13 rfl (lv_at hl 0 rfl) ?_
  refine gg_r C hh (Md_0 hM) rfl in_Md 9 (by decide) rfl tw_574 rfl d_Md_stand_14 ?_
  refine lv_iconst (v := nI 3) C.1 C.2.1 d_Md_stand_17 rfl ?_
  refine lv_iload_n C.1 C.2.1 d_Md_stand_18 rfl (lv_at hl 1 rfl) ?_
  refine lv_imul C.1 C.2.1 d_Md_stand_19 ?_
  refine gm_eqi (pk_mul _ _) ?_
  refine lv_iconst (v := nI 1) C.1 C.2.1 d_Md_stand_20 rfl ?_
  refine lv_iadd C.1 C.2.1 d_Md_stand_21 ?_
  refine gm_eqi (nI_add _ _) ?_
  refine ga_l C hh (Md_9 hM) (k := (3 * j) + 1) rfl (by omega) (by omega) d_Md_stand_22 ?_
  refine gm_eql (y := J (r + 9) ((3 * j) + 1)) (by rw [eJ_1, gm_up_ne _ _ (Or.inl (by omega))]) ?_
  refine gp_l C hh (Md_0 hM) rfl in_Md t_Md t_Md_ok n_Md 36 (by decide) rfl tw_601 rfl rfl (by decide +kernel) d_Md_stand_23 (fun H locs hh => ?_)
  obtain ⟨J_2, eJ_2⟩ : ∃ z : gm_J, z = gm_up J_1 r 36 (J (r + 9) ((3 * j) + 1)) := ⟨_, rfl⟩
  rw [← eJ_2] at hh
  refine lv_aload_n C.1 C.2.1 d_Md_stand_26 rfl (lv_at hl 0 rfl) ?_
  refine lv_aload_n C.1 C.2.1 d_Md_stand_27 rfl (lv_at hl 0 rfl) ?_
  refine gg_r C hh (Md_0 hM) rfl in_Md 9 (by decide) rfl tw_574 rfl d_Md_stand_28 ?_
  refine lv_iconst (v := nI 3) C.1 C.2.1 d_Md_stand_31 rfl ?_
  refine lv_iload_n C.1 C.2.1 d_Md_stand_32 rfl (lv_at hl 1 rfl) ?_
  refine lv_imul C.1 C.2.1 d_Md_stand_33 ?_
  refine gm_eqi (pk_mul _ _) ?_
  refine lv_iconst (v := nI 2) C.1 C.2.1 d_Md_stand_34 rfl ?_
  refine lv_iadd C.1 C.2.1 d_Md_stand_35 ?_
  refine gm_eqi (nI_add _ _) ?_
  refine ga_l C hh (Md_9 hM) (k := (3 * j) + 2) rfl (by omega) (by omega) d_Md_stand_36 ?_
  refine gm_eql (y := J (r + 9) ((3 * j) + 2)) (by rw [eJ_2, gm_up_ne _ _ (Or.inl (by omega)), eJ_1, gm_up_ne _ _ (Or.inl (by omega))]) ?_
  refine gp_l C hh (Md_0 hM) rfl in_Md t_Md t_Md_ok n_Md 37 (by decide) rfl tw_602 rfl rfl (by decide +kernel) d_Md_stand_37 (fun H locs hh => ?_)
  obtain ⟨J_3, eJ_3⟩ : ∃ z : gm_J, z = gm_up J_2 r 37 (J (r + 9) ((3 * j) + 2)) := ⟨_, rfl⟩
  rw [← eJ_3] at hh
  exact gr_v C hlk hret hh (by subst_vars; rfl) d_Md_stand_40

set_option maxHeartbeats 4000000 in
set_option maxRecDepth 100000 in
theorem c_Md_stay (l : Launch) (D : va_G) (cs : Nat → ClassId) (sh : gm_H) (sz : Nat) (I : gm_I) (J : gm_J) (r : Nat) (hM : is_Md sh r) (j : Nat) (hj : j < 8) : CV l y_Md_stay w_Md_stay { frames := 0, cells := 0, slots := 0, locals := 0 } D cs sh sz I J [.ref r, .int (nI j)] (fun u => u = (I, gm_up (gm_up (gm_up J (r + 9) (3 * j) (J r 35)) (r + 9) (3 * j + 1) (J r 36)) (r + 9) (3 * j + 2) (J r 37))) := by
  refine gm_start (by decide) (Nat.le_of_ble_eq_true rfl) ?_
  intro p' e' s' m' be' me' co' ls C hml hlk hret hh hl
  have hl : lv_has ls 2 [(0, .ref r), (1, .int (nI j))] := hl
  refine lv_aload_n C.1 C.2.1 d_Md_stay_0 rfl (lv_at hl 0 rfl) ?_
  refine gg_r C hh (Md_0 hM) rfl in_Md 9 (by decide) rfl tw_574 rfl d_Md_stay_1 ?_
  refine lv_iconst (v := nI 3) C.1 C.2.1 d_Md_stay_4 rfl ?_
  refine lv_iload_n C.1 C.2.1 d_Md_stay_5 rfl (lv_at hl 1 rfl) ?_
  refine lv_imul C.1 C.2.1 d_Md_stay_6 ?_
  refine gm_eqi (pk_mul _ _) ?_
  refine lv_aload_n C.1 C.2.1 d_Md_stay_7 rfl (lv_at hl 0 rfl) ?_
  refine gg_l C hh (Md_0 hM) rfl in_Md 35 (by decide) rfl tw_600 rfl d_Md_stay_8 ?_
  refine gs_l C hh (Md_9 hM) (k := 3 * j) rfl (by omega) (by omega) d_Md_stay_11 (fun H locs hh => ?_)
  obtain ⟨J_1, eJ_1⟩ : ∃ z : gm_J, z = gm_up J (r + 9) (3 * j) (J r 35) := ⟨_, rfl⟩
  rw [← eJ_1] at hh
  refine lv_aload_n C.1 C.2.1 d_Md_stay_12 rfl (lv_at hl 0 rfl) ?_
  refine gg_r C hh (Md_0 hM) rfl in_Md 9 (by decide) rfl tw_574 rfl d_Md_stay_13 ?_
  refine lv_iconst (v := nI 3) C.1 C.2.1 d_Md_stay_16 rfl ?_
  refine lv_iload_n C.1 C.2.1 d_Md_stay_17 rfl (lv_at hl 1 rfl) ?_
  refine lv_imul C.1 C.2.1 d_Md_stay_18 ?_
  refine gm_eqi (pk_mul _ _) ?_
  refine lv_iconst (v := nI 1) C.1 C.2.1 d_Md_stay_19 rfl ?_
  refine lv_iadd C.1 C.2.1 d_Md_stay_20 ?_
  refine gm_eqi (nI_add _ _) ?_
  refine lv_aload_n C.1 C.2.1 d_Md_stay_21 rfl (lv_at hl 0 rfl) ?_
  refine gg_l C hh (Md_0 hM) rfl in_Md 36 (by decide) rfl tw_601 rfl d_Md_stay_22 ?_
  refine gm_eql (y := J r 36) (by rw [eJ_1, gm_up_ne _ _ (Or.inl (by omega))]) ?_
  refine gs_l C hh (Md_9 hM) (k := (3 * j) + 1) rfl (by omega) (by omega) d_Md_stay_25 (fun H locs hh => ?_)
  obtain ⟨J_2, eJ_2⟩ : ∃ z : gm_J, z = gm_up J_1 (r + 9) ((3 * j) + 1) (J r 36) := ⟨_, rfl⟩
  rw [← eJ_2] at hh
  refine lv_aload_n C.1 C.2.1 d_Md_stay_26 rfl (lv_at hl 0 rfl) ?_
  refine gg_r C hh (Md_0 hM) rfl in_Md 9 (by decide) rfl tw_574 rfl d_Md_stay_27 ?_
  refine lv_iconst (v := nI 3) C.1 C.2.1 d_Md_stay_30 rfl ?_
  refine lv_iload_n C.1 C.2.1 d_Md_stay_31 rfl (lv_at hl 1 rfl) ?_
  refine lv_imul C.1 C.2.1 d_Md_stay_32 ?_
  refine gm_eqi (pk_mul _ _) ?_
  refine lv_iconst (v := nI 2) C.1 C.2.1 d_Md_stay_33 rfl ?_
  refine lv_iadd C.1 C.2.1 d_Md_stay_34 ?_
  refine gm_eqi (nI_add _ _) ?_
  refine lv_aload_n C.1 C.2.1 d_Md_stay_35 rfl (lv_at hl 0 rfl) ?_
  refine gg_l C hh (Md_0 hM) rfl in_Md 37 (by decide) rfl tw_602 rfl d_Md_stay_36 ?_
  refine gm_eql (y := J r 37) (by rw [eJ_2, gm_up_ne _ _ (Or.inl (by omega)), eJ_1, gm_up_ne _ _ (Or.inl (by omega))]) ?_
  refine gs_l C hh (Md_9 hM) (k := (3 * j) + 2) rfl (by omega) (by omega) d_Md_stay_39 (fun H locs hh => ?_)
  obtain ⟨J_3, eJ_3⟩ : ∃ z : gm_J, z = gm_up J_2 (r + 9) ((3 * j) + 2) (J r 37) := ⟨_, rfl⟩
  rw [← eJ_3] at hh
  exact gr_v C hlk hret hh (by subst_vars; rfl) d_Md_stay_40

set_option maxHeartbeats 4000000 in
set_option maxRecDepth 100000 in
theorem c_Md_goal (l : Launch) (D : va_G) (cs : Nat → ClassId) (sh : gm_H) (sz : Nat) (I : gm_I) (J : gm_J) (r : Nat) (hM : is_Md sh r) (a b c : Int64) : CV l y_Md_goal w_Md_goal { frames := 0, cells := 0, slots := 0, locals := 0 } D cs sh sz I J [.ref r, .long a, .long b, .long c] (fun u => u = (I, gm_up (gm_up (gm_up J r 23 a) r 24 b) r 25 c)) := by
  refine gm_start (by decide) (Nat.le_of_ble_eq_true rfl) ?_
  intro p' e' s' m' be' me' co' ls C hml hlk hret hh hl
  have hl : lv_has ls 7 [(0, .ref r), (1, .long a), (3, .long b), (5, .long c)] := hl
  refine lv_aload_n C.1 C.2.1 d_Md_goal_0 rfl (lv_at hl 0 rfl) ?_
  refine lv_lload_n C.1 C.2.1 d_Md_goal_1 rfl (lv_at hl 1 rfl) ?_
  refine gp_l C hh (Md_0 hM) rfl in_Md t_Md t_Md_ok n_Md 23 (by decide) rfl tw_588 rfl rfl (by decide +kernel) d_Md_goal_2 (fun H locs hh => ?_)
  obtain ⟨J_1, eJ_1⟩ : ∃ z : gm_J, z = gm_up J r 23 a := ⟨_, rfl⟩
  rw [← eJ_1] at hh
  refine lv_aload_n C.1 C.2.1 d_Md_goal_5 rfl (lv_at hl 0 rfl) ?_
  refine lv_lload_n C.1 C.2.1 d_Md_goal_6 rfl (lv_at hl 2 rfl) ?_
  refine gp_l C hh (Md_0 hM) rfl in_Md t_Md t_Md_ok n_Md 24 (by decide) rfl tw_589 rfl rfl (by decide +kernel) d_Md_goal_7 (fun H locs hh => ?_)
  obtain ⟨J_2, eJ_2⟩ : ∃ z : gm_J, z = gm_up J_1 r 24 b := ⟨_, rfl⟩
  rw [← eJ_2] at hh
  refine lv_aload_n C.1 C.2.1 d_Md_goal_10 rfl (lv_at hl 0 rfl) ?_
  refine lv_lload C.1 C.2.1 d_Md_goal_11 (lv_at hl 3 rfl) ?_
  refine gp_l C hh (Md_0 hM) rfl in_Md t_Md t_Md_ok n_Md 25 (by decide) rfl tw_590 rfl rfl (by decide +kernel) d_Md_goal_13 (fun H locs hh => ?_)
  obtain ⟨J_3, eJ_3⟩ : ∃ z : gm_J, z = gm_up J_2 r 25 c := ⟨_, rfl⟩
  rw [← eJ_3] at hh
  exact gr_v C hlk hret hh (by subst_vars; rfl) d_Md_goal_16

set_option maxHeartbeats 4000000 in
set_option maxRecDepth 100000 in
theorem c_Md_isNear (l : Launch) (D : va_G) (cs : Nat → ClassId) (sh : gm_H) (sz : Nat) (I : gm_I) (J : gm_J) (v : Int64) : CI l y_Md_isNear w_Md_isNear { frames := 0, cells := 0, slots := 0, locals := 0 } D cs sh sz I J [.long v] (fun x u => u = (I, J) ∧ x = bI (nearB v)) := by
  refine gm_start (by decide) (Nat.le_of_ble_eq_true rfl) ?_
  intro p' e' s' m' be' me' co' ls C hml hlk hret hh hl
  have hl : lv_has ls 2 [(0, .long v)] := hl
  refine lv_lload_n C.1 C.2.1 d_Md_isNear_0 rfl (lv_at hl 0 rfl) ?_
  refine lv_ldc2 C.1 C.2.1 C.2.2.2.1 (C.2.2.1 _ tw_885) d_Md_isNear_1 ?_
  refine W.lcmp C.1 C.2.1 d_Md_isNear_4 ?_
  refine lv_if_lt (tgt := 20) C.1 C.2.1 d_Md_isNear_5 (by decide) (fun c_1 => ?_) (fun c_1 => ?_)
  · -- 5 -> 20
    have c_1 := gm_lltt c_1
    refine lv_iconst (v := nI 0) C.1 C.2.1 d_Md_isNear_20 rfl ?_
    exact gr_i C hlk hret (gm_nb (Or.inl rfl)) hh (by refine ⟨rfl, ?_⟩; simp [nearB, nI_0, nI_one, bI, *]) d_Md_isNear_21
  · -- 5 -> 8
    have c_1 := gm_lltf c_1
    refine lv_lload_n C.1 C.2.1 d_Md_isNear_8 rfl (lv_at hl 0 rfl) ?_
    refine lv_ldc2 C.1 C.2.1 C.2.2.2.1 (C.2.2.1 _ tw_886) d_Md_isNear_9 ?_
    refine W.lcmp C.1 C.2.1 d_Md_isNear_12 ?_
    refine lv_if_gt (tgt := 20) C.1 C.2.1 d_Md_isNear_13 (by decide) (fun c_2 => ?_) (fun c_2 => ?_)
    · -- 13 -> 20
      have c_2 := gm_lgtt c_2
      refine lv_iconst (v := nI 0) C.1 C.2.1 d_Md_isNear_20 rfl ?_
      exact gr_i C hlk hret (gm_nb (Or.inl rfl)) hh (by refine ⟨rfl, ?_⟩; simp [nearB, nI_0, nI_one, bI, *]) d_Md_isNear_21
    · -- 13 -> 16
      have c_2 := gm_lgtf c_2
      refine lv_iconst (v := nI 1) C.1 C.2.1 d_Md_isNear_16 rfl ?_
      refine lv_goto (tgt := 21) C.1 C.2.1 d_Md_isNear_17 (by decide) ?_
      exact gr_i C hlk hret (gm_nb (Or.inr rfl)) hh (by refine ⟨rfl, ?_⟩; simp [nearB, nI_0, nI_one, bI, *]) d_Md_isNear_21

set_option maxHeartbeats 4000000 in
set_option maxRecDepth 100000 in
theorem c_Md_isMet (l : Launch) (D : va_G) (cs : Nat → ClassId) (sh : gm_H) (sz : Nat) (I : gm_I) (J : gm_J) (r q n k : Nat) (hM : is_Md sh r) (hq : sh q = some (.inr (.inl n))) (hk : k + 3 < n) (hn : n < 2 ^ 30) : CI l y_Md_isMet w_Md_isMet { frames := 0, cells := 0, slots := 0, locals := 0 } D cs sh sz I J [.ref r, .ref q, .int (nI k)] (fun x u => u = (I, J) ∧ x = bI (metB I q k (J r 35) (J r 36) (J r 37))) := by
  refine gm_start (by decide) (Nat.le_of_ble_eq_true rfl) ?_
  intro p' e' s' m' be' me' co' ls C hml hlk hret hh hl
  have hl : lv_has ls 3 [(0, .ref r), (1, .ref q), (2, .int (nI k))] := hl
  refine lv_aload_n C.1 C.2.1 d_Md_isMet_0 rfl (lv_at hl 1 rfl) ?_
  refine lv_iload_n C.1 C.2.1 d_Md_isMet_1 rfl (lv_at hl 2 rfl) ?_
  refine ga_i C hh hq (k := k) rfl (by omega) (by omega) d_Md_isMet_2 ?_
  refine lv_i2l (v := (I q k).toInt64) C.1 C.2.1 d_Md_isMet_3 rfl ?_
  refine lv_aload_n C.1 C.2.1 d_Md_isMet_4 rfl (lv_at hl 0 rfl) ?_
  refine gg_l C hh (Md_0 hM) rfl in_Md 35 (by decide) rfl tw_600 rfl d_Md_isMet_5 ?_
  refine lv_lmul C.1 C.2.1 d_Md_isMet_8 ?_
  refine lv_aload_n C.1 C.2.1 d_Md_isMet_9 rfl (lv_at hl 1 rfl) ?_
  refine lv_iload_n C.1 C.2.1 d_Md_isMet_10 rfl (lv_at hl 2 rfl) ?_
  refine lv_iconst (v := nI 1) C.1 C.2.1 d_Md_isMet_11 rfl ?_
  refine lv_iadd C.1 C.2.1 d_Md_isMet_12 ?_
  refine gm_eqi (nI_add _ _) ?_
  refine ga_i C hh hq (k := k + 1) rfl (by omega) (by omega) d_Md_isMet_13 ?_
  refine lv_i2l (v := (I q (k + 1)).toInt64) C.1 C.2.1 d_Md_isMet_14 rfl ?_
  refine lv_aload_n C.1 C.2.1 d_Md_isMet_15 rfl (lv_at hl 0 rfl) ?_
  refine gg_l C hh (Md_0 hM) rfl in_Md 36 (by decide) rfl tw_601 rfl d_Md_isMet_16 ?_
  refine lv_lmul C.1 C.2.1 d_Md_isMet_19 ?_
  refine lv_ladd C.1 C.2.1 d_Md_isMet_20 ?_
  refine lv_aload_n C.1 C.2.1 d_Md_isMet_21 rfl (lv_at hl 1 rfl) ?_
  refine lv_iload_n C.1 C.2.1 d_Md_isMet_22 rfl (lv_at hl 2 rfl) ?_
  refine lv_iconst (v := nI 2) C.1 C.2.1 d_Md_isMet_23 rfl ?_
  refine lv_iadd C.1 C.2.1 d_Md_isMet_24 ?_
  refine gm_eqi (nI_add _ _) ?_
  refine ga_i C hh hq (k := k + 2) rfl (by omega) (by omega) d_Md_isMet_25 ?_
  refine lv_i2l (v := (I q (k + 2)).toInt64) C.1 C.2.1 d_Md_isMet_26 rfl ?_
  refine lv_aload_n C.1 C.2.1 d_Md_isMet_27 rfl (lv_at hl 0 rfl) ?_
  refine gg_l C hh (Md_0 hM) rfl in_Md 37 (by decide) rfl tw_602 rfl d_Md_isMet_28 ?_
  refine lv_lmul C.1 C.2.1 d_Md_isMet_31 ?_
  refine lv_ladd C.1 C.2.1 d_Md_isMet_32 ?_
  refine lv_aload_n C.1 C.2.1 d_Md_isMet_33 rfl (lv_at hl 1 rfl) ?_
  refine lv_iload_n C.1 C.2.1 d_Md_isMet_34 rfl (lv_at hl 2 rfl) ?_
  refine lv_iconst (v := nI 3) C.1 C.2.1 d_Md_isMet_35 rfl ?_
  refine lv_iadd C.1 C.2.1 d_Md_isMet_36 ?_
  refine gm_eqi (nI_add _ _) ?_
  refine ga_i C hh hq (k := k + 3) rfl (by omega) (by omega) d_Md_isMet_37 ?_
  refine lv_i2l (v := (I q (k + 3)).toInt64) C.1 C.2.1 d_Md_isMet_38 rfl ?_
  refine W.lcmp C.1 C.2.1 d_Md_isMet_39 ?_
  refine lv_if_lt (tgt := 47) C.1 C.2.1 d_Md_isMet_40 (by decide) (fun c_1 => ?_) (fun c_1 => ?_)
  · -- 40 -> 47
    have c_1 := gm_lltt c_1
    refine lv_iconst (v := nI 0) C.1 C.2.1 d_Md_isMet_47 rfl ?_
    exact gr_i C hlk hret (gm_nb (Or.inl rfl)) hh (by refine ⟨rfl, ?_⟩; simp [metB, nI_0, nI_one, bI, Int64.not_lt, *]) d_Md_isMet_48
  · -- 40 -> 43
    have c_1 := gm_lltf c_1
    refine lv_iconst (v := nI 1) C.1 C.2.1 d_Md_isMet_43 rfl ?_
    refine lv_goto (tgt := 48) C.1 C.2.1 d_Md_isMet_44 (by decide) ?_
    exact gr_i C hlk hret (gm_nb (Or.inr rfl)) hh (by refine ⟨rfl, ?_⟩; simp [metB, nI_0, nI_one, bI, Int64.not_lt, *]) d_Md_isMet_48

set_option maxHeartbeats 4000000 in
set_option maxRecDepth 100000 in
theorem c_Md_becomes (l : Launch) (D : va_G) (cs : Nat → ClassId) (sh : gm_H) (sz : Nat) (I : gm_I) (J : gm_J) (r : Nat) (hM : is_Md sh r) (w k : Nat) (hw : w < 24) (hk : k < 3) : CL l y_Md_becomes w_Md_becomes { frames := 0, cells := 0, slots := 0, locals := 0 } D cs sh sz I J [.ref r, .int (nI w), .int (nI k)] (fun x u => u = (I, J) ∧ x = becV I r w k (J r 35) (J r 36) (J r 37)) := by
  refine gm_start (by decide) (Nat.le_of_ble_eq_true rfl) ?_
  intro p' e' s' m' be' me' co' ls C hml hlk hret hh hl
  have hl : lv_has ls 4 [(0, .ref r), (1, .int (nI w)), (2, .int (nI k))] := hl
  refine lv_bipush (v := nI 9) C.1 C.2.1 d_Md_becomes_0 rfl ?_
  refine lv_iload_n C.1 C.2.1 d_Md_becomes_2 rfl (lv_at hl 1 rfl) ?_
  refine lv_imul C.1 C.2.1 d_Md_becomes_3 ?_
  refine gm_eqi (pk_mul _ _) ?_
  refine lv_iconst (v := nI 3) C.1 C.2.1 d_Md_becomes_4 rfl ?_
  refine lv_iload_n C.1 C.2.1 d_Md_becomes_5 rfl (lv_at hl 2 rfl) ?_
  refine lv_imul C.1 C.2.1 d_Md_becomes_6 ?_
  refine gm_eqi (pk_mul _ _) ?_
  refine lv_iadd C.1 C.2.1 d_Md_becomes_7 ?_
  refine gm_eqi (nI_add _ _) ?_
  refine lv_istore_n (lv' := [(3, .int (nI ((9 * w) + (3 * k)))), (0, .ref r), (1, .int (nI w)), (2, .int (nI k))]) C.1 C.2.1 d_Md_becomes_8 rfl hl (by decide) rfl (fun ls hl => ?_)
  refine lv_aload_n C.1 C.2.1 d_Md_becomes_9 rfl (lv_at hl 1 rfl) ?_
  refine gg_r C hh (Md_0 hM) rfl in_Md 7 (by decide) rfl tw_572 rfl d_Md_becomes_10 ?_
  refine lv_iload_n C.1 C.2.1 d_Md_becomes_13 rfl (lv_at hl 0 rfl) ?_
  refine ga_i C hh (Md_7 hM) (k := (9 * w) + (3 * k)) rfl (by omega) (by omega) d_Md_becomes_14 ?_
  refine lv_i2l (v := (I (r + 7) ((9 * w) + (3 * k))).toInt64) C.1 C.2.1 d_Md_becomes_15 rfl ?_
  refine lv_aload_n C.1 C.2.1 d_Md_becomes_16 rfl (lv_at hl 1 rfl) ?_
  refine gg_l C hh (Md_0 hM) rfl in_Md 35 (by decide) rfl tw_600 rfl d_Md_becomes_17 ?_
  refine lv_lmul C.1 C.2.1 d_Md_becomes_20 ?_
  refine lv_aload_n C.1 C.2.1 d_Md_becomes_21 rfl (lv_at hl 1 rfl) ?_
  refine gg_r C hh (Md_0 hM) rfl in_Md 7 (by decide) rfl tw_572 rfl d_Md_becomes_22 ?_
  refine lv_iload_n C.1 C.2.1 d_Md_becomes_25 rfl (lv_at hl 0 rfl) ?_
  refine lv_iconst (v := nI 1) C.1 C.2.1 d_Md_becomes_26 rfl ?_
  refine lv_iadd C.1 C.2.1 d_Md_becomes_27 ?_
  refine gm_eqi (nI_add _ _) ?_
  refine ga_i C hh (Md_7 hM) (k := ((9 * w) + (3 * k)) + 1) rfl (by omega) (by omega) d_Md_becomes_28 ?_
  refine lv_i2l (v := (I (r + 7) (((9 * w) + (3 * k)) + 1)).toInt64) C.1 C.2.1 d_Md_becomes_29 rfl ?_
  refine lv_aload_n C.1 C.2.1 d_Md_becomes_30 rfl (lv_at hl 1 rfl) ?_
  refine gg_l C hh (Md_0 hM) rfl in_Md 36 (by decide) rfl tw_601 rfl d_Md_becomes_31 ?_
  refine lv_lmul C.1 C.2.1 d_Md_becomes_34 ?_
  refine lv_ladd C.1 C.2.1 d_Md_becomes_35 ?_
  refine lv_aload_n C.1 C.2.1 d_Md_becomes_36 rfl (lv_at hl 1 rfl) ?_
  refine gg_r C hh (Md_0 hM) rfl in_Md 7 (by decide) rfl tw_572 rfl d_Md_becomes_37 ?_
  refine lv_iload_n C.1 C.2.1 d_Md_becomes_40 rfl (lv_at hl 0 rfl) ?_
  refine lv_iconst (v := nI 2) C.1 C.2.1 d_Md_becomes_41 rfl ?_
  refine lv_iadd C.1 C.2.1 d_Md_becomes_42 ?_
  refine gm_eqi (nI_add _ _) ?_
  refine ga_i C hh (Md_7 hM) (k := ((9 * w) + (3 * k)) + 2) rfl (by omega) (by omega) d_Md_becomes_43 ?_
  refine lv_i2l (v := (I (r + 7) (((9 * w) + (3 * k)) + 2)).toInt64) C.1 C.2.1 d_Md_becomes_44 rfl ?_
  refine lv_aload_n C.1 C.2.1 d_Md_becomes_45 rfl (lv_at hl 1 rfl) ?_
  refine gg_l C hh (Md_0 hM) rfl in_Md 37 (by decide) rfl tw_602 rfl d_Md_becomes_46 ?_
  refine lv_lmul C.1 C.2.1 d_Md_becomes_49 ?_
  refine lv_ladd C.1 C.2.1 d_Md_becomes_50 ?_
  refine lv_aload_n C.1 C.2.1 d_Md_becomes_51 rfl (lv_at hl 1 rfl) ?_
  refine gg_r C hh (Md_0 hM) rfl in_Md 8 (by decide) rfl tw_573 rfl d_Md_becomes_52 ?_
  refine lv_iconst (v := nI 3) C.1 C.2.1 d_Md_becomes_55 rfl ?_
  refine lv_iload_n C.1 C.2.1 d_Md_becomes_56 rfl (lv_at hl 2 rfl) ?_
  refine lv_imul C.1 C.2.1 d_Md_becomes_57 ?_
  refine gm_eqi (pk_mul _ _) ?_
  refine lv_iload_n C.1 C.2.1 d_Md_becomes_58 rfl (lv_at hl 3 rfl) ?_
  refine lv_iadd C.1 C.2.1 d_Md_becomes_59 ?_
  refine gm_eqi (nI_add _ _) ?_
  refine ga_i C hh (Md_8 hM) (k := (3 * w) + k) rfl (by omega) (by omega) d_Md_becomes_60 ?_
  refine lv_i2l (v := (I (r + 8) ((3 * w) + k)).toInt64) C.1 C.2.1 d_Md_becomes_61 rfl ?_
  refine lv_ladd C.1 C.2.1 d_Md_becomes_62 ?_
  exact gr_l C hlk hret hh (by subst_vars; exact ⟨rfl, rfl⟩) d_Md_becomes_63

set_option maxHeartbeats 4000000 in
set_option maxRecDepth 100000 in
theorem c_Md_upright (l : Launch) (D : va_G) (cs : Nat → ClassId) (sh : gm_H) (sz : Nat) (I : gm_I) (J : gm_J) (r : Nat) (hM : is_Md sh r) (i j : Nat) (hi : i < 8) (hj : j < 8) : CV l y_Md_upright w_Md_upright { frames := 0, cells := 0, slots := 0, locals := 0 } D cs sh sz I J [.ref r, .int (nI i), .int (nI j)] (fun u => u = (I, gm_up (gm_up (gm_up J r 26 (J (r + 13) i * J (r + 14) j - J (r + 14) i * J (r + 13) j)) r 27 (J (r + 14) i * J (r + 12) j - J (r + 12) i * J (r + 14) j)) r 28 (J (r + 12) i * J (r + 13) j - J (r + 13) i * J (r + 12) j))) := by
  refine gm_start (by decide) (Nat.le_of_ble_eq_true rfl) ?_
  intro p' e' s' m' be' me' co' ls C hml hlk hret hh hl
  have hl : lv_has ls 3 [(0, .ref r), (1, .int (nI i)), (2, .int (nI j))] := hl
  refine lv_aload_n C.1 C.2.1 d_Md_upright_0 rfl (lv_at hl 0 rfl) ?_
  refine lv_aload_n C.1 C.2.1 d_Md_upright_1 rfl (lv_at hl 0 rfl) ?_
  refine gg_r C hh (Md_0 hM) rfl in_Md 17 (by decide) rfl tw_582 rfl d_Md_upright_2 ?_
  refine lv_iload_n C.1 C.2.1 d_Md_upright_5 rfl (lv_at hl 1 rfl) ?_
  refine ga_l C hh (Md_13 hM) (k := i) rfl (by omega) (by omega) d_Md_upright_6 ?_
  refine lv_aload_n C.1 C.2.1 d_Md_upright_7 rfl (lv_at hl 0 rfl) ?_
  refine gg_r C hh (Md_0 hM) rfl in_Md 18 (by decide) rfl tw_583 rfl d_Md_upright_8 ?_
  refine lv_iload_n C.1 C.2.1 d_Md_upright_11 rfl (lv_at hl 2 rfl) ?_
  refine ga_l C hh (Md_14 hM) (k := j) rfl (by omega) (by omega) d_Md_upright_12 ?_
  refine lv_lmul C.1 C.2.1 d_Md_upright_13 ?_
  refine lv_aload_n C.1 C.2.1 d_Md_upright_14 rfl (lv_at hl 0 rfl) ?_
  refine gg_r C hh (Md_0 hM) rfl in_Md 18 (by decide) rfl tw_583 rfl d_Md_upright_15 ?_
  refine lv_iload_n C.1 C.2.1 d_Md_upright_18 rfl (lv_at hl 1 rfl) ?_
  refine ga_l C hh (Md_14 hM) (k := i) rfl (by omega) (by omega) d_Md_upright_19 ?_
  refine lv_aload_n C.1 C.2.1 d_Md_upright_20 rfl (lv_at hl 0 rfl) ?_
  refine gg_r C hh (Md_0 hM) rfl in_Md 17 (by decide) rfl tw_582 rfl d_Md_upright_21 ?_
  refine lv_iload_n C.1 C.2.1 d_Md_upright_24 rfl (lv_at hl 2 rfl) ?_
  refine ga_l C hh (Md_13 hM) (k := j) rfl (by omega) (by omega) d_Md_upright_25 ?_
  refine lv_lmul C.1 C.2.1 d_Md_upright_26 ?_
  refine lv_lsub C.1 C.2.1 d_Md_upright_27 ?_
  refine gp_l C hh (Md_0 hM) rfl in_Md t_Md t_Md_ok n_Md 26 (by decide) rfl tw_591 rfl rfl (by decide +kernel) d_Md_upright_28 (fun H locs hh => ?_)
  obtain ⟨J_1, eJ_1⟩ : ∃ z : gm_J, z = gm_up J r 26 (((J (r + 13) i) * (J (r + 14) j)) - ((J (r + 14) i) * (J (r + 13) j))) := ⟨_, rfl⟩
  rw [← eJ_1] at hh
  refine lv_aload_n C.1 C.2.1 d_Md_upright_31 rfl (lv_at hl 0 rfl) ?_
  refine lv_aload_n C.1 C.2.1 d_Md_upright_32 rfl (lv_at hl 0 rfl) ?_
  refine gg_r C hh (Md_0 hM) rfl in_Md 18 (by decide) rfl tw_583 rfl d_Md_upright_33 ?_
  refine lv_iload_n C.1 C.2.1 d_Md_upright_36 rfl (lv_at hl 1 rfl) ?_
  refine ga_l C hh (Md_14 hM) (k := i) rfl (by omega) (by omega) d_Md_upright_37 ?_
  refine gm_eql (y := J (r + 14) i) (by rw [eJ_1, gm_up_ne _ _ (Or.inl (by omega))]) ?_
  refine lv_aload_n C.1 C.2.1 d_Md_upright_38 rfl (lv_at hl 0 rfl) ?_
  refine gg_r C hh (Md_0 hM) rfl in_Md 16 (by decide) rfl tw_581 rfl d_Md_upright_39 ?_
  refine lv_iload_n C.1 C.2.1 d_Md_upright_42 rfl (lv_at hl 2 rfl) ?_
  refine ga_l C hh (Md_12 hM) (k := j) rfl (by omega) (by omega) d_Md_upright_43 ?_
  refine gm_eql (y := J (r + 12) j) (by rw [eJ_1, gm_up_ne _ _ (Or.inl (by omega))]) ?_
  refine lv_lmul C.1 C.2.1 d_Md_upright_44 ?_
  refine lv_aload_n C.1 C.2.1 d_Md_upright_45 rfl (lv_at hl 0 rfl) ?_
  refine gg_r C hh (Md_0 hM) rfl in_Md 16 (by decide) rfl tw_581 rfl d_Md_upright_46 ?_
  refine lv_iload_n C.1 C.2.1 d_Md_upright_49 rfl (lv_at hl 1 rfl) ?_
  refine ga_l C hh (Md_12 hM) (k := i) rfl (by omega) (by omega) d_Md_upright_50 ?_
  refine gm_eql (y := J (r + 12) i) (by rw [eJ_1, gm_up_ne _ _ (Or.inl (by omega))]) ?_
  refine lv_aload_n C.1 C.2.1 d_Md_upright_51 rfl (lv_at hl 0 rfl) ?_
  refine gg_r C hh (Md_0 hM) rfl in_Md 18 (by decide) rfl tw_583 rfl d_Md_upright_52 ?_
  refine lv_iload_n C.1 C.2.1 d_Md_upright_55 rfl (lv_at hl 2 rfl) ?_
  refine ga_l C hh (Md_14 hM) (k := j) rfl (by omega) (by omega) d_Md_upright_56 ?_
  refine gm_eql (y := J (r + 14) j) (by rw [eJ_1, gm_up_ne _ _ (Or.inl (by omega))]) ?_
  refine lv_lmul C.1 C.2.1 d_Md_upright_57 ?_
  refine lv_lsub C.1 C.2.1 d_Md_upright_58 ?_
  refine gp_l C hh (Md_0 hM) rfl in_Md t_Md t_Md_ok n_Md 27 (by decide) rfl tw_592 rfl rfl (by decide +kernel) d_Md_upright_59 (fun H locs hh => ?_)
  obtain ⟨J_2, eJ_2⟩ : ∃ z : gm_J, z = gm_up J_1 r 27 (((J (r + 14) i) * (J (r + 12) j)) - ((J (r + 12) i) * (J (r + 14) j))) := ⟨_, rfl⟩
  rw [← eJ_2] at hh
  refine lv_aload_n C.1 C.2.1 d_Md_upright_62 rfl (lv_at hl 0 rfl) ?_
  refine lv_aload_n C.1 C.2.1 d_Md_upright_63 rfl (lv_at hl 0 rfl) ?_
  refine gg_r C hh (Md_0 hM) rfl in_Md 16 (by decide) rfl tw_581 rfl d_Md_upright_64 ?_
  refine lv_iload_n C.1 C.2.1 d_Md_upright_67 rfl (lv_at hl 1 rfl) ?_
  refine ga_l C hh (Md_12 hM) (k := i) rfl (by omega) (by omega) d_Md_upright_68 ?_
  refine gm_eql (y := J (r + 12) i) (by rw [eJ_2, gm_up_ne _ _ (Or.inl (by omega)), eJ_1, gm_up_ne _ _ (Or.inl (by omega))]) ?_
  refine lv_aload_n C.1 C.2.1 d_Md_upright_69 rfl (lv_at hl 0 rfl) ?_
  refine gg_r C hh (Md_0 hM) rfl in_Md 17 (by decide) rfl tw_582 rfl d_Md_upright_70 ?_
  refine lv_iload_n C.1 C.2.1 d_Md_upright_73 rfl (lv_at hl 2 rfl) ?_
  refine ga_l C hh (Md_13 hM) (k := j) rfl (by omega) (by omega) d_Md_upright_74 ?_
  refine gm_eql (y := J (r + 13) j) (by rw [eJ_2, gm_up_ne _ _ (Or.inl (by omega)), eJ_1, gm_up_ne _ _ (Or.inl (by omega))]) ?_
  refine lv_lmul C.1 C.2.1 d_Md_upright_75 ?_
  refine lv_aload_n C.1 C.2.1 d_Md_upright_76 rfl (lv_at hl 0 rfl) ?_
  refine gg_r C hh (Md_0 hM) rfl in_Md 17 (by decide) rfl tw_582 rfl d_Md_upright_77 ?_
  refine lv_iload_n C.1 C.2.1 d_Md_upright_80 rfl (lv_at hl 1 rfl) ?_
  refine ga_l C hh (Md_13 hM) (k := i) rfl (by omega) (by omega) d_Md_upright_81 ?_
  refine gm_eql (y := J (r + 13) i) (by rw [eJ_2, gm_up_ne _ _ (Or.inl (by omega)), eJ_1, gm_up_ne _ _ (Or.inl (by omega))]) ?_
  refine lv_aload_n C.1 C.2.1 d_Md_upright_82 rfl (lv_at hl 0 rfl) ?_
  refine gg_r C hh (Md_0 hM) rfl in_Md 16 (by decide) rfl tw_581 rfl d_Md_upright_83 ?_
  refine lv_iload_n C.1 C.2.1 d_Md_upright_86 rfl (lv_at hl 2 rfl) ?_
  refine ga_l C hh (Md_12 hM) (k := j) rfl (by omega) (by omega) d_Md_upright_87 ?_
  refine gm_eql (y := J (r + 12) j) (by rw [eJ_2, gm_up_ne _ _ (Or.inl (by omega)), eJ_1, gm_up_ne _ _ (Or.inl (by omega))]) ?_
  refine lv_lmul C.1 C.2.1 d_Md_upright_88 ?_
  refine lv_lsub C.1 C.2.1 d_Md_upright_89 ?_
  refine gp_l C hh (Md_0 hM) rfl in_Md t_Md t_Md_ok n_Md 28 (by decide) rfl tw_593 rfl rfl (by decide +kernel) d_Md_upright_90 (fun H locs hh => ?_)
  obtain ⟨J_3, eJ_3⟩ : ∃ z : gm_J, z = gm_up J_2 r 28 (((J (r + 12) i) * (J (r + 13) j)) - ((J (r + 13) i) * (J (r + 12) j))) := ⟨_, rfl⟩
  rw [← eJ_3] at hh
  exact gr_v C hlk hret hh (by subst_vars; rfl) d_Md_upright_93
