set_option maxHeartbeats 4000000 in
set_option maxRecDepth 100000 in
theorem c_Md_guard (l : Launch) (D : va_G) (cs : Nat → ClassId) (sh : gm_H) (sz : Nat) (I : gm_I) (J : gm_J) (r : Nat) (hM : is_Md sh r) (hV : inv_Md I r) (v a b c d : Int32) : CI l y_Md_guard w_Md_guard { frames := 3, cells := 0, slots := 0, locals := 72 } D cs sh sz I J [.ref r, .int v, .int a, .int b, .int c, .int d] (fun z u => (z, u) = sp_guard I J r v a b c d) := by
  refine gm_start (by decide) (Nat.le_of_ble_eq_true rfl) ?_
  intro p' e' s' m' be' me' co' ls C hml hlk hret hh hl
  have hl : lv_has ls 6 [(0, .ref r), (1, .int v), (2, .int a), (3, .int b), (4, .int c), (5, .int d)] := hl
  refine lv_aload_n C.1 C.2.1 d_Md_guard_0 rfl (lv_at hl 0 rfl) ?_
  refine lv_iload_n C.1 C.2.1 d_Md_guard_1 rfl (lv_at hl 1 rfl) ?_
  refine gc_i hh (gc_runV (As := [.int v]) (rest := []) (n := 1) C hml hh (c_Md_isLoop l D cs sh sz I J r hM hV v) (tg_V tw_695 tw_697 tw_26 tw_64 tw_698) (by decide +kernel) ⟨rfl, rfl, by decide, by decide, Nat.zero_le _, Nat.zero_le _⟩ (Md_0 hM) rfl rfl hl.1 rfl (Nat.le_of_ble_eq_true rfl) d_Md_guard_2) (fun r_1 I_2 J_3 H locs hr_1 hh => ?_)
  obtain ⟨e_r_1, hr_1⟩ := hr_1
  rw [(Prod.mk.inj e_r_1).1, (Prod.mk.inj e_r_1).2] at hh
  refine lv_if_ne (tgt := 11) C.1 C.2.1 d_Md_guard_5 (by decide) (fun c_4 => ?_) (fun c_4 => ?_)
  · -- 5 -> 11
    have b_5 := bI_t hr_1 c_4
    obtain ⟨n_7, hn_7, en_7⟩ := hV.1
    obtain ⟨j_6, hj_6, ej_6⟩ := lpB_j en_7 hn_7 b_5
    subst ej_6
    skip
    obtain ⟨nm, hnm, enm⟩ := hV.2.1 j_6 (by omega)
    refine lv_aload_n C.1 C.2.1 d_Md_guard_11 rfl (lv_at hl 0 rfl) ?_
    refine lv_iload_n C.1 C.2.1 d_Md_guard_12 rfl (lv_at hl 1 rfl) ?_
    refine lv_iload_n C.1 C.2.1 d_Md_guard_13 rfl (lv_at hl 2 rfl) ?_
    refine lv_iload_n C.1 C.2.1 d_Md_guard_14 rfl (lv_at hl 3 rfl) ?_
    refine lv_iload C.1 C.2.1 d_Md_guard_15 (lv_at hl 4 rfl) ?_
    refine lv_iload C.1 C.2.1 d_Md_guard_17 (lv_at hl 5 rfl) ?_
    refine gc_i hh (gc_runV (As := [.int (nI j_6), .int a, .int b, .int c, .int d]) (rest := []) (n := 5) C hml hh (c_Md_isRow l D cs sh sz I J r hM hV j_6 nm a b c d (by omega) enm hnm) (tg_V tw_699 tw_701 tw_27 tw_64 tw_702) (by decide +kernel) ⟨rfl, rfl, by decide, by decide, Nat.zero_le _, Nat.zero_le _⟩ (Md_0 hM) rfl rfl hl.1 rfl (Nat.le_of_ble_eq_true rfl) d_Md_guard_19) (fun r_8 I_9 J_10 H locs hr_8 hh => ?_)
    obtain ⟨e_r_8, hr_8⟩ := hr_8
    rw [(Prod.mk.inj e_r_8).1, (Prod.mk.inj e_r_8).2] at hh
    refine lv_if_ne (tgt := 28) C.1 C.2.1 d_Md_guard_22 (by decide) (fun c_11 => ?_) (fun c_11 => ?_)
    · -- 22 -> 28
      have b_12 := bI_t hr_8 c_11
      skip
      refine lv_aload_n C.1 C.2.1 d_Md_guard_28 rfl (lv_at hl 0 rfl) ?_
      refine gg_r C hh (Md_0 hM) rfl in_Md 3 (by decide) rfl tw_568 rfl d_Md_guard_29 ?_
      refine lv_iload_n C.1 C.2.1 d_Md_guard_32 rfl (lv_at hl 1 rfl) ?_
      refine ga_i C hh (Md_3 hM) (k := j_6) rfl (by omega) (by omega) d_Md_guard_33 ?_
      obtain ⟨g_13, hg_13, eg_13⟩ := hV.2.2.2.1 j_6 (by omega)
      refine gm_eqi eg_13 ?_
      refine lv_iconst (v := nI 4) C.1 C.2.1 d_Md_guard_34 rfl ?_
      refine lv_icmp_ne (tgt := 41) C.1 C.2.1 d_Md_guard_35 (by decide) (fun c_14 => ?_) (fun c_14 => ?_)
      · -- 35 -> 41
        have c_14 := gm_net (by omega) (by omega) c_14
        refine lv_aload_n C.1 C.2.1 d_Md_guard_41 rfl (lv_at hl 0 rfl) ?_
        refine gg_r C hh (Md_0 hM) rfl in_Md 4 (by decide) rfl tw_569 rfl d_Md_guard_42 ?_
        refine lv_bipush (v := nI 16) C.1 C.2.1 d_Md_guard_45 rfl ?_
        refine lv_iload_n C.1 C.2.1 d_Md_guard_47 rfl (lv_at hl 1 rfl) ?_
        refine lv_imul C.1 C.2.1 d_Md_guard_48 ?_
        refine gm_eqi (pk_mul _ _) ?_
        refine lv_iconst (v := nI 4) C.1 C.2.1 d_Md_guard_49 rfl ?_
        refine lv_aload_n C.1 C.2.1 d_Md_guard_50 rfl (lv_at hl 0 rfl) ?_
        refine gg_r C hh (Md_0 hM) rfl in_Md 3 (by decide) rfl tw_568 rfl d_Md_guard_51 ?_
        refine lv_iload_n C.1 C.2.1 d_Md_guard_54 rfl (lv_at hl 1 rfl) ?_
        refine ga_i C hh (Md_3 hM) (k := j_6) rfl (by omega) (by omega) d_Md_guard_55 ?_
        refine gm_eqi eg_13 ?_
        refine lv_imul C.1 C.2.1 d_Md_guard_56 ?_
        refine gm_eqi (pk_mul _ _) ?_
        refine lv_iadd C.1 C.2.1 d_Md_guard_57 ?_
        refine gm_eqi (nI_add _ _) ?_
        refine lv_iload_n C.1 C.2.1 d_Md_guard_58 rfl (lv_at hl 2 rfl) ?_
        refine lv_iload_n C.1 C.2.1 d_Md_guard_59 rfl (lv_at hl 3 rfl) ?_
        refine lv_iload C.1 C.2.1 d_Md_guard_60 (lv_at hl 4 rfl) ?_
        refine lv_iload C.1 C.2.1 d_Md_guard_62 (lv_at hl 5 rfl) ?_
        refine gc_v hh (gc_runS (As := [.ref (r + 4), .int (nI ((16 * j_6) + (4 * g_13))), .int a, .int b, .int c, .int d]) (rest := []) (n := 6) C hml hh (c_Md_lay l D cs sh sz I J (r + 4) 128 ((16 * j_6) + (4 * g_13)) a b c d (Md_4 hM) (by omega) (by omega)) (tg_S tw_707 tw_708 tw_64 tw_709) (by decide +kernel) ⟨rfl, rfl, by decide, by decide, Nat.zero_le _, Nat.zero_le _⟩ rfl hl.1 rfl (Nat.le_of_ble_eq_true rfl) d_Md_guard_64) (fun I_16 J_17 H locs hr_15 hh => ?_)
        obtain ⟨X_18, eX_18⟩ : ∃ z : gm_I, z = gm_up I (r + 4) ((16 * j_6) + (4 * g_13)) a := ⟨_, rfl⟩
        obtain ⟨X_19, eX_19⟩ : ∃ z : gm_I, z = gm_up X_18 (r + 4) ((16 * j_6) + (4 * g_13) + 1) b := ⟨_, rfl⟩
        obtain ⟨X_20, eX_20⟩ : ∃ z : gm_I, z = gm_up X_19 (r + 4) ((16 * j_6) + (4 * g_13) + 2) c := ⟨_, rfl⟩
        obtain ⟨X_21, eX_21⟩ : ∃ z : gm_I, z = gm_up X_20 (r + 4) ((16 * j_6) + (4 * g_13) + 3) d := ⟨_, rfl⟩
        rw [← eX_18, ← eX_19, ← eX_20, ← eX_21] at hr_15
        rw [(Prod.mk.inj hr_15).1, (Prod.mk.inj hr_15).2] at hh
        refine lv_aload_n C.1 C.2.1 d_Md_guard_67 rfl (lv_at hl 0 rfl) ?_
        refine gg_r C hh (Md_0 hM) rfl in_Md 3 (by decide) rfl tw_568 rfl d_Md_guard_68 ?_
        refine lv_iload_n C.1 C.2.1 d_Md_guard_71 rfl (lv_at hl 1 rfl) ?_
        refine lv_dup2_11 C.1 C.2.1 d_Md_guard_72 rfl rfl ?_
        refine ga_i C hh (Md_3 hM) (k := j_6) rfl (by omega) (by omega) d_Md_guard_73 ?_
        refine gm_eqi (y := I (r + 3) j_6) (by rw [eX_21, gm_up_ne _ _ (Or.inl (by omega)), eX_20, gm_up_ne _ _ (Or.inl (by omega)), eX_19, gm_up_ne _ _ (Or.inl (by omega)), eX_18, gm_up_ne _ _ (Or.inl (by omega))]) ?_
        refine gm_eqi eg_13 ?_
        refine lv_iconst (v := nI 1) C.1 C.2.1 d_Md_guard_74 rfl ?_
        refine lv_iadd C.1 C.2.1 d_Md_guard_75 ?_
        refine gm_eqi (nI_add _ _) ?_
        refine gs_i C hh (Md_3 hM) (k := j_6) rfl (by omega) (by omega) d_Md_guard_76 (fun H locs hh => ?_)
        obtain ⟨I_22, eI_22⟩ : ∃ z : gm_I, z = gm_up X_21 (r + 3) j_6 (nI (g_13 + 1)) := ⟨_, rfl⟩
        rw [← eI_22] at hh
        refine lv_aload_n C.1 C.2.1 d_Md_guard_77 rfl (lv_at hl 0 rfl) ?_
        refine gg_r C hh (Md_0 hM) rfl in_Md 3 (by decide) rfl tw_568 rfl d_Md_guard_78 ?_
        refine lv_iload_n C.1 C.2.1 d_Md_guard_81 rfl (lv_at hl 1 rfl) ?_
        refine ga_i C hh (Md_3 hM) (k := j_6) rfl (by omega) (by omega) d_Md_guard_82 ?_
        refine gm_eqi (y := nI (g_13 + 1)) (by rw [eI_22, gm_up_same]) ?_
        exact gr_i C hlk hret rfl hh (by subst_vars; simp (disch := omega) [sp_guard, lay4, nI_clamp, nI_0, nI_one, *]) d_Md_guard_83
      · -- 35 -> 38
        have c_14 := gm_nef (by omega) (by omega) c_14
        refine lv_bipush (v := (-4)) C.1 C.2.1 d_Md_guard_38 rfl ?_
        exact gr_i C hlk hret rfl hh (by subst_vars; simp (disch := omega) [sp_guard, lay4, nI_clamp, nI_0, nI_one, *]) d_Md_guard_40
    · -- 22 -> 25
      have b_23 := bI_f hr_8 c_11
      skip
      refine lv_bipush (v := (-3)) C.1 C.2.1 d_Md_guard_25 rfl ?_
      exact gr_i C hlk hret rfl hh (by subst_vars; simp (disch := omega) [sp_guard, lay4, nI_clamp, nI_0, nI_one, *]) d_Md_guard_27
  · -- 5 -> 8
    have b_24 := bI_f hr_1 c_4
    skip
    refine lv_bipush (v := (-2)) C.1 C.2.1 d_Md_guard_8 rfl ?_
    exact gr_i C hlk hret rfl hh (by subst_vars; simp (disch := omega) [sp_guard, lay4, nI_clamp, nI_0, nI_one, *]) d_Md_guard_10

set_option maxHeartbeats 4000000 in
set_option maxRecDepth 100000 in
theorem c_Md_row (l : Launch) (D : va_G) (cs : Nat → ClassId) (sh : gm_H) (sz : Nat) (I : gm_I) (J : gm_J) (r : Nat) (hM : is_Md sh r) (hV : inv_Md I r) (v w a b c d : Int32) : CI l y_Md_row w_Md_row { frames := 3, cells := 0, slots := 0, locals := 72 } D cs sh sz I J [.ref r, .int v, .int w, .int a, .int b, .int c, .int d] (fun z u => (z, u) = sp_row I J r v w a b c d) := by
  refine gm_start (by decide) (Nat.le_of_ble_eq_true rfl) ?_
  intro p' e' s' m' be' me' co' ls C hml hlk hret hh hl
  have hl : lv_has ls 8 [(0, .ref r), (1, .int v), (2, .int w), (3, .int a), (4, .int b), (5, .int c), (6, .int d)] := hl
  refine lv_aload_n C.1 C.2.1 d_Md_row_0 rfl (lv_at hl 0 rfl) ?_
  refine lv_iload_n C.1 C.2.1 d_Md_row_1 rfl (lv_at hl 1 rfl) ?_
  refine lv_iload_n C.1 C.2.1 d_Md_row_2 rfl (lv_at hl 2 rfl) ?_
  refine gc_i hh (gc_runV (As := [.int v, .int w]) (rest := []) (n := 2) C hml hh (c_Md_isWay l D cs sh sz I J r hM hV v w) (tg_V tw_718 tw_720 tw_29 tw_64 tw_721) (by decide +kernel) ⟨rfl, rfl, by decide, by decide, Nat.zero_le _, Nat.zero_le _⟩ (Md_0 hM) rfl rfl hl.1 rfl (Nat.le_of_ble_eq_true rfl) d_Md_row_3) (fun r_1 I_2 J_3 H locs hr_1 hh => ?_)
  obtain ⟨e_r_1, hr_1⟩ := hr_1
  rw [(Prod.mk.inj e_r_1).1, (Prod.mk.inj e_r_1).2] at hh
  refine lv_if_ne (tgt := 12) C.1 C.2.1 d_Md_row_6 (by decide) (fun c_4 => ?_) (fun c_4 => ?_)
  · -- 6 -> 12
    have b_5 := bI_t hr_1 c_4
    obtain ⟨j_6, k_7, hj_6, hk_7, ej_6, ek_7, lp_k_7, lt_k_7⟩ := wyB_j hV b_5
    subst ej_6
    subst ek_7
    skip
    obtain ⟨nm, hnm, enm⟩ := hV.2.1 j_6 (by omega)
    refine lv_aload_n C.1 C.2.1 d_Md_row_12 rfl (lv_at hl 0 rfl) ?_
    refine lv_iload_n C.1 C.2.1 d_Md_row_13 rfl (lv_at hl 1 rfl) ?_
    refine lv_iload_n C.1 C.2.1 d_Md_row_14 rfl (lv_at hl 3 rfl) ?_
    refine lv_iload C.1 C.2.1 d_Md_row_15 (lv_at hl 4 rfl) ?_
    refine lv_iload C.1 C.2.1 d_Md_row_17 (lv_at hl 5 rfl) ?_
    refine lv_iload C.1 C.2.1 d_Md_row_19 (lv_at hl 6 rfl) ?_
    refine gc_i hh (gc_runV (As := [.int (nI j_6), .int a, .int b, .int c, .int d]) (rest := []) (n := 5) C hml hh (c_Md_isRow l D cs sh sz I J r hM hV j_6 nm a b c d (by omega) enm hnm) (tg_V tw_699 tw_701 tw_27 tw_64 tw_702) (by decide +kernel) ⟨rfl, rfl, by decide, by decide, Nat.zero_le _, Nat.zero_le _⟩ (Md_0 hM) rfl rfl hl.1 rfl (Nat.le_of_ble_eq_true rfl) d_Md_row_21) (fun r_8 I_9 J_10 H locs hr_8 hh => ?_)
    obtain ⟨e_r_8, hr_8⟩ := hr_8
    rw [(Prod.mk.inj e_r_8).1, (Prod.mk.inj e_r_8).2] at hh
    refine lv_if_ne (tgt := 30) C.1 C.2.1 d_Md_row_24 (by decide) (fun c_11 => ?_) (fun c_11 => ?_)
    · -- 24 -> 30
      have b_12 := bI_t hr_8 c_11
      skip
      refine lv_iconst (v := nI 3) C.1 C.2.1 d_Md_row_30 rfl ?_
      refine lv_iload_n C.1 C.2.1 d_Md_row_31 rfl (lv_at hl 1 rfl) ?_
      refine lv_imul C.1 C.2.1 d_Md_row_32 ?_
      refine gm_eqi (pk_mul _ _) ?_
      refine lv_iload_n C.1 C.2.1 d_Md_row_33 rfl (lv_at hl 2 rfl) ?_
      refine lv_iadd C.1 C.2.1 d_Md_row_34 ?_
      refine gm_eqi (nI_add _ _) ?_
      refine lv_istore (lv' := [(7, .int (nI ((3 * j_6) + k_7))), (0, .ref r), (1, .int (nI j_6)), (2, .int (nI k_7)), (3, .int a), (4, .int b), (5, .int c), (6, .int d)]) C.1 C.2.1 d_Md_row_35 hl (by decide) rfl (fun ls hl => ?_)
      refine lv_aload_n C.1 C.2.1 d_Md_row_37 rfl (lv_at hl 1 rfl) ?_
      refine gg_r C hh (Md_0 hM) rfl in_Md 5 (by decide) rfl tw_570 rfl d_Md_row_38 ?_
      refine lv_iload C.1 C.2.1 d_Md_row_41 (lv_at hl 0 rfl) ?_
      refine ga_i C hh (Md_5 hM) (k := (3 * j_6) + k_7) rfl (by omega) (by omega) d_Md_row_43 ?_
      obtain ⟨g_13, hg_13, eg_13⟩ := hV.2.2.2.2.1 ((3 * j_6) + k_7) (by omega)
      refine gm_eqi eg_13 ?_
      refine lv_iconst (v := nI 2) C.1 C.2.1 d_Md_row_44 rfl ?_
      refine lv_icmp_ne (tgt := 51) C.1 C.2.1 d_Md_row_45 (by decide) (fun c_14 => ?_) (fun c_14 => ?_)
      · -- 45 -> 51
        have c_14 := gm_net (by omega) (by omega) c_14
        refine lv_aload_n C.1 C.2.1 d_Md_row_51 rfl (lv_at hl 1 rfl) ?_
        refine gg_r C hh (Md_0 hM) rfl in_Md 6 (by decide) rfl tw_571 rfl d_Md_row_52 ?_
        refine lv_bipush (v := nI 8) C.1 C.2.1 d_Md_row_55 rfl ?_
        refine lv_iload C.1 C.2.1 d_Md_row_57 (lv_at hl 0 rfl) ?_
        refine lv_imul C.1 C.2.1 d_Md_row_59 ?_
        refine gm_eqi (pk_mul _ _) ?_
        refine lv_iconst (v := nI 4) C.1 C.2.1 d_Md_row_60 rfl ?_
        refine lv_aload_n C.1 C.2.1 d_Md_row_61 rfl (lv_at hl 1 rfl) ?_
        refine gg_r C hh (Md_0 hM) rfl in_Md 5 (by decide) rfl tw_570 rfl d_Md_row_62 ?_
        refine lv_iload C.1 C.2.1 d_Md_row_65 (lv_at hl 0 rfl) ?_
        refine ga_i C hh (Md_5 hM) (k := (3 * j_6) + k_7) rfl (by omega) (by omega) d_Md_row_67 ?_
        refine gm_eqi eg_13 ?_
        refine lv_imul C.1 C.2.1 d_Md_row_68 ?_
        refine gm_eqi (pk_mul _ _) ?_
        refine lv_iadd C.1 C.2.1 d_Md_row_69 ?_
        refine gm_eqi (nI_add _ _) ?_
        refine lv_iload_n C.1 C.2.1 d_Md_row_70 rfl (lv_at hl 4 rfl) ?_
        refine lv_iload C.1 C.2.1 d_Md_row_71 (lv_at hl 5 rfl) ?_
        refine lv_iload C.1 C.2.1 d_Md_row_73 (lv_at hl 6 rfl) ?_
        refine lv_iload C.1 C.2.1 d_Md_row_75 (lv_at hl 7 rfl) ?_
        refine gc_v hh (gc_runS (As := [.ref (r + 6), .int (nI ((8 * ((3 * j_6) + k_7)) + (4 * g_13))), .int a, .int b, .int c, .int d]) (rest := []) (n := 6) C hml hh (c_Md_lay l D cs sh sz I J (r + 6) 192 ((8 * ((3 * j_6) + k_7)) + (4 * g_13)) a b c d (Md_6 hM) (by omega) (by omega)) (tg_S tw_707 tw_708 tw_64 tw_709) (by decide +kernel) ⟨rfl, rfl, by decide, by decide, Nat.zero_le _, Nat.zero_le _⟩ rfl hl.1 rfl (Nat.le_of_ble_eq_true rfl) d_Md_row_77) (fun I_16 J_17 H locs hr_15 hh => ?_)
        obtain ⟨X_18, eX_18⟩ : ∃ z : gm_I, z = gm_up I (r + 6) ((8 * ((3 * j_6) + k_7)) + (4 * g_13)) a := ⟨_, rfl⟩
        obtain ⟨X_19, eX_19⟩ : ∃ z : gm_I, z = gm_up X_18 (r + 6) ((8 * ((3 * j_6) + k_7)) + (4 * g_13) + 1) b := ⟨_, rfl⟩
        obtain ⟨X_20, eX_20⟩ : ∃ z : gm_I, z = gm_up X_19 (r + 6) ((8 * ((3 * j_6) + k_7)) + (4 * g_13) + 2) c := ⟨_, rfl⟩
        obtain ⟨X_21, eX_21⟩ : ∃ z : gm_I, z = gm_up X_20 (r + 6) ((8 * ((3 * j_6) + k_7)) + (4 * g_13) + 3) d := ⟨_, rfl⟩
        rw [← eX_18, ← eX_19, ← eX_20, ← eX_21] at hr_15
        rw [(Prod.mk.inj hr_15).1, (Prod.mk.inj hr_15).2] at hh
        refine lv_aload_n C.1 C.2.1 d_Md_row_80 rfl (lv_at hl 1 rfl) ?_
        refine gg_r C hh (Md_0 hM) rfl in_Md 5 (by decide) rfl tw_570 rfl d_Md_row_81 ?_
        refine lv_iload C.1 C.2.1 d_Md_row_84 (lv_at hl 0 rfl) ?_
        refine lv_dup2_11 C.1 C.2.1 d_Md_row_86 rfl rfl ?_
        refine ga_i C hh (Md_5 hM) (k := (3 * j_6) + k_7) rfl (by omega) (by omega) d_Md_row_87 ?_
        refine gm_eqi (y := I (r + 5) ((3 * j_6) + k_7)) (by rw [eX_21, gm_up_ne _ _ (Or.inl (by omega)), eX_20, gm_up_ne _ _ (Or.inl (by omega)), eX_19, gm_up_ne _ _ (Or.inl (by omega)), eX_18, gm_up_ne _ _ (Or.inl (by omega))]) ?_
        refine gm_eqi eg_13 ?_
        refine lv_iconst (v := nI 1) C.1 C.2.1 d_Md_row_88 rfl ?_
        refine lv_iadd C.1 C.2.1 d_Md_row_89 ?_
        refine gm_eqi (nI_add _ _) ?_
        refine gs_i C hh (Md_5 hM) (k := (3 * j_6) + k_7) rfl (by omega) (by omega) d_Md_row_90 (fun H locs hh => ?_)
        obtain ⟨I_22, eI_22⟩ : ∃ z : gm_I, z = gm_up X_21 (r + 5) ((3 * j_6) + k_7) (nI (g_13 + 1)) := ⟨_, rfl⟩
        rw [← eI_22] at hh
        refine lv_aload_n C.1 C.2.1 d_Md_row_91 rfl (lv_at hl 1 rfl) ?_
        refine gg_r C hh (Md_0 hM) rfl in_Md 5 (by decide) rfl tw_570 rfl d_Md_row_92 ?_
        refine lv_iload C.1 C.2.1 d_Md_row_95 (lv_at hl 0 rfl) ?_
        refine ga_i C hh (Md_5 hM) (k := (3 * j_6) + k_7) rfl (by omega) (by omega) d_Md_row_97 ?_
        refine gm_eqi (y := nI (g_13 + 1)) (by rw [eI_22, gm_up_same]) ?_
        exact gr_i C hlk hret rfl hh (by subst_vars; simp (disch := omega) [sp_row, lay4, nI_clamp, nI_0, nI_one, *]) d_Md_row_98
      · -- 45 -> 48
        have c_14 := gm_nef (by omega) (by omega) c_14
        refine lv_bipush (v := (-4)) C.1 C.2.1 d_Md_row_48 rfl ?_
        exact gr_i C hlk hret rfl hh (by subst_vars; simp (disch := omega) [sp_row, lay4, nI_clamp, nI_0, nI_one, *]) d_Md_row_50
    · -- 24 -> 27
      have b_23 := bI_f hr_8 c_11
      skip
      refine lv_bipush (v := (-3)) C.1 C.2.1 d_Md_row_27 rfl ?_
      exact gr_i C hlk hret rfl hh (by subst_vars; simp (disch := omega) [sp_row, lay4, nI_clamp, nI_0, nI_one, *]) d_Md_row_29
  · -- 6 -> 9
    have b_24 := bI_f hr_1 c_4
    skip
    refine lv_bipush (v := (-2)) C.1 C.2.1 d_Md_row_9 rfl ?_
    exact gr_i C hlk hret rfl hh (by subst_vars; simp (disch := omega) [sp_row, lay4, nI_clamp, nI_0, nI_one, *]) d_Md_row_11

set_option maxHeartbeats 4000000 in
set_option maxRecDepth 100000 in
theorem c_Md_factor (l : Launch) (D : va_G) (cs : Nat → ClassId) (sh : gm_H) (sz : Nat) (I : gm_I) (J : gm_J) (r : Nat) (hM : is_Md sh r) (hV : inv_Md I r) (v w a b x : Int32) : CI l y_Md_factor w_Md_factor { frames := 3, cells := 0, slots := 0, locals := 65 } D cs sh sz I J [.ref r, .int v, .int w, .int a, .int b, .int x] (fun z u => (z, u) = sp_factor I J r v w a b x) := by
  refine gm_start (by decide) (Nat.le_of_ble_eq_true rfl) ?_
  intro p' e' s' m' be' me' co' ls C hml hlk hret hh hl
  have hl : lv_has ls 8 [(0, .ref r), (1, .int v), (2, .int w), (3, .int a), (4, .int b), (5, .int x)] := hl
  refine lv_aload_n C.1 C.2.1 d_Md_factor_0 rfl (lv_at hl 0 rfl) ?_
  refine lv_iload_n C.1 C.2.1 d_Md_factor_1 rfl (lv_at hl 1 rfl) ?_
  refine lv_iload_n C.1 C.2.1 d_Md_factor_2 rfl (lv_at hl 2 rfl) ?_
  refine gc_i hh (gc_runV (As := [.int v, .int w]) (rest := []) (n := 2) C hml hh (c_Md_isWay l D cs sh sz I J r hM hV v w) (tg_V tw_718 tw_720 tw_29 tw_64 tw_721) (by decide +kernel) ⟨rfl, rfl, by decide, by decide, Nat.zero_le _, Nat.zero_le _⟩ (Md_0 hM) rfl rfl hl.1 rfl (Nat.le_of_ble_eq_true rfl) d_Md_factor_3) (fun r_1 I_2 J_3 H locs hr_1 hh => ?_)
  obtain ⟨e_r_1, hr_1⟩ := hr_1
  rw [(Prod.mk.inj e_r_1).1, (Prod.mk.inj e_r_1).2] at hh
  refine lv_if_eq (tgt := 28) C.1 C.2.1 d_Md_factor_6 (by decide) (fun c_4 => ?_) (fun c_4 => ?_)
  · -- 6 -> 28
    have b_5 := bI_f hr_1 c_4
    skip
    refine lv_bipush (v := (-2)) C.1 C.2.1 d_Md_factor_28 rfl ?_
    exact gr_i C hlk hret rfl hh (by subst_vars; simp (disch := omega) [sp_factor, lay4, nI_clamp, nI_0, nI_one, *]) d_Md_factor_30
  · -- 6 -> 9
    have b_6 := bI_t hr_1 c_4
    obtain ⟨j_7, k_8, hj_7, hk_8, ej_7, ek_8, lp_k_8, lt_k_8⟩ := wyB_j hV b_6
    subst ej_7
    subst ek_8
    skip
    refine lv_aload_n C.1 C.2.1 d_Md_factor_9 rfl (lv_at hl 0 rfl) ?_
    refine lv_iload_n C.1 C.2.1 d_Md_factor_10 rfl (lv_at hl 1 rfl) ?_
    refine lv_iload_n C.1 C.2.1 d_Md_factor_11 rfl (lv_at hl 3 rfl) ?_
    refine gc_i hh (gc_runV (As := [.int (nI j_7), .int a]) (rest := []) (n := 2) C hml hh (c_Md_isName l D cs sh sz I J r hM hV (nI j_7) a) (tg_V tw_726 tw_728 tw_30 tw_64 tw_729) (by decide +kernel) ⟨rfl, rfl, by decide, by decide, Nat.zero_le _, Nat.zero_le _⟩ (Md_0 hM) rfl rfl hl.1 rfl (Nat.le_of_ble_eq_true rfl) d_Md_factor_12) (fun r_9 I_10 J_11 H locs hr_9 hh => ?_)
    obtain ⟨e_r_9, hr_9⟩ := hr_9
    rw [(Prod.mk.inj e_r_9).1, (Prod.mk.inj e_r_9).2] at hh
    refine lv_if_eq (tgt := 28) C.1 C.2.1 d_Md_factor_15 (by decide) (fun c_12 => ?_) (fun c_12 => ?_)
    · -- 15 -> 28
      have b_13 := bI_f hr_9 c_12
      skip
      refine lv_bipush (v := (-2)) C.1 C.2.1 d_Md_factor_28 rfl ?_
      exact gr_i C hlk hret rfl hh (by subst_vars; simp (disch := omega) [sp_factor, lay4, nI_clamp, nI_0, nI_one, *]) d_Md_factor_30
    · -- 15 -> 18
      have b_14 := bI_t hr_9 c_12
      obtain ⟨j_15, k_16, hj_15, hk_16, ej_15, ek_16, lp_k_16, lt_k_16⟩ := nmB_j hV b_14
      obtain rfl : j_7 = j_15 := gm_eqt (by omega) (by omega) ej_15
      subst ek_16
      skip
      refine lv_aload_n C.1 C.2.1 d_Md_factor_18 rfl (lv_at hl 0 rfl) ?_
      refine lv_iload_n C.1 C.2.1 d_Md_factor_19 rfl (lv_at hl 1 rfl) ?_
      refine lv_iload C.1 C.2.1 d_Md_factor_20 (lv_at hl 4 rfl) ?_
      refine gc_i hh (gc_runV (As := [.int (nI j_7), .int b]) (rest := []) (n := 2) C hml hh (c_Md_isName l D cs sh sz I J r hM hV (nI j_7) b) (tg_V tw_726 tw_728 tw_30 tw_64 tw_729) (by decide +kernel) ⟨rfl, rfl, by decide, by decide, Nat.zero_le _, Nat.zero_le _⟩ (Md_0 hM) rfl rfl hl.1 rfl (Nat.le_of_ble_eq_true rfl) d_Md_factor_22) (fun r_17 I_18 J_19 H locs hr_17 hh => ?_)
      obtain ⟨e_r_17, hr_17⟩ := hr_17
      rw [(Prod.mk.inj e_r_17).1, (Prod.mk.inj e_r_17).2] at hh
      refine lv_if_ne (tgt := 31) C.1 C.2.1 d_Md_factor_25 (by decide) (fun c_20 => ?_) (fun c_20 => ?_)
      · -- 25 -> 31
        have b_21 := bI_t hr_17 c_20
        obtain ⟨j_22, k_23, hj_22, hk_23, ej_22, ek_23, lp_k_23, lt_k_23⟩ := nmB_j hV b_21
        obtain rfl : j_7 = j_22 := gm_eqt (by omega) (by omega) ej_22
        subst ek_23
        skip
        refine lv_iload C.1 C.2.1 d_Md_factor_31 (lv_at hl 5 rfl) ?_
        refine lv_bipush (v := (-3)) C.1 C.2.1 d_Md_factor_33 rfl ?_
        refine lv_iconst (v := nI 3) C.1 C.2.1 d_Md_factor_35 rfl ?_
        refine gc_i hh (gc_runS (As := [.int x, .int (-3), .int (nI 3)]) (rest := []) (n := 3) C hml hh (c_Md_isIn l D cs sh sz I J x (-3) (nI 3)) (tg_S tw_684 tw_685 tw_64 tw_686) (by decide +kernel) ⟨rfl, rfl, by decide, by decide, Nat.zero_le _, Nat.zero_le _⟩ rfl hl.1 rfl (Nat.le_of_ble_eq_true rfl) d_Md_factor_36) (fun r_24 I_25 J_26 H locs hr_24 hh => ?_)
        obtain ⟨e_r_24, hr_24⟩ := hr_24
        rw [(Prod.mk.inj e_r_24).1, (Prod.mk.inj e_r_24).2] at hh
        refine lv_if_ne (tgt := 45) C.1 C.2.1 d_Md_factor_39 (by decide) (fun c_27 => ?_) (fun c_27 => ?_)
        · -- 39 -> 45
          have b_28 := bI_t hr_24 c_27
          skip
          refine lv_bipush (v := nI 9) C.1 C.2.1 d_Md_factor_45 rfl ?_
          refine lv_iconst (v := nI 3) C.1 C.2.1 d_Md_factor_47 rfl ?_
          refine lv_iload_n C.1 C.2.1 d_Md_factor_48 rfl (lv_at hl 1 rfl) ?_
          refine lv_imul C.1 C.2.1 d_Md_factor_49 ?_
          refine gm_eqi (pk_mul _ _) ?_
          refine lv_iload_n C.1 C.2.1 d_Md_factor_50 rfl (lv_at hl 2 rfl) ?_
          refine lv_iadd C.1 C.2.1 d_Md_factor_51 ?_
          refine gm_eqi (nI_add _ _) ?_
          refine lv_imul C.1 C.2.1 d_Md_factor_52 ?_
          refine gm_eqi (pk_mul _ _) ?_
          refine lv_iconst (v := nI 3) C.1 C.2.1 d_Md_factor_53 rfl ?_
          refine lv_iload_n C.1 C.2.1 d_Md_factor_54 rfl (lv_at hl 3 rfl) ?_
          refine lv_imul C.1 C.2.1 d_Md_factor_55 ?_
          refine gm_eqi (pk_mul _ _) ?_
          refine lv_iadd C.1 C.2.1 d_Md_factor_56 ?_
          refine gm_eqi (nI_add _ _) ?_
          refine lv_iload C.1 C.2.1 d_Md_factor_57 (lv_at hl 4 rfl) ?_
          refine lv_iadd C.1 C.2.1 d_Md_factor_59 ?_
          refine gm_eqi (nI_add _ _) ?_
          refine lv_istore (lv' := [(6, .int (nI (((9 * ((3 * j_7) + k_8)) + (3 * k_16)) + k_23))), (0, .ref r), (1, .int (nI j_7)), (2, .int (nI k_8)), (3, .int (nI k_16)), (4, .int (nI k_23)), (5, .int x)]) C.1 C.2.1 d_Md_factor_60 hl (by decide) rfl (fun ls hl => ?_)
          refine lv_aload_n C.1 C.2.1 d_Md_factor_62 rfl (lv_at hl 1 rfl) ?_
          refine gg_r C hh (Md_0 hM) rfl in_Md 7 (by decide) rfl tw_572 rfl d_Md_factor_63 ?_
          refine lv_iload C.1 C.2.1 d_Md_factor_66 (lv_at hl 0 rfl) ?_
          refine ga_i C hh (Md_7 hM) (k := ((9 * ((3 * j_7) + k_8)) + (3 * k_16)) + k_23) rfl (by omega) (by omega) d_Md_factor_68 ?_
          refine lv_topi (fun x_29 ex_29 => ?_)
          refine lv_istore (lv' := [(7, .int x_29), (6, .int (nI (((9 * ((3 * j_7) + k_8)) + (3 * k_16)) + k_23))), (0, .ref r), (1, .int (nI j_7)), (2, .int (nI k_8)), (3, .int (nI k_16)), (4, .int (nI k_23)), (5, .int x)]) C.1 C.2.1 d_Md_factor_69 hl (by decide) rfl (fun ls hl => ?_)
          refine lv_aload_n C.1 C.2.1 d_Md_factor_71 rfl (lv_at hl 2 rfl) ?_
          refine gg_r C hh (Md_0 hM) rfl in_Md 7 (by decide) rfl tw_572 rfl d_Md_factor_72 ?_
          refine lv_iload C.1 C.2.1 d_Md_factor_75 (lv_at hl 1 rfl) ?_
          refine lv_iload C.1 C.2.1 d_Md_factor_77 (lv_at hl 7 rfl) ?_
          refine gs_i C hh (Md_7 hM) (k := ((9 * ((3 * j_7) + k_8)) + (3 * k_16)) + k_23) rfl (by omega) (by omega) d_Md_factor_79 (fun H locs hh => ?_)
          obtain ⟨I_30, eI_30⟩ : ∃ z : gm_I, z = gm_up I (r + 7) (((9 * ((3 * j_7) + k_8)) + (3 * k_16)) + k_23) x := ⟨_, rfl⟩
          rw [← eI_30] at hh
          refine lv_iload C.1 C.2.1 d_Md_factor_80 (lv_at hl 0 rfl) ?_
          refine lv_iconst (v := nI 3) C.1 C.2.1 d_Md_factor_82 rfl ?_
          refine lv_iadd C.1 C.2.1 d_Md_factor_83 ?_
          exact gr_i C hlk hret rfl hh (by subst_vars; simp (disch := omega) [sp_factor, lay4, nI_clamp, nI_0, nI_one, *]) d_Md_factor_84
        · -- 39 -> 42
          have b_31 := bI_f hr_24 c_27
          skip
          refine lv_bipush (v := (-3)) C.1 C.2.1 d_Md_factor_42 rfl ?_
          exact gr_i C hlk hret rfl hh (by subst_vars; simp (disch := omega) [sp_factor, lay4, nI_clamp, nI_0, nI_one, *]) d_Md_factor_44
      · -- 25 -> 28
        have b_32 := bI_f hr_17 c_20
        skip
        refine lv_bipush (v := (-2)) C.1 C.2.1 d_Md_factor_28 rfl ?_
        exact gr_i C hlk hret rfl hh (by subst_vars; simp (disch := omega) [sp_factor, lay4, nI_clamp, nI_0, nI_one, *]) d_Md_factor_30

set_option maxHeartbeats 4000000 in
set_option maxRecDepth 100000 in
theorem c_Md_constant (l : Launch) (D : va_G) (cs : Nat → ClassId) (sh : gm_H) (sz : Nat) (I : gm_I) (J : gm_J) (r : Nat) (hM : is_Md sh r) (hV : inv_Md I r) (v w a x : Int32) : CI l y_Md_constant w_Md_constant { frames := 3, cells := 0, slots := 0, locals := 65 } D cs sh sz I J [.ref r, .int v, .int w, .int a, .int x] (fun z u => (z, u) = sp_constant I J r v w a x) := by
  refine gm_start (by decide) (Nat.le_of_ble_eq_true rfl) ?_
  intro p' e' s' m' be' me' co' ls C hml hlk hret hh hl
  have hl : lv_has ls 7 [(0, .ref r), (1, .int v), (2, .int w), (3, .int a), (4, .int x)] := hl
  refine lv_aload_n C.1 C.2.1 d_Md_constant_0 rfl (lv_at hl 0 rfl) ?_
  refine lv_iload_n C.1 C.2.1 d_Md_constant_1 rfl (lv_at hl 1 rfl) ?_
  refine lv_iload_n C.1 C.2.1 d_Md_constant_2 rfl (lv_at hl 2 rfl) ?_
  refine gc_i hh (gc_runV (As := [.int v, .int w]) (rest := []) (n := 2) C hml hh (c_Md_isWay l D cs sh sz I J r hM hV v w) (tg_V tw_718 tw_720 tw_29 tw_64 tw_721) (by decide +kernel) ⟨rfl, rfl, by decide, by decide, Nat.zero_le _, Nat.zero_le _⟩ (Md_0 hM) rfl rfl hl.1 rfl (Nat.le_of_ble_eq_true rfl) d_Md_constant_3) (fun r_1 I_2 J_3 H locs hr_1 hh => ?_)
  obtain ⟨e_r_1, hr_1⟩ := hr_1
  rw [(Prod.mk.inj e_r_1).1, (Prod.mk.inj e_r_1).2] at hh
  refine lv_if_eq (tgt := 18) C.1 C.2.1 d_Md_constant_6 (by decide) (fun c_4 => ?_) (fun c_4 => ?_)
  · -- 6 -> 18
    have b_5 := bI_f hr_1 c_4
    skip
    refine lv_bipush (v := (-2)) C.1 C.2.1 d_Md_constant_18 rfl ?_
    exact gr_i C hlk hret rfl hh (by subst_vars; simp (disch := omega) [sp_constant, lay4, nI_clamp, nI_0, nI_one, *]) d_Md_constant_20
  · -- 6 -> 9
    have b_6 := bI_t hr_1 c_4
    obtain ⟨j_7, k_8, hj_7, hk_8, ej_7, ek_8, lp_k_8, lt_k_8⟩ := wyB_j hV b_6
    subst ej_7
    subst ek_8
    skip
    refine lv_aload_n C.1 C.2.1 d_Md_constant_9 rfl (lv_at hl 0 rfl) ?_
    refine lv_iload_n C.1 C.2.1 d_Md_constant_10 rfl (lv_at hl 1 rfl) ?_
    refine lv_iload_n C.1 C.2.1 d_Md_constant_11 rfl (lv_at hl 3 rfl) ?_
    refine gc_i hh (gc_runV (As := [.int (nI j_7), .int a]) (rest := []) (n := 2) C hml hh (c_Md_isName l D cs sh sz I J r hM hV (nI j_7) a) (tg_V tw_726 tw_728 tw_30 tw_64 tw_729) (by decide +kernel) ⟨rfl, rfl, by decide, by decide, Nat.zero_le _, Nat.zero_le _⟩ (Md_0 hM) rfl rfl hl.1 rfl (Nat.le_of_ble_eq_true rfl) d_Md_constant_12) (fun r_9 I_10 J_11 H locs hr_9 hh => ?_)
    obtain ⟨e_r_9, hr_9⟩ := hr_9
    rw [(Prod.mk.inj e_r_9).1, (Prod.mk.inj e_r_9).2] at hh
    refine lv_if_ne (tgt := 21) C.1 C.2.1 d_Md_constant_15 (by decide) (fun c_12 => ?_) (fun c_12 => ?_)
    · -- 15 -> 21
      have b_13 := bI_t hr_9 c_12
      obtain ⟨j_14, k_15, hj_14, hk_15, ej_14, ek_15, lp_k_15, lt_k_15⟩ := nmB_j hV b_13
      obtain rfl : j_7 = j_14 := gm_eqt (by omega) (by omega) ej_14
      subst ek_15
      skip
      refine lv_iload C.1 C.2.1 d_Md_constant_21 (lv_at hl 4 rfl) ?_
      refine lv_bipush (v := (-99)) C.1 C.2.1 d_Md_constant_23 rfl ?_
      refine lv_bipush (v := nI 99) C.1 C.2.1 d_Md_constant_25 rfl ?_
      refine gc_i hh (gc_runS (As := [.int x, .int (-99), .int (nI 99)]) (rest := []) (n := 3) C hml hh (c_Md_isIn l D cs sh sz I J x (-99) (nI 99)) (tg_S tw_684 tw_685 tw_64 tw_686) (by decide +kernel) ⟨rfl, rfl, by decide, by decide, Nat.zero_le _, Nat.zero_le _⟩ rfl hl.1 rfl (Nat.le_of_ble_eq_true rfl) d_Md_constant_27) (fun r_16 I_17 J_18 H locs hr_16 hh => ?_)
      obtain ⟨e_r_16, hr_16⟩ := hr_16
      rw [(Prod.mk.inj e_r_16).1, (Prod.mk.inj e_r_16).2] at hh
      refine lv_if_ne (tgt := 36) C.1 C.2.1 d_Md_constant_30 (by decide) (fun c_19 => ?_) (fun c_19 => ?_)
      · -- 30 -> 36
        have b_20 := bI_t hr_16 c_19
        skip
        refine lv_iconst (v := nI 3) C.1 C.2.1 d_Md_constant_36 rfl ?_
        refine lv_iconst (v := nI 3) C.1 C.2.1 d_Md_constant_37 rfl ?_
        refine lv_iload_n C.1 C.2.1 d_Md_constant_38 rfl (lv_at hl 1 rfl) ?_
        refine lv_imul C.1 C.2.1 d_Md_constant_39 ?_
        refine gm_eqi (pk_mul _ _) ?_
        refine lv_iload_n C.1 C.2.1 d_Md_constant_40 rfl (lv_at hl 2 rfl) ?_
        refine lv_iadd C.1 C.2.1 d_Md_constant_41 ?_
        refine gm_eqi (nI_add _ _) ?_
        refine lv_imul C.1 C.2.1 d_Md_constant_42 ?_
        refine gm_eqi (pk_mul _ _) ?_
        refine lv_iload_n C.1 C.2.1 d_Md_constant_43 rfl (lv_at hl 3 rfl) ?_
        refine lv_iadd C.1 C.2.1 d_Md_constant_44 ?_
        refine gm_eqi (nI_add _ _) ?_
        refine lv_istore (lv' := [(5, .int (nI ((3 * ((3 * j_7) + k_8)) + k_15))), (0, .ref r), (1, .int (nI j_7)), (2, .int (nI k_8)), (3, .int (nI k_15)), (4, .int x)]) C.1 C.2.1 d_Md_constant_45 hl (by decide) rfl (fun ls hl => ?_)
        refine lv_aload_n C.1 C.2.1 d_Md_constant_47 rfl (lv_at hl 1 rfl) ?_
        refine gg_r C hh (Md_0 hM) rfl in_Md 8 (by decide) rfl tw_573 rfl d_Md_constant_48 ?_
        refine lv_iload C.1 C.2.1 d_Md_constant_51 (lv_at hl 0 rfl) ?_
        refine ga_i C hh (Md_8 hM) (k := (3 * ((3 * j_7) + k_8)) + k_15) rfl (by omega) (by omega) d_Md_constant_53 ?_
        refine lv_topi (fun x_21 ex_21 => ?_)
        refine lv_istore (lv' := [(6, .int x_21), (5, .int (nI ((3 * ((3 * j_7) + k_8)) + k_15))), (0, .ref r), (1, .int (nI j_7)), (2, .int (nI k_8)), (3, .int (nI k_15)), (4, .int x)]) C.1 C.2.1 d_Md_constant_54 hl (by decide) rfl (fun ls hl => ?_)
        refine lv_aload_n C.1 C.2.1 d_Md_constant_56 rfl (lv_at hl 2 rfl) ?_
        refine gg_r C hh (Md_0 hM) rfl in_Md 8 (by decide) rfl tw_573 rfl d_Md_constant_57 ?_
        refine lv_iload C.1 C.2.1 d_Md_constant_60 (lv_at hl 1 rfl) ?_
        refine lv_iload C.1 C.2.1 d_Md_constant_62 (lv_at hl 6 rfl) ?_
        refine gs_i C hh (Md_8 hM) (k := (3 * ((3 * j_7) + k_8)) + k_15) rfl (by omega) (by omega) d_Md_constant_64 (fun H locs hh => ?_)
        obtain ⟨I_22, eI_22⟩ : ∃ z : gm_I, z = gm_up I (r + 8) ((3 * ((3 * j_7) + k_8)) + k_15) x := ⟨_, rfl⟩
        rw [← eI_22] at hh
        refine lv_iload C.1 C.2.1 d_Md_constant_65 (lv_at hl 0 rfl) ?_
        refine lv_bipush (v := nI 99) C.1 C.2.1 d_Md_constant_67 rfl ?_
        refine lv_iadd C.1 C.2.1 d_Md_constant_69 ?_
        exact gr_i C hlk hret rfl hh (by subst_vars; simp (disch := omega) [sp_constant, lay4, nI_clamp, nI_0, nI_one, *]) d_Md_constant_70
      · -- 30 -> 33
        have b_23 := bI_f hr_16 c_19
        skip
        refine lv_bipush (v := (-3)) C.1 C.2.1 d_Md_constant_33 rfl ?_
        exact gr_i C hlk hret rfl hh (by subst_vars; simp (disch := omega) [sp_constant, lay4, nI_clamp, nI_0, nI_one, *]) d_Md_constant_35
    · -- 15 -> 18
      have b_24 := bI_f hr_9 c_12
      skip
      refine lv_bipush (v := (-2)) C.1 C.2.1 d_Md_constant_18 rfl ?_
      exact gr_i C hlk hret rfl hh (by subst_vars; simp (disch := omega) [sp_constant, lay4, nI_clamp, nI_0, nI_one, *]) d_Md_constant_20
