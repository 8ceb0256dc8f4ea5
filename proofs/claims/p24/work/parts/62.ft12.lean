set_option maxHeartbeats 4000000 in
set_option maxRecDepth 100000 in
theorem c_FT_factor (l : Launch) (D : va_G) (cs : Nat → ClassId) (sh : gm_H) (sz : Nat) (I : gm_I) (J : gm_J) (B : Nat) (hF : is_FT cs sh B) (hV : inv_FT I B) (n : Nat) (en : I B 1 = nI n) (hn : n ≤ 8) (v w a b t3 : Int32) : CI l y_FT_factor w_FT_factor { frames := 2, cells := 0, slots := 0, locals := 43 } D cs sh sz I J [.ref B, .int v, .int w, .int a, .int b, .int t3] (fun x u => faP I J B n v w a b t3 x u) := by
  refine gm_start (by decide) (Nat.le_of_ble_eq_true rfl) ?_
  intro p' e' s' m' be' me' co' ls C hml hlk hret hh hl
  have hl : lv_has ls 9 [(0, .ref B), (1, .int v), (2, .int w), (3, .int a), (4, .int b), (5, .int t3)] := hl
  refine lv_aload_n C.1 C.2.1 d_FT_factor_0 rfl (lv_at hl 0 rfl) ?_
  refine lv_iload_n C.1 C.2.1 d_FT_factor_1 rfl (lv_at hl 1 rfl) ?_
  refine lv_iload_n C.1 C.2.1 d_FT_factor_2 rfl (lv_at hl 2 rfl) ?_
  refine gc_i hh (gc_runV (As := [.int v, .int w]) (rest := []) (n := 2) C hml hh (c_FT_isWay l D cs sh sz I J B hF hV n en hn v w) (tg_V tw_298 tw_300 tw_2 tw_57 tw_301) (by decide +kernel) ⟨rfl, rfl, by decide, by decide, Nat.zero_le _, Nat.zero_le _⟩ hF.1 rfl rfl hl.1 rfl (Nat.le_of_ble_eq_true rfl) d_FT_factor_3) (fun r_1 I_2 J_3 H locs hr_1 hh => ?_)
  obtain ⟨e_r_1, hr_1⟩ := hr_1
  rw [(Prod.mk.inj e_r_1).1, (Prod.mk.inj e_r_1).2] at hh
  refine lv_if_eq (tgt := 28) C.1 C.2.1 d_FT_factor_6 (by decide) (fun c_4 => ?_) (fun c_4 => ?_)
  · -- 6 -> 28
    have b_5 := bI_f hr_1 c_4
    skip
    refine lv_bipush (v := (-2)) C.1 C.2.1 d_FT_factor_28 rfl ?_
    exact gr_i C hlk hret rfl hh (by refine Or.inl ⟨?_, rfl, rfl⟩; simp [*]) d_FT_factor_30
  · -- 6 -> 9
    have b_6 := bI_t hr_1 c_4
    obtain ⟨j_7, k_8, m_9, hj_7, hk_8, hm_9, ej_7, fk_8, em_9⟩ := fwB_j hn hV b_6
    subst ej_7
    subst fk_8
    skip
    refine lv_aload_n C.1 C.2.1 d_FT_factor_9 rfl (lv_at hl 0 rfl) ?_
    refine lv_iload_n C.1 C.2.1 d_FT_factor_10 rfl (lv_at hl 1 rfl) ?_
    refine lv_iload_n C.1 C.2.1 d_FT_factor_11 rfl (lv_at hl 3 rfl) ?_
    refine gc_i hh (gc_runV (As := [.int (nI j_7), .int a]) (rest := []) (n := 2) C hml hh (c_FT_isName l D cs sh sz I J B hF hV n en hn (nI j_7) a) (tg_V tw_306 tw_308 tw_3 tw_57 tw_309) (by decide +kernel) ⟨rfl, rfl, by decide, by decide, Nat.zero_le _, Nat.zero_le _⟩ hF.1 rfl rfl hl.1 rfl (Nat.le_of_ble_eq_true rfl) d_FT_factor_12) (fun r_10 I_11 J_12 H locs hr_10 hh => ?_)
    obtain ⟨e_r_10, hr_10⟩ := hr_10
    rw [(Prod.mk.inj e_r_10).1, (Prod.mk.inj e_r_10).2] at hh
    refine lv_if_eq (tgt := 28) C.1 C.2.1 d_FT_factor_15 (by decide) (fun c_13 => ?_) (fun c_13 => ?_)
    · -- 15 -> 28
      have b_14 := bI_f hr_10 c_13
      skip
      refine lv_bipush (v := (-2)) C.1 C.2.1 d_FT_factor_28 rfl ?_
      exact gr_i C hlk hret rfl hh (by refine Or.inl ⟨?_, rfl, rfl⟩; simp [*]) d_FT_factor_30
    · -- 15 -> 18
      have b_15 := bI_t hr_10 c_13
      obtain ⟨j_16, k_17, m_18, hj_16, hk_17, hm_18, ej_16, fk_17, em_18⟩ := fnB_j hn hV b_15
      obtain rfl : j_7 = j_16 := gm_eqt (by omega) (by omega) ej_16
      subst fk_17
      skip
      refine lv_aload_n C.1 C.2.1 d_FT_factor_18 rfl (lv_at hl 0 rfl) ?_
      refine lv_iload_n C.1 C.2.1 d_FT_factor_19 rfl (lv_at hl 1 rfl) ?_
      refine lv_iload C.1 C.2.1 d_FT_factor_20 (lv_at hl 4 rfl) ?_
      refine gc_i hh (gc_runV (As := [.int (nI j_7), .int b]) (rest := []) (n := 2) C hml hh (c_FT_isName l D cs sh sz I J B hF hV n en hn (nI j_7) b) (tg_V tw_306 tw_308 tw_3 tw_57 tw_309) (by decide +kernel) ⟨rfl, rfl, by decide, by decide, Nat.zero_le _, Nat.zero_le _⟩ hF.1 rfl rfl hl.1 rfl (Nat.le_of_ble_eq_true rfl) d_FT_factor_22) (fun r_19 I_20 J_21 H locs hr_19 hh => ?_)
      obtain ⟨e_r_19, hr_19⟩ := hr_19
      rw [(Prod.mk.inj e_r_19).1, (Prod.mk.inj e_r_19).2] at hh
      refine lv_if_ne (tgt := 31) C.1 C.2.1 d_FT_factor_25 (by decide) (fun c_22 => ?_) (fun c_22 => ?_)
      · -- 25 -> 31
        have b_23 := bI_t hr_19 c_22
        obtain ⟨j_24, k_25, m_26, hj_24, hk_25, hm_26, ej_24, fk_25, em_26⟩ := fnB_j hn hV b_23
        obtain rfl : j_7 = j_24 := gm_eqt (by omega) (by omega) ej_24
        subst fk_25
        skip
        refine lv_iload C.1 C.2.1 d_FT_factor_31 (lv_at hl 5 rfl) ?_
        refine lv_iconst (v := nI 3) C.1 C.2.1 d_FT_factor_33 rfl ?_
        refine gc_i hh (gc_runS (As := [.int t3, .int (nI 3)]) (rest := []) (n := 2) C hml hh (c_FT_within l D cs sh sz I J t3 (nI 3)) (tg_S tw_275 tw_276 tw_57 tw_277) (by decide +kernel) ⟨rfl, rfl, by decide, by decide, Nat.zero_le _, Nat.zero_le _⟩ rfl hl.1 rfl (Nat.le_of_ble_eq_true rfl) d_FT_factor_34) (fun r_27 I_28 J_29 H locs hr_27 hh => ?_)
        obtain ⟨e_r_27, hr_27⟩ := hr_27
        rw [(Prod.mk.inj e_r_27).1, (Prod.mk.inj e_r_27).2] at hh
        refine lv_if_ne (tgt := 43) C.1 C.2.1 d_FT_factor_37 (by decide) (fun c_30 => ?_) (fun c_30 => ?_)
        · -- 37 -> 43
          have b_31 := bI_t hr_27 c_30
          skip
          refine lv_aload_n C.1 C.2.1 d_FT_factor_43 rfl (lv_at hl 0 rfl) ?_
          refine gg_r C hh hF.1 rfl in_FT 0 (by decide) rfl tw_210 rfl d_FT_factor_44 ?_
          refine lv_iload_n C.1 C.2.1 d_FT_factor_47 rfl (lv_at hl 1 rfl) ?_
          refine ga_q C hh 2 hF.2.1 (Cn := "FallingTerms$Loop") rfl (k := j_7) (v := B + 12 + 21 * j_7) rfl (by omega) (by omega) (if_pos (by omega)) d_FT_factor_48 ?_
          obtain ⟨p_32, ep_32⟩ : ∃ z : Nat, z = B + 12 + 21 * j_7 := ⟨_, rfl⟩
          have hp_32 : is_Lp cs sh p_32 := by rw [ep_32]; exact hF.2.2.2.2.2.2.2.2.2.2 j_7 (by omega)
          refine gm_eqr ep_32.symm ?_
          refine gn_r C hh hp_32.1 rfl in_Lp 2 (by decide) rfl tw_160 rfl d_FT_factor_49 ?_
          refine lv_iload_n C.1 C.2.1 d_FT_factor_52 rfl (lv_at hl 2 rfl) ?_
          refine ga_q C hh 4 hp_32.2.2.1 (Cn := "FallingTerms$Way") rfl (k := k_8) (v := p_32 + 6 + 5 * k_8) rfl (by omega) (by omega) (if_pos (by omega)) d_FT_factor_53 ?_
          obtain ⟨p_33, ep_33⟩ : ∃ z : Nat, z = p_32 + 6 + 5 * k_8 := ⟨_, rfl⟩
          have hp_33 : is_Wy sh p_33 := by rw [ep_33]; exact hp_32.2.2.2.2.2 k_8 (by omega)
          refine gm_eqr ep_33.symm ?_
          refine gn_r C hh hp_33.1 rfl in_Wy 1 (by decide) rfl tw_141 rfl d_FT_factor_54 ?_
          refine lv_astore (lv' := [(6, .ref (p_33 + 3)), (0, .ref B), (1, .int (nI j_7)), (2, .int (nI k_8)), (3, .int (nI k_17)), (4, .int (nI k_25)), (5, .int t3)]) C.1 C.2.1 d_FT_factor_57 hl (by decide) rfl (fun ls hl => ?_)
          refine lv_iconst (v := nI 3) C.1 C.2.1 d_FT_factor_59 rfl ?_
          refine lv_iload_n C.1 C.2.1 d_FT_factor_60 rfl (lv_at hl 4 rfl) ?_
          refine lv_imul C.1 C.2.1 d_FT_factor_61 ?_
          refine gm_eqi (pk_mul _ _) ?_
          refine lv_iload C.1 C.2.1 d_FT_factor_62 (lv_at hl 5 rfl) ?_
          refine lv_iadd C.1 C.2.1 d_FT_factor_64 ?_
          refine gm_eqi (nI_add _ _) ?_
          refine lv_istore (lv' := [(7, .int (nI ((3 * k_17) + k_25))), (6, .ref (p_33 + 3)), (0, .ref B), (1, .int (nI j_7)), (2, .int (nI k_8)), (3, .int (nI k_17)), (4, .int (nI k_25)), (5, .int t3)]) C.1 C.2.1 d_FT_factor_65 hl (by decide) rfl (fun ls hl => ?_)
          refine lv_aload C.1 C.2.1 d_FT_factor_67 (lv_at hl 1 rfl) ?_
          refine lv_iload C.1 C.2.1 d_FT_factor_69 (lv_at hl 0 rfl) ?_
          refine ga_i C hh hp_33.2.2.1 (k := (3 * k_17) + k_25) rfl (by omega) (by omega) d_FT_factor_71 ?_
          refine lv_topi (fun x_34 ex_34 => ?_)
          refine lv_istore (lv' := [(8, .int x_34), (7, .int (nI ((3 * k_17) + k_25))), (6, .ref (p_33 + 3)), (0, .ref B), (1, .int (nI j_7)), (2, .int (nI k_8)), (3, .int (nI k_17)), (4, .int (nI k_25)), (5, .int t3)]) C.1 C.2.1 d_FT_factor_72 hl (by decide) rfl (fun ls hl => ?_)
          refine lv_aload C.1 C.2.1 d_FT_factor_74 (lv_at hl 2 rfl) ?_
          refine lv_iload C.1 C.2.1 d_FT_factor_76 (lv_at hl 1 rfl) ?_
          refine lv_iload C.1 C.2.1 d_FT_factor_78 (lv_at hl 8 rfl) ?_
          refine gs_i C hh hp_33.2.2.1 (k := (3 * k_17) + k_25) rfl (by omega) (by omega) d_FT_factor_80 (fun H locs hh => ?_)
          obtain ⟨I_35, eI_35⟩ : ∃ z : gm_I, z = gm_up I (p_33 + 3) ((3 * k_17) + k_25) t3 := ⟨_, rfl⟩
          rw [← eI_35] at hh
          refine lv_iload C.1 C.2.1 d_FT_factor_81 (lv_at hl 0 rfl) ?_
          refine lv_iconst (v := nI 3) C.1 C.2.1 d_FT_factor_83 rfl ?_
          refine lv_iadd C.1 C.2.1 d_FT_factor_84 ?_
          exact gr_i C hlk hret rfl hh (by subst hr_1 hr_10 hr_19 hr_27 ex_34 eI_35; refine Or.inr (Or.inr ⟨?_, by assumption, ?_, ?_⟩); simp [*]; (simp (disch := omega) only [nI_clamp]; first | rfl | (subst_vars; rfl)); (simp (disch := omega) only [nI_clamp]; first | rfl | (subst_vars; rfl))) d_FT_factor_85
        · -- 37 -> 40
          have b_36 := bI_f hr_27 c_30
          skip
          refine lv_bipush (v := (-3)) C.1 C.2.1 d_FT_factor_40 rfl ?_
          exact gr_i C hlk hret rfl hh (by refine Or.inr (Or.inl ⟨?_, by assumption, rfl, rfl⟩); simp [*]) d_FT_factor_42
      · -- 25 -> 28
        have b_37 := bI_f hr_19 c_22
        skip
        refine lv_bipush (v := (-2)) C.1 C.2.1 d_FT_factor_28 rfl ?_
        exact gr_i C hlk hret rfl hh (by refine Or.inl ⟨?_, rfl, rfl⟩; simp [*]) d_FT_factor_30

set_option maxHeartbeats 4000000 in
set_option maxRecDepth 100000 in
theorem c_FT_constant (l : Launch) (D : va_G) (cs : Nat → ClassId) (sh : gm_H) (sz : Nat) (I : gm_I) (J : gm_J) (B : Nat) (hF : is_FT cs sh B) (hV : inv_FT I B) (n : Nat) (en : I B 1 = nI n) (hn : n ≤ 8) (v w a t3 : Int32) : CI l y_FT_constant w_FT_constant { frames := 2, cells := 0, slots := 0, locals := 43 } D cs sh sz I J [.ref B, .int v, .int w, .int a, .int t3] (fun x u => coP I J B n v w a t3 x u) := by
  refine gm_start (by decide) (Nat.le_of_ble_eq_true rfl) ?_
  intro p' e' s' m' be' me' co' ls C hml hlk hret hh hl
  have hl : lv_has ls 7 [(0, .ref B), (1, .int v), (2, .int w), (3, .int a), (4, .int t3)] := hl
  refine lv_aload_n C.1 C.2.1 d_FT_constant_0 rfl (lv_at hl 0 rfl) ?_
  refine lv_iload_n C.1 C.2.1 d_FT_constant_1 rfl (lv_at hl 1 rfl) ?_
  refine lv_iload_n C.1 C.2.1 d_FT_constant_2 rfl (lv_at hl 2 rfl) ?_
  refine gc_i hh (gc_runV (As := [.int v, .int w]) (rest := []) (n := 2) C hml hh (c_FT_isWay l D cs sh sz I J B hF hV n en hn v w) (tg_V tw_298 tw_300 tw_2 tw_57 tw_301) (by decide +kernel) ⟨rfl, rfl, by decide, by decide, Nat.zero_le _, Nat.zero_le _⟩ hF.1 rfl rfl hl.1 rfl (Nat.le_of_ble_eq_true rfl) d_FT_constant_3) (fun r_1 I_2 J_3 H locs hr_1 hh => ?_)
  obtain ⟨e_r_1, hr_1⟩ := hr_1
  rw [(Prod.mk.inj e_r_1).1, (Prod.mk.inj e_r_1).2] at hh
  refine lv_if_eq (tgt := 18) C.1 C.2.1 d_FT_constant_6 (by decide) (fun c_4 => ?_) (fun c_4 => ?_)
  · -- 6 -> 18
    have b_5 := bI_f hr_1 c_4
    skip
    refine lv_bipush (v := (-2)) C.1 C.2.1 d_FT_constant_18 rfl ?_
    exact gr_i C hlk hret rfl hh (by refine Or.inl ⟨?_, rfl, rfl⟩; simp [*]) d_FT_constant_20
  · -- 6 -> 9
    have b_6 := bI_t hr_1 c_4
    obtain ⟨j_7, k_8, m_9, hj_7, hk_8, hm_9, ej_7, fk_8, em_9⟩ := fwB_j hn hV b_6
    subst ej_7
    subst fk_8
    skip
    refine lv_aload_n C.1 C.2.1 d_FT_constant_9 rfl (lv_at hl 0 rfl) ?_
    refine lv_iload_n C.1 C.2.1 d_FT_constant_10 rfl (lv_at hl 1 rfl) ?_
    refine lv_iload_n C.1 C.2.1 d_FT_constant_11 rfl (lv_at hl 3 rfl) ?_
    refine gc_i hh (gc_runV (As := [.int (nI j_7), .int a]) (rest := []) (n := 2) C hml hh (c_FT_isName l D cs sh sz I J B hF hV n en hn (nI j_7) a) (tg_V tw_306 tw_308 tw_3 tw_57 tw_309) (by decide +kernel) ⟨rfl, rfl, by decide, by decide, Nat.zero_le _, Nat.zero_le _⟩ hF.1 rfl rfl hl.1 rfl (Nat.le_of_ble_eq_true rfl) d_FT_constant_12) (fun r_10 I_11 J_12 H locs hr_10 hh => ?_)
    obtain ⟨e_r_10, hr_10⟩ := hr_10
    rw [(Prod.mk.inj e_r_10).1, (Prod.mk.inj e_r_10).2] at hh
    refine lv_if_ne (tgt := 21) C.1 C.2.1 d_FT_constant_15 (by decide) (fun c_13 => ?_) (fun c_13 => ?_)
    · -- 15 -> 21
      have b_14 := bI_t hr_10 c_13
      obtain ⟨j_15, k_16, m_17, hj_15, hk_16, hm_17, ej_15, fk_16, em_17⟩ := fnB_j hn hV b_14
      obtain rfl : j_7 = j_15 := gm_eqt (by omega) (by omega) ej_15
      subst fk_16
      skip
      refine lv_iload C.1 C.2.1 d_FT_constant_21 (lv_at hl 4 rfl) ?_
      refine lv_bipush (v := nI 99) C.1 C.2.1 d_FT_constant_23 rfl ?_
      refine gc_i hh (gc_runS (As := [.int t3, .int (nI 99)]) (rest := []) (n := 2) C hml hh (c_FT_within l D cs sh sz I J t3 (nI 99)) (tg_S tw_275 tw_276 tw_57 tw_277) (by decide +kernel) ⟨rfl, rfl, by decide, by decide, Nat.zero_le _, Nat.zero_le _⟩ rfl hl.1 rfl (Nat.le_of_ble_eq_true rfl) d_FT_constant_25) (fun r_18 I_19 J_20 H locs hr_18 hh => ?_)
      obtain ⟨e_r_18, hr_18⟩ := hr_18
      rw [(Prod.mk.inj e_r_18).1, (Prod.mk.inj e_r_18).2] at hh
      refine lv_if_ne (tgt := 34) C.1 C.2.1 d_FT_constant_28 (by decide) (fun c_21 => ?_) (fun c_21 => ?_)
      · -- 28 -> 34
        have b_22 := bI_t hr_18 c_21
        skip
        refine lv_aload_n C.1 C.2.1 d_FT_constant_34 rfl (lv_at hl 0 rfl) ?_
        refine gg_r C hh hF.1 rfl in_FT 0 (by decide) rfl tw_210 rfl d_FT_constant_35 ?_
        refine lv_iload_n C.1 C.2.1 d_FT_constant_38 rfl (lv_at hl 1 rfl) ?_
        refine ga_q C hh 2 hF.2.1 (Cn := "FallingTerms$Loop") rfl (k := j_7) (v := B + 12 + 21 * j_7) rfl (by omega) (by omega) (if_pos (by omega)) d_FT_constant_39 ?_
        obtain ⟨p_23, ep_23⟩ : ∃ z : Nat, z = B + 12 + 21 * j_7 := ⟨_, rfl⟩
        have hp_23 : is_Lp cs sh p_23 := by rw [ep_23]; exact hF.2.2.2.2.2.2.2.2.2.2 j_7 (by omega)
        refine gm_eqr ep_23.symm ?_
        refine gn_r C hh hp_23.1 rfl in_Lp 2 (by decide) rfl tw_160 rfl d_FT_constant_40 ?_
        refine lv_iload_n C.1 C.2.1 d_FT_constant_43 rfl (lv_at hl 2 rfl) ?_
        refine ga_q C hh 4 hp_23.2.2.1 (Cn := "FallingTerms$Way") rfl (k := k_8) (v := p_23 + 6 + 5 * k_8) rfl (by omega) (by omega) (if_pos (by omega)) d_FT_constant_44 ?_
        obtain ⟨p_24, ep_24⟩ : ∃ z : Nat, z = p_23 + 6 + 5 * k_8 := ⟨_, rfl⟩
        have hp_24 : is_Wy sh p_24 := by rw [ep_24]; exact hp_23.2.2.2.2.2 k_8 (by omega)
        refine gm_eqr ep_24.symm ?_
        refine gn_r C hh hp_24.1 rfl in_Wy 2 (by decide) rfl tw_143 rfl d_FT_constant_45 ?_
        refine lv_astore (lv' := [(5, .ref (p_24 + 4)), (0, .ref B), (1, .int (nI j_7)), (2, .int (nI k_8)), (3, .int (nI k_16)), (4, .int t3)]) C.1 C.2.1 d_FT_constant_48 hl (by decide) rfl (fun ls hl => ?_)
        refine lv_aload C.1 C.2.1 d_FT_constant_50 (lv_at hl 0 rfl) ?_
        refine lv_iload_n C.1 C.2.1 d_FT_constant_52 rfl (lv_at hl 4 rfl) ?_
        refine ga_i C hh hp_24.2.2.2 (k := k_16) rfl (by omega) (by omega) d_FT_constant_53 ?_
        refine lv_topi (fun x_25 ex_25 => ?_)
        refine lv_istore (lv' := [(6, .int x_25), (5, .ref (p_24 + 4)), (0, .ref B), (1, .int (nI j_7)), (2, .int (nI k_8)), (3, .int (nI k_16)), (4, .int t3)]) C.1 C.2.1 d_FT_constant_54 hl (by decide) rfl (fun ls hl => ?_)
        refine lv_aload C.1 C.2.1 d_FT_constant_56 (lv_at hl 1 rfl) ?_
        refine lv_iload_n C.1 C.2.1 d_FT_constant_58 rfl (lv_at hl 5 rfl) ?_
        refine lv_iload C.1 C.2.1 d_FT_constant_59 (lv_at hl 6 rfl) ?_
        refine gs_i C hh hp_24.2.2.2 (k := k_16) rfl (by omega) (by omega) d_FT_constant_61 (fun H locs hh => ?_)
        obtain ⟨I_26, eI_26⟩ : ∃ z : gm_I, z = gm_up I (p_24 + 4) k_16 t3 := ⟨_, rfl⟩
        rw [← eI_26] at hh
        refine lv_iload C.1 C.2.1 d_FT_constant_62 (lv_at hl 0 rfl) ?_
        refine lv_bipush (v := nI 99) C.1 C.2.1 d_FT_constant_64 rfl ?_
        refine lv_iadd C.1 C.2.1 d_FT_constant_66 ?_
        exact gr_i C hlk hret rfl hh (by subst hr_1 hr_10 hr_18 ex_25 eI_26; refine Or.inr (Or.inr ⟨?_, by assumption, ?_, ?_⟩); simp [*]; (simp (disch := omega) only [nI_clamp]; first | rfl | (subst_vars; rfl)); (simp (disch := omega) only [nI_clamp]; first | rfl | (subst_vars; rfl))) d_FT_constant_67
      · -- 28 -> 31
        have b_27 := bI_f hr_18 c_21
        skip
        refine lv_bipush (v := (-3)) C.1 C.2.1 d_FT_constant_31 rfl ?_
        exact gr_i C hlk hret rfl hh (by refine Or.inr (Or.inl ⟨?_, by assumption, rfl, rfl⟩); simp [*]) d_FT_constant_33
    · -- 15 -> 18
      have b_28 := bI_f hr_10 c_13
      skip
      refine lv_bipush (v := (-2)) C.1 C.2.1 d_FT_constant_18 rfl ?_
      exact gr_i C hlk hret rfl hh (by refine Or.inl ⟨?_, rfl, rfl⟩; simp [*]) d_FT_constant_20

set_option maxHeartbeats 4000000 in
set_option maxRecDepth 100000 in
theorem c_FT_put (l : Launch) (D : va_G) (cs : Nat → ClassId) (sh : gm_H) (sz : Nat) (I : gm_I) (J : gm_J) (B : Nat) (hF : is_FT cs sh B) (hV : inv_FT I B) (n : Nat) (en : I B 1 = nI n) (hn : n ≤ 8) (v w t3 : Int32) : CI l y_FT_put w_FT_put { frames := 2, cells := 0, slots := 0, locals := 43 } D cs sh sz I J [.ref B, .int v, .int w, .int t3] (fun x u => ptP I J B n v w t3 x u) := by
  refine gm_start (by decide) (Nat.le_of_ble_eq_true rfl) ?_
  intro p' e' s' m' be' me' co' ls C hml hlk hret hh hl
  have hl : lv_has ls 4 [(0, .ref B), (1, .int v), (2, .int w), (3, .int t3)] := hl
  refine lv_aload_n C.1 C.2.1 d_FT_put_0 rfl (lv_at hl 0 rfl) ?_
  refine lv_iload_n C.1 C.2.1 d_FT_put_1 rfl (lv_at hl 1 rfl) ?_
  refine lv_iload_n C.1 C.2.1 d_FT_put_2 rfl (lv_at hl 2 rfl) ?_
  refine gc_i hh (gc_runV (As := [.int v, .int w]) (rest := []) (n := 2) C hml hh (c_FT_isName l D cs sh sz I J B hF hV n en hn v w) (tg_V tw_306 tw_308 tw_3 tw_57 tw_309) (by decide +kernel) ⟨rfl, rfl, by decide, by decide, Nat.zero_le _, Nat.zero_le _⟩ hF.1 rfl rfl hl.1 rfl (Nat.le_of_ble_eq_true rfl) d_FT_put_3) (fun r_1 I_2 J_3 H locs hr_1 hh => ?_)
  obtain ⟨e_r_1, hr_1⟩ := hr_1
  rw [(Prod.mk.inj e_r_1).1, (Prod.mk.inj e_r_1).2] at hh
  refine lv_if_ne (tgt := 12) C.1 C.2.1 d_FT_put_6 (by decide) (fun c_4 => ?_) (fun c_4 => ?_)
  · -- 6 -> 12
    have b_5 := bI_t hr_1 c_4
    obtain ⟨j_6, k_7, m_8, hj_6, hk_7, hm_8, ej_6, fk_7, em_8⟩ := fnB_j hn hV b_5
    subst ej_6
    subst fk_7
    skip
    refine lv_iload_n C.1 C.2.1 d_FT_put_12 rfl (lv_at hl 3 rfl) ?_
    refine lv_ldc C.1 C.2.1 C.2.2.2.1 (C.2.2.1 _ tw_495) d_FT_put_13 ?_
    refine gm_eqi (y := nI 1000000) rfl ?_
    refine gc_i hh (gc_runS (As := [.int t3, .int (nI 1000000)]) (rest := []) (n := 2) C hml hh (c_FT_within l D cs sh sz I J t3 (nI 1000000)) (tg_S tw_275 tw_276 tw_57 tw_277) (by decide +kernel) ⟨rfl, rfl, by decide, by decide, Nat.zero_le _, Nat.zero_le _⟩ rfl hl.1 rfl (Nat.le_of_ble_eq_true rfl) d_FT_put_15) (fun r_9 I_10 J_11 H locs hr_9 hh => ?_)
    obtain ⟨e_r_9, hr_9⟩ := hr_9
    rw [(Prod.mk.inj e_r_9).1, (Prod.mk.inj e_r_9).2] at hh
    refine lv_if_ne (tgt := 24) C.1 C.2.1 d_FT_put_18 (by decide) (fun c_12 => ?_) (fun c_12 => ?_)
    · -- 18 -> 24
      have b_13 := bI_t hr_9 c_12
      skip
      refine lv_aload_n C.1 C.2.1 d_FT_put_24 rfl (lv_at hl 0 rfl) ?_
      refine gg_r C hh hF.1 rfl in_FT 0 (by decide) rfl tw_210 rfl d_FT_put_25 ?_
      refine lv_iload_n C.1 C.2.1 d_FT_put_28 rfl (lv_at hl 1 rfl) ?_
      refine ga_q C hh 2 hF.2.1 (Cn := "FallingTerms$Loop") rfl (k := j_6) (v := B + 12 + 21 * j_6) rfl (by omega) (by omega) (if_pos (by omega)) d_FT_put_29 ?_
      obtain ⟨p_14, ep_14⟩ : ∃ z : Nat, z = B + 12 + 21 * j_6 := ⟨_, rfl⟩
      have hp_14 : is_Lp cs sh p_14 := by rw [ep_14]; exact hF.2.2.2.2.2.2.2.2.2.2 j_6 (by omega)
      refine gm_eqr ep_14.symm ?_
      refine gn_r C hh hp_14.1 rfl in_Lp 4 (by decide) rfl tw_165 rfl d_FT_put_30 ?_
      refine lv_iload_n C.1 C.2.1 d_FT_put_33 rfl (lv_at hl 2 rfl) ?_
      refine lv_iload_n C.1 C.2.1 d_FT_put_34 rfl (lv_at hl 3 rfl) ?_
      refine lv_i2l (v := t3.toInt64) C.1 C.2.1 d_FT_put_35 rfl ?_
      refine gs_l C hh hp_14.2.2.2.1 (k := k_7) rfl (by omega) (by omega) d_FT_put_36 (fun H locs hh => ?_)
      obtain ⟨J_15, eJ_15⟩ : ∃ z : gm_J, z = gm_up J (p_14 + 4) k_7 t3.toInt64 := ⟨_, rfl⟩
      rw [← eJ_15] at hh
      refine lv_iconst (v := nI 1) C.1 C.2.1 d_FT_put_37 rfl ?_
      exact gr_i C hlk hret rfl hh (by subst hr_1 hr_9 eJ_15; refine Or.inr (Or.inr ⟨by assumption, by assumption, rfl, ?_⟩); (simp (disch := omega) only [nI_clamp]; first | rfl | (subst_vars; rfl))) d_FT_put_38
    · -- 18 -> 21
      have b_16 := bI_f hr_9 c_12
      skip
      refine lv_bipush (v := (-3)) C.1 C.2.1 d_FT_put_21 rfl ?_
      exact gr_i C hlk hret rfl hh (by exact Or.inr (Or.inl ⟨by assumption, by assumption, rfl, rfl⟩)) d_FT_put_23
  · -- 6 -> 9
    have b_17 := bI_f hr_1 c_4
    skip
    refine lv_bipush (v := (-2)) C.1 C.2.1 d_FT_put_9 rfl ?_
    exact gr_i C hlk hret rfl hh (by exact Or.inl ⟨by assumption, rfl, rfl⟩) d_FT_put_11

set_option maxHeartbeats 4000000 in
set_option maxRecDepth 100000 in
theorem c_FT_at (l : Launch) (D : va_G) (cs : Nat → ClassId) (sh : gm_H) (sz : Nat) (I : gm_I) (J : gm_J) (B : Nat) (hF : is_FT cs sh B) (hV : inv_FT I B) (n : Nat) (en : I B 1 = nI n) (hn : n ≤ 8) (v w : Int32) : CL l y_FT_at w_FT_at { frames := 2, cells := 0, slots := 0, locals := 43 } D cs sh sz I J [.ref B, .int v, .int w] (fun x u => u = (I, J) ∧ x = if fnB I B n v w = true then J (B + 12 + 21 * nN v + 4) (nN w) else -9000000000000) := by
  refine gm_start (by decide) (Nat.le_of_ble_eq_true rfl) ?_
  intro p' e' s' m' be' me' co' ls C hml hlk hret hh hl
  have hl : lv_has ls 3 [(0, .ref B), (1, .int v), (2, .int w)] := hl
  refine lv_aload_n C.1 C.2.1 d_FT_at_0 rfl (lv_at hl 0 rfl) ?_
  refine lv_iload_n C.1 C.2.1 d_FT_at_1 rfl (lv_at hl 1 rfl) ?_
  refine lv_iload_n C.1 C.2.1 d_FT_at_2 rfl (lv_at hl 2 rfl) ?_
  refine gc_i hh (gc_runV (As := [.int v, .int w]) (rest := []) (n := 2) C hml hh (c_FT_isName l D cs sh sz I J B hF hV n en hn v w) (tg_V tw_306 tw_308 tw_3 tw_57 tw_309) (by decide +kernel) ⟨rfl, rfl, by decide, by decide, Nat.zero_le _, Nat.zero_le _⟩ hF.1 rfl rfl hl.1 rfl (Nat.le_of_ble_eq_true rfl) d_FT_at_3) (fun r_1 I_2 J_3 H locs hr_1 hh => ?_)
  obtain ⟨e_r_1, hr_1⟩ := hr_1
  rw [(Prod.mk.inj e_r_1).1, (Prod.mk.inj e_r_1).2] at hh
  refine lv_if_eq (tgt := 23) C.1 C.2.1 d_FT_at_6 (by decide) (fun c_4 => ?_) (fun c_4 => ?_)
  · -- 6 -> 23
    have b_5 := bI_f hr_1 c_4
    skip
    refine lv_ldc2 C.1 C.2.1 C.2.2.2.1 (C.2.2.1 _ tw_500) d_FT_at_23 ?_
    exact gr_l C hlk hret hh (by refine ⟨rfl, ?_⟩; first | (rw [if_neg (by simp [*])]; done) | (rw [if_pos (by assumption)]; simp (disch := omega) only [nI_clamp]; first | rfl | (subst_vars; rfl))) d_FT_at_26
  · -- 6 -> 9
    have b_6 := bI_t hr_1 c_4
    obtain ⟨j_7, k_8, m_9, hj_7, hk_8, hm_9, ej_7, fk_8, em_9⟩ := fnB_j hn hV b_6
    subst ej_7
    subst fk_8
    skip
    refine lv_aload_n C.1 C.2.1 d_FT_at_9 rfl (lv_at hl 0 rfl) ?_
    refine gg_r C hh hF.1 rfl in_FT 0 (by decide) rfl tw_210 rfl d_FT_at_10 ?_
    refine lv_iload_n C.1 C.2.1 d_FT_at_13 rfl (lv_at hl 1 rfl) ?_
    refine ga_q C hh 2 hF.2.1 (Cn := "FallingTerms$Loop") rfl (k := j_7) (v := B + 12 + 21 * j_7) rfl (by omega) (by omega) (if_pos (by omega)) d_FT_at_14 ?_
    obtain ⟨p_10, ep_10⟩ : ∃ z : Nat, z = B + 12 + 21 * j_7 := ⟨_, rfl⟩
    have hp_10 : is_Lp cs sh p_10 := by rw [ep_10]; exact hF.2.2.2.2.2.2.2.2.2.2 j_7 (by omega)
    refine gm_eqr ep_10.symm ?_
    refine gn_r C hh hp_10.1 rfl in_Lp 4 (by decide) rfl tw_165 rfl d_FT_at_15 ?_
    refine lv_iload_n C.1 C.2.1 d_FT_at_18 rfl (lv_at hl 2 rfl) ?_
    refine ga_l C hh hp_10.2.2.2.1 (k := k_8) rfl (by omega) (by omega) d_FT_at_19 ?_
    refine lv_goto (tgt := 26) C.1 C.2.1 d_FT_at_20 (by decide) ?_
    exact gr_l C hlk hret hh (by refine ⟨rfl, ?_⟩; first | (rw [if_neg (by simp [*])]; done) | (rw [if_pos (by assumption)]; simp (disch := omega) only [nI_clamp]; first | rfl | (subst_vars; rfl))) d_FT_at_26

set_option maxHeartbeats 4000000 in
set_option maxRecDepth 100000 in
theorem c_FT_told (l : Launch) (D : va_G) (cs : Nat → ClassId) (sh : gm_H) (sz : Nat) (I : gm_I) (J : gm_J) (B : Nat) (hF : is_FT cs sh B) (hV : inv_FT I B) (n : Nat) (en : I B 1 = nI n) (hn : n ≤ 8) (v w : Int32) : CI l y_FT_told w_FT_told { frames := 1, cells := 0, slots := 0, locals := 21 } D cs sh sz I J [.ref B, .int v, .int w] (fun x u => u = (I, J) ∧ x = if inI v 0 (nI n - 1) = true then (if w = nI 0 then I (B + 12 + 21 * nN v) 0 else if w = nI 1 then I (B + 12 + 21 * nN v) 3 else if w = nI 2 then I (B + 12 + 21 * nN v + 1) 2 else -3) else -2) := by
  refine gm_start (by decide) (Nat.le_of_ble_eq_true rfl) ?_
  intro p' e' s' m' be' me' co' ls C hml hlk hret hh hl
  have hl : lv_has ls 3 [(0, .ref B), (1, .int v), (2, .int w)] := hl
  refine lv_aload_n C.1 C.2.1 d_FT_told_0 rfl (lv_at hl 0 rfl) ?_
  refine lv_iload_n C.1 C.2.1 d_FT_told_1 rfl (lv_at hl 1 rfl) ?_
  refine gc_i hh (gc_runV (As := [.int v]) (rest := []) (n := 1) C hml hh (c_FT_isLoop l D cs sh sz I J B hF hV n en hn v) (tg_V tw_264 tw_266 tw_0 tw_57 tw_267) (by decide +kernel) ⟨rfl, rfl, by decide, by decide, Nat.zero_le _, Nat.zero_le _⟩ hF.1 rfl rfl hl.1 rfl (Nat.le_of_ble_eq_true rfl) d_FT_told_2) (fun r_1 I_2 J_3 H locs hr_1 hh => ?_)
  obtain ⟨e_r_1, hr_1⟩ := hr_1
  rw [(Prod.mk.inj e_r_1).1, (Prod.mk.inj e_r_1).2] at hh
  refine lv_if_ne (tgt := 11) C.1 C.2.1 d_FT_told_5 (by decide) (fun c_4 => ?_) (fun c_4 => ?_)
  · -- 5 -> 11
    have b_5 := bI_t hr_1 c_4
    obtain ⟨j_6, hj_6, ej_6⟩ := inI_nat (by omega) b_5
    subst ej_6
    skip
    refine lv_iload_n C.1 C.2.1 d_FT_told_11 rfl (lv_at hl 2 rfl) ?_
    by_cases c_7 : w = nI 0
    · -- case 0
      refine lv_tableIn (tgt := 40) (off := 28) C.1 C.2.1 d_FT_told_12 (by rw [c_7]; decide) (by rw [c_7]; decide) (by rw [c_7]; decide +kernel) (by decide) ?_
      refine lv_aload_n C.1 C.2.1 d_FT_told_40 rfl (lv_at hl 0 rfl) ?_
      refine gg_r C hh hF.1 rfl in_FT 0 (by decide) rfl tw_210 rfl d_FT_told_41 ?_
      refine lv_iload_n C.1 C.2.1 d_FT_told_44 rfl (lv_at hl 1 rfl) ?_
      refine ga_q C hh 2 hF.2.1 (Cn := "FallingTerms$Loop") rfl (k := j_6) (v := B + 12 + 21 * j_6) rfl (by omega) (by omega) (if_pos (by omega)) d_FT_told_45 ?_
      obtain ⟨p_8, ep_8⟩ : ∃ z : Nat, z = B + 12 + 21 * j_6 := ⟨_, rfl⟩
      have hp_8 : is_Lp cs sh p_8 := by rw [ep_8]; exact hF.2.2.2.2.2.2.2.2.2.2 j_6 (by omega)
      refine gm_eqr ep_8.symm ?_
      refine gn_i C hh hp_8.1 rfl in_Lp 0 (by decide) rfl tw_153 rfl d_FT_told_46 ?_
      exact gr_i C hlk hret rfl hh (by refine ⟨rfl, ?_⟩; rw [if_pos (by assumption), if_pos (by assumption), nN_nI (by omega), ep_8]) d_FT_told_49
    by_cases c_7' : w = nI 1
    · -- case 1
      refine lv_tableIn (tgt := 50) (off := 38) C.1 C.2.1 d_FT_told_12 (by rw [c_7']; decide) (by rw [c_7']; decide) (by rw [c_7']; decide +kernel) (by decide) ?_
      refine lv_aload_n C.1 C.2.1 d_FT_told_50 rfl (lv_at hl 0 rfl) ?_
      refine gg_r C hh hF.1 rfl in_FT 0 (by decide) rfl tw_210 rfl d_FT_told_51 ?_
      refine lv_iload_n C.1 C.2.1 d_FT_told_54 rfl (lv_at hl 1 rfl) ?_
      refine ga_q C hh 2 hF.2.1 (Cn := "FallingTerms$Loop") rfl (k := j_6) (v := B + 12 + 21 * j_6) rfl (by omega) (by omega) (if_pos (by omega)) d_FT_told_55 ?_
      obtain ⟨p_9, ep_9⟩ : ∃ z : Nat, z = B + 12 + 21 * j_6 := ⟨_, rfl⟩
      have hp_9 : is_Lp cs sh p_9 := by rw [ep_9]; exact hF.2.2.2.2.2.2.2.2.2.2 j_6 (by omega)
      refine gm_eqr ep_9.symm ?_
      refine gn_i C hh hp_9.1 rfl in_Lp 3 (by decide) rfl tw_163 rfl d_FT_told_56 ?_
      exact gr_i C hlk hret rfl hh (by refine ⟨rfl, ?_⟩; rw [if_pos (by assumption), if_neg (by assumption), if_pos (by assumption), nN_nI (by omega), ep_9]) d_FT_told_59
    by_cases c_7'' : w = nI 2
    · -- case 2
      refine lv_tableIn (tgt := 60) (off := 48) C.1 C.2.1 d_FT_told_12 (by rw [c_7'']; decide) (by rw [c_7'']; decide) (by rw [c_7'']; decide +kernel) (by decide) ?_
      refine lv_aload_n C.1 C.2.1 d_FT_told_60 rfl (lv_at hl 0 rfl) ?_
      refine gg_r C hh hF.1 rfl in_FT 0 (by decide) rfl tw_210 rfl d_FT_told_61 ?_
      refine lv_iload_n C.1 C.2.1 d_FT_told_64 rfl (lv_at hl 1 rfl) ?_
      refine ga_q C hh 2 hF.2.1 (Cn := "FallingTerms$Loop") rfl (k := j_6) (v := B + 12 + 21 * j_6) rfl (by omega) (by omega) (if_pos (by omega)) d_FT_told_65 ?_
      obtain ⟨p_10, ep_10⟩ : ∃ z : Nat, z = B + 12 + 21 * j_6 := ⟨_, rfl⟩
      have hp_10 : is_Lp cs sh p_10 := by rw [ep_10]; exact hF.2.2.2.2.2.2.2.2.2.2 j_6 (by omega)
      refine gm_eqr ep_10.symm ?_
      refine gn_r C hh hp_10.1 rfl in_Lp 1 (by decide) rfl tw_156 rfl d_FT_told_66 ?_
      refine gn_i C hh hp_10.2.1.1 rfl in_Rw 2 (by decide) rfl tw_118 rfl d_FT_told_69 ?_
      exact gr_i C hlk hret rfl hh (by refine ⟨rfl, ?_⟩; rw [if_pos (by assumption), if_neg (by assumption), if_neg (by assumption), if_pos (by assumption), nN_nI (by omega), ep_10]) d_FT_told_72
    refine lv_tableOut (tgt := 73) C.1 C.2.1 d_FT_told_12 (sw_out c_7 c_7' c_7'') (by decide) ?_
    refine lv_bipush (v := (-3)) C.1 C.2.1 d_FT_told_73 rfl ?_
    exact gr_i C hlk hret rfl hh (by refine ⟨rfl, ?_⟩; rw [if_pos (by assumption), if_neg (by assumption), if_neg (by assumption), if_neg (by assumption)]) d_FT_told_75
  · -- 5 -> 8
    have b_11 := bI_f hr_1 c_4
    skip
    refine lv_bipush (v := (-2)) C.1 C.2.1 d_FT_told_8 rfl ?_
    exact gr_i C hlk hret rfl hh (by refine ⟨rfl, ?_⟩; rw [if_neg (by simp [*])]) d_FT_told_10
