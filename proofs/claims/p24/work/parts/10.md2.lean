set_option maxHeartbeats 4000000 in
set_option maxRecDepth 100000 in
theorem c_Md_lay (l : Launch) (D : va_G) (cs : Nat → ClassId) (sh : gm_H) (sz : Nat) (I : gm_I) (J : gm_J) (q n k : Nat) (a b c d : Int32) (hq : sh q = some (.inr (.inl n))) (hk : k + 3 < n) (hn : n < 2 ^ 30) : CV l y_Md_lay w_Md_lay { frames := 0, cells := 0, slots := 0, locals := 0 } D cs sh sz I J [.ref q, .int (nI k), .int a, .int b, .int c, .int d] (fun u => u = (gm_up (gm_up (gm_up (gm_up I q k a) q (k + 1) b) q (k + 2) c) q (k + 3) d, J)) := by
  refine gm_start (by decide) (Nat.le_of_ble_eq_true rfl) ?_
  intro p' e' s' m' be' me' co' ls C hml hlk hret hh hl
  have hl : lv_has ls 6 [(0, .ref q), (1, .int (nI k)), (2, .int a), (3, .int b), (4, .int c), (5, .int d)] := hl
  refine lv_aload_n C.1 C.2.1 d_Md_lay_0 rfl (lv_at hl 0 rfl) ?_
  refine lv_iload_n C.1 C.2.1 d_Md_lay_1 rfl (lv_at hl 1 rfl) ?_
  refine lv_iload_n C.1 C.2.1 d_Md_lay_2 rfl (lv_at hl 2 rfl) ?_
  refine gs_i C hh hq (k := k) rfl (by omega) (by omega) d_Md_lay_3 (fun H locs hh => ?_)
  obtain ⟨I_1, eI_1⟩ : ∃ z : gm_I, z = gm_up I q k a := ⟨_, rfl⟩
  rw [← eI_1] at hh
  refine lv_aload_n C.1 C.2.1 d_Md_lay_4 rfl (lv_at hl 0 rfl) ?_
  refine lv_iload_n C.1 C.2.1 d_Md_lay_5 rfl (lv_at hl 1 rfl) ?_
  refine lv_iconst (v := nI 1) C.1 C.2.1 d_Md_lay_6 rfl ?_
  refine lv_iadd C.1 C.2.1 d_Md_lay_7 ?_
  refine gm_eqi (nI_add _ _) ?_
  refine lv_iload_n C.1 C.2.1 d_Md_lay_8 rfl (lv_at hl 3 rfl) ?_
  refine gs_i C hh hq (k := k + 1) rfl (by omega) (by omega) d_Md_lay_9 (fun H locs hh => ?_)
  obtain ⟨I_2, eI_2⟩ : ∃ z : gm_I, z = gm_up I_1 q (k + 1) b := ⟨_, rfl⟩
  rw [← eI_2] at hh
  refine lv_aload_n C.1 C.2.1 d_Md_lay_10 rfl (lv_at hl 0 rfl) ?_
  refine lv_iload_n C.1 C.2.1 d_Md_lay_11 rfl (lv_at hl 1 rfl) ?_
  refine lv_iconst (v := nI 2) C.1 C.2.1 d_Md_lay_12 rfl ?_
  refine lv_iadd C.1 C.2.1 d_Md_lay_13 ?_
  refine gm_eqi (nI_add _ _) ?_
  refine lv_iload C.1 C.2.1 d_Md_lay_14 (lv_at hl 4 rfl) ?_
  refine gs_i C hh hq (k := k + 2) rfl (by omega) (by omega) d_Md_lay_16 (fun H locs hh => ?_)
  obtain ⟨I_3, eI_3⟩ : ∃ z : gm_I, z = gm_up I_2 q (k + 2) c := ⟨_, rfl⟩
  rw [← eI_3] at hh
  refine lv_aload_n C.1 C.2.1 d_Md_lay_17 rfl (lv_at hl 0 rfl) ?_
  refine lv_iload_n C.1 C.2.1 d_Md_lay_18 rfl (lv_at hl 1 rfl) ?_
  refine lv_iconst (v := nI 3) C.1 C.2.1 d_Md_lay_19 rfl ?_
  refine lv_iadd C.1 C.2.1 d_Md_lay_20 ?_
  refine gm_eqi (nI_add _ _) ?_
  refine lv_iload C.1 C.2.1 d_Md_lay_21 (lv_at hl 5 rfl) ?_
  refine gs_i C hh hq (k := k + 3) rfl (by omega) (by omega) d_Md_lay_23 (fun H locs hh => ?_)
  obtain ⟨I_4, eI_4⟩ : ∃ z : gm_I, z = gm_up I_3 q (k + 3) d := ⟨_, rfl⟩
  rw [← eI_4] at hh
  exact gr_v C hlk hret hh (by subst_vars; rfl) d_Md_lay_24

set_option maxHeartbeats 4000000 in
set_option maxRecDepth 100000 in
theorem c_Md_clear (l : Launch) (D : va_G) (cs : Nat → ClassId) (sh : gm_H) (sz : Nat) (I : gm_I) (J : gm_J) (r : Nat) (hM : is_Md sh r) (hV : inv_Md I r)  : CI l y_Md_clear w_Md_clear { frames := 0, cells := 0, slots := 0, locals := 0 } D cs sh sz I J [.ref r] (fun x u => x = I r 0 ∧ u = (gm_up (gm_up (gm_up (gm_up I r 0 (nI 0)) r 10 (nI 0)) r 12 (nI 0)) r 13 (nI 0), J)) := by
  refine gm_start (by decide) (Nat.le_of_ble_eq_true rfl) ?_
  intro p' e' s' m' be' me' co' ls C hml hlk hret hh hl
  have hl : lv_has ls 2 [(0, .ref r)] := hl
  refine lv_aload_n C.1 C.2.1 d_Md_clear_0 rfl (lv_at hl 0 rfl) ?_
  refine gg_i C hh (Md_0 hM) rfl in_Md 0 (by decide) rfl tw_565 rfl d_Md_clear_1 ?_
  refine lv_topi (fun x_1 ex_1 => ?_)
  refine lv_istore_n (lv' := [(1, .int x_1), (0, .ref r)]) C.1 C.2.1 d_Md_clear_4 rfl hl (by decide) rfl (fun ls hl => ?_)
  refine lv_aload_n C.1 C.2.1 d_Md_clear_5 rfl (lv_at hl 1 rfl) ?_
  refine lv_iconst (v := nI 0) C.1 C.2.1 d_Md_clear_6 rfl ?_
  refine gp_i (ty := .int) C hh (Md_0 hM) rfl in_Md t_Md t_Md_ok n_Md 0 (by decide) rfl tw_565 rfl rfl (by decide +kernel) rfl rfl d_Md_clear_7 (fun H locs hh => ?_)
  obtain ⟨I_2, eI_2⟩ : ∃ z : gm_I, z = gm_up I r 0 (nI 0) := ⟨_, rfl⟩
  rw [← eI_2] at hh
  refine lv_aload_n C.1 C.2.1 d_Md_clear_10 rfl (lv_at hl 1 rfl) ?_
  refine lv_iconst (v := nI 0) C.1 C.2.1 d_Md_clear_11 rfl ?_
  refine gp_i (ty := .int) C hh (Md_0 hM) rfl in_Md t_Md t_Md_ok n_Md 10 (by decide) rfl tw_575 rfl rfl (by decide +kernel) rfl rfl d_Md_clear_12 (fun H locs hh => ?_)
  obtain ⟨I_3, eI_3⟩ : ∃ z : gm_I, z = gm_up I_2 r 10 (nI 0) := ⟨_, rfl⟩
  rw [← eI_3] at hh
  refine lv_aload_n C.1 C.2.1 d_Md_clear_15 rfl (lv_at hl 1 rfl) ?_
  refine lv_iconst (v := nI 0) C.1 C.2.1 d_Md_clear_16 rfl ?_
  refine gp_i (ty := .int) C hh (Md_0 hM) rfl in_Md t_Md t_Md_ok n_Md 12 (by decide) rfl tw_577 rfl rfl (by decide +kernel) rfl rfl d_Md_clear_17 (fun H locs hh => ?_)
  obtain ⟨I_4, eI_4⟩ : ∃ z : gm_I, z = gm_up I_3 r 12 (nI 0) := ⟨_, rfl⟩
  rw [← eI_4] at hh
  refine lv_aload_n C.1 C.2.1 d_Md_clear_20 rfl (lv_at hl 1 rfl) ?_
  refine lv_iconst (v := nI 0) C.1 C.2.1 d_Md_clear_21 rfl ?_
  refine gp_i (ty := .boolean) C hh (Md_0 hM) rfl in_Md t_Md t_Md_ok n_Md 13 (by decide) rfl tw_578 rfl rfl (by decide +kernel) (gm_nb (Or.inl rfl)) (gm_fb (Or.inl rfl)) d_Md_clear_22 (fun H locs hh => ?_)
  obtain ⟨I_5, eI_5⟩ : ∃ z : gm_I, z = gm_up I_4 r 13 (nI 0) := ⟨_, rfl⟩
  rw [← eI_5] at hh
  refine lv_iload_n C.1 C.2.1 d_Md_clear_25 rfl (lv_at hl 0 rfl) ?_
  exact gr_i C hlk hret rfl hh (by subst_vars; exact ⟨rfl, rfl⟩) d_Md_clear_26

set_option maxHeartbeats 4000000 in
set_option maxRecDepth 100000 in
theorem c_Md_left (l : Launch) (D : va_G) (cs : Nat → ClassId) (sh : gm_H) (sz : Nat) (I : gm_I) (J : gm_J) (r : Nat) (hM : is_Md sh r) (hV : inv_Md I r)  : CI l y_Md_left w_Md_left { frames := 0, cells := 0, slots := 0, locals := 0 } D cs sh sz I J [.ref r] (fun x u => u = (I, J) ∧ x = I r 12) := by
  refine gm_start (by decide) (Nat.le_of_ble_eq_true rfl) ?_
  intro p' e' s' m' be' me' co' ls C hml hlk hret hh hl
  have hl : lv_has ls 1 [(0, .ref r)] := hl
  refine lv_aload_n C.1 C.2.1 d_Md_left_0 rfl (lv_at hl 0 rfl) ?_
  refine gg_i C hh (Md_0 hM) rfl in_Md 12 (by decide) rfl tw_577 rfl d_Md_left_1 ?_
  exact gr_i C hlk hret rfl hh (by exact ⟨rfl, rfl⟩) d_Md_left_4

set_option maxHeartbeats 4000000 in
set_option maxRecDepth 100000 in
theorem c_Md_loops (l : Launch) (D : va_G) (cs : Nat → ClassId) (sh : gm_H) (sz : Nat) (I : gm_I) (J : gm_J) (r : Nat) (hM : is_Md sh r) (hV : inv_Md I r)  : CI l y_Md_loops w_Md_loops { frames := 0, cells := 0, slots := 0, locals := 0 } D cs sh sz I J [.ref r] (fun x u => u = (I, J) ∧ x = I r 0) := by
  refine gm_start (by decide) (Nat.le_of_ble_eq_true rfl) ?_
  intro p' e' s' m' be' me' co' ls C hml hlk hret hh hl
  have hl : lv_has ls 1 [(0, .ref r)] := hl
  refine lv_aload_n C.1 C.2.1 d_Md_loops_0 rfl (lv_at hl 0 rfl) ?_
  refine gg_i C hh (Md_0 hM) rfl in_Md 0 (by decide) rfl tw_565 rfl d_Md_loops_1 ?_
  exact gr_i C hlk hret rfl hh (by exact ⟨rfl, rfl⟩) d_Md_loops_4

set_option maxHeartbeats 4000000 in
set_option maxRecDepth 100000 in
theorem c_Md_loop (l : Launch) (D : va_G) (cs : Nat → ClassId) (sh : gm_H) (sz : Nat) (I : gm_I) (J : gm_J) (r : Nat) (hM : is_Md sh r) (hV : inv_Md I r) (v : Int32) (n : Nat) (hn8 : n ≤ 8) (hn : I r 0 = nI n) : CI l y_Md_loop w_Md_loop { frames := 1, cells := 0, slots := 0, locals := 22 } D cs sh sz I J [.ref r, .int v] (fun x u => (inI v (nI 1) (nI 3) = false ∧ x = -3 ∧ u = (I, J)) ∨ (inI v (nI 1) (nI 3) = true ∧ n = 8 ∧ x = -4 ∧ u = (I, J)) ∨ (inI v (nI 1) (nI 3) = true ∧ n < 8 ∧ x = nI n ∧ u = (gm_up (gm_up (gm_up (gm_up I (r + 1) n v) (r + 2) n (nI 0)) (r + 3) n (nI 0)) r 0 (nI (n + 1)), gm_up (gm_up (gm_up J (r + 9) (3 * n + 0) 0) (r + 9) (3 * n + 1) 0) (r + 9) (3 * n + 2) 0))) := by
  refine gm_start (by decide) (Nat.le_of_ble_eq_true rfl) ?_
  intro p' e' s' m' be' me' co' ls C hml hlk hret hh hl
  have hl : lv_has ls 4 [(0, .ref r), (1, .int v)] := hl
  refine lv_iload_n C.1 C.2.1 d_Md_loop_0 rfl (lv_at hl 1 rfl) ?_
  refine lv_iconst (v := nI 1) C.1 C.2.1 d_Md_loop_1 rfl ?_
  refine lv_iconst (v := nI 3) C.1 C.2.1 d_Md_loop_2 rfl ?_
  refine gc_i hh (gc_runS (As := [.int v, .int (nI 1), .int (nI 3)]) (rest := []) (n := 3) C hml hh (c_Md_isIn l D cs sh sz I J v (nI 1) (nI 3)) (tg_S tw_684 tw_685 tw_64 tw_686) (by decide +kernel) ⟨rfl, rfl, by decide, by decide, Nat.zero_le _, Nat.zero_le _⟩ rfl hl.1 rfl (Nat.le_of_ble_eq_true rfl) d_Md_loop_3) (fun r_1 I_2 J_3 H locs hr_1 hh => ?_)
  obtain ⟨e_r_1, hr_1⟩ := hr_1
  rw [(Prod.mk.inj e_r_1).1, (Prod.mk.inj e_r_1).2] at hh
  refine lv_if_ne (tgt := 12) C.1 C.2.1 d_Md_loop_6 (by decide) (fun c_4 => ?_) (fun c_4 => ?_)
  · -- 6 -> 12
    have b_5 := bI_t hr_1 c_4
    skip
    refine lv_aload_n C.1 C.2.1 d_Md_loop_12 rfl (lv_at hl 0 rfl) ?_
    refine gg_i C hh (Md_0 hM) rfl in_Md 0 (by decide) rfl tw_565 rfl d_Md_loop_13 ?_
    refine gm_eqi hn ?_
    refine lv_bipush (v := nI 8) C.1 C.2.1 d_Md_loop_16 rfl ?_
    refine lv_icmp_ne (tgt := 24) C.1 C.2.1 d_Md_loop_18 (by decide) (fun c_6 => ?_) (fun c_6 => ?_)
    · -- 18 -> 24
      have c_6 := gm_net (by omega) (by omega) c_6
      refine lv_aload_n C.1 C.2.1 d_Md_loop_24 rfl (lv_at hl 0 rfl) ?_
      refine gg_i C hh (Md_0 hM) rfl in_Md 0 (by decide) rfl tw_565 rfl d_Md_loop_25 ?_
      refine gm_eqi hn ?_
      refine lv_istore_n (lv' := [(2, .int (nI n)), (0, .ref r), (1, .int v)]) C.1 C.2.1 d_Md_loop_28 rfl hl (by decide) rfl (fun ls hl => ?_)
      refine lv_aload_n C.1 C.2.1 d_Md_loop_29 rfl (lv_at hl 1 rfl) ?_
      refine gg_r C hh (Md_0 hM) rfl in_Md 1 (by decide) rfl tw_566 rfl d_Md_loop_30 ?_
      refine lv_iload_n C.1 C.2.1 d_Md_loop_33 rfl (lv_at hl 0 rfl) ?_
      refine lv_iload_n C.1 C.2.1 d_Md_loop_34 rfl (lv_at hl 2 rfl) ?_
      refine gs_i C hh (Md_1 hM) (k := n) rfl (by omega) (by omega) d_Md_loop_35 (fun H locs hh => ?_)
      obtain ⟨I_7, eI_7⟩ : ∃ z : gm_I, z = gm_up I (r + 1) n v := ⟨_, rfl⟩
      rw [← eI_7] at hh
      refine lv_aload_n C.1 C.2.1 d_Md_loop_36 rfl (lv_at hl 1 rfl) ?_
      refine gg_r C hh (Md_0 hM) rfl in_Md 2 (by decide) rfl tw_567 rfl d_Md_loop_37 ?_
      refine lv_iload_n C.1 C.2.1 d_Md_loop_40 rfl (lv_at hl 0 rfl) ?_
      refine lv_iconst (v := nI 0) C.1 C.2.1 d_Md_loop_41 rfl ?_
      refine gs_i C hh (Md_2 hM) (k := n) rfl (by omega) (by omega) d_Md_loop_42 (fun H locs hh => ?_)
      obtain ⟨I_8, eI_8⟩ : ∃ z : gm_I, z = gm_up I_7 (r + 2) n (nI 0) := ⟨_, rfl⟩
      rw [← eI_8] at hh
      refine lv_aload_n C.1 C.2.1 d_Md_loop_43 rfl (lv_at hl 1 rfl) ?_
      refine gg_r C hh (Md_0 hM) rfl in_Md 3 (by decide) rfl tw_568 rfl d_Md_loop_44 ?_
      refine lv_iload_n C.1 C.2.1 d_Md_loop_47 rfl (lv_at hl 0 rfl) ?_
      refine lv_iconst (v := nI 0) C.1 C.2.1 d_Md_loop_48 rfl ?_
      refine gs_i C hh (Md_3 hM) (k := n) rfl (by omega) (by omega) d_Md_loop_49 (fun H locs hh => ?_)
      obtain ⟨I_9, eI_9⟩ : ∃ z : gm_I, z = gm_up I_8 (r + 3) n (nI 0) := ⟨_, rfl⟩
      rw [← eI_9] at hh
      refine lv_iconst (v := nI 0) C.1 C.2.1 d_Md_loop_50 rfl ?_
      refine lv_istore_n (lv' := [(3, .int (nI 0)), (2, .int (nI n)), (0, .ref r), (1, .int v)]) C.1 C.2.1 d_Md_loop_51 rfl hl (by decide) rfl (fun ls hl => ?_)
      refine lv_iload_n C.1 C.2.1 d_Md_loop_52 rfl (lv_at hl 0 rfl) ?_
      refine lv_iconst (v := nI 3) C.1 C.2.1 d_Md_loop_53 rfl ?_
      refine lv_icmp_ge (tgt := 74) C.1 C.2.1 d_Md_loop_54 (by decide) (fun c_ => absurd c_ (by decide)) (fun c_ => ?_)
      refine lv_aload_n C.1 C.2.1 d_Md_loop_57 rfl (lv_at hl 2 rfl) ?_
      refine gg_r C hh (Md_0 hM) rfl in_Md 9 (by decide) rfl tw_574 rfl d_Md_loop_58 ?_
      refine lv_iconst (v := nI 3) C.1 C.2.1 d_Md_loop_61 rfl ?_
      refine lv_iload_n C.1 C.2.1 d_Md_loop_62 rfl (lv_at hl 1 rfl) ?_
      refine lv_imul C.1 C.2.1 d_Md_loop_63 ?_
      refine gm_eqi (pk_mul _ _) ?_
      refine lv_iload_n C.1 C.2.1 d_Md_loop_64 rfl (lv_at hl 0 rfl) ?_
      refine lv_iadd C.1 C.2.1 d_Md_loop_65 ?_
      refine gm_eqi (nI_add _ _) ?_
      refine lv_lconst (v := 0) C.1 C.2.1 d_Md_loop_66 rfl ?_
      refine gs_l C hh (Md_9 hM) (k := (3 * n) + 0) rfl (by omega) (by omega) d_Md_loop_67 (fun H locs hh => ?_)
      obtain ⟨J_10, eJ_10⟩ : ∃ z : gm_J, z = gm_up J (r + 9) ((3 * n) + 0) (0 : Int64) := ⟨_, rfl⟩
      rw [← eJ_10] at hh
      refine lv_iinc (v := nI 1) (lv' := [(3, .int (nI 1)), (2, .int (nI n)), (0, .ref r), (1, .int v)]) C.1 C.2.1 d_Md_loop_68 hl (k := 0) rfl (gm_inc 0 1) (by decide) rfl (fun ls hl => ?_)
      refine lv_goto (tgt := 52) C.1 C.2.1 d_Md_loop_71 (by decide) ?_
      refine lv_iload_n C.1 C.2.1 d_Md_loop_52 rfl (lv_at hl 0 rfl) ?_
      refine lv_iconst (v := nI 3) C.1 C.2.1 d_Md_loop_53 rfl ?_
      refine lv_icmp_ge (tgt := 74) C.1 C.2.1 d_Md_loop_54 (by decide) (fun c_ => absurd c_ (by decide)) (fun c_ => ?_)
      refine lv_aload_n C.1 C.2.1 d_Md_loop_57 rfl (lv_at hl 2 rfl) ?_
      refine gg_r C hh (Md_0 hM) rfl in_Md 9 (by decide) rfl tw_574 rfl d_Md_loop_58 ?_
      refine lv_iconst (v := nI 3) C.1 C.2.1 d_Md_loop_61 rfl ?_
      refine lv_iload_n C.1 C.2.1 d_Md_loop_62 rfl (lv_at hl 1 rfl) ?_
      refine lv_imul C.1 C.2.1 d_Md_loop_63 ?_
      refine gm_eqi (pk_mul _ _) ?_
      refine lv_iload_n C.1 C.2.1 d_Md_loop_64 rfl (lv_at hl 0 rfl) ?_
      refine lv_iadd C.1 C.2.1 d_Md_loop_65 ?_
      refine gm_eqi (nI_add _ _) ?_
      refine lv_lconst (v := 0) C.1 C.2.1 d_Md_loop_66 rfl ?_
      refine gs_l C hh (Md_9 hM) (k := (3 * n) + 1) rfl (by omega) (by omega) d_Md_loop_67 (fun H locs hh => ?_)
      obtain ⟨J_11, eJ_11⟩ : ∃ z : gm_J, z = gm_up J_10 (r + 9) ((3 * n) + 1) (0 : Int64) := ⟨_, rfl⟩
      rw [← eJ_11] at hh
      refine lv_iinc (v := nI 2) (lv' := [(3, .int (nI 2)), (2, .int (nI n)), (0, .ref r), (1, .int v)]) C.1 C.2.1 d_Md_loop_68 hl (k := 0) rfl (gm_inc 1 1) (by decide) rfl (fun ls hl => ?_)
      refine lv_goto (tgt := 52) C.1 C.2.1 d_Md_loop_71 (by decide) ?_
      refine lv_iload_n C.1 C.2.1 d_Md_loop_52 rfl (lv_at hl 0 rfl) ?_
      refine lv_iconst (v := nI 3) C.1 C.2.1 d_Md_loop_53 rfl ?_
      refine lv_icmp_ge (tgt := 74) C.1 C.2.1 d_Md_loop_54 (by decide) (fun c_ => absurd c_ (by decide)) (fun c_ => ?_)
      refine lv_aload_n C.1 C.2.1 d_Md_loop_57 rfl (lv_at hl 2 rfl) ?_
      refine gg_r C hh (Md_0 hM) rfl in_Md 9 (by decide) rfl tw_574 rfl d_Md_loop_58 ?_
      refine lv_iconst (v := nI 3) C.1 C.2.1 d_Md_loop_61 rfl ?_
      refine lv_iload_n C.1 C.2.1 d_Md_loop_62 rfl (lv_at hl 1 rfl) ?_
      refine lv_imul C.1 C.2.1 d_Md_loop_63 ?_
      refine gm_eqi (pk_mul _ _) ?_
      refine lv_iload_n C.1 C.2.1 d_Md_loop_64 rfl (lv_at hl 0 rfl) ?_
      refine lv_iadd C.1 C.2.1 d_Md_loop_65 ?_
      refine gm_eqi (nI_add _ _) ?_
      refine lv_lconst (v := 0) C.1 C.2.1 d_Md_loop_66 rfl ?_
      refine gs_l C hh (Md_9 hM) (k := (3 * n) + 2) rfl (by omega) (by omega) d_Md_loop_67 (fun H locs hh => ?_)
      obtain ⟨J_12, eJ_12⟩ : ∃ z : gm_J, z = gm_up J_11 (r + 9) ((3 * n) + 2) (0 : Int64) := ⟨_, rfl⟩
      rw [← eJ_12] at hh
      refine lv_iinc (v := nI 3) (lv' := [(3, .int (nI 3)), (2, .int (nI n)), (0, .ref r), (1, .int v)]) C.1 C.2.1 d_Md_loop_68 hl (k := 0) rfl (gm_inc 2 1) (by decide) rfl (fun ls hl => ?_)
      refine lv_goto (tgt := 52) C.1 C.2.1 d_Md_loop_71 (by decide) ?_
      refine lv_iload_n C.1 C.2.1 d_Md_loop_52 rfl (lv_at hl 0 rfl) ?_
      refine lv_iconst (v := nI 3) C.1 C.2.1 d_Md_loop_53 rfl ?_
      refine lv_icmp_ge (tgt := 74) C.1 C.2.1 d_Md_loop_54 (by decide) (fun c_ => ?_) (fun c_ => absurd (by decide) c_)
      refine lv_aload_n C.1 C.2.1 d_Md_loop_74 rfl (lv_at hl 2 rfl) ?_
      refine lv_dup C.1 C.2.1 d_Md_loop_75 rfl ?_
      refine gg_i C hh (Md_0 hM) rfl in_Md 0 (by decide) rfl tw_565 rfl d_Md_loop_76 ?_
      refine gm_eqi (y := I r 0) (by rw [eI_9, gm_up_ne _ _ (Or.inl (by omega)), eI_8, gm_up_ne _ _ (Or.inl (by omega)), eI_7, gm_up_ne _ _ (Or.inl (by omega))]) ?_
      refine gm_eqi hn ?_
      refine lv_iconst (v := nI 1) C.1 C.2.1 d_Md_loop_79 rfl ?_
      refine lv_iadd C.1 C.2.1 d_Md_loop_80 ?_
      refine gm_eqi (nI_add _ _) ?_
      refine gp_i (ty := .int) C hh (Md_0 hM) rfl in_Md t_Md t_Md_ok n_Md 0 (by decide) rfl tw_565 rfl rfl (by decide +kernel) rfl rfl d_Md_loop_81 (fun H locs hh => ?_)
      obtain ⟨I_13, eI_13⟩ : ∃ z : gm_I, z = gm_up I_9 r 0 (nI (n + 1)) := ⟨_, rfl⟩
      rw [← eI_13] at hh
      refine lv_iload_n C.1 C.2.1 d_Md_loop_84 rfl (lv_at hl 1 rfl) ?_
      exact gr_i C hlk hret rfl hh (by subst_vars; first | exact Or.inl ⟨by assumption, rfl, rfl⟩ | exact Or.inr (Or.inl ⟨by assumption, by omega, rfl, rfl⟩) | exact Or.inr (Or.inr ⟨by assumption, by omega, rfl, rfl⟩)) d_Md_loop_85
    · -- 18 -> 21
      have c_6 := gm_nef (by omega) (by omega) c_6
      refine lv_bipush (v := (-4)) C.1 C.2.1 d_Md_loop_21 rfl ?_
      exact gr_i C hlk hret rfl hh (by subst_vars; first | exact Or.inl ⟨by assumption, rfl, rfl⟩ | exact Or.inr (Or.inl ⟨by assumption, by omega, rfl, rfl⟩) | exact Or.inr (Or.inr ⟨by assumption, by omega, rfl, rfl⟩)) d_Md_loop_23
  · -- 6 -> 9
    have b_14 := bI_f hr_1 c_4
    skip
    refine lv_bipush (v := (-3)) C.1 C.2.1 d_Md_loop_9 rfl ?_
    exact gr_i C hlk hret rfl hh (by subst_vars; first | exact Or.inl ⟨by assumption, rfl, rfl⟩ | exact Or.inr (Or.inl ⟨by assumption, by omega, rfl, rfl⟩) | exact Or.inr (Or.inr ⟨by assumption, by omega, rfl, rfl⟩)) d_Md_loop_11

set_option maxHeartbeats 4000000 in
set_option maxRecDepth 100000 in
theorem c_Md_told (l : Launch) (D : va_G) (cs : Nat → ClassId) (sh : gm_H) (sz : Nat) (I : gm_I) (J : gm_J) (r : Nat) (hM : is_Md sh r) (hV : inv_Md I r) (v w : Int32) : CI l y_Md_told w_Md_told { frames := 2, cells := 0, slots := 0, locals := 43 } D cs sh sz I J [.ref r, .int v, .int w] (fun x u => u = (I, J) ∧ x = if lpB I r v then (if w = 0 then I (r + 1) v.toNatClampNeg else if w = nI 1 then I (r + 2) v.toNatClampNeg else if w = nI 2 then I (r + 3) v.toNatClampNeg else -3) else -2) := by
  refine gm_start (by decide) (Nat.le_of_ble_eq_true rfl) ?_
  intro p' e' s' m' be' me' co' ls C hml hlk hret hh hl
  have hl : lv_has ls 3 [(0, .ref r), (1, .int v), (2, .int w)] := hl
  refine lv_aload_n C.1 C.2.1 d_Md_told_0 rfl (lv_at hl 0 rfl) ?_
  refine lv_iload_n C.1 C.2.1 d_Md_told_1 rfl (lv_at hl 1 rfl) ?_
  refine gc_i hh (gc_runV (As := [.int v]) (rest := []) (n := 1) C hml hh (c_Md_isLoop l D cs sh sz I J r hM hV v) (tg_V tw_695 tw_697 tw_26 tw_64 tw_698) (by decide +kernel) ⟨rfl, rfl, by decide, by decide, Nat.zero_le _, Nat.zero_le _⟩ (Md_0 hM) rfl rfl hl.1 rfl (Nat.le_of_ble_eq_true rfl) d_Md_told_2) (fun r_1 I_2 J_3 H locs hr_1 hh => ?_)
  obtain ⟨e_r_1, hr_1⟩ := hr_1
  rw [(Prod.mk.inj e_r_1).1, (Prod.mk.inj e_r_1).2] at hh
  refine lv_if_ne (tgt := 11) C.1 C.2.1 d_Md_told_5 (by decide) (fun c_4 => ?_) (fun c_4 => ?_)
  · -- 5 -> 11
    have b_5 := bI_t hr_1 c_4
    obtain ⟨n_7, hn_7, en_7⟩ := hV.1
    obtain ⟨j_6, hj_6, ej_6⟩ := lpB_j en_7 hn_7 b_5
    subst ej_6
    skip
    refine lv_iload_n C.1 C.2.1 d_Md_told_11 rfl (lv_at hl 2 rfl) ?_
    refine lv_if_ne (tgt := 24) C.1 C.2.1 d_Md_told_12 (by decide) (fun c_8 => ?_) (fun c_8 => ?_)
    · -- 12 -> 24
      skip
      refine lv_iload_n C.1 C.2.1 d_Md_told_24 rfl (lv_at hl 2 rfl) ?_
      refine lv_iconst (v := nI 1) C.1 C.2.1 d_Md_told_25 rfl ?_
      refine lv_icmp_ne (tgt := 38) C.1 C.2.1 d_Md_told_26 (by decide) (fun c_9 => ?_) (fun c_9 => ?_)
      · -- 26 -> 38
        skip
        refine lv_iload_n C.1 C.2.1 d_Md_told_38 rfl (lv_at hl 2 rfl) ?_
        refine lv_iconst (v := nI 2) C.1 C.2.1 d_Md_told_39 rfl ?_
        refine lv_icmp_ne (tgt := 52) C.1 C.2.1 d_Md_told_40 (by decide) (fun c_10 => ?_) (fun c_10 => ?_)
        · -- 40 -> 52
          skip
          refine lv_bipush (v := (-3)) C.1 C.2.1 d_Md_told_52 rfl ?_
          exact gr_i C hlk hret rfl hh (by refine ⟨rfl, ?_⟩; first | (simp_all; done) | (simp_all [nI_clamp (show j_6 < 2 ^ 31 by omega)]; done)) d_Md_told_54
        · -- 40 -> 43
          skip
          refine lv_aload_n C.1 C.2.1 d_Md_told_43 rfl (lv_at hl 0 rfl) ?_
          refine gg_r C hh (Md_0 hM) rfl in_Md 3 (by decide) rfl tw_568 rfl d_Md_told_44 ?_
          refine lv_iload_n C.1 C.2.1 d_Md_told_47 rfl (lv_at hl 1 rfl) ?_
          refine ga_i C hh (Md_3 hM) (k := j_6) rfl (by omega) (by omega) d_Md_told_48 ?_
          refine lv_goto (tgt := 54) C.1 C.2.1 d_Md_told_49 (by decide) ?_
          exact gr_i C hlk hret rfl hh (by refine ⟨rfl, ?_⟩; first | (simp_all; done) | (simp_all [nI_clamp (show j_6 < 2 ^ 31 by omega)]; done)) d_Md_told_54
      · -- 26 -> 29
        skip
        refine lv_aload_n C.1 C.2.1 d_Md_told_29 rfl (lv_at hl 0 rfl) ?_
        refine gg_r C hh (Md_0 hM) rfl in_Md 2 (by decide) rfl tw_567 rfl d_Md_told_30 ?_
        refine lv_iload_n C.1 C.2.1 d_Md_told_33 rfl (lv_at hl 1 rfl) ?_
        refine ga_i C hh (Md_2 hM) (k := j_6) rfl (by omega) (by omega) d_Md_told_34 ?_
        refine lv_goto (tgt := 54) C.1 C.2.1 d_Md_told_35 (by decide) ?_
        exact gr_i C hlk hret rfl hh (by refine ⟨rfl, ?_⟩; first | (simp_all; done) | (simp_all [nI_clamp (show j_6 < 2 ^ 31 by omega)]; done)) d_Md_told_54
    · -- 12 -> 15
      skip
      refine lv_aload_n C.1 C.2.1 d_Md_told_15 rfl (lv_at hl 0 rfl) ?_
      refine gg_r C hh (Md_0 hM) rfl in_Md 1 (by decide) rfl tw_566 rfl d_Md_told_16 ?_
      refine lv_iload_n C.1 C.2.1 d_Md_told_19 rfl (lv_at hl 1 rfl) ?_
      refine ga_i C hh (Md_1 hM) (k := j_6) rfl (by omega) (by omega) d_Md_told_20 ?_
      refine lv_goto (tgt := 54) C.1 C.2.1 d_Md_told_21 (by decide) ?_
      exact gr_i C hlk hret rfl hh (by refine ⟨rfl, ?_⟩; first | (simp_all; done) | (simp_all [nI_clamp (show j_6 < 2 ^ 31 by omega)]; done)) d_Md_told_54
  · -- 5 -> 8
    have b_11 := bI_f hr_1 c_4
    skip
    refine lv_bipush (v := (-2)) C.1 C.2.1 d_Md_told_8 rfl ?_
    exact gr_i C hlk hret rfl hh (by refine ⟨rfl, ?_⟩; first | (simp_all; done) | (simp_all [nI_clamp (show j_6 < 2 ^ 31 by omega)]; done)) d_Md_told_10

set_option maxHeartbeats 4000000 in
set_option maxRecDepth 100000 in
theorem c_Md_put (l : Launch) (D : va_G) (cs : Nat → ClassId) (sh : gm_H) (sz : Nat) (I : gm_I) (J : gm_J) (r : Nat) (hM : is_Md sh r) (hV : inv_Md I r) (v w x : Int32) : CI l y_Md_put w_Md_put { frames := 3, cells := 0, slots := 0, locals := 65 } D cs sh sz I J [.ref r, .int v, .int w, .int x] (fun z u => (nmB I r v w = false ∧ z = -2 ∧ u = (I, J)) ∨ (nmB I r v w = true ∧ inI x (-1000000) (nI 1000000) = false ∧ z = -3 ∧ u = (I, J)) ∨ (nmB I r v w = true ∧ inI x (-1000000) (nI 1000000) = true ∧ z = 1 ∧ u = (I, gm_up J (r + 9) (3 * v.toNatClampNeg + w.toNatClampNeg) x.toInt64))) := by
  refine gm_start (by decide) (Nat.le_of_ble_eq_true rfl) ?_
  intro p' e' s' m' be' me' co' ls C hml hlk hret hh hl
  have hl : lv_has ls 4 [(0, .ref r), (1, .int v), (2, .int w), (3, .int x)] := hl
  refine lv_aload_n C.1 C.2.1 d_Md_put_0 rfl (lv_at hl 0 rfl) ?_
  refine lv_iload_n C.1 C.2.1 d_Md_put_1 rfl (lv_at hl 1 rfl) ?_
  refine lv_iload_n C.1 C.2.1 d_Md_put_2 rfl (lv_at hl 2 rfl) ?_
  refine gc_i hh (gc_runV (As := [.int v, .int w]) (rest := []) (n := 2) C hml hh (c_Md_isName l D cs sh sz I J r hM hV v w) (tg_V tw_726 tw_728 tw_30 tw_64 tw_729) (by decide +kernel) ⟨rfl, rfl, by decide, by decide, Nat.zero_le _, Nat.zero_le _⟩ (Md_0 hM) rfl rfl hl.1 rfl (Nat.le_of_ble_eq_true rfl) d_Md_put_3) (fun r_1 I_2 J_3 H locs hr_1 hh => ?_)
  obtain ⟨e_r_1, hr_1⟩ := hr_1
  rw [(Prod.mk.inj e_r_1).1, (Prod.mk.inj e_r_1).2] at hh
  refine lv_if_ne (tgt := 12) C.1 C.2.1 d_Md_put_6 (by decide) (fun c_4 => ?_) (fun c_4 => ?_)
  · -- 6 -> 12
    have b_5 := bI_t hr_1 c_4
    obtain ⟨j_6, k_7, hj_6, hk_7, ej_6, ek_7, lp_k_7, lt_k_7⟩ := nmB_j hV b_5
    subst ej_6
    subst ek_7
    skip
    refine lv_iload_n C.1 C.2.1 d_Md_put_12 rfl (lv_at hl 3 rfl) ?_
    refine lv_ldc C.1 C.2.1 C.2.2.2.1 (C.2.2.1 _ tw_843) d_Md_put_13 ?_
    refine gm_eqi (y := (-1000000)) rfl ?_
    refine lv_ldc C.1 C.2.1 C.2.2.2.1 (C.2.2.1 _ tw_844) d_Md_put_15 ?_
    refine gm_eqi (y := nI 1000000) rfl ?_
    refine gc_i hh (gc_runS (As := [.int x, .int (-1000000), .int (nI 1000000)]) (rest := []) (n := 3) C hml hh (c_Md_isIn l D cs sh sz I J x (-1000000) (nI 1000000)) (tg_S tw_684 tw_685 tw_64 tw_686) (by decide +kernel) ⟨rfl, rfl, by decide, by decide, Nat.zero_le _, Nat.zero_le _⟩ rfl hl.1 rfl (Nat.le_of_ble_eq_true rfl) d_Md_put_17) (fun r_8 I_9 J_10 H locs hr_8 hh => ?_)
    obtain ⟨e_r_8, hr_8⟩ := hr_8
    rw [(Prod.mk.inj e_r_8).1, (Prod.mk.inj e_r_8).2] at hh
    refine lv_if_ne (tgt := 26) C.1 C.2.1 d_Md_put_20 (by decide) (fun c_11 => ?_) (fun c_11 => ?_)
    · -- 20 -> 26
      have b_12 := bI_t hr_8 c_11
      skip
      refine lv_aload_n C.1 C.2.1 d_Md_put_26 rfl (lv_at hl 0 rfl) ?_
      refine gg_r C hh (Md_0 hM) rfl in_Md 9 (by decide) rfl tw_574 rfl d_Md_put_27 ?_
      refine lv_iconst (v := nI 3) C.1 C.2.1 d_Md_put_30 rfl ?_
      refine lv_iload_n C.1 C.2.1 d_Md_put_31 rfl (lv_at hl 1 rfl) ?_
      refine lv_imul C.1 C.2.1 d_Md_put_32 ?_
      refine gm_eqi (pk_mul _ _) ?_
      refine lv_iload_n C.1 C.2.1 d_Md_put_33 rfl (lv_at hl 2 rfl) ?_
      refine lv_iadd C.1 C.2.1 d_Md_put_34 ?_
      refine gm_eqi (nI_add _ _) ?_
      refine lv_iload_n C.1 C.2.1 d_Md_put_35 rfl (lv_at hl 3 rfl) ?_
      refine lv_i2l (v := x.toInt64) C.1 C.2.1 d_Md_put_36 rfl ?_
      refine gs_l C hh (Md_9 hM) (k := (3 * j_6) + k_7) rfl (by omega) (by omega) d_Md_put_37 (fun H locs hh => ?_)
      obtain ⟨J_13, eJ_13⟩ : ∃ z : gm_J, z = gm_up J (r + 9) ((3 * j_6) + k_7) x.toInt64 := ⟨_, rfl⟩
      rw [← eJ_13] at hh
      refine lv_iconst (v := nI 1) C.1 C.2.1 d_Md_put_38 rfl ?_
      exact gr_i C hlk hret rfl hh (by subst_vars; (try rw [nI_clamp (by omega), nI_clamp (by omega)]); first | exact Or.inl ⟨by assumption, rfl, rfl⟩ | exact Or.inr (Or.inl ⟨by assumption, by assumption, rfl, rfl⟩) | exact Or.inr (Or.inr ⟨by assumption, by assumption, rfl, rfl⟩)) d_Md_put_39
    · -- 20 -> 23
      have b_14 := bI_f hr_8 c_11
      skip
      refine lv_bipush (v := (-3)) C.1 C.2.1 d_Md_put_23 rfl ?_
      exact gr_i C hlk hret rfl hh (by subst_vars; (try rw [nI_clamp (by omega), nI_clamp (by omega)]); first | exact Or.inl ⟨by assumption, rfl, rfl⟩ | exact Or.inr (Or.inl ⟨by assumption, by assumption, rfl, rfl⟩) | exact Or.inr (Or.inr ⟨by assumption, by assumption, rfl, rfl⟩)) d_Md_put_25
  · -- 6 -> 9
    have b_15 := bI_f hr_1 c_4
    skip
    refine lv_bipush (v := (-2)) C.1 C.2.1 d_Md_put_9 rfl ?_
    exact gr_i C hlk hret rfl hh (by subst_vars; (try rw [nI_clamp (by omega), nI_clamp (by omega)]); first | exact Or.inl ⟨by assumption, rfl, rfl⟩ | exact Or.inr (Or.inl ⟨by assumption, by assumption, rfl, rfl⟩) | exact Or.inr (Or.inr ⟨by assumption, by assumption, rfl, rfl⟩)) d_Md_put_11
