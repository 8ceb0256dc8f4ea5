set_option maxHeartbeats 4000000 in
set_option maxRecDepth 100000 in
theorem c_Md_comes (l : Launch) (D : va_G) (cs : Nat → ClassId) (sh : gm_H) (sz : Nat) (I : gm_I) (J : gm_J) (r : Nat) (hM : is_Md sh r) (n : Nat) (hn : I r 15 = nI n) (hn8 : n < 8) (a b c d : Int64) : CV l y_Md_comes w_Md_comes { frames := 0, cells := 0, slots := 0, locals := 0 } D cs sh sz I J [.ref r, .long a, .long b, .long c, .long d] (fun u => u = (gm_up I r 15 (nI (n + 1)), gm_up (gm_up (gm_up (gm_up J (r + 12) n a) (r + 13) n b) (r + 14) n c) (r + 15) n d)) := by
  refine gm_start (by decide) (Nat.le_of_ble_eq_true rfl) ?_
  intro p' e' s' m' be' me' co' ls C hml hlk hret hh hl
  have hl : lv_has ls 9 [(0, .ref r), (1, .long a), (3, .long b), (5, .long c), (7, .long d)] := hl
  refine lv_aload_n C.1 C.2.1 d_Md_comes_0 rfl (lv_at hl 0 rfl) ?_
  refine gg_r C hh (Md_0 hM) rfl in_Md 16 (by decide) rfl tw_581 rfl d_Md_comes_1 ?_
  refine lv_aload_n C.1 C.2.1 d_Md_comes_4 rfl (lv_at hl 0 rfl) ?_
  refine gg_i C hh (Md_0 hM) rfl in_Md 15 (by decide) rfl tw_580 rfl d_Md_comes_5 ?_
  refine gm_eqi hn ?_
  refine lv_lload_n C.1 C.2.1 d_Md_comes_8 rfl (lv_at hl 1 rfl) ?_
  refine gs_l C hh (Md_12 hM) (k := n) rfl (by omega) (by omega) d_Md_comes_9 (fun H locs hh => ?_)
  obtain ⟨J_1, eJ_1⟩ : ∃ z : gm_J, z = gm_up J (r + 12) n a := ⟨_, rfl⟩
  rw [← eJ_1] at hh
  refine lv_aload_n C.1 C.2.1 d_Md_comes_10 rfl (lv_at hl 0 rfl) ?_
  refine gg_r C hh (Md_0 hM) rfl in_Md 17 (by decide) rfl tw_582 rfl d_Md_comes_11 ?_
  refine lv_aload_n C.1 C.2.1 d_Md_comes_14 rfl (lv_at hl 0 rfl) ?_
  refine gg_i C hh (Md_0 hM) rfl in_Md 15 (by decide) rfl tw_580 rfl d_Md_comes_15 ?_
  refine gm_eqi hn ?_
  refine lv_lload_n C.1 C.2.1 d_Md_comes_18 rfl (lv_at hl 2 rfl) ?_
  refine gs_l C hh (Md_13 hM) (k := n) rfl (by omega) (by omega) d_Md_comes_19 (fun H locs hh => ?_)
  obtain ⟨J_2, eJ_2⟩ : ∃ z : gm_J, z = gm_up J_1 (r + 13) n b := ⟨_, rfl⟩
  rw [← eJ_2] at hh
  refine lv_aload_n C.1 C.2.1 d_Md_comes_20 rfl (lv_at hl 0 rfl) ?_
  refine gg_r C hh (Md_0 hM) rfl in_Md 18 (by decide) rfl tw_583 rfl d_Md_comes_21 ?_
  refine lv_aload_n C.1 C.2.1 d_Md_comes_24 rfl (lv_at hl 0 rfl) ?_
  refine gg_i C hh (Md_0 hM) rfl in_Md 15 (by decide) rfl tw_580 rfl d_Md_comes_25 ?_
  refine gm_eqi hn ?_
  refine lv_lload C.1 C.2.1 d_Md_comes_28 (lv_at hl 3 rfl) ?_
  refine gs_l C hh (Md_14 hM) (k := n) rfl (by omega) (by omega) d_Md_comes_30 (fun H locs hh => ?_)
  obtain ⟨J_3, eJ_3⟩ : ∃ z : gm_J, z = gm_up J_2 (r + 14) n c := ⟨_, rfl⟩
  rw [← eJ_3] at hh
  refine lv_aload_n C.1 C.2.1 d_Md_comes_31 rfl (lv_at hl 0 rfl) ?_
  refine gg_r C hh (Md_0 hM) rfl in_Md 19 (by decide) rfl tw_584 rfl d_Md_comes_32 ?_
  refine lv_aload_n C.1 C.2.1 d_Md_comes_35 rfl (lv_at hl 0 rfl) ?_
  refine gg_i C hh (Md_0 hM) rfl in_Md 15 (by decide) rfl tw_580 rfl d_Md_comes_36 ?_
  refine gm_eqi hn ?_
  refine lv_lload C.1 C.2.1 d_Md_comes_39 (lv_at hl 4 rfl) ?_
  refine gs_l C hh (Md_15 hM) (k := n) rfl (by omega) (by omega) d_Md_comes_41 (fun H locs hh => ?_)
  obtain ⟨J_4, eJ_4⟩ : ∃ z : gm_J, z = gm_up J_3 (r + 15) n d := ⟨_, rfl⟩
  rw [← eJ_4] at hh
  refine lv_aload_n C.1 C.2.1 d_Md_comes_42 rfl (lv_at hl 0 rfl) ?_
  refine lv_dup C.1 C.2.1 d_Md_comes_43 rfl ?_
  refine gg_i C hh (Md_0 hM) rfl in_Md 15 (by decide) rfl tw_580 rfl d_Md_comes_44 ?_
  refine gm_eqi hn ?_
  refine lv_iconst (v := nI 1) C.1 C.2.1 d_Md_comes_47 rfl ?_
  refine lv_iadd C.1 C.2.1 d_Md_comes_48 ?_
  refine gm_eqi (nI_add _ _) ?_
  refine gp_i (ty := .int) C hh (Md_0 hM) rfl in_Md t_Md t_Md_ok n_Md 15 (by decide) rfl tw_580 rfl rfl (by decide +kernel) rfl rfl d_Md_comes_49 (fun H locs hh => ?_)
  obtain ⟨I_5, eI_5⟩ : ∃ z : gm_I, z = gm_up I r 15 (nI (n + 1)) := ⟨_, rfl⟩
  rw [← eI_5] at hh
  exact gr_v C hlk hret hh (by subst_vars; rfl) d_Md_comes_52

set_option maxHeartbeats 4000000 in
set_option maxRecDepth 100000 in
theorem c_Md_bears (l : Launch) (D : va_G) (cs : Nat → ClassId) (sh : gm_H) (sz : Nat) (I : gm_I) (J : gm_J) (r : Nat) (hM : is_Md sh r) (up dn : Int64) : CV l y_Md_bears w_Md_bears { frames := 0, cells := 0, slots := 0, locals := 0 } D cs sh sz I J [.ref r, .long up, .long dn] (fun u => u = if I r 20 = 0 ∨ J r 21 * dn < up * J r 22 then (gm_up I r 20 (nI 1), gm_up (gm_up J r 21 up) r 22 dn) else (I, J)) := by
  refine gm_start (by decide) (Nat.le_of_ble_eq_true rfl) ?_
  intro p' e' s' m' be' me' co' ls C hml hlk hret hh hl
  have hl : lv_has ls 5 [(0, .ref r), (1, .long up), (3, .long dn)] := hl
  refine lv_aload_n C.1 C.2.1 d_Md_bears_0 rfl (lv_at hl 0 rfl) ?_
  refine gg_i C hh (Md_0 hM) rfl in_Md 20 (by decide) rfl tw_585 rfl d_Md_bears_1 ?_
  refine lv_if_eq (tgt := 23) C.1 C.2.1 d_Md_bears_4 (by decide) (fun c_1 => ?_) (fun c_1 => ?_)
  · -- 4 -> 23
    skip
    refine lv_aload_n C.1 C.2.1 d_Md_bears_23 rfl (lv_at hl 0 rfl) ?_
    refine lv_iconst (v := nI 1) C.1 C.2.1 d_Md_bears_24 rfl ?_
    refine gp_i (ty := .boolean) C hh (Md_0 hM) rfl in_Md t_Md t_Md_ok n_Md 20 (by decide) rfl tw_585 rfl rfl (by decide +kernel) (gm_nb (Or.inr rfl)) (gm_fb (Or.inr rfl)) d_Md_bears_25 (fun H locs hh => ?_)
    obtain ⟨I_2, eI_2⟩ : ∃ z : gm_I, z = gm_up I r 20 (nI 1) := ⟨_, rfl⟩
    rw [← eI_2] at hh
    refine lv_aload_n C.1 C.2.1 d_Md_bears_28 rfl (lv_at hl 0 rfl) ?_
    refine lv_lload_n C.1 C.2.1 d_Md_bears_29 rfl (lv_at hl 1 rfl) ?_
    refine gp_l C hh (Md_0 hM) rfl in_Md t_Md t_Md_ok n_Md 21 (by decide) rfl tw_586 rfl rfl (by decide +kernel) d_Md_bears_30 (fun H locs hh => ?_)
    obtain ⟨J_3, eJ_3⟩ : ∃ z : gm_J, z = gm_up J r 21 up := ⟨_, rfl⟩
    rw [← eJ_3] at hh
    refine lv_aload_n C.1 C.2.1 d_Md_bears_33 rfl (lv_at hl 0 rfl) ?_
    refine lv_lload_n C.1 C.2.1 d_Md_bears_34 rfl (lv_at hl 2 rfl) ?_
    refine gp_l C hh (Md_0 hM) rfl in_Md t_Md t_Md_ok n_Md 22 (by decide) rfl tw_587 rfl rfl (by decide +kernel) d_Md_bears_35 (fun H locs hh => ?_)
    obtain ⟨J_4, eJ_4⟩ : ∃ z : gm_J, z = gm_up J_3 r 22 dn := ⟨_, rfl⟩
    rw [← eJ_4] at hh
    exact gr_v C hlk hret hh (by first | (rw [if_pos (Or.inl (by assumption))]; subst_vars; rfl) | (rw [if_pos (Or.inr (by assumption))]; subst_vars; rfl) | (rw [if_neg (by rintro (q | q) <;> contradiction)])) d_Md_bears_38
  · -- 4 -> 7
    skip
    refine lv_lload_n C.1 C.2.1 d_Md_bears_7 rfl (lv_at hl 1 rfl) ?_
    refine lv_aload_n C.1 C.2.1 d_Md_bears_8 rfl (lv_at hl 0 rfl) ?_
    refine gg_l C hh (Md_0 hM) rfl in_Md 22 (by decide) rfl tw_587 rfl d_Md_bears_9 ?_
    refine lv_lmul C.1 C.2.1 d_Md_bears_12 ?_
    refine lv_aload_n C.1 C.2.1 d_Md_bears_13 rfl (lv_at hl 0 rfl) ?_
    refine gg_l C hh (Md_0 hM) rfl in_Md 21 (by decide) rfl tw_586 rfl d_Md_bears_14 ?_
    refine lv_lload_n C.1 C.2.1 d_Md_bears_17 rfl (lv_at hl 2 rfl) ?_
    refine lv_lmul C.1 C.2.1 d_Md_bears_18 ?_
    refine W.lcmp C.1 C.2.1 d_Md_bears_19 ?_
    refine lv_if_le (tgt := 38) C.1 C.2.1 d_Md_bears_20 (by decide) (fun c_5 => ?_) (fun c_5 => ?_)
    · -- 20 -> 38
      have c_5 := gm_llet c_5
      exact gr_v C hlk hret hh (by first | (rw [if_pos (Or.inl (by assumption))]; subst_vars; rfl) | (rw [if_pos (Or.inr (by assumption))]; subst_vars; rfl) | (rw [if_neg (by rintro (q | q) <;> contradiction)])) d_Md_bears_38
    · -- 20 -> 23
      have c_5 := gm_llef c_5
      refine lv_aload_n C.1 C.2.1 d_Md_bears_23 rfl (lv_at hl 0 rfl) ?_
      refine lv_iconst (v := nI 1) C.1 C.2.1 d_Md_bears_24 rfl ?_
      refine gp_i (ty := .boolean) C hh (Md_0 hM) rfl in_Md t_Md t_Md_ok n_Md 20 (by decide) rfl tw_585 rfl rfl (by decide +kernel) (gm_nb (Or.inr rfl)) (gm_fb (Or.inr rfl)) d_Md_bears_25 (fun H locs hh => ?_)
      obtain ⟨I_6, eI_6⟩ : ∃ z : gm_I, z = gm_up I r 20 (nI 1) := ⟨_, rfl⟩
      rw [← eI_6] at hh
      refine lv_aload_n C.1 C.2.1 d_Md_bears_28 rfl (lv_at hl 0 rfl) ?_
      refine lv_lload_n C.1 C.2.1 d_Md_bears_29 rfl (lv_at hl 1 rfl) ?_
      refine gp_l C hh (Md_0 hM) rfl in_Md t_Md t_Md_ok n_Md 21 (by decide) rfl tw_586 rfl rfl (by decide +kernel) d_Md_bears_30 (fun H locs hh => ?_)
      obtain ⟨J_7, eJ_7⟩ : ∃ z : gm_J, z = gm_up J r 21 up := ⟨_, rfl⟩
      rw [← eJ_7] at hh
      refine lv_aload_n C.1 C.2.1 d_Md_bears_33 rfl (lv_at hl 0 rfl) ?_
      refine lv_lload_n C.1 C.2.1 d_Md_bears_34 rfl (lv_at hl 2 rfl) ?_
      refine gp_l C hh (Md_0 hM) rfl in_Md t_Md t_Md_ok n_Md 22 (by decide) rfl tw_587 rfl rfl (by decide +kernel) d_Md_bears_35 (fun H locs hh => ?_)
      obtain ⟨J_8, eJ_8⟩ : ∃ z : gm_J, z = gm_up J_7 r 22 dn := ⟨_, rfl⟩
      rw [← eJ_8] at hh
      exact gr_v C hlk hret hh (by first | (rw [if_pos (Or.inl (by assumption))]; subst_vars; rfl) | (rw [if_pos (Or.inr (by assumption))]; subst_vars; rfl) | (rw [if_neg (by rintro (q | q) <;> contradiction)])) d_Md_bears_38
