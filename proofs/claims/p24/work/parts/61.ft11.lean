set_option maxHeartbeats 4000000 in
set_option maxRecDepth 100000 in
theorem c_FT_loop (l : Launch) (D : va_G) (cs : Nat → ClassId) (sh : gm_H) (sz : Nat) (I : gm_I) (J : gm_J) (B : Nat) (hF : is_FT cs sh B) (hV : inv_FT I B) (n : Nat) (en : I B 1 = nI n) (hn : n ≤ 8) (v : Int32) : CI l y_FT_loop w_FT_loop { frames := 1, cells := 0, slots := 0, locals := 22 } D cs sh sz I J [.ref B, .int v] (fun x u => (inI v (nI 1) (nI 3) = false ∧ x = -3 ∧ u = (I, J)) ∨ (inI v (nI 1) (nI 3) = true ∧ n = 8 ∧ x = -4 ∧ u = (I, J)) ∨ (inI v (nI 1) (nI 3) = true ∧ n < 8 ∧ x = nI n ∧ u = (gm_up (lbI I (B + 12 + 21 * n) v) B 1 (nI (n + 1)), lbJ J (B + 12 + 21 * n)))) := by
  refine gm_start (by decide) (Nat.le_of_ble_eq_true rfl) ?_
  intro p' e' s' m' be' me' co' ls C hml hlk hret hh hl
  have hl : lv_has ls 2 [(0, .ref B), (1, .int v)] := hl
  have tM_0 : I B 1 = nI n := en
  refine lv_iload_n C.1 C.2.1 d_FT_loop_0 rfl (lv_at hl 1 rfl) ?_
  refine lv_iconst (v := nI 1) C.1 C.2.1 d_FT_loop_1 rfl ?_
  refine lv_icmp_lt (tgt := 10) C.1 C.2.1 d_FT_loop_2 (by decide) (fun c_1 => ?_) (fun c_1 => ?_)
  · -- 2 -> 10
    skip
    refine lv_bipush (v := (-3)) C.1 C.2.1 d_FT_loop_10 rfl ?_
    exact gr_i C hlk hret rfl hh (by refine Or.inl ⟨?_, rfl, rfl⟩; simp [inI, *]) d_FT_loop_12
  · -- 2 -> 5
    skip
    refine lv_iload_n C.1 C.2.1 d_FT_loop_5 rfl (lv_at hl 1 rfl) ?_
    refine lv_iconst (v := nI 3) C.1 C.2.1 d_FT_loop_6 rfl ?_
    refine lv_icmp_le (tgt := 13) C.1 C.2.1 d_FT_loop_7 (by decide) (fun c_2 => ?_) (fun c_2 => ?_)
    · -- 7 -> 13
      skip
      refine lv_aload_n C.1 C.2.1 d_FT_loop_13 rfl (lv_at hl 0 rfl) ?_
      refine gg_i C hh hF.1 rfl in_FT 1 (by decide) rfl tw_211 rfl d_FT_loop_14 ?_
      refine gm_eqi tM_0 ?_
      refine lv_bipush (v := nI 8) C.1 C.2.1 d_FT_loop_17 rfl ?_
      refine lv_icmp_lt (tgt := 25) C.1 C.2.1 d_FT_loop_19 (by decide) (fun c_3 => ?_) (fun c_3 => ?_)
      · -- 19 -> 25
        have c_3 := gm_ltt (by omega) (by omega) c_3
        have c_3' := Nat.not_le.mpr c_3
        refine lv_aload_n C.1 C.2.1 d_FT_loop_25 rfl (lv_at hl 0 rfl) ?_
        refine gg_r C hh hF.1 rfl in_FT 0 (by decide) rfl tw_210 rfl d_FT_loop_26 ?_
        refine lv_aload_n C.1 C.2.1 d_FT_loop_29 rfl (lv_at hl 0 rfl) ?_
        refine gg_i C hh hF.1 rfl in_FT 1 (by decide) rfl tw_211 rfl d_FT_loop_30 ?_
        refine gm_eqi tM_0 ?_
        refine ga_q C hh 2 hF.2.1 (Cn := "FallingTerms$Loop") rfl (k := n) (v := B + 12 + 21 * n) rfl (by omega) (by omega) (if_pos (by omega)) d_FT_loop_33 ?_
        obtain ⟨p_4, ep_4⟩ : ∃ z : Nat, z = B + 12 + 21 * n := ⟨_, rfl⟩
        have hp_4 : is_Lp cs sh p_4 := by rw [ep_4]; exact hF.2.2.2.2.2.2.2.2.2.2 n (by omega)
        refine gm_eqr ep_4.symm ?_
        refine lv_iload_n C.1 C.2.1 d_FT_loop_34 rfl (lv_at hl 1 rfl) ?_
        refine gc_v hh (gc_runV (As := [.int v]) (rest := []) (n := 1) C hml hh (c_Lp_begin l D cs sh sz I J p_4 hp_4 v) (tg_V tw_248 tw_249 tw_250 tw_59 tw_251) (by decide +kernel) ⟨rfl, rfl, by decide, by decide, Nat.zero_le _, Nat.zero_le _⟩ hp_4.1 rfl rfl hl.1 rfl (Nat.le_of_ble_eq_true rfl) d_FT_loop_35) (fun I_6 J_7 H locs hr_5 hh => ?_)
        rw [(Prod.mk.inj hr_5).1, (Prod.mk.inj hr_5).2] at hh
        have tM_8 : (lbI I p_4 v) B 1 = nI n := by rw [lbI_off _ (by omega)]; exact tM_0
        refine lv_aload_n C.1 C.2.1 d_FT_loop_38 rfl (lv_at hl 0 rfl) ?_
        refine lv_dup C.1 C.2.1 d_FT_loop_39 rfl ?_
        refine gg_i C hh hF.1 rfl in_FT 1 (by decide) rfl tw_211 rfl d_FT_loop_40 ?_
        refine gm_eqi tM_8 ?_
        refine lv_iconst (v := nI 1) C.1 C.2.1 d_FT_loop_43 rfl ?_
        refine lv_iadd C.1 C.2.1 d_FT_loop_44 ?_
        refine gm_eqi (nI_add _ _) ?_
        refine gp_i (ty := .int) C hh hF.1 rfl in_FT t_FT t_FT_ok n_FT 1 (by decide) rfl tw_211 rfl rfl (by decide +kernel) rfl rfl d_FT_loop_45 (fun H locs hh => ?_)
        obtain ⟨I_9, eI_9⟩ : ∃ z : gm_I, z = gm_up (lbI I p_4 v) B 1 (nI (n + 1)) := ⟨_, rfl⟩
        rw [← eI_9] at hh
        have tM_10 : I_9 B 1 = nI (n + 1) := by rw [eI_9]; exact gm_up_same _ _ _ _
        refine lv_aload_n C.1 C.2.1 d_FT_loop_48 rfl (lv_at hl 0 rfl) ?_
        refine gg_i C hh hF.1 rfl in_FT 1 (by decide) rfl tw_211 rfl d_FT_loop_49 ?_
        refine gm_eqi (y := nI (n + 1)) (by rw [eI_9, gm_up_same]) ?_
        refine lv_iconst (v := nI 1) C.1 C.2.1 d_FT_loop_52 rfl ?_
        refine lv_isub C.1 C.2.1 d_FT_loop_53 ?_
        refine gm_eqi (nI_pred _) ?_
        exact gr_i C hlk hret rfl hh (by subst_vars; refine Or.inr (Or.inr ⟨?_, by omega, rfl, rfl⟩); simp_all [inI, Int32.not_lt]) d_FT_loop_54
      · -- 19 -> 22
        have c_3 := gm_ltf (by omega) (by omega) c_3
        have c_3' := Nat.not_lt.mpr c_3
        refine lv_bipush (v := (-4)) C.1 C.2.1 d_FT_loop_22 rfl ?_
        exact gr_i C hlk hret rfl hh (by refine Or.inr (Or.inl ⟨?_, by omega, rfl, rfl⟩); simp_all [inI, Int32.not_lt]) d_FT_loop_24
    · -- 7 -> 10
      skip
      refine lv_bipush (v := (-3)) C.1 C.2.1 d_FT_loop_10 rfl ?_
      exact gr_i C hlk hret rfl hh (by refine Or.inl ⟨?_, rfl, rfl⟩; simp [inI, *]) d_FT_loop_12

set_option maxHeartbeats 4000000 in
set_option maxRecDepth 100000 in
theorem c_FT_clear (l : Launch) (D : va_G) (cs : Nat → ClassId) (sh : gm_H) (sz : Nat) (I : gm_I) (J : gm_J) (B : Nat) (hF : is_FT cs sh B)  : CI l y_FT_clear w_FT_clear { frames := 1, cells := 0, slots := 0, locals := 20 } D cs sh sz I J [.ref B] (fun x u => x = I B 1 ∧ u = (gm_up (gm_up (gm_up I B 1 (nI 0)) (B + 4) 1 (nI 0)) (B + 4) 2 (nI 0), J)) := by
  refine gm_start (by decide) (Nat.le_of_ble_eq_true rfl) ?_
  intro p' e' s' m' be' me' co' ls C hml hlk hret hh hl
  have hl : lv_has ls 2 [(0, .ref B)] := hl
  refine lv_aload_n C.1 C.2.1 d_FT_clear_0 rfl (lv_at hl 0 rfl) ?_
  refine gg_i C hh hF.1 rfl in_FT 1 (by decide) rfl tw_211 rfl d_FT_clear_1 ?_
  refine lv_topi (fun x_1 ex_1 => ?_)
  refine lv_istore_n (lv' := [(1, .int x_1), (0, .ref B)]) C.1 C.2.1 d_FT_clear_4 rfl hl (by decide) rfl (fun ls hl => ?_)
  refine lv_aload_n C.1 C.2.1 d_FT_clear_5 rfl (lv_at hl 1 rfl) ?_
  refine lv_iconst (v := nI 0) C.1 C.2.1 d_FT_clear_6 rfl ?_
  refine gp_i (ty := .int) C hh hF.1 rfl in_FT t_FT t_FT_ok n_FT 1 (by decide) rfl tw_211 rfl rfl (by decide +kernel) rfl rfl d_FT_clear_7 (fun H locs hh => ?_)
  obtain ⟨I_2, eI_2⟩ : ∃ z : gm_I, z = gm_up I B 1 (nI 0) := ⟨_, rfl⟩
  rw [← eI_2] at hh
  refine lv_aload_n C.1 C.2.1 d_FT_clear_10 rfl (lv_at hl 1 rfl) ?_
  refine gg_r C hh hF.1 rfl in_FT 4 (by decide) rfl tw_214 rfl d_FT_clear_11 ?_
  refine gc_v hh (gc_runV (As := []) (rest := []) (n := 0) C hml hh (c_Pf_forget l D cs sh sz I_2 J (B + 4) hF.2.2.2.2.1) (tg_V tw_256 tw_257 tw_258 tw_58 tw_259) (by decide +kernel) ⟨rfl, rfl, by decide, by decide, Nat.zero_le _, Nat.zero_le _⟩ hF.2.2.2.2.1.1 rfl rfl hl.1 rfl (Nat.le_of_ble_eq_true rfl) d_FT_clear_14) (fun I_4 J_5 H locs hr_3 hh => ?_)
  rw [(Prod.mk.inj hr_3).1, (Prod.mk.inj hr_3).2] at hh
  refine lv_iload_n C.1 C.2.1 d_FT_clear_17 rfl (lv_at hl 0 rfl) ?_
  exact gr_i C hlk hret rfl hh (by subst_vars; exact ⟨rfl, rfl⟩) d_FT_clear_18

set_option maxHeartbeats 4000000 in
set_option maxRecDepth 100000 in
theorem c_FT_loops (l : Launch) (D : va_G) (cs : Nat → ClassId) (sh : gm_H) (sz : Nat) (I : gm_I) (J : gm_J) (B : Nat) (hF : is_FT cs sh B)  : CI l y_FT_loops w_FT_loops { frames := 0, cells := 0, slots := 0, locals := 0 } D cs sh sz I J [.ref B] (fun x u => u = (I, J) ∧ x = I B 1) := by
  refine gm_start (by decide) (Nat.le_of_ble_eq_true rfl) ?_
  intro p' e' s' m' be' me' co' ls C hml hlk hret hh hl
  have hl : lv_has ls 1 [(0, .ref B)] := hl
  refine lv_aload_n C.1 C.2.1 d_FT_loops_0 rfl (lv_at hl 0 rfl) ?_
  refine gg_i C hh hF.1 rfl in_FT 1 (by decide) rfl tw_211 rfl d_FT_loops_1 ?_
  exact gr_i C hlk hret rfl hh (by exact ⟨rfl, rfl⟩) d_FT_loops_4

set_option maxHeartbeats 4000000 in
set_option maxRecDepth 100000 in
theorem c_FT_left (l : Launch) (D : va_G) (cs : Nat → ClassId) (sh : gm_H) (sz : Nat) (I : gm_I) (J : gm_J) (B : Nat) (hF : is_FT cs sh B)  : CI l y_FT_left w_FT_left { frames := 0, cells := 0, slots := 0, locals := 0 } D cs sh sz I J [.ref B] (fun x u => u = (I, J) ∧ x = I (B + 4) 2) := by
  refine gm_start (by decide) (Nat.le_of_ble_eq_true rfl) ?_
  intro p' e' s' m' be' me' co' ls C hml hlk hret hh hl
  have hl : lv_has ls 1 [(0, .ref B)] := hl
  refine lv_aload_n C.1 C.2.1 d_FT_left_0 rfl (lv_at hl 0 rfl) ?_
  refine gg_r C hh hF.1 rfl in_FT 4 (by decide) rfl tw_214 rfl d_FT_left_1 ?_
  refine gn_i C hh hF.2.2.2.2.1.1 rfl in_Pf 2 (by decide) rfl tw_88 rfl d_FT_left_4 ?_
  exact gr_i C hlk hret rfl hh (by exact ⟨rfl, rfl⟩) d_FT_left_7

set_option maxHeartbeats 4000000 in
set_option maxRecDepth 100000 in
theorem c_FT_guard (l : Launch) (D : va_G) (cs : Nat → ClassId) (sh : gm_H) (sz : Nat) (I : gm_I) (J : gm_J) (B : Nat) (hF : is_FT cs sh B) (hV : inv_FT I B) (n : Nat) (en : I B 1 = nI n) (hn : n ≤ 8) (v a b c d : Int32) : CI l y_FT_guard w_FT_guard { frames := 3, cells := 0, slots := 0, locals := 72 } D cs sh sz I J [.ref B, .int v, .int a, .int b, .int c, .int d] (fun x u => gdP I J B n v a b c d x u) := by
  refine gm_start (by decide) (Nat.le_of_ble_eq_true rfl) ?_
  intro p' e' s' m' be' me' co' ls C hml hlk hret hh hl
  have hl : lv_has ls 6 [(0, .ref B), (1, .int v), (2, .int a), (3, .int b), (4, .int c), (5, .int d)] := hl
  refine lv_aload_n C.1 C.2.1 d_FT_guard_0 rfl (lv_at hl 0 rfl) ?_
  refine lv_iload_n C.1 C.2.1 d_FT_guard_1 rfl (lv_at hl 1 rfl) ?_
  refine gc_i hh (gc_runV (As := [.int v]) (rest := []) (n := 1) C hml hh (c_FT_isLoop l D cs sh sz I J B hF hV n en hn v) (tg_V tw_264 tw_266 tw_0 tw_57 tw_267) (by decide +kernel) ⟨rfl, rfl, by decide, by decide, Nat.zero_le _, Nat.zero_le _⟩ hF.1 rfl rfl hl.1 rfl (Nat.le_of_ble_eq_true rfl) d_FT_guard_2) (fun r_1 I_2 J_3 H locs hr_1 hh => ?_)
  obtain ⟨e_r_1, hr_1⟩ := hr_1
  rw [(Prod.mk.inj e_r_1).1, (Prod.mk.inj e_r_1).2] at hh
  refine lv_if_ne (tgt := 11) C.1 C.2.1 d_FT_guard_5 (by decide) (fun c_4 => ?_) (fun c_4 => ?_)
  · -- 5 -> 11
    have b_5 := bI_t hr_1 c_4
    obtain ⟨j_6, hj_6, ej_6⟩ := inI_nat (by omega) b_5
    subst ej_6
    skip
    obtain ⟨nm_, hnm_, enm_⟩ := (hV.2.1 j_6 (by omega)).1
    obtain ⟨g_, hg_, eg_⟩ := (hV.2.1 j_6 (by omega)).2.1.2
    refine lv_aload_n C.1 C.2.1 d_FT_guard_11 rfl (lv_at hl 0 rfl) ?_
    refine lv_iload_n C.1 C.2.1 d_FT_guard_12 rfl (lv_at hl 1 rfl) ?_
    refine lv_iload_n C.1 C.2.1 d_FT_guard_13 rfl (lv_at hl 2 rfl) ?_
    refine lv_iload_n C.1 C.2.1 d_FT_guard_14 rfl (lv_at hl 3 rfl) ?_
    refine lv_iload C.1 C.2.1 d_FT_guard_15 (lv_at hl 4 rfl) ?_
    refine lv_iload C.1 C.2.1 d_FT_guard_17 (lv_at hl 5 rfl) ?_
    refine gc_i hh (gc_runV (As := [.int (nI j_6), .int a, .int b, .int c, .int d]) (rest := []) (n := 5) C hml hh (c_FT_rowFits l D cs sh sz I J B hF hV j_6 nm_ (by omega) enm_ hnm_ a b c d) (tg_V tw_268 tw_270 tw_1 tw_57 tw_271) (by decide +kernel) ⟨rfl, rfl, by decide, by decide, Nat.zero_le _, Nat.zero_le _⟩ hF.1 rfl rfl hl.1 rfl (Nat.le_of_ble_eq_true rfl) d_FT_guard_19) (fun r_7 I_8 J_9 H locs hr_7 hh => ?_)
    obtain ⟨e_r_7, hr_7⟩ := hr_7
    rw [(Prod.mk.inj e_r_7).1, (Prod.mk.inj e_r_7).2] at hh
    refine lv_if_ne (tgt := 28) C.1 C.2.1 d_FT_guard_22 (by decide) (fun c_10 => ?_) (fun c_10 => ?_)
    · -- 22 -> 28
      have b_11 := bI_t hr_7 c_10
      skip
      refine lv_aload_n C.1 C.2.1 d_FT_guard_28 rfl (lv_at hl 0 rfl) ?_
      refine gg_r C hh hF.1 rfl in_FT 0 (by decide) rfl tw_210 rfl d_FT_guard_29 ?_
      refine lv_iload_n C.1 C.2.1 d_FT_guard_32 rfl (lv_at hl 1 rfl) ?_
      refine ga_q C hh 2 hF.2.1 (Cn := "FallingTerms$Loop") rfl (k := j_6) (v := B + 12 + 21 * j_6) rfl (by omega) (by omega) (if_pos (by omega)) d_FT_guard_33 ?_
      obtain ⟨p_12, ep_12⟩ : ∃ z : Nat, z = B + 12 + 21 * j_6 := ⟨_, rfl⟩
      have hp_12 : is_Lp cs sh p_12 := by rw [ep_12]; exact hF.2.2.2.2.2.2.2.2.2.2 j_6 (by omega)
      refine gm_eqr ep_12.symm ?_
      refine gn_r C hh hp_12.1 rfl in_Lp 1 (by decide) rfl tw_156 rfl d_FT_guard_34 ?_
      refine lv_iload_n C.1 C.2.1 d_FT_guard_37 rfl (lv_at hl 2 rfl) ?_
      refine lv_iload_n C.1 C.2.1 d_FT_guard_38 rfl (lv_at hl 3 rfl) ?_
      refine lv_iload C.1 C.2.1 d_FT_guard_39 (lv_at hl 4 rfl) ?_
      refine lv_iload C.1 C.2.1 d_FT_guard_41 (lv_at hl 5 rfl) ?_
      refine gc_i hh (gc_runV (As := [.int a, .int b, .int c, .int d]) (rest := []) (n := 4) C hml hh (c_Rw_append l D cs sh sz I J (p_12 + 1) 4 g_ hp_12.2.1 (by rw [ep_12]; exact (hV.2.1 j_6 (by omega)).2.1.1) (by omega) (by rw [ep_12]; exact eg_) hg_ a b c d) (tg_V tw_278 tw_279 tw_280 tw_60 tw_281) (by decide +kernel) ⟨rfl, rfl, by decide, by decide, Nat.zero_le _, Nat.zero_le _⟩ hp_12.2.1.1 rfl rfl hl.1 rfl (Nat.le_of_ble_eq_true rfl) d_FT_guard_43) (fun r_13 I_14 J_15 H locs hr_13 hh => ?_)
      rw [ep_12] at hr_13
      exact gr_i C hlk hret rfl hh (by refine Or.inr ⟨_, nm_, g_, by assumption, rfl, enm_, hnm_, eg_, hg_, Or.inr ?_⟩; rcases hr_13 with ⟨h1, h2, h3⟩ | ⟨h1, h2, h3⟩; exact Or.inl ⟨by assumption, h1, h2, h3⟩; exact Or.inr ⟨by assumption, h1, h2, h3⟩) d_FT_guard_46
    · -- 22 -> 25
      have b_16 := bI_f hr_7 c_10
      skip
      refine lv_bipush (v := (-3)) C.1 C.2.1 d_FT_guard_25 rfl ?_
      exact gr_i C hlk hret rfl hh (by exact Or.inr ⟨_, nm_, g_, by assumption, rfl, enm_, hnm_, eg_, hg_, Or.inl ⟨by assumption, rfl, rfl⟩⟩) d_FT_guard_27
  · -- 5 -> 8
    have b_17 := bI_f hr_1 c_4
    skip
    refine lv_bipush (v := (-2)) C.1 C.2.1 d_FT_guard_8 rfl ?_
    exact gr_i C hlk hret rfl hh (by exact Or.inl ⟨by assumption, rfl, rfl⟩) d_FT_guard_10

set_option maxHeartbeats 4000000 in
set_option maxRecDepth 100000 in
theorem c_FT_row (l : Launch) (D : va_G) (cs : Nat → ClassId) (sh : gm_H) (sz : Nat) (I : gm_I) (J : gm_J) (B : Nat) (hF : is_FT cs sh B) (hV : inv_FT I B) (n : Nat) (en : I B 1 = nI n) (hn : n ≤ 8) (v w a b c d : Int32) : CI l y_FT_row w_FT_row { frames := 3, cells := 0, slots := 0, locals := 72 } D cs sh sz I J [.ref B, .int v, .int w, .int a, .int b, .int c, .int d] (fun x u => rwP I J B n v w a b c d x u) := by
  refine gm_start (by decide) (Nat.le_of_ble_eq_true rfl) ?_
  intro p' e' s' m' be' me' co' ls C hml hlk hret hh hl
  have hl : lv_has ls 7 [(0, .ref B), (1, .int v), (2, .int w), (3, .int a), (4, .int b), (5, .int c), (6, .int d)] := hl
  refine lv_aload_n C.1 C.2.1 d_FT_row_0 rfl (lv_at hl 0 rfl) ?_
  refine lv_iload_n C.1 C.2.1 d_FT_row_1 rfl (lv_at hl 1 rfl) ?_
  refine lv_iload_n C.1 C.2.1 d_FT_row_2 rfl (lv_at hl 2 rfl) ?_
  refine gc_i hh (gc_runV (As := [.int v, .int w]) (rest := []) (n := 2) C hml hh (c_FT_isWay l D cs sh sz I J B hF hV n en hn v w) (tg_V tw_298 tw_300 tw_2 tw_57 tw_301) (by decide +kernel) ⟨rfl, rfl, by decide, by decide, Nat.zero_le _, Nat.zero_le _⟩ hF.1 rfl rfl hl.1 rfl (Nat.le_of_ble_eq_true rfl) d_FT_row_3) (fun r_1 I_2 J_3 H locs hr_1 hh => ?_)
  obtain ⟨e_r_1, hr_1⟩ := hr_1
  rw [(Prod.mk.inj e_r_1).1, (Prod.mk.inj e_r_1).2] at hh
  refine lv_if_ne (tgt := 12) C.1 C.2.1 d_FT_row_6 (by decide) (fun c_4 => ?_) (fun c_4 => ?_)
  · -- 6 -> 12
    have b_5 := bI_t hr_1 c_4
    obtain ⟨j_6, k_7, m_8, hj_6, hk_7, hm_8, ej_6, fk_7, em_8⟩ := fwB_j hn hV b_5
    subst ej_6
    subst fk_7
    skip
    obtain ⟨nm_, hnm_, enm_⟩ := (hV.2.1 j_6 (by omega)).1
    obtain ⟨g_, hg_, eg_⟩ := ((hV.2.1 j_6 (by omega)).2.2.2 k_7 (by omega)).2
    refine lv_aload_n C.1 C.2.1 d_FT_row_12 rfl (lv_at hl 0 rfl) ?_
    refine lv_iload_n C.1 C.2.1 d_FT_row_13 rfl (lv_at hl 1 rfl) ?_
    refine lv_iload_n C.1 C.2.1 d_FT_row_14 rfl (lv_at hl 3 rfl) ?_
    refine lv_iload C.1 C.2.1 d_FT_row_15 (lv_at hl 4 rfl) ?_
    refine lv_iload C.1 C.2.1 d_FT_row_17 (lv_at hl 5 rfl) ?_
    refine lv_iload C.1 C.2.1 d_FT_row_19 (lv_at hl 6 rfl) ?_
    refine gc_i hh (gc_runV (As := [.int (nI j_6), .int a, .int b, .int c, .int d]) (rest := []) (n := 5) C hml hh (c_FT_rowFits l D cs sh sz I J B hF hV j_6 nm_ (by omega) enm_ hnm_ a b c d) (tg_V tw_268 tw_270 tw_1 tw_57 tw_271) (by decide +kernel) ⟨rfl, rfl, by decide, by decide, Nat.zero_le _, Nat.zero_le _⟩ hF.1 rfl rfl hl.1 rfl (Nat.le_of_ble_eq_true rfl) d_FT_row_21) (fun r_9 I_10 J_11 H locs hr_9 hh => ?_)
    obtain ⟨e_r_9, hr_9⟩ := hr_9
    rw [(Prod.mk.inj e_r_9).1, (Prod.mk.inj e_r_9).2] at hh
    refine lv_if_ne (tgt := 30) C.1 C.2.1 d_FT_row_24 (by decide) (fun c_12 => ?_) (fun c_12 => ?_)
    · -- 24 -> 30
      have b_13 := bI_t hr_9 c_12
      skip
      refine lv_aload_n C.1 C.2.1 d_FT_row_30 rfl (lv_at hl 0 rfl) ?_
      refine gg_r C hh hF.1 rfl in_FT 0 (by decide) rfl tw_210 rfl d_FT_row_31 ?_
      refine lv_iload_n C.1 C.2.1 d_FT_row_34 rfl (lv_at hl 1 rfl) ?_
      refine ga_q C hh 2 hF.2.1 (Cn := "FallingTerms$Loop") rfl (k := j_6) (v := B + 12 + 21 * j_6) rfl (by omega) (by omega) (if_pos (by omega)) d_FT_row_35 ?_
      obtain ⟨p_14, ep_14⟩ : ∃ z : Nat, z = B + 12 + 21 * j_6 := ⟨_, rfl⟩
      have hp_14 : is_Lp cs sh p_14 := by rw [ep_14]; exact hF.2.2.2.2.2.2.2.2.2.2 j_6 (by omega)
      refine gm_eqr ep_14.symm ?_
      refine gn_r C hh hp_14.1 rfl in_Lp 2 (by decide) rfl tw_160 rfl d_FT_row_36 ?_
      refine lv_iload_n C.1 C.2.1 d_FT_row_39 rfl (lv_at hl 2 rfl) ?_
      refine ga_q C hh 4 hp_14.2.2.1 (Cn := "FallingTerms$Way") rfl (k := k_7) (v := p_14 + 6 + 5 * k_7) rfl (by omega) (by omega) (if_pos (by omega)) d_FT_row_40 ?_
      obtain ⟨p_15, ep_15⟩ : ∃ z : Nat, z = p_14 + 6 + 5 * k_7 := ⟨_, rfl⟩
      have hp_15 : is_Wy sh p_15 := by rw [ep_15]; exact hp_14.2.2.2.2.2 k_7 (by omega)
      refine gm_eqr ep_15.symm ?_
      refine gn_r C hh hp_15.1 rfl in_Wy 0 (by decide) rfl tw_139 rfl d_FT_row_41 ?_
      refine lv_iload_n C.1 C.2.1 d_FT_row_44 rfl (lv_at hl 3 rfl) ?_
      refine lv_iload C.1 C.2.1 d_FT_row_45 (lv_at hl 4 rfl) ?_
      refine lv_iload C.1 C.2.1 d_FT_row_47 (lv_at hl 5 rfl) ?_
      refine lv_iload C.1 C.2.1 d_FT_row_49 (lv_at hl 6 rfl) ?_
      refine gc_i hh (gc_runV (As := [.int a, .int b, .int c, .int d]) (rest := []) (n := 4) C hml hh (c_Rw_append l D cs sh sz I J (p_15 + 1) 2 g_ hp_15.2.1 (by rw [ep_15, ep_14]; exact ((hV.2.1 j_6 (by omega)).2.2.2 k_7 (by omega)).1) (by omega) (by rw [ep_15, ep_14]; exact eg_) hg_ a b c d) (tg_V tw_278 tw_279 tw_280 tw_60 tw_281) (by decide +kernel) ⟨rfl, rfl, by decide, by decide, Nat.zero_le _, Nat.zero_le _⟩ hp_15.2.1.1 rfl rfl hl.1 rfl (Nat.le_of_ble_eq_true rfl) d_FT_row_51) (fun r_16 I_17 J_18 H locs hr_16 hh => ?_)
      rw [ep_15, ep_14] at hr_16
      exact gr_i C hlk hret rfl hh (by refine Or.inr ⟨_, _, _, nm_, g_, by assumption, by assumption, by assumption, rfl, rfl, by assumption, enm_, hnm_, eg_, hg_, Or.inr ?_⟩; rcases hr_16 with ⟨h1, h2, h3⟩ | ⟨h1, h2, h3⟩; exact Or.inl ⟨by assumption, h1, h2, h3⟩; exact Or.inr ⟨by assumption, h1, h2, h3⟩) d_FT_row_54
    · -- 24 -> 27
      have b_19 := bI_f hr_9 c_12
      skip
      refine lv_bipush (v := (-3)) C.1 C.2.1 d_FT_row_27 rfl ?_
      exact gr_i C hlk hret rfl hh (by exact Or.inr ⟨_, _, _, nm_, g_, by assumption, by assumption, by assumption, rfl, rfl, by assumption, enm_, hnm_, eg_, hg_, Or.inl ⟨by assumption, rfl, rfl⟩⟩) d_FT_row_29
  · -- 6 -> 9
    have b_20 := bI_f hr_1 c_4
    skip
    refine lv_bipush (v := (-2)) C.1 C.2.1 d_FT_row_9 rfl ?_
    exact gr_i C hlk hret rfl hh (by exact Or.inl ⟨by assumption, rfl, rfl⟩) d_FT_row_11

set_option maxHeartbeats 4000000 in
set_option maxRecDepth 100000 in
theorem c_FT_way (l : Launch) (D : va_G) (cs : Nat → ClassId) (sh : gm_H) (sz : Nat) (I : gm_I) (J : gm_J) (B : Nat) (hF : is_FT cs sh B) (hV : inv_FT I B) (n : Nat) (en : I B 1 = nI n) (hn : n ≤ 8) (v : Int32) : CI l y_FT_way w_FT_way { frames := 2, cells := 0, slots := 0, locals := 42 } D cs sh sz I J [.ref B, .int v] (fun x u => wyP I J B n v x u) := by
  refine gm_start (by decide) (Nat.le_of_ble_eq_true rfl) ?_
  intro p' e' s' m' be' me' co' ls C hml hlk hret hh hl
  have hl : lv_has ls 2 [(0, .ref B), (1, .int v)] := hl
  refine lv_aload_n C.1 C.2.1 d_FT_way_0 rfl (lv_at hl 0 rfl) ?_
  refine lv_iload_n C.1 C.2.1 d_FT_way_1 rfl (lv_at hl 1 rfl) ?_
  refine gc_i hh (gc_runV (As := [.int v]) (rest := []) (n := 1) C hml hh (c_FT_isLoop l D cs sh sz I J B hF hV n en hn v) (tg_V tw_264 tw_266 tw_0 tw_57 tw_267) (by decide +kernel) ⟨rfl, rfl, by decide, by decide, Nat.zero_le _, Nat.zero_le _⟩ hF.1 rfl rfl hl.1 rfl (Nat.le_of_ble_eq_true rfl) d_FT_way_2) (fun r_1 I_2 J_3 H locs hr_1 hh => ?_)
  obtain ⟨e_r_1, hr_1⟩ := hr_1
  rw [(Prod.mk.inj e_r_1).1, (Prod.mk.inj e_r_1).2] at hh
  refine lv_if_eq (tgt := 20) C.1 C.2.1 d_FT_way_5 (by decide) (fun c_4 => ?_) (fun c_4 => ?_)
  · -- 5 -> 20
    have b_5 := bI_f hr_1 c_4
    skip
    refine lv_bipush (v := (-2)) C.1 C.2.1 d_FT_way_20 rfl ?_
    exact gr_i C hlk hret rfl hh (by first | exact Or.inl ⟨by assumption, rfl, rfl⟩ | exact Or.inr ⟨_, m_, by assumption, rfl, em_, hm_, hF⟩) d_FT_way_22
  · -- 5 -> 8
    have b_6 := bI_t hr_1 c_4
    obtain ⟨j_7, hj_7, ej_7⟩ := inI_nat (by omega) b_6
    subst ej_7
    skip
    obtain ⟨m_, hm_, em_⟩ := (hV.2.1 j_7 (by omega)).2.2.1
    refine lv_aload_n C.1 C.2.1 d_FT_way_8 rfl (lv_at hl 0 rfl) ?_
    refine gg_r C hh hF.1 rfl in_FT 0 (by decide) rfl tw_210 rfl d_FT_way_9 ?_
    refine lv_iload_n C.1 C.2.1 d_FT_way_12 rfl (lv_at hl 1 rfl) ?_
    refine ga_q C hh 2 hF.2.1 (Cn := "FallingTerms$Loop") rfl (k := j_7) (v := B + 12 + 21 * j_7) rfl (by omega) (by omega) (if_pos (by omega)) d_FT_way_13 ?_
    obtain ⟨p_8, ep_8⟩ : ∃ z : Nat, z = B + 12 + 21 * j_7 := ⟨_, rfl⟩
    have hp_8 : is_Lp cs sh p_8 := by rw [ep_8]; exact hF.2.2.2.2.2.2.2.2.2.2 j_7 (by omega)
    refine gm_eqr ep_8.symm ?_
    refine gc_i hh (gc_runV (As := []) (rest := []) (n := 0) C hml hh (c_Lp_appendWay l D cs sh sz I J p_8 hp_8 m_ (by rw [ep_8]; exact em_) hm_) (tg_V tw_286 tw_287 tw_288 tw_59 tw_289) (by decide +kernel) ⟨rfl, rfl, by decide, by decide, Nat.zero_le _, Nat.zero_le _⟩ hp_8.1 rfl rfl hl.1 rfl (Nat.le_of_ble_eq_true rfl) d_FT_way_14) (fun r_9 I_10 J_11 H locs hr_9 hh => ?_)
    rw [ep_8] at hr_9
    refine lv_goto (tgt := 22) C.1 C.2.1 d_FT_way_17 (by decide) ?_
    exact gr_i C hlk hret rfl hh (by first | exact Or.inl ⟨by assumption, rfl, rfl⟩ | exact Or.inr ⟨_, m_, by assumption, rfl, em_, hm_, hr_9⟩) d_FT_way_22
