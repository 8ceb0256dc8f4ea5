set_option maxHeartbeats 4000000 in
set_option maxRecDepth 100000 in
theorem c_FT_open (l : Launch) (D : va_G) (cs : Nat → ClassId) (sh : gm_H) (sz : Nat) (I : gm_I) (J : gm_J) (B : Nat) (hF : is_FT cs sh B) (hV : inv_FT I B) (n : Nat) (en : I B 1 = nI n) (hn : n ≤ 8) (v : Int32) : CI l y_FT_open w_FT_open { frames := 2, cells := 0, slots := 0, locals := 47 } D cs sh sz I J [.ref B, .int v] (fun x u => u = (I, J) ∧ ((inI v 0 (nI n - 1) = false ∧ x = -2) ∨ ∃ j, j < n ∧ v = nI j ∧ x = nI (copn I (B + 12 + 21 * j) (get3 J (B + 12 + 21 * j + 4))))) := by
  refine gm_start (by decide) (Nat.le_of_ble_eq_true rfl) ?_
  intro p' e' s' m' be' me' co' ls C hml hlk hret hh hl
  have hl : lv_has ls 2 [(0, .ref B), (1, .int v)] := hl
  refine lv_aload_n C.1 C.2.1 d_FT_open_0 rfl (lv_at hl 0 rfl) ?_
  refine lv_iload_n C.1 C.2.1 d_FT_open_1 rfl (lv_at hl 1 rfl) ?_
  refine gc_i hh (gc_runV (As := [.int v]) (rest := []) (n := 1) C hml hh (c_FT_isLoop l D cs sh sz I J B hF hV n en hn v) (tg_V tw_264 tw_266 tw_0 tw_57 tw_267) (by decide +kernel) ⟨rfl, rfl, by decide, by decide, Nat.zero_le _, Nat.zero_le _⟩ hF.1 rfl rfl hl.1 rfl (Nat.le_of_ble_eq_true rfl) d_FT_open_2) (fun r_1 I_2 J_3 H locs hr_1 hh => ?_)
  obtain ⟨e_r_1, hr_1⟩ := hr_1
  rw [(Prod.mk.inj e_r_1).1, (Prod.mk.inj e_r_1).2] at hh
  refine lv_if_eq (tgt := 20) C.1 C.2.1 d_FT_open_5 (by decide) (fun c_4 => ?_) (fun c_4 => ?_)
  · -- 5 -> 20
    have b_5 := bI_f hr_1 c_4
    skip
    refine lv_bipush (v := (-2)) C.1 C.2.1 d_FT_open_20 rfl ?_
    exact gr_i C hlk hret rfl hh (by first | exact ⟨rfl, Or.inl ⟨by assumption, rfl⟩⟩ | (refine ⟨rfl, Or.inr ⟨_, by assumption, rfl, ?_⟩⟩; rw [← hF, ex0])) d_FT_open_22
  · -- 5 -> 8
    have b_6 := bI_t hr_1 c_4
    obtain ⟨j_7, hj_7, ej_7⟩ := inI_nat (by omega) b_6
    subst ej_7
    skip
    refine lv_aload_n C.1 C.2.1 d_FT_open_8 rfl (lv_at hl 0 rfl) ?_
    refine gg_r C hh hF.1 rfl in_FT 0 (by decide) rfl tw_210 rfl d_FT_open_9 ?_
    refine lv_iload_n C.1 C.2.1 d_FT_open_12 rfl (lv_at hl 1 rfl) ?_
    refine ga_q C hh 2 hF.2.1 (Cn := "FallingTerms$Loop") rfl (k := j_7) (v := B + 12 + 21 * j_7) rfl (by omega) (by omega) (if_pos (by omega)) d_FT_open_13 ?_
    obtain ⟨p_8, ep_8⟩ : ∃ z : Nat, z = B + 12 + 21 * j_7 := ⟨_, rfl⟩
    have hp_8 : is_Lp cs sh p_8 := by rw [ep_8]; exact hF.2.2.2.2.2.2.2.2.2.2 j_7 (by omega)
    refine gm_eqr ep_8.symm ?_
    refine gc_i hh (gc_runV (As := []) (rest := []) (n := 0) C hml hh (c_Lp_openWays l D cs sh sz I J p_8 hp_8 (by have h_ := hV.2.1 j_7 (by omega); rw [← ep_8] at h_; exact h_ : inv_Lp I p_8)) (tg_V tw_505 tw_506 tw_507 tw_59 tw_508) (by decide +kernel) ⟨rfl, rfl, by decide, by decide, Nat.zero_le _, Nat.zero_le _⟩ hp_8.1 rfl rfl hl.1 rfl (Nat.le_of_ble_eq_true rfl) d_FT_open_14) (fun r_9 I_10 J_11 H locs hr_9 hh => ?_)
    obtain ⟨e_r_9, hr_9⟩ := hr_9
    rw [(Prod.mk.inj e_r_9).1, (Prod.mk.inj e_r_9).2] at hh
    obtain ⟨c_12, ec_12⟩ : ∃ z : Nat, z = copn I p_8 (get3 J (p_8 + 4)) := ⟨_, rfl⟩
    have lc_12 : c_12 < 8 := by rw [ec_12]; exact copn_lt (by have h_ := hV.2.1 j_7 (by omega); rw [← ep_8] at h_; exact h_ : inv_Lp I p_8)
    rw [← ec_12] at hr_9
    rw [hr_9]
    refine lv_goto (tgt := 22) C.1 C.2.1 d_FT_open_17 (by decide) ?_
    exact gr_i C hlk hret rfl hh (by first | exact ⟨rfl, Or.inl ⟨by assumption, rfl⟩⟩ | (refine ⟨rfl, Or.inr ⟨_, by assumption, rfl, ?_⟩⟩; rw [← ep_8, ec_12])) d_FT_open_22

set_option maxHeartbeats 4000000 in
set_option maxRecDepth 100000 in
theorem c_FT_step (l : Launch) (D : va_G) (cs : Nat → ClassId) (sh : gm_H) (sz : Nat) (I : gm_I) (J : gm_J) (B : Nat) (hF : is_FT cs sh B) (hV : inv_FT I B) (n : Nat) (en : I B 1 = nI n) (hn : n ≤ 8) (v : Int32) : CI l y_FT_step w_FT_step { frames := 3, cells := 0, slots := 0, locals := 70 } D cs sh sz I J [.ref B, .int v] (fun x u => (inI v 0 (nI n - 1) = false ∧ x = -2 ∧ u = (I, J)) ∨ ∃ j, j < n ∧ v = nI j ∧ adP I J (B + 12 + 21 * j) (B + 12 + 21 * j + 4) x u) := by
  refine gm_start (by decide) (Nat.le_of_ble_eq_true rfl) ?_
  intro p' e' s' m' be' me' co' ls C hml hlk hret hh hl
  have hl : lv_has ls 2 [(0, .ref B), (1, .int v)] := hl
  refine lv_aload_n C.1 C.2.1 d_FT_step_0 rfl (lv_at hl 0 rfl) ?_
  refine lv_iload_n C.1 C.2.1 d_FT_step_1 rfl (lv_at hl 1 rfl) ?_
  refine gc_i hh (gc_runV (As := [.int v]) (rest := []) (n := 1) C hml hh (c_FT_isLoop l D cs sh sz I J B hF hV n en hn v) (tg_V tw_264 tw_266 tw_0 tw_57 tw_267) (by decide +kernel) ⟨rfl, rfl, by decide, by decide, Nat.zero_le _, Nat.zero_le _⟩ hF.1 rfl rfl hl.1 rfl (Nat.le_of_ble_eq_true rfl) d_FT_step_2) (fun r_1 I_2 J_3 H locs hr_1 hh => ?_)
  obtain ⟨e_r_1, hr_1⟩ := hr_1
  rw [(Prod.mk.inj e_r_1).1, (Prod.mk.inj e_r_1).2] at hh
  refine lv_if_eq (tgt := 29) C.1 C.2.1 d_FT_step_5 (by decide) (fun c_4 => ?_) (fun c_4 => ?_)
  · -- 5 -> 29
    have b_5 := bI_f hr_1 c_4
    skip
    refine lv_bipush (v := (-2)) C.1 C.2.1 d_FT_step_29 rfl ?_
    exact gr_i C hlk hret rfl hh (by first | exact Or.inl ⟨by assumption, rfl, rfl⟩ | (refine Or.inr ⟨_, by assumption, rfl, ?_⟩; rw [← hF]; exact hF)) d_FT_step_31
  · -- 5 -> 8
    have b_6 := bI_t hr_1 c_4
    obtain ⟨j_7, hj_7, ej_7⟩ := inI_nat (by omega) b_6
    subst ej_7
    skip
    refine lv_aload_n C.1 C.2.1 d_FT_step_8 rfl (lv_at hl 0 rfl) ?_
    refine gg_r C hh hF.1 rfl in_FT 0 (by decide) rfl tw_210 rfl d_FT_step_9 ?_
    refine lv_iload_n C.1 C.2.1 d_FT_step_12 rfl (lv_at hl 1 rfl) ?_
    refine ga_q C hh 2 hF.2.1 (Cn := "FallingTerms$Loop") rfl (k := j_7) (v := B + 12 + 21 * j_7) rfl (by omega) (by omega) (if_pos (by omega)) d_FT_step_13 ?_
    obtain ⟨p_8, ep_8⟩ : ∃ z : Nat, z = B + 12 + 21 * j_7 := ⟨_, rfl⟩
    have hp_8 : is_Lp cs sh p_8 := by rw [ep_8]; exact hF.2.2.2.2.2.2.2.2.2.2 j_7 (by omega)
    refine gm_eqr ep_8.symm ?_
    refine lv_aload_n C.1 C.2.1 d_FT_step_14 rfl (lv_at hl 0 rfl) ?_
    refine gg_r C hh hF.1 rfl in_FT 0 (by decide) rfl tw_210 rfl d_FT_step_15 ?_
    refine lv_iload_n C.1 C.2.1 d_FT_step_18 rfl (lv_at hl 1 rfl) ?_
    refine ga_q C hh 2 hF.2.1 (Cn := "FallingTerms$Loop") rfl (k := j_7) (v := B + 12 + 21 * j_7) rfl (by omega) (by omega) (if_pos (by omega)) d_FT_step_19 ?_
    refine gm_eqr ep_8.symm ?_
    refine gn_r C hh hp_8.1 rfl in_Lp 4 (by decide) rfl tw_165 rfl d_FT_step_20 ?_
    refine gc_i hh (gc_runV (As := [.ref (p_8 + 4)]) (rest := []) (n := 1) C hml hh (c_Lp_advance l D cs sh sz I J p_8 hp_8 (by have h_ := hV.2.1 j_7 (by omega); rw [← ep_8] at h_; exact h_ : inv_Lp I p_8) (p_8 + 4) hp_8.2.2.2.1 (by omega)) (tg_V tw_517 tw_518 tw_519 tw_59 tw_520) (by decide +kernel) ⟨rfl, rfl, by decide, by decide, Nat.zero_le _, Nat.zero_le _⟩ hp_8.1 rfl rfl hl.1 rfl (Nat.le_of_ble_eq_true rfl) d_FT_step_23) (fun r_9 I_10 J_11 H locs hr_9 hh => ?_)
    have ihr_9 : I_10 = I := by obtain ⟨_, _, _, h_⟩ := hr_9; exact (Prod.mk.inj h_).1
    rw [ihr_9] at hh hr_9
    refine lv_goto (tgt := 31) C.1 C.2.1 d_FT_step_26 (by decide) ?_
    exact gr_i C hlk hret rfl hh (by first | exact Or.inl ⟨by assumption, rfl, rfl⟩ | (refine Or.inr ⟨_, by assumption, rfl, ?_⟩; rw [← ep_8]; exact hr_9)) d_FT_step_31

set_option maxHeartbeats 4000000 in
set_option maxRecDepth 100000 in
theorem c_FT_go (l : Launch) (D : va_G) (cs : Nat → ClassId) (sh : gm_H) (sz : Nat) (I : gm_I) (J : gm_J) (B : Nat) (hF : is_FT cs sh B) (hV : inv_FT I B) (n : Nat) (en : I B 1 = nI n) (hn : n ≤ 8) (v w : Int32) : CI l y_FT_go w_FT_go { frames := 2, cells := 0, slots := 0, locals := 48 } D cs sh sz I J [.ref B, .int v, .int w] (fun x u => (fwB I B n v w = false ∧ x = -2 ∧ u = (I, J)) ∨ ∃ j k, j < n ∧ k < 3 ∧ v = nI j ∧ w = nI k ∧ fwB I B n v w = true ∧ ((copn I (B + 12 + 21 * j) (get3 J (B + 12 + 21 * j + 4)) / 2 ^ k % 2 = 0 ∧ x = 0 ∧ u = (I, J)) ∨ (¬ copn I (B + 12 + 21 * j) (get3 J (B + 12 + 21 * j + 4)) / 2 ^ k % 2 = 0 ∧ ∃ y, chP I J (B + 12 + 21 * j + 6 + 5 * k) (B + 12 + 21 * j + 4) (B + 12 + 21 * j + 5) y u ∧ x = if y = 0 then -5 else nI 1))) := by
  refine gm_start (by decide) (Nat.le_of_ble_eq_true rfl) ?_
  intro p' e' s' m' be' me' co' ls C hml hlk hret hh hl
  have hl : lv_has ls 4 [(0, .ref B), (1, .int v), (2, .int w)] := hl
  refine lv_aload_n C.1 C.2.1 d_FT_go_0 rfl (lv_at hl 0 rfl) ?_
  refine lv_iload_n C.1 C.2.1 d_FT_go_1 rfl (lv_at hl 1 rfl) ?_
  refine lv_iload_n C.1 C.2.1 d_FT_go_2 rfl (lv_at hl 2 rfl) ?_
  refine gc_i hh (gc_runV (As := [.int v, .int w]) (rest := []) (n := 2) C hml hh (c_FT_isWay l D cs sh sz I J B hF hV n en hn v w) (tg_V tw_298 tw_300 tw_2 tw_57 tw_301) (by decide +kernel) ⟨rfl, rfl, by decide, by decide, Nat.zero_le _, Nat.zero_le _⟩ hF.1 rfl rfl hl.1 rfl (Nat.le_of_ble_eq_true rfl) d_FT_go_3) (fun r_1 I_2 J_3 H locs hr_1 hh => ?_)
  obtain ⟨e_r_1, hr_1⟩ := hr_1
  rw [(Prod.mk.inj e_r_1).1, (Prod.mk.inj e_r_1).2] at hh
  refine lv_if_ne (tgt := 12) C.1 C.2.1 d_FT_go_6 (by decide) (fun c_4 => ?_) (fun c_4 => ?_)
  · -- 6 -> 12
    have b_5 := bI_t hr_1 c_4
    obtain ⟨j_6, k_7, m_8, hj_6, hk_7, hm_8, ej_6, fk_7, em_8⟩ := fwB_j hn hV b_5
    subst ej_6
    subst fk_7
    skip
    refine lv_aload_n C.1 C.2.1 d_FT_go_12 rfl (lv_at hl 0 rfl) ?_
    refine gg_r C hh hF.1 rfl in_FT 0 (by decide) rfl tw_210 rfl d_FT_go_13 ?_
    refine lv_iload_n C.1 C.2.1 d_FT_go_16 rfl (lv_at hl 1 rfl) ?_
    refine ga_q C hh 2 hF.2.1 (Cn := "FallingTerms$Loop") rfl (k := j_6) (v := B + 12 + 21 * j_6) rfl (by first | omega | exact gm_dv (by omega)) (by omega) (if_pos (by omega)) d_FT_go_17 ?_
    obtain ⟨p_9, ep_9⟩ : ∃ z : Nat, z = B + 12 + 21 * j_6 := ⟨_, rfl⟩
    have hp_9 : is_Lp cs sh p_9 := by rw [ep_9]; exact hF.2.2.2.2.2.2.2.2.2.2 j_6 (by omega)
    refine gm_eqr ep_9.symm ?_
    refine lv_astore_n (lv' := [(3, .ref p_9), (0, .ref B), (1, .int (nI j_6)), (2, .int (nI k_7))]) C.1 C.2.1 d_FT_go_18 rfl hl (by decide) rfl (fun ls hl => ?_)
    refine lv_aload_n C.1 C.2.1 d_FT_go_19 rfl (lv_at hl 0 rfl) ?_
    refine gc_i hh (gc_runV (As := []) (rest := []) (n := 0) C hml hh (c_Lp_openWays l D cs sh sz I J p_9 hp_9 (by have h_ := hV.2.1 j_6 (by omega); rw [← ep_9] at h_; exact h_ : inv_Lp I p_9)) (tg_V tw_505 tw_506 tw_507 tw_59 tw_508) (by decide +kernel) ⟨rfl, rfl, by decide, by decide, Nat.zero_le _, Nat.zero_le _⟩ hp_9.1 rfl rfl hl.1 rfl (Nat.le_of_ble_eq_true rfl) d_FT_go_20) (fun r_10 I_11 J_12 H locs hr_10 hh => ?_)
    obtain ⟨e_r_10, hr_10⟩ := hr_10
    rw [(Prod.mk.inj e_r_10).1, (Prod.mk.inj e_r_10).2] at hh
    obtain ⟨c_13, ec_13⟩ : ∃ z : Nat, z = copn I p_9 (get3 J (p_9 + 4)) := ⟨_, rfl⟩
    have lc_13 : c_13 < 8 := by rw [ec_13]; exact copn_lt (by have h_ := hV.2.1 j_6 (by omega); rw [← ep_9] at h_; exact h_ : inv_Lp I p_9)
    rw [← ec_13] at hr_10
    rw [hr_10]
    refine lv_iload_n C.1 C.2.1 d_FT_go_23 rfl (lv_at hl 3 rfl) ?_
    refine lv_ishr C.1 C.2.1 d_FT_go_24 ?_
    refine gm_eqi (gm_shr (by first | omega | exact gm_dv (by omega)) (by first | omega | exact gm_dv (by omega))) ?_
    refine lv_iconst (v := nI 1) C.1 C.2.1 d_FT_go_25 rfl ?_
    refine lv_iand C.1 C.2.1 d_FT_go_26 ?_
    refine gm_eqi (gm_and1 (by first | omega | exact gm_dv (by omega))) ?_
    refine lv_if_ne (tgt := 32) C.1 C.2.1 d_FT_go_27 (by decide) (fun c_14 => ?_) (fun c_14 => ?_)
    · -- 27 -> 32
      have c_14 := gm_net (b := 0) (by first | omega | exact gm_dv (by omega)) (by omega) c_14
      refine lv_aload_n C.1 C.2.1 d_FT_go_32 rfl (lv_at hl 0 rfl) ?_
      refine lv_iload_n C.1 C.2.1 d_FT_go_33 rfl (lv_at hl 3 rfl) ?_
      refine lv_aload_n C.1 C.2.1 d_FT_go_34 rfl (lv_at hl 0 rfl) ?_
      refine gn_r C hh hp_9.1 rfl in_Lp 4 (by decide) rfl tw_165 rfl d_FT_go_35 ?_
      refine gc_i hh (gc_runV (As := [.int (nI k_7), .ref (p_9 + 4)]) (rest := []) (n := 2) C hml hh (c_Lp_change l D cs sh sz I J p_9 hp_9 k_7 (p_9 + 4) (by omega) hp_9.2.2.2.1 (by omega)) (tg_V tw_538 tw_522 tw_523 tw_59 tw_524) (by decide +kernel) ⟨rfl, rfl, by decide, by decide, Nat.zero_le _, Nat.zero_le _⟩ hp_9.1 rfl rfl hl.1 rfl (Nat.le_of_ble_eq_true rfl) d_FT_go_38) (fun r_15 I_16 J_17 H locs hr_15 hh => ?_)
      refine lv_if_eq (tgt := 48) C.1 C.2.1 d_FT_go_41 (by decide) (fun c_18 => ?_) (fun c_18 => ?_)
      · -- 41 -> 48
        skip
        refine lv_bipush (v := (-5)) C.1 C.2.1 d_FT_go_48 rfl ?_
        exact gr_i C hlk hret rfl hh (by refine Or.inr ⟨_, _, by assumption, by omega, rfl, rfl, by assumption, Or.inr ⟨?_, _, (by rw [← ep_9]; exact hr_15), ?_⟩⟩; (rw [← ep_9, ← ec_13]; assumption); first | rw [if_pos (by assumption)] | rw [if_neg (by assumption)]) d_FT_go_50
      · -- 41 -> 44
        skip
        refine lv_iconst (v := nI 1) C.1 C.2.1 d_FT_go_44 rfl ?_
        refine lv_goto (tgt := 50) C.1 C.2.1 d_FT_go_45 (by decide) ?_
        exact gr_i C hlk hret rfl hh (by refine Or.inr ⟨_, _, by assumption, by omega, rfl, rfl, by assumption, Or.inr ⟨?_, _, (by rw [← ep_9]; exact hr_15), ?_⟩⟩; (rw [← ep_9, ← ec_13]; assumption); first | rw [if_pos (by assumption)] | rw [if_neg (by assumption)]) d_FT_go_50
    · -- 27 -> 30
      have c_14 := gm_nef (b := 0) (by first | omega | exact gm_dv (by omega)) (by omega) c_14
      refine lv_iconst (v := nI 0) C.1 C.2.1 d_FT_go_30 rfl ?_
      exact gr_i C hlk hret rfl hh (by refine Or.inr ⟨_, _, by assumption, by omega, rfl, rfl, by assumption, Or.inl ⟨?_, rfl, rfl⟩⟩; rw [← ep_9, ← ec_13]; assumption) d_FT_go_31
  · -- 6 -> 9
    have b_19 := bI_f hr_1 c_4
    skip
    refine lv_bipush (v := (-2)) C.1 C.2.1 d_FT_go_9 rfl ?_
    exact gr_i C hlk hret rfl hh (by exact Or.inl ⟨by assumption, rfl, rfl⟩) d_FT_go_11

set_option maxHeartbeats 4000000 in
set_option maxRecDepth 100000 in
theorem c_FT_walk (l : Launch) (D : va_G) (cs : Nat → ClassId) (sh : gm_H) (sz : Nat) (I : gm_I) (J : gm_J) (B : Nat) (hF : is_FT cs sh B) (hV : inv_FT I B) (n : Nat) (en : I B 1 = nI n) (hn : n ≤ 8) (v w : Int32) : CI l y_FT_walk w_FT_walk { frames := 3, cells := 0, slots := 0, locals := 70 } D cs sh sz I J [.ref B, .int v, .int w] (fun _ u => u.1 = I) := by
  refine gm_start (by decide) (Nat.le_of_ble_eq_true rfl) ?_
  intro p' e' s' m' be' me' co' ls C hml hlk hret hh hl
  have hl : lv_has ls 5 [(0, .ref B), (1, .int v), (2, .int w)] := hl
  refine lv_aload_n C.1 C.2.1 d_FT_walk_0 rfl (lv_at hl 0 rfl) ?_
  refine lv_iload_n C.1 C.2.1 d_FT_walk_1 rfl (lv_at hl 1 rfl) ?_
  refine gc_i hh (gc_runV (As := [.int v]) (rest := []) (n := 1) C hml hh (c_FT_isLoop l D cs sh sz I J B hF hV n en hn v) (tg_V tw_264 tw_266 tw_0 tw_57 tw_267) (by decide +kernel) ⟨rfl, rfl, by decide, by decide, Nat.zero_le _, Nat.zero_le _⟩ hF.1 rfl rfl hl.1 rfl (Nat.le_of_ble_eq_true rfl) d_FT_walk_2) (fun r_1 I_2 J_3 H locs hr_1 hh => ?_)
  obtain ⟨e_r_1, hr_1⟩ := hr_1
  rw [(Prod.mk.inj e_r_1).1, (Prod.mk.inj e_r_1).2] at hh
  refine lv_if_ne (tgt := 11) C.1 C.2.1 d_FT_walk_5 (by decide) (fun c_4 => ?_) (fun c_4 => ?_)
  · -- 5 -> 11
    have b_5 := bI_t hr_1 c_4
    obtain ⟨j_6, hj_6, ej_6⟩ := inI_nat (by omega) b_5
    subst ej_6
    skip
    refine lv_iload_n C.1 C.2.1 d_FT_walk_11 rfl (lv_at hl 2 rfl) ?_
    refine lv_if_lt (tgt := 22) C.1 C.2.1 d_FT_walk_12 (by decide) (fun c_7 => ?_) (fun c_7 => ?_)
    · -- 12 -> 22
      skip
      refine lv_bipush (v := (-3)) C.1 C.2.1 d_FT_walk_22 rfl ?_
      exact gr_i C hlk hret rfl hh (by rfl) d_FT_walk_24
    · -- 12 -> 15
      skip
      obtain ⟨i_8, hi_8, ei_8⟩ := nI_of (by assumption : ¬ w < 0)
      subst ei_8
      refine lv_iload_n C.1 C.2.1 d_FT_walk_15 rfl (lv_at hl 2 rfl) ?_
      refine lv_sipush (v := nI 1000) C.1 C.2.1 d_FT_walk_16 rfl ?_
      refine lv_icmp_le (tgt := 25) C.1 C.2.1 d_FT_walk_19 (by decide) (fun c_9 => ?_) (fun c_9 => ?_)
      · -- 19 -> 25
        have c_9 := gm_let (by omega) (by omega) c_9
        have c_9' := Nat.not_lt.mpr c_9
        refine lv_aload_n C.1 C.2.1 d_FT_walk_25 rfl (lv_at hl 0 rfl) ?_
        refine gg_r C hh hF.1 rfl in_FT 0 (by decide) rfl tw_210 rfl d_FT_walk_26 ?_
        refine lv_iload_n C.1 C.2.1 d_FT_walk_29 rfl (lv_at hl 1 rfl) ?_
        refine ga_q C hh 2 hF.2.1 (Cn := "FallingTerms$Loop") rfl (k := j_6) (v := B + 12 + 21 * j_6) rfl (by omega) (by omega) (if_pos (by omega)) d_FT_walk_30 ?_
        obtain ⟨p_10, ep_10⟩ : ∃ z : Nat, z = B + 12 + 21 * j_6 := ⟨_, rfl⟩
        have hp_10 : is_Lp cs sh p_10 := by rw [ep_10]; exact hF.2.2.2.2.2.2.2.2.2.2 j_6 (by omega)
        refine gm_eqr ep_10.symm ?_
        refine lv_astore_n (lv' := [(3, .ref p_10), (0, .ref B), (1, .int (nI j_6)), (2, .int (nI i_8))]) C.1 C.2.1 d_FT_walk_31 rfl hl (by decide) rfl (fun ls hl => ?_)
        refine lv_iconst (v := nI 0) C.1 C.2.1 d_FT_walk_32 rfl ?_
        refine lv_istore (lv' := [(4, .int (nI 0)), (3, .ref p_10), (0, .ref B), (1, .int (nI j_6)), (2, .int (nI i_8))]) C.1 C.2.1 d_FT_walk_33 hl (by decide) rfl (fun ls hl => ?_)
        have K35 : ∀ (n_35 : Nat) (i : Nat) (J35 : gm_J) (hi : i ≤ 1000) (hm_35 : 1001 - i < n_35), ∀ (H : Heap) (locs : List Loc) (ls : Array Slot), gm_St D cs sh (gm_A sh) s'.heap sz I J35 H locs → lv_has ls 5 [(0, .ref B), (1, .int (nI j_6)), (2, .int (nI i_8)), (3, .ref p_10), (4, .int (nI i))] → W p' l e' { frames := 3, cells := 0, slots := 0, locals := 70 } s' m' ([.ref B, .int (nI j_6), .int (nI i_8)] : List Value).toArray be' me' co' H locs 0 0 (MQ be' (va_Qi (fun _ u => u.1 = I) (gm_B D cs sh sz) (gm_A sh)) ([.ref B, .int (nI j_6), .int (nI i_8)] : List Value).toArray s' 0 0 (gm_A sh)) (F0 m' 35 ls []) := by
          intro n_35
          induction n_35 with
          | zero => intro i J35 hi hm_35; exact absurd hm_35 (Nat.not_lt_zero _)
          | succ n_35 ih35 =>
            intro i J35 hi hm_35 H locs ls hh hl
            refine lv_iload C.1 C.2.1 d_FT_walk_35 (lv_at hl 4 rfl) ?_
            refine lv_iload_n C.1 C.2.1 d_FT_walk_37 rfl (lv_at hl 2 rfl) ?_
            refine lv_icmp_ge (tgt := 61) C.1 C.2.1 d_FT_walk_38 (by decide) (fun c_11 => ?_) (fun c_11 => ?_)
            · -- 38 -> 61
              have c_11 := gm_get (by omega) (by omega) c_11
              have c_11' := Nat.not_lt.mpr c_11
              refine lv_iload_n C.1 C.2.1 d_FT_walk_61 rfl (lv_at hl 2 rfl) ?_
              exact gr_i C hlk hret rfl hh (by rfl) d_FT_walk_62
            · -- 38 -> 41
              have c_11 := gm_gef (by omega) (by omega) c_11
              have c_11' := Nat.not_le.mpr c_11
              refine lv_aload_n C.1 C.2.1 d_FT_walk_41 rfl (lv_at hl 3 rfl) ?_
              refine lv_aload_n C.1 C.2.1 d_FT_walk_42 rfl (lv_at hl 3 rfl) ?_
              refine gn_r C hh hp_10.1 rfl in_Lp 4 (by decide) rfl tw_165 rfl d_FT_walk_43 ?_
              refine gc_i hh (gc_runV (As := [.ref (p_10 + 4)]) (rest := []) (n := 1) C hml hh (c_Lp_advance l D cs sh sz I J35 p_10 hp_10 (by have h_ := hV.2.1 j_6 (by omega); rw [← ep_10] at h_; exact h_ : inv_Lp I p_10) (p_10 + 4) hp_10.2.2.2.1 (by omega)) (tg_V tw_517 tw_518 tw_519 tw_59 tw_520) (by decide +kernel) ⟨rfl, rfl, by decide, by decide, Nat.zero_le _, Nat.zero_le _⟩ hp_10.1 rfl rfl hl.1 rfl (Nat.le_of_ble_eq_true rfl) d_FT_walk_46) (fun r_12 I_13 J_14 H locs hr_12 hh => ?_)
              have ihr_12 : I_13 = I := by obtain ⟨_, _, _, h_⟩ := hr_12; exact (Prod.mk.inj h_).1
              rw [ihr_12] at hh hr_12
              refine lv_if_ge (tgt := 55) C.1 C.2.1 d_FT_walk_49 (by decide) (fun c_15 => ?_) (fun c_15 => ?_)
              · -- 49 -> 55
                skip
                refine lv_iinc (v := nI (i + 1)) (lv' := [(4, .int (nI (i + 1))), (0, .ref B), (1, .int (nI j_6)), (2, .int (nI i_8)), (3, .ref p_10)]) C.1 C.2.1 d_FT_walk_55 hl (k := 4) rfl (gm_inc i 1) (by decide) rfl (fun ls hl => ?_)
                refine lv_goto (tgt := 35) C.1 C.2.1 d_FT_walk_58 (by decide) ?_
                exact ih35 (i + 1) J_14 (by omega) (by omega) _ _ _ hh (lv_sub hl [1, 2, 3, 4, 0] rfl)
              · -- 49 -> 52
                skip
                refine lv_iload C.1 C.2.1 d_FT_walk_52 (lv_at hl 4 rfl) ?_
                exact gr_i C hlk hret rfl hh (by rfl) d_FT_walk_54
        exact K35 _ 0 J (by omega) (Nat.lt_succ_self _) _ _ _ hh (lv_sub hl [2, 3, 4, 1, 0] rfl)
      · -- 19 -> 22
        have c_9 := gm_lef (by omega) (by omega) c_9
        have c_9' := Nat.not_le.mpr c_9
        refine lv_bipush (v := (-3)) C.1 C.2.1 d_FT_walk_22 rfl ?_
        exact gr_i C hlk hret rfl hh (by rfl) d_FT_walk_24
  · -- 5 -> 8
    have b_16 := bI_f hr_1 c_4
    skip
    refine lv_bipush (v := (-2)) C.1 C.2.1 d_FT_walk_8 rfl ?_
    exact gr_i C hlk hret rfl hh (by rfl) d_FT_walk_10

set_option maxHeartbeats 4000000 in
set_option maxRecDepth 100000 in
theorem c_FT_ringFrom (l : Launch) (D : va_G) (cs : Nat → ClassId) (sh : gm_H) (sz : Nat) (I : gm_I) (J : gm_J) (B : Nat) (hF : is_FT cs sh B) (hV : inv_FT I B) (j o : Nat) (hj : j < 8) (eo : o = B + 12 + 21 * j) (ho : is_Lp cs sh o) (a b c : Int32) : CI l y_FT_ringFrom w_FT_ringFrom { frames := 3, cells := 0, slots := 0, locals := 70 } D cs sh sz I J [.ref B, .ref o, .int a, .int b, .int c] (fun _ u => u.1 = I) := by
  refine gm_start (by decide) (Nat.le_of_ble_eq_true rfl) ?_
  intro p' e' s' m' be' me' co' ls C hml hlk hret hh hl
  have hl : lv_has ls 6 [(0, .ref B), (1, .ref o), (2, .int a), (3, .int b), (4, .int c)] := hl
  refine lv_aload_n C.1 C.2.1 d_FT_ringFrom_0 rfl (lv_at hl 0 rfl) ?_
  refine gg_r C hh hF.1 rfl in_FT 8 (by decide) rfl tw_218 rfl d_FT_ringFrom_1 ?_
  refine lv_iconst (v := nI 0) C.1 C.2.1 d_FT_ringFrom_4 rfl ?_
  refine lv_iload_n C.1 C.2.1 d_FT_ringFrom_5 rfl (lv_at hl 2 rfl) ?_
  refine lv_i2l (v := a.toInt64) C.1 C.2.1 d_FT_ringFrom_6 rfl ?_
  refine gs_l C hh hF.2.2.2.2.2.2.2.1 (k := 0) rfl (by omega) (by omega) d_FT_ringFrom_7 (fun H locs hh => ?_)
  obtain ⟨J_1, eJ_1⟩ : ∃ z : gm_J, z = gm_up J (B + 9) 0 a.toInt64 := ⟨_, rfl⟩
  rw [← eJ_1] at hh
  refine lv_aload_n C.1 C.2.1 d_FT_ringFrom_8 rfl (lv_at hl 0 rfl) ?_
  refine gg_r C hh hF.1 rfl in_FT 8 (by decide) rfl tw_218 rfl d_FT_ringFrom_9 ?_
  refine lv_iconst (v := nI 1) C.1 C.2.1 d_FT_ringFrom_12 rfl ?_
  refine lv_iload_n C.1 C.2.1 d_FT_ringFrom_13 rfl (lv_at hl 3 rfl) ?_
  refine lv_i2l (v := b.toInt64) C.1 C.2.1 d_FT_ringFrom_14 rfl ?_
  refine gs_l C hh hF.2.2.2.2.2.2.2.1 (k := 1) rfl (by omega) (by omega) d_FT_ringFrom_15 (fun H locs hh => ?_)
  obtain ⟨J_2, eJ_2⟩ : ∃ z : gm_J, z = gm_up J_1 (B + 9) 1 b.toInt64 := ⟨_, rfl⟩
  rw [← eJ_2] at hh
  refine lv_aload_n C.1 C.2.1 d_FT_ringFrom_16 rfl (lv_at hl 0 rfl) ?_
  refine gg_r C hh hF.1 rfl in_FT 8 (by decide) rfl tw_218 rfl d_FT_ringFrom_17 ?_
  refine lv_iconst (v := nI 2) C.1 C.2.1 d_FT_ringFrom_20 rfl ?_
  refine lv_iload C.1 C.2.1 d_FT_ringFrom_21 (lv_at hl 4 rfl) ?_
  refine lv_i2l (v := c.toInt64) C.1 C.2.1 d_FT_ringFrom_23 rfl ?_
  refine gs_l C hh hF.2.2.2.2.2.2.2.1 (k := 2) rfl (by omega) (by omega) d_FT_ringFrom_24 (fun H locs hh => ?_)
  obtain ⟨J_3, eJ_3⟩ : ∃ z : gm_J, z = gm_up J_2 (B + 9) 2 c.toInt64 := ⟨_, rfl⟩
  rw [← eJ_3] at hh
  refine lv_aload_n C.1 C.2.1 d_FT_ringFrom_25 rfl (lv_at hl 0 rfl) ?_
  refine gg_r C hh hF.1 rfl in_FT 8 (by decide) rfl tw_218 rfl d_FT_ringFrom_26 ?_
  refine lv_aload_n C.1 C.2.1 d_FT_ringFrom_29 rfl (lv_at hl 0 rfl) ?_
  refine gg_r C hh hF.1 rfl in_FT 9 (by decide) rfl tw_219 rfl d_FT_ringFrom_30 ?_
  refine gc_v hh (gc_runS (As := [.ref (B + 9), .ref (B + 10)]) (rest := []) (n := 2) C hml hh (c_FT_copyState l D cs sh sz I J_3 (B + 9) (B + 10) hF.2.2.2.2.2.2.2.1 hF.2.2.2.2.2.2.2.2.1 (by omega)) (tg_S tw_551 tw_532 tw_57 tw_533) (by decide +kernel) ⟨rfl, rfl, by decide, by decide, Nat.zero_le _, Nat.zero_le _⟩ rfl hl.1 rfl (Nat.le_of_ble_eq_true rfl) d_FT_ringFrom_33) (fun I_5 J_6 H locs hr_4 hh => ?_)
  rw [(Prod.mk.inj hr_4).1, (Prod.mk.inj hr_4).2] at hh
  refine lv_aload_n C.1 C.2.1 d_FT_ringFrom_36 rfl (lv_at hl 0 rfl) ?_
  refine gg_r C hh hF.1 rfl in_FT 8 (by decide) rfl tw_218 rfl d_FT_ringFrom_37 ?_
  refine lv_aload_n C.1 C.2.1 d_FT_ringFrom_40 rfl (lv_at hl 0 rfl) ?_
  refine gg_r C hh hF.1 rfl in_FT 10 (by decide) rfl tw_220 rfl d_FT_ringFrom_41 ?_
  refine gc_v hh (gc_runS (As := [.ref (B + 9), .ref (B + 11)]) (rest := []) (n := 2) C hml hh (c_FT_copyState l D cs sh sz I (set3 J_3 (B + 10) (get3 J_3 (B + 9))) (B + 9) (B + 11) hF.2.2.2.2.2.2.2.1 hF.2.2.2.2.2.2.2.2.2.1 (by omega)) (tg_S tw_551 tw_532 tw_57 tw_533) (by decide +kernel) ⟨rfl, rfl, by decide, by decide, Nat.zero_le _, Nat.zero_le _⟩ rfl hl.1 rfl (Nat.le_of_ble_eq_true rfl) d_FT_ringFrom_44) (fun I_8 J_9 H locs hr_7 hh => ?_)
  rw [(Prod.mk.inj hr_7).1, (Prod.mk.inj hr_7).2] at hh
  refine lv_iconst (v := nI 1) C.1 C.2.1 d_FT_ringFrom_47 rfl ?_
  refine lv_istore (lv' := [(5, .int (nI 1)), (0, .ref B), (1, .ref o), (2, .int a), (3, .int b), (4, .int c)]) C.1 C.2.1 d_FT_ringFrom_48 hl (by decide) rfl (fun ls hl => ?_)
  have K50 : ∀ (n_50 : Nat) (i : Nat) (J50 : gm_J) (hi : i ≤ 201) (hm_50 : 202 - i < n_50), ∀ (H : Heap) (locs : List Loc) (ls : Array Slot), gm_St D cs sh (gm_A sh) s'.heap sz I J50 H locs → lv_has ls 6 [(0, .ref B), (1, .ref o), (2, .int a), (3, .int b), (4, .int c), (5, .int (nI i))] → W p' l e' { frames := 3, cells := 0, slots := 0, locals := 70 } s' m' ([.ref B, .ref o, .int a, .int b, .int c] : List Value).toArray be' me' co' H locs 0 0 (MQ be' (va_Qi (fun _ u => u.1 = I) (gm_B D cs sh sz) (gm_A sh)) ([.ref B, .ref o, .int a, .int b, .int c] : List Value).toArray s' 0 0 (gm_A sh)) (F0 m' 50 ls []) := by
    intro n_50
    induction n_50 with
    | zero => intro i J50 hi hm_50; exact absurd hm_50 (Nat.not_lt_zero _)
    | succ n_50 ih50 =>
      intro i J50 hi hm_50 H locs ls hh hl
      refine lv_iload C.1 C.2.1 d_FT_ringFrom_50 (lv_at hl 5 rfl) ?_
      refine lv_sipush (v := nI 200) C.1 C.2.1 d_FT_ringFrom_52 rfl ?_
      refine lv_icmp_gt (tgt := 131) C.1 C.2.1 d_FT_ringFrom_55 (by decide) (fun c_10 => ?_) (fun c_10 => ?_)
      · -- 55 -> 131
        have c_10 := gm_gtt (by omega) (by omega) c_10
        have c_10' := Nat.not_le.mpr c_10
        refine lv_iconst (v := nI 0) C.1 C.2.1 d_FT_ringFrom_131 rfl ?_
        exact gr_i C hlk hret rfl hh (by rfl) d_FT_ringFrom_132
      · -- 55 -> 58
        have c_10 := gm_gtf (by omega) (by omega) c_10
        have c_10' := Nat.not_lt.mpr c_10
        refine lv_aload_n C.1 C.2.1 d_FT_ringFrom_58 rfl (lv_at hl 1 rfl) ?_
        refine lv_aload_n C.1 C.2.1 d_FT_ringFrom_59 rfl (lv_at hl 0 rfl) ?_
        refine gg_r C hh hF.1 rfl in_FT 9 (by decide) rfl tw_219 rfl d_FT_ringFrom_60 ?_
        refine gc_i hh (gc_runV (As := [.ref (B + 10)]) (rest := []) (n := 1) C hml hh (c_Lp_advance l D cs sh sz I J50 o ho (by have h_ := hV.2.1 j (by omega); rw [← eo] at h_; exact h_ : inv_Lp I o) (B + 10) hF.2.2.2.2.2.2.2.2.1 (by omega)) (tg_V tw_517 tw_518 tw_519 tw_59 tw_520) (by decide +kernel) ⟨rfl, rfl, by decide, by decide, Nat.zero_le _, Nat.zero_le _⟩ ho.1 rfl rfl hl.1 rfl (Nat.le_of_ble_eq_true rfl) d_FT_ringFrom_63) (fun r_11 I_12 J_13 H locs hr_11 hh => ?_)
        have ihr_11 : I_12 = I := by obtain ⟨_, _, _, h_⟩ := hr_11; exact (Prod.mk.inj h_).1
        rw [ihr_11] at hh hr_11
        refine lv_if_ge (tgt := 71) C.1 C.2.1 d_FT_ringFrom_66 (by decide) (fun c_14 => ?_) (fun c_14 => ?_)
        · -- 66 -> 71
          skip
          refine lv_aload_n C.1 C.2.1 d_FT_ringFrom_71 rfl (lv_at hl 0 rfl) ?_
          refine gg_r C hh hF.1 rfl in_FT 9 (by decide) rfl tw_219 rfl d_FT_ringFrom_72 ?_
          refine lv_aload_n C.1 C.2.1 d_FT_ringFrom_75 rfl (lv_at hl 0 rfl) ?_
          refine gg_r C hh hF.1 rfl in_FT 8 (by decide) rfl tw_218 rfl d_FT_ringFrom_76 ?_
          refine gc_i hh (gc_runS (As := [.ref (B + 10), .ref (B + 9)]) (rest := []) (n := 2) C hml hh (c_FT_sameState l D cs sh sz I J_13 (B + 10) (B + 9) hF.2.2.2.2.2.2.2.2.1 hF.2.2.2.2.2.2.2.1) (tg_S tw_552 tw_553 tw_57 tw_554) (by decide +kernel) ⟨rfl, rfl, by decide, by decide, Nat.zero_le _, Nat.zero_le _⟩ rfl hl.1 rfl (Nat.le_of_ble_eq_true rfl) d_FT_ringFrom_79) (fun r_15 I_16 J_17 H locs hr_15 hh => ?_)
          obtain ⟨e_r_15, hr_15⟩ := hr_15
          rw [(Prod.mk.inj e_r_15).1, (Prod.mk.inj e_r_15).2] at hh
          refine lv_if_eq (tgt := 88) C.1 C.2.1 d_FT_ringFrom_82 (by decide) (fun c_18 => ?_) (fun c_18 => ?_)
          · -- 82 -> 88
            have b_19 := bI_f hr_15 c_18
            skip
            refine lv_aload_n C.1 C.2.1 d_FT_ringFrom_88 rfl (lv_at hl 0 rfl) ?_
            refine gg_r C hh hF.1 rfl in_FT 9 (by decide) rfl tw_219 rfl d_FT_ringFrom_89 ?_
            refine lv_aload_n C.1 C.2.1 d_FT_ringFrom_92 rfl (lv_at hl 0 rfl) ?_
            refine gg_r C hh hF.1 rfl in_FT 10 (by decide) rfl tw_220 rfl d_FT_ringFrom_93 ?_
            refine gc_i hh (gc_runS (As := [.ref (B + 10), .ref (B + 11)]) (rest := []) (n := 2) C hml hh (c_FT_sameState l D cs sh sz I J_13 (B + 10) (B + 11) hF.2.2.2.2.2.2.2.2.1 hF.2.2.2.2.2.2.2.2.2.1) (tg_S tw_552 tw_553 tw_57 tw_554) (by decide +kernel) ⟨rfl, rfl, by decide, by decide, Nat.zero_le _, Nat.zero_le _⟩ rfl hl.1 rfl (Nat.le_of_ble_eq_true rfl) d_FT_ringFrom_96) (fun r_20 I_21 J_22 H locs hr_20 hh => ?_)
            obtain ⟨e_r_20, hr_20⟩ := hr_20
            rw [(Prod.mk.inj e_r_20).1, (Prod.mk.inj e_r_20).2] at hh
            refine lv_if_eq (tgt := 104) C.1 C.2.1 d_FT_ringFrom_99 (by decide) (fun c_23 => ?_) (fun c_23 => ?_)
            · -- 99 -> 104
              have b_24 := bI_f hr_20 c_23
              skip
              refine lv_iload C.1 C.2.1 d_FT_ringFrom_104 (lv_at hl 5 rfl) ?_
              refine lv_iload C.1 C.2.1 d_FT_ringFrom_106 (lv_at hl 5 rfl) ?_
              refine lv_iconst (v := nI 1) C.1 C.2.1 d_FT_ringFrom_108 rfl ?_
              refine lv_isub C.1 C.2.1 d_FT_ringFrom_109 ?_
              refine lv_iand C.1 C.2.1 d_FT_ringFrom_110 ?_
              refine lv_if_ne (tgt := 125) C.1 C.2.1 d_FT_ringFrom_111 (by decide) (fun c_25 => ?_) (fun c_25 => ?_)
              · -- 111 -> 125
                skip
                refine lv_iinc (v := nI (i + 1)) (lv' := [(5, .int (nI (i + 1))), (0, .ref B), (1, .ref o), (2, .int a), (3, .int b), (4, .int c)]) C.1 C.2.1 d_FT_ringFrom_125 hl (k := 5) rfl (gm_inc i 1) (by decide) rfl (fun ls hl => ?_)
                refine lv_goto (tgt := 50) C.1 C.2.1 d_FT_ringFrom_128 (by decide) ?_
                exact ih50 (i + 1) J_13 (by omega) (by omega) _ _ _ hh (lv_sub hl [1, 2, 3, 4, 5, 0] rfl)
              · -- 111 -> 114
                skip
                refine lv_aload_n C.1 C.2.1 d_FT_ringFrom_114 rfl (lv_at hl 0 rfl) ?_
                refine gg_r C hh hF.1 rfl in_FT 9 (by decide) rfl tw_219 rfl d_FT_ringFrom_115 ?_
                refine lv_aload_n C.1 C.2.1 d_FT_ringFrom_118 rfl (lv_at hl 0 rfl) ?_
                refine gg_r C hh hF.1 rfl in_FT 10 (by decide) rfl tw_220 rfl d_FT_ringFrom_119 ?_
                refine gc_v hh (gc_runS (As := [.ref (B + 10), .ref (B + 11)]) (rest := []) (n := 2) C hml hh (c_FT_copyState l D cs sh sz I J_13 (B + 10) (B + 11) hF.2.2.2.2.2.2.2.2.1 hF.2.2.2.2.2.2.2.2.2.1 (by omega)) (tg_S tw_551 tw_532 tw_57 tw_533) (by decide +kernel) ⟨rfl, rfl, by decide, by decide, Nat.zero_le _, Nat.zero_le _⟩ rfl hl.1 rfl (Nat.le_of_ble_eq_true rfl) d_FT_ringFrom_122) (fun I_27 J_28 H locs hr_26 hh => ?_)
                rw [(Prod.mk.inj hr_26).1, (Prod.mk.inj hr_26).2] at hh
                refine lv_iinc (v := nI (i + 1)) (lv' := [(5, .int (nI (i + 1))), (0, .ref B), (1, .ref o), (2, .int a), (3, .int b), (4, .int c)]) C.1 C.2.1 d_FT_ringFrom_125 hl (k := 5) rfl (gm_inc i 1) (by decide) rfl (fun ls hl => ?_)
                refine lv_goto (tgt := 50) C.1 C.2.1 d_FT_ringFrom_128 (by decide) ?_
                exact ih50 (i + 1) (set3 J_13 (B + 11) (get3 J_13 (B + 10))) (by omega) (by omega) _ _ _ hh (lv_sub hl [1, 2, 3, 4, 5, 0] rfl)
            · -- 99 -> 102
              have b_29 := bI_t hr_20 c_23
              skip
              refine lv_iconst (v := nI 0) C.1 C.2.1 d_FT_ringFrom_102 rfl ?_
              exact gr_i C hlk hret rfl hh (by rfl) d_FT_ringFrom_103
          · -- 82 -> 85
            have b_30 := bI_t hr_15 c_18
            skip
            refine lv_iload C.1 C.2.1 d_FT_ringFrom_85 (lv_at hl 5 rfl) ?_
            exact gr_i C hlk hret rfl hh (by rfl) d_FT_ringFrom_87
        · -- 66 -> 69
          skip
          refine lv_iconst (v := nI 0) C.1 C.2.1 d_FT_ringFrom_69 rfl ?_
          exact gr_i C hlk hret rfl hh (by rfl) d_FT_ringFrom_70
  exact K50 _ 1 (set3 (set3 J_3 (B + 10) (get3 J_3 (B + 9))) (B + 11) (get3 (set3 J_3 (B + 10) (get3 J_3 (B + 9))) (B + 9))) (by omega) (Nat.lt_succ_self _) _ _ _ hh (lv_sub hl [1, 2, 3, 4, 5, 0] rfl)

set_option maxHeartbeats 4000000 in
set_option maxRecDepth 100000 in
theorem c_FT_ring (l : Launch) (D : va_G) (cs : Nat → ClassId) (sh : gm_H) (sz : Nat) (I : gm_I) (J : gm_J) (B : Nat) (hF : is_FT cs sh B) (hV : inv_FT I B) (n : Nat) (en : I B 1 = nI n) (hn : n ≤ 8) (v w : Int32) : CI l y_FT_ring w_FT_ring { frames := 4, cells := 0, slots := 0, locals := 95 } D cs sh sz I J [.ref B, .int v, .int w] (fun _ u => u.1 = I) := by
  refine gm_start (by decide) (Nat.le_of_ble_eq_true rfl) ?_
  intro p' e' s' m' be' me' co' ls C hml hlk hret hh hl
  have hl : lv_has ls 10 [(0, .ref B), (1, .int v), (2, .int w)] := hl
  refine lv_aload_n C.1 C.2.1 d_FT_ring_0 rfl (lv_at hl 0 rfl) ?_
  refine lv_iload_n C.1 C.2.1 d_FT_ring_1 rfl (lv_at hl 1 rfl) ?_
  refine gc_i hh (gc_runV (As := [.int v]) (rest := []) (n := 1) C hml hh (c_FT_isLoop l D cs sh sz I J B hF hV n en hn v) (tg_V tw_264 tw_266 tw_0 tw_57 tw_267) (by decide +kernel) ⟨rfl, rfl, by decide, by decide, Nat.zero_le _, Nat.zero_le _⟩ hF.1 rfl rfl hl.1 rfl (Nat.le_of_ble_eq_true rfl) d_FT_ring_2) (fun r_1 I_2 J_3 H locs hr_1 hh => ?_)
  obtain ⟨e_r_1, hr_1⟩ := hr_1
  rw [(Prod.mk.inj e_r_1).1, (Prod.mk.inj e_r_1).2] at hh
  refine lv_if_ne (tgt := 11) C.1 C.2.1 d_FT_ring_5 (by decide) (fun c_4 => ?_) (fun c_4 => ?_)
  · -- 5 -> 11
    have b_5 := bI_t hr_1 c_4
    obtain ⟨j_6, hj_6, ej_6⟩ := inI_nat (by omega) b_5
    subst ej_6
    skip
    refine lv_iload_n C.1 C.2.1 d_FT_ring_11 rfl (lv_at hl 2 rfl) ?_
    refine lv_if_lt (tgt := 21) C.1 C.2.1 d_FT_ring_12 (by decide) (fun c_7 => ?_) (fun c_7 => ?_)
    · -- 12 -> 21
      skip
      refine lv_bipush (v := (-3)) C.1 C.2.1 d_FT_ring_21 rfl ?_
      exact gr_i C hlk hret rfl hh (by rfl) d_FT_ring_23
    · -- 12 -> 15
      skip
      obtain ⟨i_8, hi_8, ei_8⟩ := nI_of (by assumption : ¬ w < 0)
      subst ei_8
      refine lv_iload_n C.1 C.2.1 d_FT_ring_15 rfl (lv_at hl 2 rfl) ?_
      refine lv_bipush (v := nI 6) C.1 C.2.1 d_FT_ring_16 rfl ?_
      refine lv_icmp_le (tgt := 24) C.1 C.2.1 d_FT_ring_18 (by decide) (fun c_9 => ?_) (fun c_9 => ?_)
      · -- 18 -> 24
        have c_9 := gm_let (by omega) (by omega) c_9
        have c_9' := Nat.not_lt.mpr c_9
        refine lv_aload_n C.1 C.2.1 d_FT_ring_24 rfl (lv_at hl 0 rfl) ?_
        refine gg_r C hh hF.1 rfl in_FT 0 (by decide) rfl tw_210 rfl d_FT_ring_25 ?_
        refine lv_iload_n C.1 C.2.1 d_FT_ring_28 rfl (lv_at hl 1 rfl) ?_
        refine ga_q C hh 2 hF.2.1 (Cn := "FallingTerms$Loop") rfl (k := j_6) (v := B + 12 + 21 * j_6) rfl (by omega) (by omega) (if_pos (by omega)) d_FT_ring_29 ?_
        obtain ⟨p_10, ep_10⟩ : ∃ z : Nat, z = B + 12 + 21 * j_6 := ⟨_, rfl⟩
        have hp_10 : is_Lp cs sh p_10 := by rw [ep_10]; exact hF.2.2.2.2.2.2.2.2.2.2 j_6 (by omega)
        refine gm_eqr ep_10.symm ?_
        refine lv_astore_n (lv' := [(3, .ref p_10), (0, .ref B), (1, .int (nI j_6)), (2, .int (nI i_8))]) C.1 C.2.1 d_FT_ring_30 rfl hl (by decide) rfl (fun ls hl => ?_)
        refine lv_aload_n C.1 C.2.1 d_FT_ring_31 rfl (lv_at hl 0 rfl) ?_
        refine lv_iconst (v := nI 1) C.1 C.2.1 d_FT_ring_32 rfl ?_
        refine lv_iload_n C.1 C.2.1 d_FT_ring_33 rfl (lv_at hl 3 rfl) ?_
        obtain ⟨nm_11, hnm_11, enm_11⟩ := (by have h_ := hV.2.1 j_6 (by omega); rw [← ep_10] at h_; exact h_ : inv_Lp I p_10).1
        refine gc_i hh (gc_runV (As := [.int (nI 1), .int (nI i_8)]) (rest := []) (n := 2) C hml hh (c_Lp_reach l D cs sh sz I J p_10 hp_10 nm_11 1 enm_11 hnm_11 (by omega) (nI i_8)) (tg_V tw_461 tw_436 tw_437 tw_59 tw_438) (by decide +kernel) ⟨rfl, rfl, by decide, by decide, Nat.zero_le _, Nat.zero_le _⟩ hp_10.1 rfl rfl hl.1 rfl (Nat.le_of_ble_eq_true rfl) d_FT_ring_34) (fun r_12 I_13 J_14 H locs hr_12 hh => ?_)
        obtain ⟨e_r_12, hr_12⟩ := hr_12
        rw [(Prod.mk.inj e_r_12).1, (Prod.mk.inj e_r_12).2] at hh
        obtain ⟨g_15, hg_15, eg_15⟩ := reachN hr_12
        rw [eg_15]
        refine lv_istore (lv' := [(4, .int (nI g_15)), (3, .ref p_10), (0, .ref B), (1, .int (nI j_6)), (2, .int (nI i_8))]) C.1 C.2.1 d_FT_ring_37 hl (by decide) rfl (fun ls hl => ?_)
        refine lv_aload_n C.1 C.2.1 d_FT_ring_39 rfl (lv_at hl 1 rfl) ?_
        refine lv_iconst (v := nI 2) C.1 C.2.1 d_FT_ring_40 rfl ?_
        refine lv_iload_n C.1 C.2.1 d_FT_ring_41 rfl (lv_at hl 4 rfl) ?_
        obtain ⟨nm_16, hnm_16, enm_16⟩ := (by have h_ := hV.2.1 j_6 (by omega); rw [← ep_10] at h_; exact h_ : inv_Lp I p_10).1
        refine gc_i hh (gc_runV (As := [.int (nI 2), .int (nI i_8)]) (rest := []) (n := 2) C hml hh (c_Lp_reach l D cs sh sz I J p_10 hp_10 nm_16 2 enm_16 hnm_16 (by omega) (nI i_8)) (tg_V tw_461 tw_436 tw_437 tw_59 tw_438) (by decide +kernel) ⟨rfl, rfl, by decide, by decide, Nat.zero_le _, Nat.zero_le _⟩ hp_10.1 rfl rfl hl.1 rfl (Nat.le_of_ble_eq_true rfl) d_FT_ring_42) (fun r_17 I_18 J_19 H locs hr_17 hh => ?_)
        obtain ⟨e_r_17, hr_17⟩ := hr_17
        rw [(Prod.mk.inj e_r_17).1, (Prod.mk.inj e_r_17).2] at hh
        obtain ⟨g_20, hg_20, eg_20⟩ := reachN hr_17
        rw [eg_20]
        refine lv_istore (lv' := [(5, .int (nI g_20)), (4, .int (nI g_15)), (3, .ref p_10), (0, .ref B), (1, .int (nI j_6)), (2, .int (nI i_8))]) C.1 C.2.1 d_FT_ring_45 hl (by decide) rfl (fun ls hl => ?_)
        refine lv_iload_n C.1 C.2.1 d_FT_ring_47 rfl (lv_at hl 5 rfl) ?_
        refine lv_ineg C.1 C.2.1 d_FT_ring_48 ?_
        refine lv_istore (lv' := [(6, .int (-(nI i_8))), (5, .int (nI g_20)), (4, .int (nI g_15)), (3, .ref p_10), (0, .ref B), (1, .int (nI j_6)), (2, .int (nI i_8))]) C.1 C.2.1 d_FT_ring_49 hl (by decide) rfl (fun ls hl => ?_)
        have K51 : ∀ (n_51 : Nat) (a : Int32) (J51 : gm_J) (ha1 : -7 ≤ a.toInt) (ha2 : a.toInt ≤ 7) (hm_51 : (8 - a.toInt).toNat < n_51), ∀ (H : Heap) (locs : List Loc) (ls : Array Slot), gm_St D cs sh (gm_A sh) s'.heap sz I J51 H locs → lv_has ls 10 [(0, .ref B), (1, .int (nI j_6)), (2, .int (nI i_8)), (3, .ref p_10), (4, .int (nI g_15)), (5, .int (nI g_20)), (6, .int a)] → W p' l e' { frames := 4, cells := 0, slots := 0, locals := 95 } s' m' ([.ref B, .int (nI j_6), .int (nI i_8)] : List Value).toArray be' me' co' H locs 0 0 (MQ be' (va_Qi (fun _ u => u.1 = I) (gm_B D cs sh sz) (gm_A sh)) ([.ref B, .int (nI j_6), .int (nI i_8)] : List Value).toArray s' 0 0 (gm_A sh)) (F0 m' 51 ls []) := by
          intro n_51
          induction n_51 with
          | zero => intro a J51 ha1 ha2 hm_51; exact absurd hm_51 (Nat.not_lt_zero _)
          | succ n_51 ih51 =>
            intro a J51 ha1 ha2 hm_51 H locs ls hh hl
            refine lv_iload C.1 C.2.1 d_FT_ring_51 (lv_at hl 6 rfl) ?_
            refine lv_iload_n C.1 C.2.1 d_FT_ring_53 rfl (lv_at hl 2 rfl) ?_
            refine lv_icmp_gt (tgt := 131) C.1 C.2.1 d_FT_ring_54 (by decide) (fun c_21 => ?_) (fun c_21 => ?_)
            · -- 54 -> 131
              skip
              refine lv_iconst (v := nI 0) C.1 C.2.1 d_FT_ring_131 rfl ?_
              exact gr_i C hlk hret rfl hh (by rfl) d_FT_ring_132
            · -- 54 -> 57
              skip
              have lo_a := loI (by omega) (by assumption : ¬ nI i_8 < a)
              refine lv_iload C.1 C.2.1 d_FT_ring_57 (lv_at hl 4 rfl) ?_
              refine lv_ineg C.1 C.2.1 d_FT_ring_59 ?_
              refine lv_istore (lv' := [(7, .int (-(nI g_15))), (0, .ref B), (1, .int (nI j_6)), (2, .int (nI i_8)), (3, .ref p_10), (4, .int (nI g_15)), (5, .int (nI g_20)), (6, .int a)]) C.1 C.2.1 d_FT_ring_60 hl (by decide) rfl (fun ls hl => ?_)
              have K62 : ∀ (n_62 : Nat) (b : Int32) (J62 : gm_J) (hb1 : -7 ≤ b.toInt) (hb2 : b.toInt ≤ 7) (hm_62 : (8 - b.toInt).toNat < n_62), ∀ (H : Heap) (locs : List Loc) (ls : Array Slot), gm_St D cs sh (gm_A sh) s'.heap sz I J62 H locs → lv_has ls 10 [(0, .ref B), (1, .int (nI j_6)), (2, .int (nI i_8)), (3, .ref p_10), (4, .int (nI g_15)), (5, .int (nI g_20)), (6, .int a), (7, .int b)] → W p' l e' { frames := 4, cells := 0, slots := 0, locals := 95 } s' m' ([.ref B, .int (nI j_6), .int (nI i_8)] : List Value).toArray be' me' co' H locs 0 0 (MQ be' (va_Qi (fun _ u => u.1 = I) (gm_B D cs sh sz) (gm_A sh)) ([.ref B, .int (nI j_6), .int (nI i_8)] : List Value).toArray s' 0 0 (gm_A sh)) (F0 m' 62 ls []) := by
                intro n_62
                induction n_62 with
                | zero => intro b J62 hb1 hb2 hm_62; exact absurd hm_62 (Nat.not_lt_zero _)
                | succ n_62 ih62 =>
                  intro b J62 hb1 hb2 hm_62 H locs ls hh hl
                  refine lv_iload C.1 C.2.1 d_FT_ring_62 (lv_at hl 7 rfl) ?_
                  refine lv_iload C.1 C.2.1 d_FT_ring_64 (lv_at hl 4 rfl) ?_
                  refine lv_icmp_gt (tgt := 125) C.1 C.2.1 d_FT_ring_66 (by decide) (fun c_22 => ?_) (fun c_22 => ?_)
                  · -- 66 -> 125
                    skip
                    obtain ⟨x_23, ex_23⟩ : ∃ z : Int32, z = a + Int32.ofInt 1 := ⟨_, rfl⟩
                    refine lv_iinc (v := x_23) (lv' := [(6, .int x_23), (0, .ref B), (1, .int (nI j_6)), (2, .int (nI i_8)), (3, .ref p_10), (4, .int (nI g_15)), (5, .int (nI g_20)), (7, .int b)]) C.1 C.2.1 d_FT_ring_125 hl (k := 6) rfl (ex_23.symm) (by decide) rfl (fun ls hl => ?_)
                    refine lv_goto (tgt := 51) C.1 C.2.1 d_FT_ring_128 (by decide) ?_
                    have nx_a : x_23.toInt = a.toInt + 1 := by rw [ex_23]; exact incT (by omega) (by omega)
                    exact ih51 x_23 J62 (by omega) (by omega) (by omega) _ _ _ hh (lv_sub hl [1, 2, 3, 4, 5, 6, 0] rfl)
                  · -- 66 -> 69
                    skip
                    have lo_b := loI (by omega) (by assumption : ¬ nI g_15 < b)
                    refine lv_iload C.1 C.2.1 d_FT_ring_69 (lv_at hl 5 rfl) ?_
                    refine lv_ineg C.1 C.2.1 d_FT_ring_71 ?_
                    refine lv_istore (lv' := [(8, .int (-(nI g_20))), (0, .ref B), (1, .int (nI j_6)), (2, .int (nI i_8)), (3, .ref p_10), (4, .int (nI g_15)), (5, .int (nI g_20)), (6, .int a), (7, .int b)]) C.1 C.2.1 d_FT_ring_72 hl (by decide) rfl (fun ls hl => ?_)
                    have K74 : ∀ (n_74 : Nat) (c : Int32) (J74 : gm_J) (hc1 : -7 ≤ c.toInt) (hc2 : c.toInt ≤ 7) (hm_74 : (8 - c.toInt).toNat < n_74), ∀ (H : Heap) (locs : List Loc) (ls : Array Slot), gm_St D cs sh (gm_A sh) s'.heap sz I J74 H locs → lv_has ls 10 [(0, .ref B), (1, .int (nI j_6)), (2, .int (nI i_8)), (3, .ref p_10), (4, .int (nI g_15)), (5, .int (nI g_20)), (6, .int a), (7, .int b), (8, .int c)] → W p' l e' { frames := 4, cells := 0, slots := 0, locals := 95 } s' m' ([.ref B, .int (nI j_6), .int (nI i_8)] : List Value).toArray be' me' co' H locs 0 0 (MQ be' (va_Qi (fun _ u => u.1 = I) (gm_B D cs sh sz) (gm_A sh)) ([.ref B, .int (nI j_6), .int (nI i_8)] : List Value).toArray s' 0 0 (gm_A sh)) (F0 m' 74 ls []) := by
                      intro n_74
                      induction n_74 with
                      | zero => intro c J74 hc1 hc2 hm_74; exact absurd hm_74 (Nat.not_lt_zero _)
                      | succ n_74 ih74 =>
                        intro c J74 hc1 hc2 hm_74 H locs ls hh hl
                        refine lv_iload C.1 C.2.1 d_FT_ring_74 (lv_at hl 8 rfl) ?_
                        refine lv_iload C.1 C.2.1 d_FT_ring_76 (lv_at hl 5 rfl) ?_
                        refine lv_icmp_gt (tgt := 119) C.1 C.2.1 d_FT_ring_78 (by decide) (fun c_24 => ?_) (fun c_24 => ?_)
                        · -- 78 -> 119
                          skip
                          obtain ⟨x_25, ex_25⟩ : ∃ z : Int32, z = b + Int32.ofInt 1 := ⟨_, rfl⟩
                          refine lv_iinc (v := x_25) (lv' := [(7, .int x_25), (0, .ref B), (1, .int (nI j_6)), (2, .int (nI i_8)), (3, .ref p_10), (4, .int (nI g_15)), (5, .int (nI g_20)), (6, .int a), (8, .int c)]) C.1 C.2.1 d_FT_ring_119 hl (k := 7) rfl (ex_25.symm) (by decide) rfl (fun ls hl => ?_)
                          refine lv_goto (tgt := 62) C.1 C.2.1 d_FT_ring_122 (by decide) ?_
                          have nx_b : x_25.toInt = b.toInt + 1 := by rw [ex_25]; exact incT (by omega) (by omega)
                          exact ih62 x_25 J74 (by omega) (by omega) (by omega) _ _ _ hh (lv_sub hl [1, 2, 3, 4, 5, 6, 7, 0] rfl)
                        · -- 78 -> 81
                          skip
                          have lo_c := loI (by omega) (by assumption : ¬ nI g_20 < c)
                          refine lv_aload_n C.1 C.2.1 d_FT_ring_81 rfl (lv_at hl 0 rfl) ?_
                          refine lv_aload_n C.1 C.2.1 d_FT_ring_82 rfl (lv_at hl 3 rfl) ?_
                          refine lv_iload C.1 C.2.1 d_FT_ring_83 (lv_at hl 6 rfl) ?_
                          refine lv_iload C.1 C.2.1 d_FT_ring_85 (lv_at hl 7 rfl) ?_
                          refine lv_iload C.1 C.2.1 d_FT_ring_87 (lv_at hl 8 rfl) ?_
                          refine gc_i hh (gc_runV (As := [.ref p_10, .int a, .int b, .int c]) (rest := []) (n := 4) C hml hh (c_FT_ringFrom l D cs sh sz I J74 B hF hV j_6 p_10 (by omega) ep_10 hp_10 a b c) (tg_V tw_547 tw_549 tw_25 tw_57 tw_550) (by decide +kernel) ⟨rfl, rfl, by decide, by decide, Nat.zero_le _, Nat.zero_le _⟩ hF.1 rfl rfl hl.1 rfl (Nat.le_of_ble_eq_true rfl) d_FT_ring_89) (fun r_26 I_27 J_28 H locs hr_26 hh => ?_)
                          rw [show I_27 = I from hr_26] at hh
                          refine lv_istore (lv' := [(9, .int r_26), (0, .ref B), (1, .int (nI j_6)), (2, .int (nI i_8)), (3, .ref p_10), (4, .int (nI g_15)), (5, .int (nI g_20)), (6, .int a), (7, .int b), (8, .int c)]) C.1 C.2.1 d_FT_ring_92 hl (by decide) rfl (fun ls hl => ?_)
                          refine lv_iload C.1 C.2.1 d_FT_ring_94 (lv_at hl 0 rfl) ?_
                          refine lv_if_le (tgt := 113) C.1 C.2.1 d_FT_ring_96 (by decide) (fun c_29 => ?_) (fun c_29 => ?_)
                          · -- 96 -> 113
                            skip
                            obtain ⟨x_30, ex_30⟩ : ∃ z : Int32, z = c + Int32.ofInt 1 := ⟨_, rfl⟩
                            refine lv_iinc (v := x_30) (lv' := [(8, .int x_30), (9, .int r_26), (0, .ref B), (1, .int (nI j_6)), (2, .int (nI i_8)), (3, .ref p_10), (4, .int (nI g_15)), (5, .int (nI g_20)), (6, .int a), (7, .int b)]) C.1 C.2.1 d_FT_ring_113 hl (k := 9) rfl (ex_30.symm) (by decide) rfl (fun ls hl => ?_)
                            refine lv_goto (tgt := 74) C.1 C.2.1 d_FT_ring_116 (by decide) ?_
                            have nx_c : x_30.toInt = c.toInt + 1 := by rw [ex_30]; exact incT (by omega) (by omega)
                            exact ih74 x_30 J_28 (by omega) (by omega) (by omega) _ _ _ hh (lv_sub hl [2, 3, 4, 5, 6, 7, 8, 9, 0] rfl)
                          · -- 96 -> 99
                            skip
                            refine lv_aload_n C.1 C.2.1 d_FT_ring_99 rfl (lv_at hl 1 rfl) ?_
                            refine gg_r C hh hF.1 rfl in_FT 8 (by decide) rfl tw_218 rfl d_FT_ring_100 ?_
                            refine lv_aload_n C.1 C.2.1 d_FT_ring_103 rfl (lv_at hl 4 rfl) ?_
                            refine gn_r C hh hp_10.1 rfl in_Lp 4 (by decide) rfl tw_165 rfl d_FT_ring_104 ?_
                            refine gc_v hh (gc_runS (As := [.ref (B + 9), .ref (p_10 + 4)]) (rest := []) (n := 2) C hml hh (c_FT_copyState l D cs sh sz I J_28 (B + 9) (p_10 + 4) hF.2.2.2.2.2.2.2.1 hp_10.2.2.2.1 (by omega)) (tg_S tw_551 tw_532 tw_57 tw_533) (by decide +kernel) ⟨rfl, rfl, by decide, by decide, Nat.zero_le _, Nat.zero_le _⟩ rfl hl.1 rfl (Nat.le_of_ble_eq_true rfl) d_FT_ring_107) (fun I_32 J_33 H locs hr_31 hh => ?_)
                            rw [(Prod.mk.inj hr_31).1, (Prod.mk.inj hr_31).2] at hh
                            refine lv_iload C.1 C.2.1 d_FT_ring_110 (lv_at hl 0 rfl) ?_
                            exact gr_i C hlk hret rfl hh (by rfl) d_FT_ring_112
                    exact K74 _ (-(nI g_20)) J62 (by first | decide | (rw [negN (by omega)]; omega)) (by first | decide | (rw [negN (by omega)]; omega)) (Nat.lt_succ_self _) _ _ _ hh (lv_sub hl [1, 2, 3, 4, 5, 6, 7, 8, 0] rfl)
              exact K62 _ (-(nI g_15)) J51 (by first | decide | (rw [negN (by omega)]; omega)) (by first | decide | (rw [negN (by omega)]; omega)) (Nat.lt_succ_self _) _ _ _ hh (lv_sub hl [1, 2, 3, 4, 5, 6, 7, 0] rfl)
        exact K51 _ (-(nI i_8)) J (by first | decide | (rw [negN (by omega)]; omega)) (by first | decide | (rw [negN (by omega)]; omega)) (Nat.lt_succ_self _) _ _ _ hh (lv_sub hl [4, 5, 6, 3, 2, 1, 0] rfl)
      · -- 18 -> 21
        have c_9 := gm_lef (by omega) (by omega) c_9
        have c_9' := Nat.not_le.mpr c_9
        refine lv_bipush (v := (-3)) C.1 C.2.1 d_FT_ring_21 rfl ?_
        exact gr_i C hlk hret rfl hh (by rfl) d_FT_ring_23
  · -- 5 -> 8
    have b_34 := bI_f hr_1 c_4
    skip
    refine lv_bipush (v := (-2)) C.1 C.2.1 d_FT_ring_8 rfl ?_
    exact gr_i C hlk hret rfl hh (by rfl) d_FT_ring_10
