set_option maxHeartbeats 4000000 in
set_option maxRecDepth 100000 in
theorem c_FT_prove (l : Launch) (D : va_G) (cs : Nat → ClassId) (sh : gm_H) (sz : Nat) (I : gm_I) (J : gm_J) (B : Nat) (hF : is_FT cs sh B) (hV : inv_FT I B) (v : Int32) : CI l y_FT_prove w_FT_prove { frames := 6, cells := 0, slots := 0, locals := 159 } D cs sh sz I J [.ref B, .int v] (fun _ u => sfF B I J u) := by
  refine gm_start (by decide) (Nat.le_of_ble_eq_true rfl) ?_
  intro p' e' s' m' be' me' co' ls C hml hlk hret hh hl
  have hl : lv_has ls 2 [(0, .ref B), (1, .int v)] := hl
  obtain ⟨n, hn, en⟩ := hV.1
  have tK_0 : keepF B I I J J := keepF.nil
  have tV_0 : inv_FT I B := hV
  refine lv_aload_n C.1 C.2.1 d_FT_prove_0 rfl (lv_at hl 0 rfl) ?_
  refine lv_iload_n C.1 C.2.1 d_FT_prove_1 rfl (lv_at hl 1 rfl) ?_
  refine gc_i hh (gc_runV (As := [.int v]) (rest := []) (n := 1) C hml hh (c_FT_isLoop l D cs sh sz I J B hF hV n en hn v) (tg_V tw_264 tw_266 tw_0 tw_57 tw_267) (by decide +kernel) ⟨rfl, rfl, by decide, by decide, Nat.zero_le _, Nat.zero_le _⟩ hF.1 rfl rfl hl.1 rfl (Nat.le_of_ble_eq_true rfl) d_FT_prove_2) (fun r_1 I_2 J_3 H locs hr_1 hh => ?_)
  obtain ⟨e_r_1, hr_1⟩ := hr_1
  rw [(Prod.mk.inj e_r_1).1, (Prod.mk.inj e_r_1).2] at hh
  refine lv_if_ne (tgt := 11) C.1 C.2.1 d_FT_prove_5 (by decide) (fun c_4 => ?_) (fun c_4 => ?_)
  · -- 5 -> 11
    have b_5 := bI_t hr_1 c_4
    obtain ⟨j_6, hj_6, ej_6⟩ := inI_nat (by omega) b_5
    subst ej_6
    skip
    refine lv_aload_n C.1 C.2.1 d_FT_prove_11 rfl (lv_at hl 0 rfl) ?_
    refine lv_aload_n C.1 C.2.1 d_FT_prove_12 rfl (lv_at hl 0 rfl) ?_
    refine gg_r C hh hF.1 rfl in_FT 0 (by decide) rfl tw_210 rfl d_FT_prove_13 ?_
    refine lv_iload_n C.1 C.2.1 d_FT_prove_16 rfl (lv_at hl 1 rfl) ?_
    refine ga_q C hh 2 hF.2.1 (Cn := "FallingTerms$Loop") rfl (k := j_6) (v := B + 12 + 21 * j_6) rfl (by omega) (by omega) (if_pos (by omega)) d_FT_prove_17 ?_
    obtain ⟨p_7, ep_7⟩ : ∃ z : Nat, z = B + 12 + 21 * j_6 := ⟨_, rfl⟩
    have hp_7 : is_Lp cs sh p_7 := by rw [ep_7]; exact hF.2.2.2.2.2.2.2.2.2.2 j_6 (by omega)
    refine gm_eqr ep_7.symm ?_
    refine gc_v hh (gc_runV (As := [.ref p_7]) (rest := []) (n := 1) C hml hh (c_FT_fillSpaces l D cs sh sz I J B hF tV_0 j_6 p_7 (by omega) ep_7 hp_7 ) (tg_V tw_423 tw_425 tw_17 tw_57 tw_426) (by decide +kernel) ⟨rfl, rfl, by decide, by decide, Nat.zero_le _, Nat.zero_le _⟩ hF.1 rfl rfl hl.1 rfl (Nat.le_of_ble_eq_true rfl) d_FT_prove_18) (fun I_9 J_10 H locs hr_8 hh => ?_)
    have tK_11 : keepF B I I_9 J J_10 := keepF.tr tK_0 hr_8.1
    have tV_12 : inv_FT I_9 B := hr_8.2
    refine lv_aload_n C.1 C.2.1 d_FT_prove_21 rfl (lv_at hl 0 rfl) ?_
    refine gg_r C hh hF.1 rfl in_FT 4 (by decide) rfl tw_214 rfl d_FT_prove_22 ?_
    refine lv_aload_n C.1 C.2.1 d_FT_prove_25 rfl (lv_at hl 0 rfl) ?_
    refine gg_r C hh hF.1 rfl in_FT 0 (by decide) rfl tw_210 rfl d_FT_prove_26 ?_
    refine lv_iload_n C.1 C.2.1 d_FT_prove_29 rfl (lv_at hl 1 rfl) ?_
    refine ga_q C hh 2 hF.2.1 (Cn := "FallingTerms$Loop") rfl (k := j_6) (v := B + 12 + 21 * j_6) rfl (by omega) (by omega) (if_pos (by omega)) d_FT_prove_30 ?_
    refine gm_eqr ep_7.symm ?_
    refine lv_aload_n C.1 C.2.1 d_FT_prove_31 rfl (lv_at hl 0 rfl) ?_
    refine gg_r C hh hF.1 rfl in_FT 2 (by decide) rfl tw_212 rfl d_FT_prove_32 ?_
    refine gc_v hh (gc_runV (As := [.ref p_7, .ref (B + 2)]) (rest := []) (n := 2) C hml hh (c_Pf_search l D cs sh sz I_9 J_10 (B + 4) hF.2.2.2.2.1 tV_12.2.2.1 p_7 hp_7 (by have h_ := tV_12.2.1 j_6 (by omega); rw [← ep_7] at h_; exact h_ : inv_Lp I_9 p_7) (B + 2) (B + 180) hF.2.2.1 (fun k hk => by have h_ := tV_12.2.2.2.2.1 (2 * k) (by omega); rw [show B + 180 + 6 * (2 * k) = B + 180 + 12 * k by omega] at h_; exact h_) (by omega) (by omega)) (tg_V tw_427 tw_428 tw_429 tw_58 tw_430) (by decide +kernel) ⟨rfl, rfl, by decide, by decide, Nat.zero_le _, Nat.zero_le _⟩ hF.2.2.2.2.1.1 rfl rfl hl.1 rfl (Nat.le_of_ble_eq_true rfl) d_FT_prove_35) (fun I_14 J_15 H locs hr_13 hh => ?_)
    have tK_16 : keepF B I I_14 J J_15 := keepF.tr tK_11 (keepF.of hr_13.1 (by omega))
    have tV_17 : inv_FT I_14 B := inv_FT.pf tV_12 hr_13 (by omega)
    refine lv_aload_n C.1 C.2.1 d_FT_prove_38 rfl (lv_at hl 0 rfl) ?_
    refine gg_r C hh hF.1 rfl in_FT 4 (by decide) rfl tw_214 rfl d_FT_prove_39 ?_
    refine gn_i C hh hF.2.2.2.2.1.1 rfl in_Pf 2 (by decide) rfl tw_88 rfl d_FT_prove_42 ?_
    refine lv_if_ne (tgt := 52) C.1 C.2.1 d_FT_prove_45 (by decide) (fun c_18 => ?_) (fun c_18 => ?_)
    · -- 45 -> 52
      skip
      refine lv_iconst (v := nI 0) C.1 C.2.1 d_FT_prove_52 rfl ?_
      exact gr_i C hlk hret rfl hh (by exact ⟨tK_16, tV_17⟩) d_FT_prove_53
    · -- 45 -> 48
      skip
      refine lv_iconst (v := nI 1) C.1 C.2.1 d_FT_prove_48 rfl ?_
      refine lv_goto (tgt := 53) C.1 C.2.1 d_FT_prove_49 (by decide) ?_
      exact gr_i C hlk hret rfl hh (by exact ⟨tK_16, tV_17⟩) d_FT_prove_53
  · -- 5 -> 8
    have b_19 := bI_f hr_1 c_4
    skip
    refine lv_bipush (v := (-2)) C.1 C.2.1 d_FT_prove_8 rfl ?_
    exact gr_i C hlk hret rfl hh (by exact ⟨tK_0, tV_0⟩) d_FT_prove_10

set_option maxHeartbeats 4000000 in
set_option maxRecDepth 100000 in
theorem c_FT_need (l : Launch) (D : va_G) (cs : Nat → ClassId) (sh : gm_H) (sz : Nat) (I : gm_I) (J : gm_J) (B : Nat) (hF : is_FT cs sh B) (hV : inv_FT I B) (v : Int32) : CI l y_FT_need w_FT_need { frames := 7, cells := 0, slots := 0, locals := 177 } D cs sh sz I J [.ref B, .int v] (fun _ u => sfF B I J u) := by
  refine gm_start (by decide) (Nat.le_of_ble_eq_true rfl) ?_
  intro p' e' s' m' be' me' co' ls C hml hlk hret hh hl
  have hl : lv_has ls 8 [(0, .ref B), (1, .int v)] := hl
  obtain ⟨n, hn, en⟩ := hV.1
  have tK_0 : keepF B I I J J := keepF.nil
  have tV_0 : inv_FT I B := hV
  refine lv_aload_n C.1 C.2.1 d_FT_need_0 rfl (lv_at hl 0 rfl) ?_
  refine lv_iload_n C.1 C.2.1 d_FT_need_1 rfl (lv_at hl 1 rfl) ?_
  refine gc_i hh (gc_runV (As := [.int v]) (rest := []) (n := 1) C hml hh (c_FT_isLoop l D cs sh sz I J B hF hV n en hn v) (tg_V tw_264 tw_266 tw_0 tw_57 tw_267) (by decide +kernel) ⟨rfl, rfl, by decide, by decide, Nat.zero_le _, Nat.zero_le _⟩ hF.1 rfl rfl hl.1 rfl (Nat.le_of_ble_eq_true rfl) d_FT_need_2) (fun r_1 I_2 J_3 H locs hr_1 hh => ?_)
  obtain ⟨e_r_1, hr_1⟩ := hr_1
  rw [(Prod.mk.inj e_r_1).1, (Prod.mk.inj e_r_1).2] at hh
  refine lv_if_ne (tgt := 11) C.1 C.2.1 d_FT_need_5 (by decide) (fun c_4 => ?_) (fun c_4 => ?_)
  · -- 5 -> 11
    have b_5 := bI_t hr_1 c_4
    obtain ⟨j_6, hj_6, ej_6⟩ := inI_nat (by omega) b_5
    subst ej_6
    skip
    refine lv_aload_n C.1 C.2.1 d_FT_need_11 rfl (lv_at hl 0 rfl) ?_
    refine gg_r C hh hF.1 rfl in_FT 0 (by decide) rfl tw_210 rfl d_FT_need_12 ?_
    refine lv_iload_n C.1 C.2.1 d_FT_need_15 rfl (lv_at hl 1 rfl) ?_
    refine ga_q C hh 2 hF.2.1 (Cn := "FallingTerms$Loop") rfl (k := j_6) (v := B + 12 + 21 * j_6) rfl (by omega) (by omega) (if_pos (by omega)) d_FT_need_16 ?_
    obtain ⟨p_7, ep_7⟩ : ∃ z : Nat, z = B + 12 + 21 * j_6 := ⟨_, rfl⟩
    have hp_7 : is_Lp cs sh p_7 := by rw [ep_7]; exact hF.2.2.2.2.2.2.2.2.2.2 j_6 (by omega)
    refine gm_eqr ep_7.symm ?_
    refine lv_astore_n (lv' := [(2, .ref p_7), (0, .ref B), (1, .int (nI j_6))]) C.1 C.2.1 d_FT_need_17 rfl hl (by decide) rfl (fun ls hl => ?_)
    refine lv_aload_n C.1 C.2.1 d_FT_need_18 rfl (lv_at hl 1 rfl) ?_
    refine lv_iconst (v := nI 0) C.1 C.2.1 d_FT_need_19 rfl ?_
    refine gp_i (ty := .boolean) C hh hF.1 rfl in_FT t_FT t_FT_ok n_FT 7 (by decide) rfl tw_217 rfl rfl (by decide +kernel) (gm_nb (Or.inl rfl)) (gm_fb (Or.inl rfl)) d_FT_need_20 (fun H locs hh => ?_)
    obtain ⟨I_8, eI_8⟩ : ∃ z : gm_I, z = gm_up I B 7 (nI 0) := ⟨_, rfl⟩
    rw [← eI_8] at hh
    have tK_9 : keepF B I I_8 J J := by rw [eI_8]; exact keepF.tr tK_0 keepF.b7
    have tV_10 : inv_FT I_8 B := by rw [eI_8]; exact inv_FT.b7 tV_0 (Or.inl (by decide))
    refine lv_aload_n C.1 C.2.1 d_FT_need_23 rfl (lv_at hl 1 rfl) ?_
    refine lv_aload_n C.1 C.2.1 d_FT_need_24 rfl (lv_at hl 0 rfl) ?_
    refine gc_v hh (gc_runV (As := [.ref p_7]) (rest := []) (n := 1) C hml hh (c_FT_fillSpaces l D cs sh sz I_8 J B hF tV_10 j_6 p_7 (by omega) ep_7 hp_7 ) (tg_V tw_423 tw_425 tw_17 tw_57 tw_426) (by decide +kernel) ⟨rfl, rfl, by decide, by decide, Nat.zero_le _, Nat.zero_le _⟩ hF.1 rfl rfl hl.1 rfl (Nat.le_of_ble_eq_true rfl) d_FT_need_25) (fun I_12 J_13 H locs hr_11 hh => ?_)
    have tK_14 : keepF B I I_12 J J_13 := keepF.tr tK_9 hr_11.1
    have tV_15 : inv_FT I_12 B := hr_11.2
    refine lv_aload_n C.1 C.2.1 d_FT_need_28 rfl (lv_at hl 1 rfl) ?_
    refine gg_r C hh hF.1 rfl in_FT 5 (by decide) rfl tw_215 rfl d_FT_need_29 ?_
    refine lv_aload_n C.1 C.2.1 d_FT_need_32 rfl (lv_at hl 0 rfl) ?_
    refine lv_aload_n C.1 C.2.1 d_FT_need_33 rfl (lv_at hl 1 rfl) ?_
    refine gg_r C hh hF.1 rfl in_FT 2 (by decide) rfl tw_212 rfl d_FT_need_34 ?_
    refine gc_v hh (gc_runV (As := [.ref p_7, .ref (B + 2)]) (rest := []) (n := 2) C hml hh (c_Pf_search l D cs sh sz I_12 J_13 (B + 6) hF.2.2.2.2.2.1 tV_15.2.2.2.1 p_7 hp_7 (by have h_ := tV_15.2.1 j_6 (by omega); rw [← ep_7] at h_; exact h_ : inv_Lp I_12 p_7) (B + 2) (B + 180) hF.2.2.1 (fun k hk => by have h_ := tV_15.2.2.2.2.1 (2 * k) (by omega); rw [show B + 180 + 6 * (2 * k) = B + 180 + 12 * k by omega] at h_; exact h_) (by omega) (by omega)) (tg_V tw_427 tw_428 tw_429 tw_58 tw_430) (by decide +kernel) ⟨rfl, rfl, by decide, by decide, Nat.zero_le _, Nat.zero_le _⟩ hF.2.2.2.2.2.1.1 rfl rfl hl.1 rfl (Nat.le_of_ble_eq_true rfl) d_FT_need_37) (fun I_17 J_18 H locs hr_16 hh => ?_)
    have tK_19 : keepF B I I_17 J J_18 := keepF.tr tK_14 (keepF.of hr_16.1 (by omega))
    have tV_20 : inv_FT I_17 B := inv_FT.pf tV_15 hr_16 (by omega)
    refine lv_aload_n C.1 C.2.1 d_FT_need_40 rfl (lv_at hl 1 rfl) ?_
    refine gg_r C hh hF.1 rfl in_FT 5 (by decide) rfl tw_215 rfl d_FT_need_41 ?_
    refine gn_i C hh hF.2.2.2.2.2.1.1 rfl in_Pf 2 (by decide) rfl tw_88 rfl d_FT_need_44 ?_
    refine lv_if_ne (tgt := 52) C.1 C.2.1 d_FT_need_47 (by decide) (fun c_21 => ?_) (fun c_21 => ?_)
    · -- 47 -> 52
      skip
      refine lv_aload_n C.1 C.2.1 d_FT_need_52 rfl (lv_at hl 0 rfl) ?_
      refine lv_iconst (v := nI 1) C.1 C.2.1 d_FT_need_53 rfl ?_
      refine lv_iconst (v := nI 1) C.1 C.2.1 d_FT_need_54 rfl ?_
      obtain ⟨nm_22, hnm_22, enm_22⟩ := (by have h_ := tV_20.2.1 j_6 (by omega); rw [← ep_7] at h_; exact h_ : inv_Lp I_17 p_7).1
      refine gc_i hh (gc_runV (As := [.int (nI 1), .int (nI 1)]) (rest := []) (n := 2) C hml hh (c_Lp_reach l D cs sh sz I_17 J_18 p_7 hp_7 nm_22 1 enm_22 hnm_22 (by omega) (nI 1)) (tg_V tw_461 tw_436 tw_437 tw_59 tw_438) (by decide +kernel) ⟨rfl, rfl, by decide, by decide, Nat.zero_le _, Nat.zero_le _⟩ hp_7.1 rfl rfl hl.1 rfl (Nat.le_of_ble_eq_true rfl) d_FT_need_55) (fun r_23 I_24 J_25 H locs hr_23 hh => ?_)
      obtain ⟨e_r_23, hr_23⟩ := hr_23
      rw [(Prod.mk.inj e_r_23).1, (Prod.mk.inj e_r_23).2] at hh
      obtain ⟨g_26, hg_26, eg_26⟩ := reachN hr_23
      rw [eg_26]
      refine lv_istore_n (lv' := [(3, .int (nI g_26)), (2, .ref p_7), (0, .ref B), (1, .int (nI j_6))]) C.1 C.2.1 d_FT_need_58 rfl hl (by decide) rfl (fun ls hl => ?_)
      refine lv_aload_n C.1 C.2.1 d_FT_need_59 rfl (lv_at hl 1 rfl) ?_
      refine lv_iconst (v := nI 2) C.1 C.2.1 d_FT_need_60 rfl ?_
      refine lv_iconst (v := nI 1) C.1 C.2.1 d_FT_need_61 rfl ?_
      obtain ⟨nm_27, hnm_27, enm_27⟩ := (by have h_ := tV_20.2.1 j_6 (by omega); rw [← ep_7] at h_; exact h_ : inv_Lp I_17 p_7).1
      refine gc_i hh (gc_runV (As := [.int (nI 2), .int (nI 1)]) (rest := []) (n := 2) C hml hh (c_Lp_reach l D cs sh sz I_17 J_18 p_7 hp_7 nm_27 2 enm_27 hnm_27 (by omega) (nI 1)) (tg_V tw_461 tw_436 tw_437 tw_59 tw_438) (by decide +kernel) ⟨rfl, rfl, by decide, by decide, Nat.zero_le _, Nat.zero_le _⟩ hp_7.1 rfl rfl hl.1 rfl (Nat.le_of_ble_eq_true rfl) d_FT_need_62) (fun r_28 I_29 J_30 H locs hr_28 hh => ?_)
      obtain ⟨e_r_28, hr_28⟩ := hr_28
      rw [(Prod.mk.inj e_r_28).1, (Prod.mk.inj e_r_28).2] at hh
      obtain ⟨g_31, hg_31, eg_31⟩ := reachN hr_28
      rw [eg_31]
      refine lv_istore (lv' := [(4, .int (nI g_31)), (3, .int (nI g_26)), (2, .ref p_7), (0, .ref B), (1, .int (nI j_6))]) C.1 C.2.1 d_FT_need_65 hl (by decide) rfl (fun ls hl => ?_)
      refine lv_iconst (v := (-1)) C.1 C.2.1 d_FT_need_67 rfl ?_
      refine lv_topi (fun x_32 ex_32 => ?_)
      refine lv_istore (lv' := [(5, .int x_32), (4, .int (nI g_31)), (3, .int (nI g_26)), (2, .ref p_7), (0, .ref B), (1, .int (nI j_6))]) C.1 C.2.1 d_FT_need_68 hl (by decide) rfl (fun ls hl => ?_)
      have K70 : ∀ (n_70 : Nat) (a : Int32) (I70 : gm_I) (J70 : gm_J) (ha1 : -7 ≤ a.toInt) (ha2 : a.toInt ≤ 7) (tK70 : keepF B I I70 J J70) (tV70 : inv_FT I70 B) (hm_70 : (8 - a.toInt).toNat < n_70), ∀ (H : Heap) (locs : List Loc) (ls : Array Slot), gm_St D cs sh (gm_A sh) s'.heap sz I70 J70 H locs → lv_has ls 8 [(0, .ref B), (1, .int (nI j_6)), (2, .ref p_7), (3, .int (nI g_26)), (4, .int (nI g_31)), (5, .int a)] → W p' l e' { frames := 7, cells := 0, slots := 0, locals := 177 } s' m' ([.ref B, .int (nI j_6)] : List Value).toArray be' me' co' H locs 0 0 (MQ be' (va_Qi (fun _ u => sfF B I J u) (gm_B D cs sh sz) (gm_A sh)) ([.ref B, .int (nI j_6)] : List Value).toArray s' 0 0 (gm_A sh)) (F0 m' 70 ls []) := by
        intro n_70
        induction n_70 with
        | zero => intro a I70 J70 ha1 ha2 tK70 tV70 hm_70; exact absurd hm_70 (Nat.not_lt_zero _)
        | succ n_70 ih70 =>
          intro a I70 J70 ha1 ha2 tK70 tV70 hm_70 H locs ls hh hl
          refine lv_iload C.1 C.2.1 d_FT_need_70 (lv_at hl 5 rfl) ?_
          refine lv_iconst (v := nI 1) C.1 C.2.1 d_FT_need_72 rfl ?_
          refine lv_icmp_gt (tgt := 147) C.1 C.2.1 d_FT_need_73 (by decide) (fun c_33 => ?_) (fun c_33 => ?_)
          · -- 73 -> 147
            skip
            refine lv_iconst (v := nI 0) C.1 C.2.1 d_FT_need_147 rfl ?_
            exact gr_i C hlk hret rfl hh (by exact ⟨tK70, tV70⟩) d_FT_need_148
          · -- 73 -> 76
            skip
            have lo_a := loI (by omega) (by assumption : ¬ nI 1 < a)
            refine lv_iload_n C.1 C.2.1 d_FT_need_76 rfl (lv_at hl 3 rfl) ?_
            refine lv_ineg C.1 C.2.1 d_FT_need_77 ?_
            refine lv_istore (lv' := [(6, .int (-(nI g_26))), (0, .ref B), (1, .int (nI j_6)), (2, .ref p_7), (3, .int (nI g_26)), (4, .int (nI g_31)), (5, .int a)]) C.1 C.2.1 d_FT_need_78 hl (by decide) rfl (fun ls hl => ?_)
            have K80 : ∀ (n_80 : Nat) (b : Int32) (I80 : gm_I) (J80 : gm_J) (hb1 : -7 ≤ b.toInt) (hb2 : b.toInt ≤ 7) (tK80 : keepF B I I80 J J80) (tV80 : inv_FT I80 B) (hm_80 : (8 - b.toInt).toNat < n_80), ∀ (H : Heap) (locs : List Loc) (ls : Array Slot), gm_St D cs sh (gm_A sh) s'.heap sz I80 J80 H locs → lv_has ls 8 [(0, .ref B), (1, .int (nI j_6)), (2, .ref p_7), (3, .int (nI g_26)), (4, .int (nI g_31)), (5, .int a), (6, .int b)] → W p' l e' { frames := 7, cells := 0, slots := 0, locals := 177 } s' m' ([.ref B, .int (nI j_6)] : List Value).toArray be' me' co' H locs 0 0 (MQ be' (va_Qi (fun _ u => sfF B I J u) (gm_B D cs sh sz) (gm_A sh)) ([.ref B, .int (nI j_6)] : List Value).toArray s' 0 0 (gm_A sh)) (F0 m' 80 ls []) := by
              intro n_80
              induction n_80 with
              | zero => intro b I80 J80 hb1 hb2 tK80 tV80 hm_80; exact absurd hm_80 (Nat.not_lt_zero _)
              | succ n_80 ih80 =>
                intro b I80 J80 hb1 hb2 tK80 tV80 hm_80 H locs ls hh hl
                refine lv_iload C.1 C.2.1 d_FT_need_80 (lv_at hl 6 rfl) ?_
                refine lv_iload_n C.1 C.2.1 d_FT_need_82 rfl (lv_at hl 3 rfl) ?_
                refine lv_icmp_gt (tgt := 141) C.1 C.2.1 d_FT_need_83 (by decide) (fun c_34 => ?_) (fun c_34 => ?_)
                · -- 83 -> 141
                  skip
                  obtain ⟨x_35, ex_35⟩ : ∃ z : Int32, z = a + Int32.ofInt 1 := ⟨_, rfl⟩
                  refine lv_iinc (v := x_35) (lv' := [(5, .int x_35), (0, .ref B), (1, .int (nI j_6)), (2, .ref p_7), (3, .int (nI g_26)), (4, .int (nI g_31)), (6, .int b)]) C.1 C.2.1 d_FT_need_141 hl (k := 5) rfl (ex_35.symm) (by decide) rfl (fun ls hl => ?_)
                  refine lv_goto (tgt := 70) C.1 C.2.1 d_FT_need_144 (by decide) ?_
                  have nx_a : x_35.toInt = a.toInt + 1 := by rw [ex_35]; exact incT (by omega) (by omega)
                  exact ih70 x_35 I80 J80 (by omega) (by omega) (by exact tK80) (by exact tV80) (by omega) _ _ _ hh (lv_sub hl [1, 2, 3, 4, 5, 0] rfl)
                · -- 83 -> 86
                  skip
                  have lo_b := loI (by omega) (by assumption : ¬ nI g_26 < b)
                  refine lv_iload C.1 C.2.1 d_FT_need_86 (lv_at hl 4 rfl) ?_
                  refine lv_ineg C.1 C.2.1 d_FT_need_88 ?_
                  refine lv_istore (lv' := [(7, .int (-(nI g_31))), (0, .ref B), (1, .int (nI j_6)), (2, .ref p_7), (3, .int (nI g_26)), (4, .int (nI g_31)), (5, .int a), (6, .int b)]) C.1 C.2.1 d_FT_need_89 hl (by decide) rfl (fun ls hl => ?_)
                  have K91 : ∀ (n_91 : Nat) (c : Int32) (I91 : gm_I) (J91 : gm_J) (hc1 : -7 ≤ c.toInt) (hc2 : c.toInt ≤ 7) (tK91 : keepF B I I91 J J91) (tV91 : inv_FT I91 B) (hm_91 : (8 - c.toInt).toNat < n_91), ∀ (H : Heap) (locs : List Loc) (ls : Array Slot), gm_St D cs sh (gm_A sh) s'.heap sz I91 J91 H locs → lv_has ls 8 [(0, .ref B), (1, .int (nI j_6)), (2, .ref p_7), (3, .int (nI g_26)), (4, .int (nI g_31)), (5, .int a), (6, .int b), (7, .int c)] → W p' l e' { frames := 7, cells := 0, slots := 0, locals := 177 } s' m' ([.ref B, .int (nI j_6)] : List Value).toArray be' me' co' H locs 0 0 (MQ be' (va_Qi (fun _ u => sfF B I J u) (gm_B D cs sh sz) (gm_A sh)) ([.ref B, .int (nI j_6)] : List Value).toArray s' 0 0 (gm_A sh)) (F0 m' 91 ls []) := by
                    intro n_91
                    induction n_91 with
                    | zero => intro c I91 J91 hc1 hc2 tK91 tV91 hm_91; exact absurd hm_91 (Nat.not_lt_zero _)
                    | succ n_91 ih91 =>
                      intro c I91 J91 hc1 hc2 tK91 tV91 hm_91 H locs ls hh hl
                      refine lv_iload C.1 C.2.1 d_FT_need_91 (lv_at hl 7 rfl) ?_
                      refine lv_iload C.1 C.2.1 d_FT_need_93 (lv_at hl 4 rfl) ?_
                      refine lv_icmp_gt (tgt := 135) C.1 C.2.1 d_FT_need_95 (by decide) (fun c_36 => ?_) (fun c_36 => ?_)
                      · -- 95 -> 135
                        skip
                        obtain ⟨x_37, ex_37⟩ : ∃ z : Int32, z = b + Int32.ofInt 1 := ⟨_, rfl⟩
                        refine lv_iinc (v := x_37) (lv' := [(6, .int x_37), (0, .ref B), (1, .int (nI j_6)), (2, .ref p_7), (3, .int (nI g_26)), (4, .int (nI g_31)), (5, .int a), (7, .int c)]) C.1 C.2.1 d_FT_need_135 hl (k := 6) rfl (ex_37.symm) (by decide) rfl (fun ls hl => ?_)
                        refine lv_goto (tgt := 80) C.1 C.2.1 d_FT_need_138 (by decide) ?_
                        have nx_b : x_37.toInt = b.toInt + 1 := by rw [ex_37]; exact incT (by omega) (by omega)
                        exact ih80 x_37 I91 J91 (by omega) (by omega) (by exact tK91) (by exact tV91) (by omega) _ _ _ hh (lv_sub hl [1, 2, 3, 4, 5, 6, 0] rfl)
                      · -- 95 -> 98
                        skip
                        have lo_c := loI (by omega) (by assumption : ¬ nI g_31 < c)
                        refine lv_iload C.1 C.2.1 d_FT_need_98 (lv_at hl 5 rfl) ?_
                        refine lv_if_ne (tgt := 113) C.1 C.2.1 d_FT_need_100 (by decide) (fun c_38 => ?_) (fun c_38 => ?_)
                        · -- 100 -> 113
                          skip
                          refine lv_aload_n C.1 C.2.1 d_FT_need_113 rfl (lv_at hl 0 rfl) ?_
                          refine lv_aload_n C.1 C.2.1 d_FT_need_114 rfl (lv_at hl 2 rfl) ?_
                          refine lv_iload C.1 C.2.1 d_FT_need_115 (lv_at hl 5 rfl) ?_
                          refine lv_iload C.1 C.2.1 d_FT_need_117 (lv_at hl 6 rfl) ?_
                          refine lv_iload C.1 C.2.1 d_FT_need_119 (lv_at hl 7 rfl) ?_
                          refine gc_i hh (gc_runV (As := [.ref p_7, .int a, .int b, .int c]) (rest := []) (n := 4) C hml hh (c_FT_findNeed l D cs sh sz I91 J91 B hF tV91 j_6 p_7 (by omega) ep_7 hp_7 a b c) (tg_V tw_462 tw_464 tw_21 tw_57 tw_465) (by decide +kernel) ⟨rfl, rfl, by decide, by decide, Nat.zero_le _, Nat.zero_le _⟩ hF.1 rfl rfl hl.1 rfl (Nat.le_of_ble_eq_true rfl) d_FT_need_121) (fun r_39 I_40 J_41 H locs hr_39 hh => ?_)
                          have tK_42 : keepF B I I_40 J J_41 := keepF.tr tK91 hr_39.2.1
                          have tV_43 : inv_FT I_40 B := hr_39.2.2
                          refine lv_if_eq (tgt := 129) C.1 C.2.1 d_FT_need_124 (by decide) (fun c_44 => ?_) (fun c_44 => ?_)
                          · -- 124 -> 129
                            skip
                            obtain ⟨x_45, ex_45⟩ : ∃ z : Int32, z = c + Int32.ofInt 1 := ⟨_, rfl⟩
                            refine lv_iinc (v := x_45) (lv' := [(7, .int x_45), (0, .ref B), (1, .int (nI j_6)), (2, .ref p_7), (3, .int (nI g_26)), (4, .int (nI g_31)), (5, .int a), (6, .int b)]) C.1 C.2.1 d_FT_need_129 hl (k := 7) rfl (ex_45.symm) (by decide) rfl (fun ls hl => ?_)
                            refine lv_goto (tgt := 91) C.1 C.2.1 d_FT_need_132 (by decide) ?_
                            have nx_c : x_45.toInt = c.toInt + 1 := by rw [ex_45]; exact incT (by omega) (by omega)
                            exact ih91 x_45 I_40 J_41 (by omega) (by omega) (by exact tK_42) (by exact tV_43) (by omega) _ _ _ hh (lv_sub hl [1, 2, 3, 4, 5, 6, 7, 0] rfl)
                          · -- 124 -> 127
                            skip
                            refine lv_iconst (v := nI 1) C.1 C.2.1 d_FT_need_127 rfl ?_
                            exact gr_i C hlk hret rfl hh (by exact ⟨tK_42, tV_43⟩) d_FT_need_128
                        · -- 100 -> 103
                          skip
                          refine lv_iload C.1 C.2.1 d_FT_need_103 (lv_at hl 6 rfl) ?_
                          refine lv_if_ne (tgt := 113) C.1 C.2.1 d_FT_need_105 (by decide) (fun c_46 => ?_) (fun c_46 => ?_)
                          · -- 105 -> 113
                            skip
                            refine lv_aload_n C.1 C.2.1 d_FT_need_113 rfl (lv_at hl 0 rfl) ?_
                            refine lv_aload_n C.1 C.2.1 d_FT_need_114 rfl (lv_at hl 2 rfl) ?_
                            refine lv_iload C.1 C.2.1 d_FT_need_115 (lv_at hl 5 rfl) ?_
                            refine lv_iload C.1 C.2.1 d_FT_need_117 (lv_at hl 6 rfl) ?_
                            refine lv_iload C.1 C.2.1 d_FT_need_119 (lv_at hl 7 rfl) ?_
                            refine gc_i hh (gc_runV (As := [.ref p_7, .int a, .int b, .int c]) (rest := []) (n := 4) C hml hh (c_FT_findNeed l D cs sh sz I91 J91 B hF tV91 j_6 p_7 (by omega) ep_7 hp_7 a b c) (tg_V tw_462 tw_464 tw_21 tw_57 tw_465) (by decide +kernel) ⟨rfl, rfl, by decide, by decide, Nat.zero_le _, Nat.zero_le _⟩ hF.1 rfl rfl hl.1 rfl (Nat.le_of_ble_eq_true rfl) d_FT_need_121) (fun r_47 I_48 J_49 H locs hr_47 hh => ?_)
                            have tK_50 : keepF B I I_48 J J_49 := keepF.tr tK91 hr_47.2.1
                            have tV_51 : inv_FT I_48 B := hr_47.2.2
                            refine lv_if_eq (tgt := 129) C.1 C.2.1 d_FT_need_124 (by decide) (fun c_52 => ?_) (fun c_52 => ?_)
                            · -- 124 -> 129
                              skip
                              obtain ⟨x_53, ex_53⟩ : ∃ z : Int32, z = c + Int32.ofInt 1 := ⟨_, rfl⟩
                              refine lv_iinc (v := x_53) (lv' := [(7, .int x_53), (0, .ref B), (1, .int (nI j_6)), (2, .ref p_7), (3, .int (nI g_26)), (4, .int (nI g_31)), (5, .int a), (6, .int b)]) C.1 C.2.1 d_FT_need_129 hl (k := 7) rfl (ex_53.symm) (by decide) rfl (fun ls hl => ?_)
                              refine lv_goto (tgt := 91) C.1 C.2.1 d_FT_need_132 (by decide) ?_
                              have nx_c : x_53.toInt = c.toInt + 1 := by rw [ex_53]; exact incT (by omega) (by omega)
                              exact ih91 x_53 I_48 J_49 (by omega) (by omega) (by exact tK_50) (by exact tV_51) (by omega) _ _ _ hh (lv_sub hl [1, 2, 3, 4, 5, 6, 7, 0] rfl)
                            · -- 124 -> 127
                              skip
                              refine lv_iconst (v := nI 1) C.1 C.2.1 d_FT_need_127 rfl ?_
                              exact gr_i C hlk hret rfl hh (by exact ⟨tK_50, tV_51⟩) d_FT_need_128
                          · -- 105 -> 108
                            skip
                            refine lv_iload C.1 C.2.1 d_FT_need_108 (lv_at hl 7 rfl) ?_
                            refine lv_if_eq (tgt := 129) C.1 C.2.1 d_FT_need_110 (by decide) (fun c_54 => ?_) (fun c_54 => ?_)
                            · -- 110 -> 129
                              skip
                              obtain ⟨x_55, ex_55⟩ : ∃ z : Int32, z = c + Int32.ofInt 1 := ⟨_, rfl⟩
                              refine lv_iinc (v := x_55) (lv' := [(7, .int x_55), (0, .ref B), (1, .int (nI j_6)), (2, .ref p_7), (3, .int (nI g_26)), (4, .int (nI g_31)), (5, .int a), (6, .int b)]) C.1 C.2.1 d_FT_need_129 hl (k := 7) rfl (ex_55.symm) (by decide) rfl (fun ls hl => ?_)
                              refine lv_goto (tgt := 91) C.1 C.2.1 d_FT_need_132 (by decide) ?_
                              have nx_c : x_55.toInt = c.toInt + 1 := by rw [ex_55]; exact incT (by omega) (by omega)
                              exact ih91 x_55 I91 J91 (by omega) (by omega) (by exact tK91) (by exact tV91) (by omega) _ _ _ hh (lv_sub hl [1, 2, 3, 4, 5, 6, 7, 0] rfl)
                            · -- 110 -> 113
                              skip
                              refine lv_aload_n C.1 C.2.1 d_FT_need_113 rfl (lv_at hl 0 rfl) ?_
                              refine lv_aload_n C.1 C.2.1 d_FT_need_114 rfl (lv_at hl 2 rfl) ?_
                              refine lv_iload C.1 C.2.1 d_FT_need_115 (lv_at hl 5 rfl) ?_
                              refine lv_iload C.1 C.2.1 d_FT_need_117 (lv_at hl 6 rfl) ?_
                              refine lv_iload C.1 C.2.1 d_FT_need_119 (lv_at hl 7 rfl) ?_
                              refine gc_i hh (gc_runV (As := [.ref p_7, .int a, .int b, .int c]) (rest := []) (n := 4) C hml hh (c_FT_findNeed l D cs sh sz I91 J91 B hF tV91 j_6 p_7 (by omega) ep_7 hp_7 a b c) (tg_V tw_462 tw_464 tw_21 tw_57 tw_465) (by decide +kernel) ⟨rfl, rfl, by decide, by decide, Nat.zero_le _, Nat.zero_le _⟩ hF.1 rfl rfl hl.1 rfl (Nat.le_of_ble_eq_true rfl) d_FT_need_121) (fun r_56 I_57 J_58 H locs hr_56 hh => ?_)
                              have tK_59 : keepF B I I_57 J J_58 := keepF.tr tK91 hr_56.2.1
                              have tV_60 : inv_FT I_57 B := hr_56.2.2
                              refine lv_if_eq (tgt := 129) C.1 C.2.1 d_FT_need_124 (by decide) (fun c_61 => ?_) (fun c_61 => ?_)
                              · -- 124 -> 129
                                skip
                                obtain ⟨x_62, ex_62⟩ : ∃ z : Int32, z = c + Int32.ofInt 1 := ⟨_, rfl⟩
                                refine lv_iinc (v := x_62) (lv' := [(7, .int x_62), (0, .ref B), (1, .int (nI j_6)), (2, .ref p_7), (3, .int (nI g_26)), (4, .int (nI g_31)), (5, .int a), (6, .int b)]) C.1 C.2.1 d_FT_need_129 hl (k := 7) rfl (ex_62.symm) (by decide) rfl (fun ls hl => ?_)
                                refine lv_goto (tgt := 91) C.1 C.2.1 d_FT_need_132 (by decide) ?_
                                have nx_c : x_62.toInt = c.toInt + 1 := by rw [ex_62]; exact incT (by omega) (by omega)
                                exact ih91 x_62 I_57 J_58 (by omega) (by omega) (by exact tK_59) (by exact tV_60) (by omega) _ _ _ hh (lv_sub hl [1, 2, 3, 4, 5, 6, 7, 0] rfl)
                              · -- 124 -> 127
                                skip
                                refine lv_iconst (v := nI 1) C.1 C.2.1 d_FT_need_127 rfl ?_
                                exact gr_i C hlk hret rfl hh (by exact ⟨tK_59, tV_60⟩) d_FT_need_128
                  exact K91 _ (-(nI g_31)) I80 J80 (by first | decide | (rw [negN (by omega)]; omega)) (by first | decide | (rw [negN (by omega)]; omega)) (by exact tK80) (by exact tV80) (Nat.lt_succ_self _) _ _ _ hh (lv_sub hl [1, 2, 3, 4, 5, 6, 7, 0] rfl)
            exact K80 _ (-(nI g_26)) I70 J70 (by first | decide | (rw [negN (by omega)]; omega)) (by first | decide | (rw [negN (by omega)]; omega)) (by exact tK70) (by exact tV70) (Nat.lt_succ_self _) _ _ _ hh (lv_sub hl [1, 2, 3, 4, 5, 6, 0] rfl)
      exact K70 _ x_32 I_17 J_18 (by rw [ex_32]; decide) (by rw [ex_32]; decide) (by exact tK_19) (by exact tV_20) (Nat.lt_succ_self _) _ _ _ hh (lv_sub hl [4, 5, 3, 2, 1, 0] rfl)
    · -- 47 -> 50
      skip
      refine lv_iconst (v := nI 2) C.1 C.2.1 d_FT_need_50 rfl ?_
      exact gr_i C hlk hret rfl hh (by exact ⟨tK_19, tV_20⟩) d_FT_need_51
  · -- 5 -> 8
    have b_63 := bI_f hr_1 c_4
    skip
    refine lv_bipush (v := (-2)) C.1 C.2.1 d_FT_need_8 rfl ?_
    exact gr_i C hlk hret rfl hh (by exact ⟨tK_0, tV_0⟩) d_FT_need_10

set_option maxHeartbeats 4000000 in
set_option maxRecDepth 100000 in
theorem c_FT_proof (l : Launch) (D : va_G) (cs : Nat → ClassId) (sh : gm_H) (sz : Nat) (I : gm_I) (J : gm_J) (B : Nat) (hF : is_FT cs sh B) (hV : inv_FT I B) (v w : Int32) : CI l y_FT_proof w_FT_proof { frames := 0, cells := 0, slots := 0, locals := 0 } D cs sh sz I J [.ref B, .int v, .int w] (fun _ u => u = (I, J)) := by
  refine gm_start (by decide) (Nat.le_of_ble_eq_true rfl) ?_
  intro p' e' s' m' be' me' co' ls C hml hlk hret hh hl
  have hl : lv_has ls 3 [(0, .ref B), (1, .int v), (2, .int w)] := hl
  refine lv_iload_n C.1 C.2.1 d_FT_proof_0 rfl (lv_at hl 1 rfl) ?_
  refine lv_if_lt (tgt := 24) C.1 C.2.1 d_FT_proof_1 (by decide) (fun c_1 => ?_) (fun c_1 => ?_)
  · -- 1 -> 24
    skip
    refine lv_sipush (v := (-1000)) C.1 C.2.1 d_FT_proof_24 rfl ?_
    exact gr_i C hlk hret rfl hh (by rfl) d_FT_proof_27
  · -- 1 -> 4
    skip
    obtain ⟨i_2, hi_2, ei_2⟩ := nI_of (by assumption : ¬ v < 0)
    subst ei_2
    refine lv_iload_n C.1 C.2.1 d_FT_proof_4 rfl (lv_at hl 1 rfl) ?_
    refine lv_aload_n C.1 C.2.1 d_FT_proof_5 rfl (lv_at hl 0 rfl) ?_
    refine gg_r C hh hF.1 rfl in_FT 4 (by decide) rfl tw_214 rfl d_FT_proof_6 ?_
    refine gn_i C hh hF.2.2.2.2.1.1 rfl in_Pf 1 (by decide) rfl tw_86 rfl d_FT_proof_9 ?_
    obtain ⟨g_3, hg_3, eg_3⟩ := hV.2.2.1
    refine gm_eqi eg_3 ?_
    refine lv_icmp_ge (tgt := 24) C.1 C.2.1 d_FT_proof_12 (by decide) (fun c_4 => ?_) (fun c_4 => ?_)
    · -- 12 -> 24
      have c_4 := gm_get (by omega) (by omega) c_4
      have c_4' := Nat.not_lt.mpr c_4
      refine lv_sipush (v := (-1000)) C.1 C.2.1 d_FT_proof_24 rfl ?_
      exact gr_i C hlk hret rfl hh (by rfl) d_FT_proof_27
    · -- 12 -> 15
      have c_4 := gm_gef (by omega) (by omega) c_4
      have c_4' := Nat.not_le.mpr c_4
      refine lv_iload_n C.1 C.2.1 d_FT_proof_15 rfl (lv_at hl 2 rfl) ?_
      refine lv_if_lt (tgt := 24) C.1 C.2.1 d_FT_proof_16 (by decide) (fun c_5 => ?_) (fun c_5 => ?_)
      · -- 16 -> 24
        skip
        refine lv_sipush (v := (-1000)) C.1 C.2.1 d_FT_proof_24 rfl ?_
        exact gr_i C hlk hret rfl hh (by rfl) d_FT_proof_27
      · -- 16 -> 19
        skip
        obtain ⟨i_6, hi_6, ei_6⟩ := nI_of (by assumption : ¬ w < 0)
        subst ei_6
        refine lv_iload_n C.1 C.2.1 d_FT_proof_19 rfl (lv_at hl 2 rfl) ?_
        refine lv_iconst (v := nI 4) C.1 C.2.1 d_FT_proof_20 rfl ?_
        refine lv_icmp_lt (tgt := 28) C.1 C.2.1 d_FT_proof_21 (by decide) (fun c_7 => ?_) (fun c_7 => ?_)
        · -- 21 -> 28
          have c_7 := gm_ltt (by omega) (by omega) c_7
          have c_7' := Nat.not_le.mpr c_7
          refine lv_aload_n C.1 C.2.1 d_FT_proof_28 rfl (lv_at hl 0 rfl) ?_
          refine gg_r C hh hF.1 rfl in_FT 4 (by decide) rfl tw_214 rfl d_FT_proof_29 ?_
          refine gn_r C hh hF.2.2.2.2.1.1 rfl in_Pf 0 (by decide) rfl tw_84 rfl d_FT_proof_32 ?_
          refine lv_iconst (v := nI 4) C.1 C.2.1 d_FT_proof_35 rfl ?_
          refine lv_iload_n C.1 C.2.1 d_FT_proof_36 rfl (lv_at hl 1 rfl) ?_
          refine lv_imul C.1 C.2.1 d_FT_proof_37 ?_
          refine gm_eqi (pk_mul _ _) ?_
          refine lv_iload_n C.1 C.2.1 d_FT_proof_38 rfl (lv_at hl 2 rfl) ?_
          refine lv_iadd C.1 C.2.1 d_FT_proof_39 ?_
          refine gm_eqi (nI_add _ _) ?_
          refine ga_i C hh hF.2.2.2.2.1.2 (k := (4 * i_2) + i_6) rfl (by omega) (by omega) d_FT_proof_40 ?_
          exact gr_i C hlk hret rfl hh (by rfl) d_FT_proof_41
        · -- 21 -> 24
          have c_7 := gm_ltf (by omega) (by omega) c_7
          have c_7' := Nat.not_lt.mpr c_7
          refine lv_sipush (v := (-1000)) C.1 C.2.1 d_FT_proof_24 rfl ?_
          exact gr_i C hlk hret rfl hh (by rfl) d_FT_proof_27

set_option maxHeartbeats 4000000 in
set_option maxRecDepth 100000 in
theorem c_FT_needed (l : Launch) (D : va_G) (cs : Nat → ClassId) (sh : gm_H) (sz : Nat) (I : gm_I) (J : gm_J) (B : Nat) (hF : is_FT cs sh B) (hV : inv_FT I B) (v : Int32) : CI l y_FT_needed w_FT_needed { frames := 0, cells := 0, slots := 0, locals := 0 } D cs sh sz I J [.ref B, .int v] (fun _ u => u = (I, J)) := by
  refine gm_start (by decide) (Nat.le_of_ble_eq_true rfl) ?_
  intro p' e' s' m' be' me' co' ls C hml hlk hret hh hl
  have hl : lv_has ls 2 [(0, .ref B), (1, .int v)] := hl
  refine lv_aload_n C.1 C.2.1 d_FT_needed_0 rfl (lv_at hl 0 rfl) ?_
  refine gg_i C hh hF.1 rfl in_FT 7 (by decide) rfl tw_217 rfl d_FT_needed_1 ?_
  refine lv_if_eq (tgt := 25) C.1 C.2.1 d_FT_needed_4 (by decide) (fun c_1 => ?_) (fun c_1 => ?_)
  · -- 4 -> 25
    skip
    refine lv_sipush (v := (-1000)) C.1 C.2.1 d_FT_needed_25 rfl ?_
    exact gr_i C hlk hret rfl hh (by rfl) d_FT_needed_28
  · -- 4 -> 7
    skip
    refine lv_iload_n C.1 C.2.1 d_FT_needed_7 rfl (lv_at hl 1 rfl) ?_
    refine lv_if_lt (tgt := 25) C.1 C.2.1 d_FT_needed_8 (by decide) (fun c_2 => ?_) (fun c_2 => ?_)
    · -- 8 -> 25
      skip
      refine lv_sipush (v := (-1000)) C.1 C.2.1 d_FT_needed_25 rfl ?_
      exact gr_i C hlk hret rfl hh (by rfl) d_FT_needed_28
    · -- 8 -> 11
      skip
      obtain ⟨i_3, hi_3, ei_3⟩ := nI_of (by assumption : ¬ v < 0)
      subst ei_3
      refine lv_iload_n C.1 C.2.1 d_FT_needed_11 rfl (lv_at hl 1 rfl) ?_
      refine lv_iconst (v := nI 4) C.1 C.2.1 d_FT_needed_12 rfl ?_
      refine lv_icmp_ge (tgt := 25) C.1 C.2.1 d_FT_needed_13 (by decide) (fun c_4 => ?_) (fun c_4 => ?_)
      · -- 13 -> 25
        have c_4 := gm_get (by omega) (by omega) c_4
        have c_4' := Nat.not_lt.mpr c_4
        refine lv_sipush (v := (-1000)) C.1 C.2.1 d_FT_needed_25 rfl ?_
        exact gr_i C hlk hret rfl hh (by rfl) d_FT_needed_28
      · -- 13 -> 16
        have c_4 := gm_gef (by omega) (by omega) c_4
        have c_4' := Nat.not_le.mpr c_4
        refine lv_aload_n C.1 C.2.1 d_FT_needed_16 rfl (lv_at hl 0 rfl) ?_
        refine gg_r C hh hF.1 rfl in_FT 6 (by decide) rfl tw_216 rfl d_FT_needed_17 ?_
        refine lv_iload_n C.1 C.2.1 d_FT_needed_20 rfl (lv_at hl 1 rfl) ?_
        refine ga_i C hh hF.2.2.2.2.2.2.1 (k := i_3) rfl (by omega) (by omega) d_FT_needed_21 ?_
        refine lv_goto (tgt := 28) C.1 C.2.1 d_FT_needed_22 (by decide) ?_
        exact gr_i C hlk hret rfl hh (by rfl) d_FT_needed_28
