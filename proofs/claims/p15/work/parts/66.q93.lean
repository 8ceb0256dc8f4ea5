set_option maxHeartbeats 4000000 in
set_option maxRecDepth 100000 in
theorem c_FT_holdsQ (l : Launch) (D : va_G) (cs : Nat → ClassId) (sh : gm_H) (sz : Nat) (I : gm_I) (J : gm_J) (B : Nat) (hF : is_FT cs sh B) (hV : inv_FT I B) (n : Nat) (en : I B 1 = nI n) (hn : n ≤ 8) (hG : GQ I B) (v w a b c d : Int32) : CI l y_FT_holds w_FT_holds { frames := 6, cells := 0, slots := 0, locals := 159 } D cs sh sz I J [.ref B, .int v, .int w, .int a, .int b, .int c, .int d] (fun x u => hoQ I J B n v w a b c d x u) := by
  refine gm_start (by decide) (Nat.le_of_ble_eq_true rfl) ?_
  intro p' e' s' m' be' me' co' ls C hml hlk hret hh hl
  have hl : lv_has ls 7 [(0, .ref B), (1, .int v), (2, .int w), (3, .int a), (4, .int b), (5, .int c), (6, .int d)] := hl
  have tK_0 : keepF B I I J J := keepF.nil
  have tV_0 : inv_FT I B := hV
  have tY_0 : kY B I I := kY.nil
  refine lv_aload_n C.1 C.2.1 d_FT_holds_0 rfl (lv_at hl 0 rfl) ?_
  refine lv_iload_n C.1 C.2.1 d_FT_holds_1 rfl (lv_at hl 1 rfl) ?_
  refine lv_iload_n C.1 C.2.1 d_FT_holds_2 rfl (lv_at hl 2 rfl) ?_
  refine gc_i hh (gc_runV (As := [.int v, .int w]) (rest := []) (n := 2) C hml hh (c_FT_isWay l D cs sh sz I J B hF hV n en hn v w) (tg_V tw_298 tw_300 tw_2 tw_57 tw_301) (by decide +kernel) ⟨rfl, rfl, by decide, by decide, Nat.zero_le _, Nat.zero_le _⟩ hF.1 rfl rfl hl.1 rfl (Nat.le_of_ble_eq_true rfl) d_FT_holds_3) (fun r_1 I_2 J_3 H locs hr_1 hh => ?_)
  obtain ⟨e_r_1, hr_1⟩ := hr_1
  rw [(Prod.mk.inj e_r_1).1, (Prod.mk.inj e_r_1).2] at hh
  refine lv_if_ne (tgt := 12) C.1 C.2.1 d_FT_holds_6 (by decide) (fun c_4 => ?_) (fun c_4 => ?_)
  · -- 6 -> 12
    have b_5 := bI_t hr_1 c_4
    obtain ⟨j_6, k_7, m_8, hj_6, hk_7, hm_8, ej_6, fk_7, em_8⟩ := fwB_j hn hV b_5
    subst ej_6
    subst fk_7
    skip
    obtain ⟨nm_, g_, t_, hD_⟩ := gq_sp hG hV en hn hj_6 hk_7 hm_8 em_8 b_5
    obtain ⟨_, hk3_, _, _, _, enm_, hn1_, hnm_, eg_, hg4_, et_, ht2_, hgd_, _⟩ := id hD_
    refine lv_aload_n C.1 C.2.1 d_FT_holds_12 rfl (lv_at hl 0 rfl) ?_
    refine lv_iload_n C.1 C.2.1 d_FT_holds_13 rfl (lv_at hl 1 rfl) ?_
    refine lv_iload_n C.1 C.2.1 d_FT_holds_14 rfl (lv_at hl 3 rfl) ?_
    refine lv_iload C.1 C.2.1 d_FT_holds_15 (lv_at hl 4 rfl) ?_
    refine lv_iload C.1 C.2.1 d_FT_holds_17 (lv_at hl 5 rfl) ?_
    refine lv_iload C.1 C.2.1 d_FT_holds_19 (lv_at hl 6 rfl) ?_
    refine gc_i hh (gc_runV (As := [.int (nI j_6), .int a, .int b, .int c, .int d]) (rest := []) (n := 5) C hml hh (c_FT_rowFits l D cs sh sz I J B hF hV j_6 nm_ (by omega) enm_ hnm_ a b c d) (tg_V tw_268 tw_270 tw_1 tw_57 tw_271) (by decide +kernel) ⟨rfl, rfl, by decide, by decide, Nat.zero_le _, Nat.zero_le _⟩ hF.1 rfl rfl hl.1 rfl (Nat.le_of_ble_eq_true rfl) d_FT_holds_21) (fun r_9 I_10 J_11 H locs hr_9 hh => ?_)
    obtain ⟨e_r_9, hr_9⟩ := hr_9
    rw [(Prod.mk.inj e_r_9).1, (Prod.mk.inj e_r_9).2] at hh
    refine lv_if_ne (tgt := 30) C.1 C.2.1 d_FT_holds_24 (by decide) (fun c_12 => ?_) (fun c_12 => ?_)
    · -- 24 -> 30
      have b_13 := bI_t hr_9 c_12
      skip
      refine lv_aload_n C.1 C.2.1 d_FT_holds_30 rfl (lv_at hl 0 rfl) ?_
      refine lv_iload_n C.1 C.2.1 d_FT_holds_31 rfl (lv_at hl 1 rfl) ?_
      refine lv_iload_n C.1 C.2.1 d_FT_holds_32 rfl (lv_at hl 2 rfl) ?_
      refine gc_r hh (gc_runV (As := [.int (nI j_6), .int (nI k_7)]) (rest := []) (n := 2) C hml hh (c_FT_spaceOfQ l D cs sh sz I J B hF tV_0 j_6 k_7 (by omega) (by omega) nm_ g_ t_ enm_ hn1_ hnm_ eg_ hg4_ et_ ht2_ (fun i_ hi_ => ⟨(hgd_ i_ hi_).1, (hgd_ i_ hi_).2.1⟩)) (tg_V tw_322 tw_324 tw_4 tw_57 tw_325) (by decide +kernel) ⟨rfl, rfl, by decide, by decide, Nat.zero_le _, Nat.zero_le _⟩ hF.1 rfl rfl hl.1 rfl (Nat.le_of_ble_eq_true rfl) d_FT_holds_33) (fun r_14 I_15 J_16 H locs hr_14 hh => ?_)
      have er_14 := hr_14.1
      have tY_17 : kY B I I_15 := kY.tr tY_0 hr_14.2.2.2
      have tK_18 : keepF B I I_15 J J_16 := keepF.tr tK_0 hr_14.2.1.1
      have tV_19 : inv_FT I_15 B := hr_14.2.1.2
      have h_r_14 : is_Sp sh r_14 := by rw [er_14]; exact hF.2.2.1.2 k_7 (by omega)
      obtain ⟨LU_, R_, hMx_, hOk_⟩ := hr_14.2.2.1
      have hM_ := hMx_
      rw [← er_14] at hM_
      have hl31_ : R_.length ≤ 31 := ok_lenR hOk_ (by rw [dd_rw_len]; omega)
      refine lv_iload_n C.1 C.2.1 d_FT_holds_36 rfl (lv_at hl 3 rfl) ?_
      refine lv_iload C.1 C.2.1 d_FT_holds_37 (lv_at hl 4 rfl) ?_
      refine lv_iload C.1 C.2.1 d_FT_holds_39 (lv_at hl 5 rfl) ?_
      refine lv_iload C.1 C.2.1 d_FT_holds_41 (lv_at hl 6 rfl) ?_
      refine gc_i hh (gc_runV (As := [.int a, .int b, .int c, .int d]) (rest := []) (n := 4) C hml hh (c_Sp_implies l D cs sh sz I_15 J_16 r_14 h_r_14 (LU_.map Prod.fst).length hM_.1 (ok_len hOk_) R_.length hM_.2.1 (by omega) a b c d) (tg_V tw_394 tw_395 tw_396 tw_63 tw_397) (by decide +kernel) ⟨rfl, rfl, by decide, by decide, Nat.zero_le _, Nat.zero_le _⟩ h_r_14.1 rfl rfl hl.1 rfl (Nat.le_of_ble_eq_true rfl) d_FT_holds_43) (fun r_20 I_21 J_22 H locs hr_20 hh => ?_)
      obtain ⟨e_r_20, hr_20⟩ := hr_20
      rw [(Prod.mk.inj e_r_20).1, (Prod.mk.inj e_r_20).2] at hh
      obtain ⟨br_20, hr_20, ihr_20⟩ := hr_20
      refine lv_if_eq (tgt := 53) C.1 C.2.1 d_FT_holds_46 (by decide) (fun c_23 => ?_) (fun c_23 => ?_)
      · -- 46 -> 53
        have b_24 := bI_f hr_20 c_23
        skip
        refine lv_iconst (v := nI 0) C.1 C.2.1 d_FT_holds_53 rfl ?_
        exact gr_i C hlk hret rfl hh (by first | exact ⟨⟨tK_18, tV_19⟩, tY_17, Or.inl ⟨by assumption, rfl⟩⟩ | exact ⟨⟨tK_18, tV_19⟩, tY_17, Or.inr ⟨_, _, nm_, g_, t_, hD_, Or.inl ⟨by assumption, rfl⟩⟩⟩ | exact ⟨⟨tK_18, tV_19⟩, tY_17, Or.inr ⟨_, _, nm_, g_, t_, hD_, Or.inr ⟨by assumption, LU_, R_, br_20, ⟨hMx_, hOk_⟩, by first | (rw [show br_20 = true by assumption]; rfl) | (rw [show br_20 = false by assumption]; rfl), by have h_ := ihr_20; rw [er_14] at h_; exact h_⟩⟩⟩) d_FT_holds_54
      · -- 46 -> 49
        have b_25 := bI_t hr_20 c_23
        skip
        refine lv_iconst (v := nI 1) C.1 C.2.1 d_FT_holds_49 rfl ?_
        refine lv_goto (tgt := 54) C.1 C.2.1 d_FT_holds_50 (by decide) ?_
        exact gr_i C hlk hret rfl hh (by first | exact ⟨⟨tK_18, tV_19⟩, tY_17, Or.inl ⟨by assumption, rfl⟩⟩ | exact ⟨⟨tK_18, tV_19⟩, tY_17, Or.inr ⟨_, _, nm_, g_, t_, hD_, Or.inl ⟨by assumption, rfl⟩⟩⟩ | exact ⟨⟨tK_18, tV_19⟩, tY_17, Or.inr ⟨_, _, nm_, g_, t_, hD_, Or.inr ⟨by assumption, LU_, R_, br_20, ⟨hMx_, hOk_⟩, by first | (rw [show br_20 = true by assumption]; rfl) | (rw [show br_20 = false by assumption]; rfl), by have h_ := ihr_20; rw [er_14] at h_; exact h_⟩⟩⟩) d_FT_holds_54
    · -- 24 -> 27
      have b_26 := bI_f hr_9 c_12
      skip
      refine lv_bipush (v := (-3)) C.1 C.2.1 d_FT_holds_27 rfl ?_
      exact gr_i C hlk hret rfl hh (by first | exact ⟨⟨tK_0, tV_0⟩, tY_0, Or.inl ⟨by assumption, rfl⟩⟩ | exact ⟨⟨tK_0, tV_0⟩, tY_0, Or.inr ⟨_, _, nm_, g_, t_, hD_, Or.inl ⟨by assumption, rfl⟩⟩⟩ | exact ⟨⟨tK_0, tV_0⟩, tY_0, Or.inr ⟨_, _, nm_, g_, t_, hD_, Or.inr ⟨by assumption, LU_, R_, br_20, ⟨hMx_, hOk_⟩, by first | (rw [show br_20 = true by assumption]; rfl) | (rw [show br_20 = false by assumption]; rfl), by have h_ := ihr_20; rw [er_14] at h_; exact h_⟩⟩⟩) d_FT_holds_29
  · -- 6 -> 9
    have b_27 := bI_f hr_1 c_4
    skip
    refine lv_bipush (v := (-2)) C.1 C.2.1 d_FT_holds_9 rfl ?_
    exact gr_i C hlk hret rfl hh (by first | exact ⟨⟨tK_0, tV_0⟩, tY_0, Or.inl ⟨by assumption, rfl⟩⟩ | exact ⟨⟨tK_0, tV_0⟩, tY_0, Or.inr ⟨_, _, nm_, g_, t_, hD_, Or.inl ⟨by assumption, rfl⟩⟩⟩ | exact ⟨⟨tK_0, tV_0⟩, tY_0, Or.inr ⟨_, _, nm_, g_, t_, hD_, Or.inr ⟨by assumption, LU_, R_, br_20, ⟨hMx_, hOk_⟩, by first | (rw [show br_20 = true by assumption]; rfl) | (rw [show br_20 = false by assumption]; rfl), by have h_ := ihr_20; rw [er_14] at h_; exact h_⟩⟩⟩) d_FT_holds_11

set_option maxHeartbeats 4000000 in
set_option maxRecDepth 100000 in
theorem c_FT_termQ (l : Launch) (D : va_G) (cs : Nat → ClassId) (sh : gm_H) (sz : Nat) (I : gm_I) (J : gm_J) (B : Nat) (hF : is_FT cs sh B) (hV : inv_FT I B) (n : Nat) (en : I B 1 = nI n) (hn : n ≤ 8) (hG : GQ I B) (v w a b c : Int32) : CI l y_FT_term w_FT_term { frames := 6, cells := 0, slots := 0, locals := 159 } D cs sh sz I J [.ref B, .int v, .int w, .int a, .int b, .int c] (fun x u => teQ I J B n v w a b c x u) := by
  refine gm_start (by decide) (Nat.le_of_ble_eq_true rfl) ?_
  intro p' e' s' m' be' me' co' ls C hml hlk hret hh hl
  have hl : lv_has ls 8 [(0, .ref B), (1, .int v), (2, .int w), (3, .int a), (4, .int b), (5, .int c)] := hl
  have tK_0 : keepF B I I J J := keepF.nil
  have tV_0 : inv_FT I B := hV
  have tY_0 : kY B I I := kY.nil
  refine lv_aload_n C.1 C.2.1 d_FT_term_0 rfl (lv_at hl 0 rfl) ?_
  refine lv_iload_n C.1 C.2.1 d_FT_term_1 rfl (lv_at hl 1 rfl) ?_
  refine lv_iload_n C.1 C.2.1 d_FT_term_2 rfl (lv_at hl 2 rfl) ?_
  refine gc_i hh (gc_runV (As := [.int v, .int w]) (rest := []) (n := 2) C hml hh (c_FT_isWay l D cs sh sz I J B hF hV n en hn v w) (tg_V tw_298 tw_300 tw_2 tw_57 tw_301) (by decide +kernel) ⟨rfl, rfl, by decide, by decide, Nat.zero_le _, Nat.zero_le _⟩ hF.1 rfl rfl hl.1 rfl (Nat.le_of_ble_eq_true rfl) d_FT_term_3) (fun r_1 I_2 J_3 H locs hr_1 hh => ?_)
  obtain ⟨e_r_1, hr_1⟩ := hr_1
  rw [(Prod.mk.inj e_r_1).1, (Prod.mk.inj e_r_1).2] at hh
  refine lv_if_ne (tgt := 12) C.1 C.2.1 d_FT_term_6 (by decide) (fun c_4 => ?_) (fun c_4 => ?_)
  · -- 6 -> 12
    have b_5 := bI_t hr_1 c_4
    obtain ⟨j_6, k_7, m_8, hj_6, hk_7, hm_8, ej_6, fk_7, em_8⟩ := fwB_j hn hV b_5
    subst ej_6
    subst fk_7
    skip
    obtain ⟨nm_, g_, t_, hD_⟩ := gq_sp hG hV en hn hj_6 hk_7 hm_8 em_8 b_5
    obtain ⟨_, hk3_, _, _, _, enm_, hn1_, hnm_, eg_, hg4_, et_, ht2_, hgd_, _⟩ := id hD_
    refine lv_aload_n C.1 C.2.1 d_FT_term_12 rfl (lv_at hl 0 rfl) ?_
    refine gg_r C hh hF.1 rfl in_FT 0 (by decide) rfl tw_210 rfl d_FT_term_13 ?_
    refine lv_iload_n C.1 C.2.1 d_FT_term_16 rfl (lv_at hl 1 rfl) ?_
    refine ga_q C hh 2 hF.2.1 (Cn := "FallingTerms$Loop") rfl (k := j_6) (v := B + 12 + 21 * j_6) rfl (by omega) (by omega) (if_pos (by omega)) d_FT_term_17 ?_
    obtain ⟨p_9, ep_9⟩ : ∃ z : Nat, z = B + 12 + 21 * j_6 := ⟨_, rfl⟩
    have hp_9 : is_Lp cs sh p_9 := by rw [ep_9]; exact hF.2.2.2.2.2.2.2.2.2.2 j_6 (by omega)
    refine gm_eqr ep_9.symm ?_
    refine gn_i C hh hp_9.1 rfl in_Lp 0 (by decide) rfl tw_153 rfl d_FT_term_18 ?_
    refine gm_eqi (by rw [ep_9]; exact enm_ : I p_9 0 = nI nm_) ?_
    refine lv_iload_n C.1 C.2.1 d_FT_term_21 rfl (lv_at hl 3 rfl) ?_
    refine lv_iload C.1 C.2.1 d_FT_term_22 (lv_at hl 4 rfl) ?_
    refine lv_iload C.1 C.2.1 d_FT_term_24 (lv_at hl 5 rfl) ?_
    refine lv_iconst (v := nI 2) C.1 C.2.1 d_FT_term_26 rfl ?_
    refine gc_i hh (gc_runS (As := [.int (nI nm_), .int a, .int b, .int c, .int (nI 2)]) (rest := []) (n := 5) C hml hh (c_FT_weightsFit l D cs sh sz I J nm_ (by omega) a b c (nI 2)) (tg_S tw_272 tw_273 tw_57 tw_274) (by decide +kernel) ⟨rfl, rfl, by decide, by decide, Nat.zero_le _, Nat.zero_le _⟩ rfl hl.1 rfl (Nat.le_of_ble_eq_true rfl) d_FT_term_27) (fun r_10 I_11 J_12 H locs hr_10 hh => ?_)
    obtain ⟨e_r_10, hr_10⟩ := hr_10
    rw [(Prod.mk.inj e_r_10).1, (Prod.mk.inj e_r_10).2] at hh
    refine lv_if_ne (tgt := 36) C.1 C.2.1 d_FT_term_30 (by decide) (fun c_13 => ?_) (fun c_13 => ?_)
    · -- 30 -> 36
      have b_14 := bI_t hr_10 c_13
      skip
      refine lv_aload_n C.1 C.2.1 d_FT_term_36 rfl (lv_at hl 0 rfl) ?_
      refine lv_iload_n C.1 C.2.1 d_FT_term_37 rfl (lv_at hl 1 rfl) ?_
      refine lv_iload_n C.1 C.2.1 d_FT_term_38 rfl (lv_at hl 2 rfl) ?_
      refine gc_r hh (gc_runV (As := [.int (nI j_6), .int (nI k_7)]) (rest := []) (n := 2) C hml hh (c_FT_spaceOfQ l D cs sh sz I J B hF tV_0 j_6 k_7 (by omega) (by omega) nm_ g_ t_ enm_ hn1_ hnm_ eg_ hg4_ et_ ht2_ (fun i_ hi_ => ⟨(hgd_ i_ hi_).1, (hgd_ i_ hi_).2.1⟩)) (tg_V tw_322 tw_324 tw_4 tw_57 tw_325) (by decide +kernel) ⟨rfl, rfl, by decide, by decide, Nat.zero_le _, Nat.zero_le _⟩ hF.1 rfl rfl hl.1 rfl (Nat.le_of_ble_eq_true rfl) d_FT_term_39) (fun r_15 I_16 J_17 H locs hr_15 hh => ?_)
      have er_15 := hr_15.1
      have tY_18 : kY B I I_16 := kY.tr tY_0 hr_15.2.2.2
      have tK_19 : keepF B I I_16 J J_17 := keepF.tr tK_0 hr_15.2.1.1
      have tV_20 : inv_FT I_16 B := hr_15.2.1.2
      have h_r_15 : is_Sp sh r_15 := by rw [er_15]; exact hF.2.2.1.2 k_7 (by omega)
      obtain ⟨LU_, R_, hMx_, hOk_⟩ := hr_15.2.2.1
      have hM_ := hMx_
      rw [← er_15] at hM_
      have hl31_ : R_.length ≤ 31 := ok_lenR hOk_ (by rw [dd_rw_len]; omega)
      refine lv_astore (lv' := [(6, .ref r_15), (0, .ref B), (1, .int (nI j_6)), (2, .int (nI k_7)), (3, .int a), (4, .int b), (5, .int c)]) C.1 C.2.1 d_FT_term_42 hl (by decide) rfl (fun ls hl => ?_)
      refine lv_aload_n C.1 C.2.1 d_FT_term_44 rfl (lv_at hl 1 rfl) ?_
      refine gg_r C hh hF.1 rfl in_FT 0 (by decide) rfl tw_210 rfl d_FT_term_45 ?_
      refine lv_iload_n C.1 C.2.1 d_FT_term_48 rfl (lv_at hl 2 rfl) ?_
      refine ga_q C hh 2 hF.2.1 (Cn := "FallingTerms$Loop") rfl (k := j_6) (v := B + 12 + 21 * j_6) rfl (by omega) (by omega) (if_pos (by omega)) d_FT_term_49 ?_
      refine gm_eqr ep_9.symm ?_
      refine gn_r C hh hp_9.1 rfl in_Lp 2 (by decide) rfl tw_160 rfl d_FT_term_50 ?_
      refine lv_iload_n C.1 C.2.1 d_FT_term_53 rfl (lv_at hl 3 rfl) ?_
      refine ga_q C hh 4 hp_9.2.2.1 (Cn := "FallingTerms$Way") rfl (k := k_7) (v := p_9 + 6 + 5 * k_7) rfl (by omega) (by omega) (if_pos (by omega)) d_FT_term_54 ?_
      obtain ⟨p_21, ep_21⟩ : ∃ z : Nat, z = p_9 + 6 + 5 * k_7 := ⟨_, rfl⟩
      have hp_21 : is_Wy sh p_21 := by rw [ep_21]; exact hp_9.2.2.2.2.2 k_7 (by omega)
      refine gm_eqr ep_21.symm ?_
      refine lv_astore (lv' := [(7, .ref p_21), (6, .ref r_15), (0, .ref B), (1, .int (nI j_6)), (2, .int (nI k_7)), (3, .int a), (4, .int b), (5, .int c)]) C.1 C.2.1 d_FT_term_55 hl (by decide) rfl (fun ls hl => ?_)
      refine lv_aload C.1 C.2.1 d_FT_term_57 (lv_at hl 1 rfl) ?_
      refine lv_iload_n C.1 C.2.1 d_FT_term_59 rfl (lv_at hl 5 rfl) ?_
      refine lv_iload C.1 C.2.1 d_FT_term_60 (lv_at hl 6 rfl) ?_
      refine lv_iload C.1 C.2.1 d_FT_term_62 (lv_at hl 7 rfl) ?_
      refine gc_i hh (gc_runV (As := [.int a, .int b, .int c]) (rest := []) (n := 3) C hml hh (c_Sp_bounds l D cs sh sz I_16 J_17 r_15 h_r_15 (LU_.map Prod.fst).length hM_.1 (ok_len hOk_) R_.length hM_.2.1 (by omega) a b c) (tg_V tw_402 tw_403 tw_404 tw_63 tw_405) (by decide +kernel) ⟨rfl, rfl, by decide, by decide, Nat.zero_le _, Nat.zero_le _⟩ h_r_15.1 rfl rfl hl.1 rfl (Nat.le_of_ble_eq_true rfl) d_FT_term_64) (fun r_22 I_23 J_24 H locs hr_22 hh => ?_)
      obtain ⟨e_r_22, hr_22⟩ := hr_22
      rw [(Prod.mk.inj e_r_22).1, (Prod.mk.inj e_r_22).2] at hh
      obtain ⟨br_22, hr_22, ihr_22⟩ := hr_22
      refine lv_if_eq (tgt := 74) C.1 C.2.1 d_FT_term_67 (by decide) (fun c_25 => ?_) (fun c_25 => ?_)
      · -- 67 -> 74
        have b_26 := bI_f hr_22 c_25
        skip
        refine lv_iconst (v := nI 0) C.1 C.2.1 d_FT_term_74 rfl ?_
        refine lv_aload C.1 C.2.1 d_FT_term_75 (lv_at hl 0 rfl) ?_
        refine lv_aload C.1 C.2.1 d_FT_term_77 (lv_at hl 1 rfl) ?_
        refine lv_iload_n C.1 C.2.1 d_FT_term_79 rfl (lv_at hl 5 rfl) ?_
        refine lv_iload C.1 C.2.1 d_FT_term_80 (lv_at hl 6 rfl) ?_
        refine lv_iload C.1 C.2.1 d_FT_term_82 (lv_at hl 7 rfl) ?_
        refine lv_iconst (v := nI 0) C.1 C.2.1 d_FT_term_84 rfl ?_
        refine gc_i hh (gc_runV (As := [.ref r_15, .int a, .int b, .int c, .int (nI 0)]) (rest := [.int (nI 0)]) (n := 5) C hml hh (c_Wy_lessens l D cs sh sz I_16 J_17 p_21 hp_21 r_15 h_r_15 (LU_.map Prod.fst).length hM_.1 (ok_len hOk_) R_.length hM_.2.1 (by omega) a b c (nI 0)) (tg_V tw_406 tw_407 tw_408 tw_62 tw_409) (by decide +kernel) ⟨rfl, rfl, by decide, by decide, Nat.zero_le _, Nat.zero_le _⟩ hp_21.1 rfl rfl hl.1 rfl (Nat.le_of_ble_eq_true rfl) d_FT_term_85) (fun r_27 I_28 J_29 H locs hr_27 hh => ?_)
        obtain ⟨e_r_27, hr_27⟩ := hr_27
        rw [(Prod.mk.inj e_r_27).1, (Prod.mk.inj e_r_27).2] at hh
        obtain ⟨br_27, hr_27, ihr_27⟩ := hr_27
        refine lv_if_eq (tgt := 95) C.1 C.2.1 d_FT_term_88 (by decide) (fun c_30 => ?_) (fun c_30 => ?_)
        · -- 88 -> 95
          have b_31 := bI_f hr_27 c_30
          skip
          refine lv_iconst (v := nI 0) C.1 C.2.1 d_FT_term_95 rfl ?_
          refine lv_iadd C.1 C.2.1 d_FT_term_96 ?_
          refine gm_eqi (y := nI 0) (by decide) ?_
          refine lv_aload C.1 C.2.1 d_FT_term_97 (lv_at hl 0 rfl) ?_
          refine lv_aload C.1 C.2.1 d_FT_term_99 (lv_at hl 1 rfl) ?_
          refine lv_iload_n C.1 C.2.1 d_FT_term_101 rfl (lv_at hl 5 rfl) ?_
          refine lv_iload C.1 C.2.1 d_FT_term_102 (lv_at hl 6 rfl) ?_
          refine lv_iload C.1 C.2.1 d_FT_term_104 (lv_at hl 7 rfl) ?_
          refine lv_iconst (v := nI 1) C.1 C.2.1 d_FT_term_106 rfl ?_
          refine gc_i hh (gc_runV (As := [.ref r_15, .int a, .int b, .int c, .int (nI 1)]) (rest := [.int (nI 0)]) (n := 5) C hml hh (c_Wy_lessens l D cs sh sz I_16 J_17 p_21 hp_21 r_15 h_r_15 (LU_.map Prod.fst).length hM_.1 (ok_len hOk_) R_.length hM_.2.1 (by omega) a b c (nI 1)) (tg_V tw_406 tw_407 tw_408 tw_62 tw_409) (by decide +kernel) ⟨rfl, rfl, by decide, by decide, Nat.zero_le _, Nat.zero_le _⟩ hp_21.1 rfl rfl hl.1 rfl (Nat.le_of_ble_eq_true rfl) d_FT_term_107) (fun r_32 I_33 J_34 H locs hr_32 hh => ?_)
          obtain ⟨e_r_32, hr_32⟩ := hr_32
          rw [(Prod.mk.inj e_r_32).1, (Prod.mk.inj e_r_32).2] at hh
          obtain ⟨br_32, hr_32, ihr_32⟩ := hr_32
          refine lv_if_eq (tgt := 117) C.1 C.2.1 d_FT_term_110 (by decide) (fun c_35 => ?_) (fun c_35 => ?_)
          · -- 110 -> 117
            have b_36 := bI_f hr_32 c_35
            skip
            refine lv_iconst (v := nI 0) C.1 C.2.1 d_FT_term_117 rfl ?_
            refine lv_iadd C.1 C.2.1 d_FT_term_118 ?_
            refine gm_eqi (y := nI 0) (by decide) ?_
            exact gr_i C hlk hret rfl hh (by first | exact ⟨⟨tK_19, tV_20⟩, tY_18, Or.inl ⟨by assumption, rfl⟩⟩ | exact ⟨⟨tK_19, tV_20⟩, tY_18, Or.inr ⟨_, _, nm_, g_, t_, hD_, Or.inl ⟨by assumption, rfl⟩⟩⟩ | exact ⟨⟨tK_19, tV_20⟩, tY_18, Or.inr ⟨_, _, nm_, g_, t_, hD_, Or.inr ⟨by assumption, LU_, R_, br_22, br_27, br_32, ⟨hMx_, hOk_⟩, (by simp only [b_5, (by rw [ep_9]; exact enm_ : I p_9 0 = nI nm_), b_14, b_26, b_31, b_36]; rfl), (by have h_ := ihr_22; rw [er_15] at h_; exact h_), (by have h_ := ihr_27; rw [er_15, ep_21, ep_9] at h_; exact h_), (by have h_ := ihr_32; rw [er_15, ep_21, ep_9] at h_; exact h_)⟩⟩⟩) d_FT_term_119
          · -- 110 -> 113
            have b_37 := bI_t hr_32 c_35
            skip
            refine lv_iconst (v := nI 4) C.1 C.2.1 d_FT_term_113 rfl ?_
            refine lv_goto (tgt := 118) C.1 C.2.1 d_FT_term_114 (by decide) ?_
            refine lv_iadd C.1 C.2.1 d_FT_term_118 ?_
            refine gm_eqi (y := nI 4) (by decide) ?_
            exact gr_i C hlk hret rfl hh (by first | exact ⟨⟨tK_19, tV_20⟩, tY_18, Or.inl ⟨by assumption, rfl⟩⟩ | exact ⟨⟨tK_19, tV_20⟩, tY_18, Or.inr ⟨_, _, nm_, g_, t_, hD_, Or.inl ⟨by assumption, rfl⟩⟩⟩ | exact ⟨⟨tK_19, tV_20⟩, tY_18, Or.inr ⟨_, _, nm_, g_, t_, hD_, Or.inr ⟨by assumption, LU_, R_, br_22, br_27, br_32, ⟨hMx_, hOk_⟩, (by simp only [b_5, (by rw [ep_9]; exact enm_ : I p_9 0 = nI nm_), b_14, b_26, b_31, b_37]; rfl), (by have h_ := ihr_22; rw [er_15] at h_; exact h_), (by have h_ := ihr_27; rw [er_15, ep_21, ep_9] at h_; exact h_), (by have h_ := ihr_32; rw [er_15, ep_21, ep_9] at h_; exact h_)⟩⟩⟩) d_FT_term_119
        · -- 88 -> 91
          have b_38 := bI_t hr_27 c_30
          skip
          refine lv_iconst (v := nI 2) C.1 C.2.1 d_FT_term_91 rfl ?_
          refine lv_goto (tgt := 96) C.1 C.2.1 d_FT_term_92 (by decide) ?_
          refine lv_iadd C.1 C.2.1 d_FT_term_96 ?_
          refine gm_eqi (y := nI 2) (by decide) ?_
          refine lv_aload C.1 C.2.1 d_FT_term_97 (lv_at hl 0 rfl) ?_
          refine lv_aload C.1 C.2.1 d_FT_term_99 (lv_at hl 1 rfl) ?_
          refine lv_iload_n C.1 C.2.1 d_FT_term_101 rfl (lv_at hl 5 rfl) ?_
          refine lv_iload C.1 C.2.1 d_FT_term_102 (lv_at hl 6 rfl) ?_
          refine lv_iload C.1 C.2.1 d_FT_term_104 (lv_at hl 7 rfl) ?_
          refine lv_iconst (v := nI 1) C.1 C.2.1 d_FT_term_106 rfl ?_
          refine gc_i hh (gc_runV (As := [.ref r_15, .int a, .int b, .int c, .int (nI 1)]) (rest := [.int (nI 2)]) (n := 5) C hml hh (c_Wy_lessens l D cs sh sz I_16 J_17 p_21 hp_21 r_15 h_r_15 (LU_.map Prod.fst).length hM_.1 (ok_len hOk_) R_.length hM_.2.1 (by omega) a b c (nI 1)) (tg_V tw_406 tw_407 tw_408 tw_62 tw_409) (by decide +kernel) ⟨rfl, rfl, by decide, by decide, Nat.zero_le _, Nat.zero_le _⟩ hp_21.1 rfl rfl hl.1 rfl (Nat.le_of_ble_eq_true rfl) d_FT_term_107) (fun r_39 I_40 J_41 H locs hr_39 hh => ?_)
          obtain ⟨e_r_39, hr_39⟩ := hr_39
          rw [(Prod.mk.inj e_r_39).1, (Prod.mk.inj e_r_39).2] at hh
          obtain ⟨br_39, hr_39, ihr_39⟩ := hr_39
          refine lv_if_eq (tgt := 117) C.1 C.2.1 d_FT_term_110 (by decide) (fun c_42 => ?_) (fun c_42 => ?_)
          · -- 110 -> 117
            have b_43 := bI_f hr_39 c_42
            skip
            refine lv_iconst (v := nI 0) C.1 C.2.1 d_FT_term_117 rfl ?_
            refine lv_iadd C.1 C.2.1 d_FT_term_118 ?_
            refine gm_eqi (y := nI 2) (by decide) ?_
            exact gr_i C hlk hret rfl hh (by first | exact ⟨⟨tK_19, tV_20⟩, tY_18, Or.inl ⟨by assumption, rfl⟩⟩ | exact ⟨⟨tK_19, tV_20⟩, tY_18, Or.inr ⟨_, _, nm_, g_, t_, hD_, Or.inl ⟨by assumption, rfl⟩⟩⟩ | exact ⟨⟨tK_19, tV_20⟩, tY_18, Or.inr ⟨_, _, nm_, g_, t_, hD_, Or.inr ⟨by assumption, LU_, R_, br_22, br_27, br_39, ⟨hMx_, hOk_⟩, (by simp only [b_5, (by rw [ep_9]; exact enm_ : I p_9 0 = nI nm_), b_14, b_26, b_38, b_43]; rfl), (by have h_ := ihr_22; rw [er_15] at h_; exact h_), (by have h_ := ihr_27; rw [er_15, ep_21, ep_9] at h_; exact h_), (by have h_ := ihr_39; rw [er_15, ep_21, ep_9] at h_; exact h_)⟩⟩⟩) d_FT_term_119
          · -- 110 -> 113
            have b_44 := bI_t hr_39 c_42
            skip
            refine lv_iconst (v := nI 4) C.1 C.2.1 d_FT_term_113 rfl ?_
            refine lv_goto (tgt := 118) C.1 C.2.1 d_FT_term_114 (by decide) ?_
            refine lv_iadd C.1 C.2.1 d_FT_term_118 ?_
            refine gm_eqi (y := nI 6) (by decide) ?_
            exact gr_i C hlk hret rfl hh (by first | exact ⟨⟨tK_19, tV_20⟩, tY_18, Or.inl ⟨by assumption, rfl⟩⟩ | exact ⟨⟨tK_19, tV_20⟩, tY_18, Or.inr ⟨_, _, nm_, g_, t_, hD_, Or.inl ⟨by assumption, rfl⟩⟩⟩ | exact ⟨⟨tK_19, tV_20⟩, tY_18, Or.inr ⟨_, _, nm_, g_, t_, hD_, Or.inr ⟨by assumption, LU_, R_, br_22, br_27, br_39, ⟨hMx_, hOk_⟩, (by simp only [b_5, (by rw [ep_9]; exact enm_ : I p_9 0 = nI nm_), b_14, b_26, b_38, b_44]; rfl), (by have h_ := ihr_22; rw [er_15] at h_; exact h_), (by have h_ := ihr_27; rw [er_15, ep_21, ep_9] at h_; exact h_), (by have h_ := ihr_39; rw [er_15, ep_21, ep_9] at h_; exact h_)⟩⟩⟩) d_FT_term_119
      · -- 67 -> 70
        have b_45 := bI_t hr_22 c_25
        skip
        refine lv_iconst (v := nI 1) C.1 C.2.1 d_FT_term_70 rfl ?_
        refine lv_goto (tgt := 75) C.1 C.2.1 d_FT_term_71 (by decide) ?_
        refine lv_aload C.1 C.2.1 d_FT_term_75 (lv_at hl 0 rfl) ?_
        refine lv_aload C.1 C.2.1 d_FT_term_77 (lv_at hl 1 rfl) ?_
        refine lv_iload_n C.1 C.2.1 d_FT_term_79 rfl (lv_at hl 5 rfl) ?_
        refine lv_iload C.1 C.2.1 d_FT_term_80 (lv_at hl 6 rfl) ?_
        refine lv_iload C.1 C.2.1 d_FT_term_82 (lv_at hl 7 rfl) ?_
        refine lv_iconst (v := nI 0) C.1 C.2.1 d_FT_term_84 rfl ?_
        refine gc_i hh (gc_runV (As := [.ref r_15, .int a, .int b, .int c, .int (nI 0)]) (rest := [.int (nI 1)]) (n := 5) C hml hh (c_Wy_lessens l D cs sh sz I_16 J_17 p_21 hp_21 r_15 h_r_15 (LU_.map Prod.fst).length hM_.1 (ok_len hOk_) R_.length hM_.2.1 (by omega) a b c (nI 0)) (tg_V tw_406 tw_407 tw_408 tw_62 tw_409) (by decide +kernel) ⟨rfl, rfl, by decide, by decide, Nat.zero_le _, Nat.zero_le _⟩ hp_21.1 rfl rfl hl.1 rfl (Nat.le_of_ble_eq_true rfl) d_FT_term_85) (fun r_46 I_47 J_48 H locs hr_46 hh => ?_)
        obtain ⟨e_r_46, hr_46⟩ := hr_46
        rw [(Prod.mk.inj e_r_46).1, (Prod.mk.inj e_r_46).2] at hh
        obtain ⟨br_46, hr_46, ihr_46⟩ := hr_46
        refine lv_if_eq (tgt := 95) C.1 C.2.1 d_FT_term_88 (by decide) (fun c_49 => ?_) (fun c_49 => ?_)
        · -- 88 -> 95
          have b_50 := bI_f hr_46 c_49
          skip
          refine lv_iconst (v := nI 0) C.1 C.2.1 d_FT_term_95 rfl ?_
          refine lv_iadd C.1 C.2.1 d_FT_term_96 ?_
          refine gm_eqi (y := nI 1) (by decide) ?_
          refine lv_aload C.1 C.2.1 d_FT_term_97 (lv_at hl 0 rfl) ?_
          refine lv_aload C.1 C.2.1 d_FT_term_99 (lv_at hl 1 rfl) ?_
          refine lv_iload_n C.1 C.2.1 d_FT_term_101 rfl (lv_at hl 5 rfl) ?_
          refine lv_iload C.1 C.2.1 d_FT_term_102 (lv_at hl 6 rfl) ?_
          refine lv_iload C.1 C.2.1 d_FT_term_104 (lv_at hl 7 rfl) ?_
          refine lv_iconst (v := nI 1) C.1 C.2.1 d_FT_term_106 rfl ?_
          refine gc_i hh (gc_runV (As := [.ref r_15, .int a, .int b, .int c, .int (nI 1)]) (rest := [.int (nI 1)]) (n := 5) C hml hh (c_Wy_lessens l D cs sh sz I_16 J_17 p_21 hp_21 r_15 h_r_15 (LU_.map Prod.fst).length hM_.1 (ok_len hOk_) R_.length hM_.2.1 (by omega) a b c (nI 1)) (tg_V tw_406 tw_407 tw_408 tw_62 tw_409) (by decide +kernel) ⟨rfl, rfl, by decide, by decide, Nat.zero_le _, Nat.zero_le _⟩ hp_21.1 rfl rfl hl.1 rfl (Nat.le_of_ble_eq_true rfl) d_FT_term_107) (fun r_51 I_52 J_53 H locs hr_51 hh => ?_)
          obtain ⟨e_r_51, hr_51⟩ := hr_51
          rw [(Prod.mk.inj e_r_51).1, (Prod.mk.inj e_r_51).2] at hh
          obtain ⟨br_51, hr_51, ihr_51⟩ := hr_51
          refine lv_if_eq (tgt := 117) C.1 C.2.1 d_FT_term_110 (by decide) (fun c_54 => ?_) (fun c_54 => ?_)
          · -- 110 -> 117
            have b_55 := bI_f hr_51 c_54
            skip
            refine lv_iconst (v := nI 0) C.1 C.2.1 d_FT_term_117 rfl ?_
            refine lv_iadd C.1 C.2.1 d_FT_term_118 ?_
            refine gm_eqi (y := nI 1) (by decide) ?_
            exact gr_i C hlk hret rfl hh (by first | exact ⟨⟨tK_19, tV_20⟩, tY_18, Or.inl ⟨by assumption, rfl⟩⟩ | exact ⟨⟨tK_19, tV_20⟩, tY_18, Or.inr ⟨_, _, nm_, g_, t_, hD_, Or.inl ⟨by assumption, rfl⟩⟩⟩ | exact ⟨⟨tK_19, tV_20⟩, tY_18, Or.inr ⟨_, _, nm_, g_, t_, hD_, Or.inr ⟨by assumption, LU_, R_, br_22, br_46, br_51, ⟨hMx_, hOk_⟩, (by simp only [b_5, (by rw [ep_9]; exact enm_ : I p_9 0 = nI nm_), b_14, b_45, b_50, b_55]; rfl), (by have h_ := ihr_22; rw [er_15] at h_; exact h_), (by have h_ := ihr_46; rw [er_15, ep_21, ep_9] at h_; exact h_), (by have h_ := ihr_51; rw [er_15, ep_21, ep_9] at h_; exact h_)⟩⟩⟩) d_FT_term_119
          · -- 110 -> 113
            have b_56 := bI_t hr_51 c_54
            skip
            refine lv_iconst (v := nI 4) C.1 C.2.1 d_FT_term_113 rfl ?_
            refine lv_goto (tgt := 118) C.1 C.2.1 d_FT_term_114 (by decide) ?_
            refine lv_iadd C.1 C.2.1 d_FT_term_118 ?_
            refine gm_eqi (y := nI 5) (by decide) ?_
            exact gr_i C hlk hret rfl hh (by first | exact ⟨⟨tK_19, tV_20⟩, tY_18, Or.inl ⟨by assumption, rfl⟩⟩ | exact ⟨⟨tK_19, tV_20⟩, tY_18, Or.inr ⟨_, _, nm_, g_, t_, hD_, Or.inl ⟨by assumption, rfl⟩⟩⟩ | exact ⟨⟨tK_19, tV_20⟩, tY_18, Or.inr ⟨_, _, nm_, g_, t_, hD_, Or.inr ⟨by assumption, LU_, R_, br_22, br_46, br_51, ⟨hMx_, hOk_⟩, (by simp only [b_5, (by rw [ep_9]; exact enm_ : I p_9 0 = nI nm_), b_14, b_45, b_50, b_56]; rfl), (by have h_ := ihr_22; rw [er_15] at h_; exact h_), (by have h_ := ihr_46; rw [er_15, ep_21, ep_9] at h_; exact h_), (by have h_ := ihr_51; rw [er_15, ep_21, ep_9] at h_; exact h_)⟩⟩⟩) d_FT_term_119
        · -- 88 -> 91
          have b_57 := bI_t hr_46 c_49
          skip
          refine lv_iconst (v := nI 2) C.1 C.2.1 d_FT_term_91 rfl ?_
          refine lv_goto (tgt := 96) C.1 C.2.1 d_FT_term_92 (by decide) ?_
          refine lv_iadd C.1 C.2.1 d_FT_term_96 ?_
          refine gm_eqi (y := nI 3) (by decide) ?_
          refine lv_aload C.1 C.2.1 d_FT_term_97 (lv_at hl 0 rfl) ?_
          refine lv_aload C.1 C.2.1 d_FT_term_99 (lv_at hl 1 rfl) ?_
          refine lv_iload_n C.1 C.2.1 d_FT_term_101 rfl (lv_at hl 5 rfl) ?_
          refine lv_iload C.1 C.2.1 d_FT_term_102 (lv_at hl 6 rfl) ?_
          refine lv_iload C.1 C.2.1 d_FT_term_104 (lv_at hl 7 rfl) ?_
          refine lv_iconst (v := nI 1) C.1 C.2.1 d_FT_term_106 rfl ?_
          refine gc_i hh (gc_runV (As := [.ref r_15, .int a, .int b, .int c, .int (nI 1)]) (rest := [.int (nI 3)]) (n := 5) C hml hh (c_Wy_lessens l D cs sh sz I_16 J_17 p_21 hp_21 r_15 h_r_15 (LU_.map Prod.fst).length hM_.1 (ok_len hOk_) R_.length hM_.2.1 (by omega) a b c (nI 1)) (tg_V tw_406 tw_407 tw_408 tw_62 tw_409) (by decide +kernel) ⟨rfl, rfl, by decide, by decide, Nat.zero_le _, Nat.zero_le _⟩ hp_21.1 rfl rfl hl.1 rfl (Nat.le_of_ble_eq_true rfl) d_FT_term_107) (fun r_58 I_59 J_60 H locs hr_58 hh => ?_)
          obtain ⟨e_r_58, hr_58⟩ := hr_58
          rw [(Prod.mk.inj e_r_58).1, (Prod.mk.inj e_r_58).2] at hh
          obtain ⟨br_58, hr_58, ihr_58⟩ := hr_58
          refine lv_if_eq (tgt := 117) C.1 C.2.1 d_FT_term_110 (by decide) (fun c_61 => ?_) (fun c_61 => ?_)
          · -- 110 -> 117
            have b_62 := bI_f hr_58 c_61
            skip
            refine lv_iconst (v := nI 0) C.1 C.2.1 d_FT_term_117 rfl ?_
            refine lv_iadd C.1 C.2.1 d_FT_term_118 ?_
            refine gm_eqi (y := nI 3) (by decide) ?_
            exact gr_i C hlk hret rfl hh (by first | exact ⟨⟨tK_19, tV_20⟩, tY_18, Or.inl ⟨by assumption, rfl⟩⟩ | exact ⟨⟨tK_19, tV_20⟩, tY_18, Or.inr ⟨_, _, nm_, g_, t_, hD_, Or.inl ⟨by assumption, rfl⟩⟩⟩ | exact ⟨⟨tK_19, tV_20⟩, tY_18, Or.inr ⟨_, _, nm_, g_, t_, hD_, Or.inr ⟨by assumption, LU_, R_, br_22, br_46, br_58, ⟨hMx_, hOk_⟩, (by simp only [b_5, (by rw [ep_9]; exact enm_ : I p_9 0 = nI nm_), b_14, b_45, b_57, b_62]; rfl), (by have h_ := ihr_22; rw [er_15] at h_; exact h_), (by have h_ := ihr_46; rw [er_15, ep_21, ep_9] at h_; exact h_), (by have h_ := ihr_58; rw [er_15, ep_21, ep_9] at h_; exact h_)⟩⟩⟩) d_FT_term_119
          · -- 110 -> 113
            have b_63 := bI_t hr_58 c_61
            skip
            refine lv_iconst (v := nI 4) C.1 C.2.1 d_FT_term_113 rfl ?_
            refine lv_goto (tgt := 118) C.1 C.2.1 d_FT_term_114 (by decide) ?_
            refine lv_iadd C.1 C.2.1 d_FT_term_118 ?_
            refine gm_eqi (y := nI 7) (by decide) ?_
            exact gr_i C hlk hret rfl hh (by first | exact ⟨⟨tK_19, tV_20⟩, tY_18, Or.inl ⟨by assumption, rfl⟩⟩ | exact ⟨⟨tK_19, tV_20⟩, tY_18, Or.inr ⟨_, _, nm_, g_, t_, hD_, Or.inl ⟨by assumption, rfl⟩⟩⟩ | exact ⟨⟨tK_19, tV_20⟩, tY_18, Or.inr ⟨_, _, nm_, g_, t_, hD_, Or.inr ⟨by assumption, LU_, R_, br_22, br_46, br_58, ⟨hMx_, hOk_⟩, (by simp only [b_5, (by rw [ep_9]; exact enm_ : I p_9 0 = nI nm_), b_14, b_45, b_57, b_63]; rfl), (by have h_ := ihr_22; rw [er_15] at h_; exact h_), (by have h_ := ihr_46; rw [er_15, ep_21, ep_9] at h_; exact h_), (by have h_ := ihr_58; rw [er_15, ep_21, ep_9] at h_; exact h_)⟩⟩⟩) d_FT_term_119
    · -- 30 -> 33
      have b_64 := bI_f hr_10 c_13
      skip
      refine lv_bipush (v := (-3)) C.1 C.2.1 d_FT_term_33 rfl ?_
      exact gr_i C hlk hret rfl hh (by first | exact ⟨⟨tK_0, tV_0⟩, tY_0, Or.inl ⟨by assumption, rfl⟩⟩ | exact ⟨⟨tK_0, tV_0⟩, tY_0, Or.inr ⟨_, _, nm_, g_, t_, hD_, Or.inl ⟨by assumption, rfl⟩⟩⟩ | exact ⟨⟨tK_0, tV_0⟩, tY_0, Or.inr ⟨_, _, nm_, g_, t_, hD_, Or.inr ⟨by assumption, LU_, R_, br_22, {Z2}, {Z3}, ⟨hMx_, hOk_⟩, (by simp only [b_5, (by rw [ep_9]; exact enm_ : I p_9 0 = nI nm_), b_64]; rfl), (by have h_ := ihr_22; rw [er_15] at h_; exact h_), (by have h_ := {H2}; rw [er_15, e, ep_9] at h_; exact h_), (by have h_ := {H3}; rw [er_15, e, ep_9] at h_; exact h_)⟩⟩⟩) d_FT_term_35
  · -- 6 -> 9
    have b_65 := bI_f hr_1 c_4
    skip
    refine lv_bipush (v := (-2)) C.1 C.2.1 d_FT_term_9 rfl ?_
    exact gr_i C hlk hret rfl hh (by first | exact ⟨⟨tK_0, tV_0⟩, tY_0, Or.inl ⟨by assumption, rfl⟩⟩ | exact ⟨⟨tK_0, tV_0⟩, tY_0, Or.inr ⟨_, _, nm_, g_, t_, hD_, Or.inl ⟨by assumption, rfl⟩⟩⟩ | exact ⟨⟨tK_0, tV_0⟩, tY_0, Or.inr ⟨_, _, nm_, g_, t_, hD_, Or.inr ⟨by assumption, LU_, R_, br_22, {Z2}, {Z3}, ⟨hMx_, hOk_⟩, (by simp only [b_65]; rfl), (by have h_ := ihr_22; rw [er_15] at h_; exact h_), (by have h_ := {H2}; rw [er_15, e, e] at h_; exact h_), (by have h_ := {H3}; rw [er_15, e, e] at h_; exact h_)⟩⟩⟩) d_FT_term_11
