set_option maxHeartbeats 4000000 in
set_option maxRecDepth 100000 in
theorem c_FT_spaceOfQ (l : Launch) (D : va_G) (cs : Nat → ClassId) (sh : gm_H) (sz : Nat) (I : gm_I) (J : gm_J) (B : Nat) (hF : is_FT cs sh B) (hV : inv_FT I B) (j k : Nat) (hj : j < 8) (hk : k < 3) (nm g t : Nat) (enm : I (B + 12 + 21 * j) 0 = nI nm) (hn1 : 1 ≤ nm) (hn3 : nm ≤ 3) (eg : I (B + 12 + 21 * j + 1) 2 = nI g) (hg4 : g ≤ 4) (et : I (B + 12 + 21 * j + 6 + 5 * k + 1) 2 = nI t) (ht2 : t ≤ 2) (hGd : ∀ i, i < g + t → dd_sm (fF I (B + 12 + 21 * j) k g i) ∧ fF I (B + 12 + 21 * j) k g i ≠ dd_0) : CR l y_FT_spaceOf w_FT_spaceOf { frames := 5, cells := 0, slots := 0, locals := 137 } D cs sh sz I J [.ref B, .int (nI j), .int (nI k)] (fun a u => a = B + 180 + 12 * k ∧ sfF B I J u ∧ sp_K u.1 u.2 (B + 180 + 12 * k) (dd_ab nm) (dd_rw (fF I (B + 12 + 21 * j) k g) (g + t)) ∧ kY B I u.1) := by
  refine gm_start (by decide) (Nat.le_of_ble_eq_true rfl) ?_
  intro p' e' s' m' be' me' co' ls C hml hlk hret hh hl
  have hl : lv_has ls 3 [(0, .ref B), (1, .int (nI j)), (2, .int (nI k))] := hl
  have tK_0 : keepF B I I J J := keepF.nil
  have tV_0 : inv_FT I B := hV
  have tY_0 : kY B I I := kY.nil
  refine lv_aload_n C.1 C.2.1 d_FT_spaceOf_0 rfl (lv_at hl 0 rfl) ?_
  refine gg_r C hh hF.1 rfl in_FT 2 (by decide) rfl tw_212 rfl d_FT_spaceOf_1 ?_
  refine lv_iload_n C.1 C.2.1 d_FT_spaceOf_4 rfl (lv_at hl 2 rfl) ?_
  refine ga_q C hh 3 hF.2.2.1.1 (Cn := "FallingTerms$Space") rfl (k := k) (v := B + 180 + 12 * k) rfl (by omega) (by omega) (if_pos (by omega)) d_FT_spaceOf_5 ?_
  obtain ⟨p_1, ep_1⟩ : ∃ z : Nat, z = B + 180 + 12 * k := ⟨_, rfl⟩
  have hp_1 : is_Sp sh p_1 := by rw [ep_1]; exact hF.2.2.1.2 k (by omega)
  refine gm_eqr ep_1.symm ?_
  refine lv_aload_n C.1 C.2.1 d_FT_spaceOf_6 rfl (lv_at hl 0 rfl) ?_
  refine gg_r C hh hF.1 rfl in_FT 0 (by decide) rfl tw_210 rfl d_FT_spaceOf_7 ?_
  refine lv_iload_n C.1 C.2.1 d_FT_spaceOf_10 rfl (lv_at hl 1 rfl) ?_
  refine ga_q C hh 2 hF.2.1 (Cn := "FallingTerms$Loop") rfl (k := j) (v := B + 12 + 21 * j) rfl (by omega) (by omega) (if_pos (by omega)) d_FT_spaceOf_11 ?_
  obtain ⟨p_2, ep_2⟩ : ∃ z : Nat, z = B + 12 + 21 * j := ⟨_, rfl⟩
  have hp_2 : is_Lp cs sh p_2 := by rw [ep_2]; exact hF.2.2.2.2.2.2.2.2.2.2 j (by omega)
  refine gm_eqr ep_2.symm ?_
  refine lv_iload_n C.1 C.2.1 d_FT_spaceOf_12 rfl (lv_at hl 2 rfl) ?_
  refine gc_v hh (gc_runV (As := [.ref p_2, .int (nI k)]) (rest := []) (n := 2) C hml hh (c_Sp_fillQ l D cs sh sz I J p_1 hp_1 p_2 hp_2 k (by omega) (by omega) nm g t (by rw [ep_2]; exact enm) hn1 hn3 (by rw [ep_2]; exact eg) hg4 (by rw [ep_2]; exact et) ht2 (by rw [ep_2]; exact hGd)) (tg_V tw_326 tw_327 tw_328 tw_63 tw_329) (by decide +kernel) ⟨rfl, rfl, by decide, by decide, Nat.zero_le _, Nat.zero_le _⟩ hp_1.1 rfl rfl hl.1 rfl (Nat.le_of_ble_eq_true rfl) d_FT_spaceOf_13) (fun I_4 J_5 H locs hr_3 hh => ?_)
  have hsf_ := skP.sf hr_3 (by rw [dd_rw_len]; omega)
  have tK_6 : keepF B I I_4 J J_5 := keepF.tr tK_0 (keepF.of hsf_.1 (by omega))
  have tV_7 : inv_FT I_4 B := inv_FT.sp (m := 2 * k) tV_0 hsf_ (by omega) (by omega)
  have tY_8 : kY B I I_4 := kY.tr tY_0 (kY.of hsf_.1 (by omega))
  have hKs_ := hr_3.2
  rw [ep_1, ep_2] at hKs_
  refine lv_aload_n C.1 C.2.1 d_FT_spaceOf_16 rfl (lv_at hl 0 rfl) ?_
  refine gg_r C hh hF.1 rfl in_FT 2 (by decide) rfl tw_212 rfl d_FT_spaceOf_17 ?_
  refine lv_iload_n C.1 C.2.1 d_FT_spaceOf_20 rfl (lv_at hl 2 rfl) ?_
  refine ga_q C hh 3 hF.2.2.1.1 (Cn := "FallingTerms$Space") rfl (k := k) (v := B + 180 + 12 * k) rfl (by omega) (by omega) (if_pos (by omega)) d_FT_spaceOf_21 ?_
  refine gm_eqr ep_1.symm ?_
  exact gr_r C hlk hret hh (by exact ⟨ep_1, ⟨tK_6, tV_7⟩, hKs_, tY_8⟩) d_FT_spaceOf_22

set_option maxHeartbeats 4000000 in
set_option maxRecDepth 100000 in
theorem c_FT_emptyQ (l : Launch) (D : va_G) (cs : Nat → ClassId) (sh : gm_H) (sz : Nat) (I : gm_I) (J : gm_J) (B : Nat) (hF : is_FT cs sh B) (hV : inv_FT I B) (n : Nat) (en : I B 1 = nI n) (hn : n ≤ 8) (hG : GQ I B) (v w : Int32) : CI l y_FT_empty w_FT_empty { frames := 6, cells := 0, slots := 0, locals := 159 } D cs sh sz I J [.ref B, .int v, .int w] (fun x u => emQ I J B n v w x u) := by
  refine gm_start (by decide) (Nat.le_of_ble_eq_true rfl) ?_
  intro p' e' s' m' be' me' co' ls C hml hlk hret hh hl
  have hl : lv_has ls 3 [(0, .ref B), (1, .int v), (2, .int w)] := hl
  have tK_0 : keepF B I I J J := keepF.nil
  have tV_0 : inv_FT I B := hV
  have tY_0 : kY B I I := kY.nil
  refine lv_aload_n C.1 C.2.1 d_FT_empty_0 rfl (lv_at hl 0 rfl) ?_
  refine lv_iload_n C.1 C.2.1 d_FT_empty_1 rfl (lv_at hl 1 rfl) ?_
  refine lv_iload_n C.1 C.2.1 d_FT_empty_2 rfl (lv_at hl 2 rfl) ?_
  refine gc_i hh (gc_runV (As := [.int v, .int w]) (rest := []) (n := 2) C hml hh (c_FT_isWay l D cs sh sz I J B hF hV n en hn v w) (tg_V tw_298 tw_300 tw_2 tw_57 tw_301) (by decide +kernel) ⟨rfl, rfl, by decide, by decide, Nat.zero_le _, Nat.zero_le _⟩ hF.1 rfl rfl hl.1 rfl (Nat.le_of_ble_eq_true rfl) d_FT_empty_3) (fun r_1 I_2 J_3 H locs hr_1 hh => ?_)
  obtain ⟨e_r_1, hr_1⟩ := hr_1
  rw [(Prod.mk.inj e_r_1).1, (Prod.mk.inj e_r_1).2] at hh
  refine lv_if_ne (tgt := 12) C.1 C.2.1 d_FT_empty_6 (by decide) (fun c_4 => ?_) (fun c_4 => ?_)
  · -- 6 -> 12
    have b_5 := bI_t hr_1 c_4
    obtain ⟨j_6, k_7, m_8, hj_6, hk_7, hm_8, ej_6, fk_7, em_8⟩ := fwB_j hn hV b_5
    subst ej_6
    subst fk_7
    skip
    obtain ⟨nm_, g_, t_, hD_⟩ := gq_sp hG hV en hn hj_6 hk_7 hm_8 em_8 b_5
    obtain ⟨_, hk3_, _, _, _, enm_, hn1_, hnm_, eg_, hg4_, et_, ht2_, hgd_, _⟩ := id hD_
    refine lv_aload_n C.1 C.2.1 d_FT_empty_12 rfl (lv_at hl 0 rfl) ?_
    refine lv_iload_n C.1 C.2.1 d_FT_empty_13 rfl (lv_at hl 1 rfl) ?_
    refine lv_iload_n C.1 C.2.1 d_FT_empty_14 rfl (lv_at hl 2 rfl) ?_
    refine gc_r hh (gc_runV (As := [.int (nI j_6), .int (nI k_7)]) (rest := []) (n := 2) C hml hh (c_FT_spaceOfQ l D cs sh sz I J B hF tV_0 j_6 k_7 (by omega) (by omega) nm_ g_ t_ enm_ hn1_ hnm_ eg_ hg4_ et_ ht2_ (fun i_ hi_ => ⟨(hgd_ i_ hi_).1, (hgd_ i_ hi_).2.1⟩)) (tg_V tw_322 tw_324 tw_4 tw_57 tw_325) (by decide +kernel) ⟨rfl, rfl, by decide, by decide, Nat.zero_le _, Nat.zero_le _⟩ hF.1 rfl rfl hl.1 rfl (Nat.le_of_ble_eq_true rfl) d_FT_empty_15) (fun r_9 I_10 J_11 H locs hr_9 hh => ?_)
    have er_9 := hr_9.1
    have tY_12 : kY B I I_10 := kY.tr tY_0 hr_9.2.2.2
    have tK_13 : keepF B I I_10 J J_11 := keepF.tr tK_0 hr_9.2.1.1
    have tV_14 : inv_FT I_10 B := hr_9.2.1.2
    have h_r_9 : is_Sp sh r_9 := by rw [er_9]; exact hF.2.2.1.2 k_7 (by omega)
    obtain ⟨LU_, R_, hMx_, hOk_⟩ := hr_9.2.2.1
    have hM_ := hMx_
    rw [← er_9] at hM_
    have hl31_ : R_.length ≤ 31 := ok_lenR hOk_ (by rw [dd_rw_len]; omega)
    refine gc_i hh (gc_runV (As := []) (rest := []) (n := 0) C hml hh (c_Sp_hasNothing l D cs sh sz I_10 J_11 r_9 h_r_9 R_.length hM_.2.1 (by omega)) (tg_V tw_386 tw_387 tw_388 tw_63 tw_389) (by decide +kernel) ⟨rfl, rfl, by decide, by decide, Nat.zero_le _, Nat.zero_le _⟩ h_r_9.1 rfl rfl hl.1 rfl (Nat.le_of_ble_eq_true rfl) d_FT_empty_18) (fun r_15 I_16 J_17 H locs hr_15 hh => ?_)
    obtain ⟨e_r_15, hr_15⟩ := hr_15
    rw [(Prod.mk.inj e_r_15).1, (Prod.mk.inj e_r_15).2] at hh
    refine lv_if_eq (tgt := 28) C.1 C.2.1 d_FT_empty_21 (by decide) (fun c_18 => ?_) (fun c_18 => ?_)
    · -- 21 -> 28
      have b_19 := bI_f hr_15 c_18
      skip
      refine lv_iconst (v := nI 0) C.1 C.2.1 d_FT_empty_28 rfl ?_
      exact gr_i C hlk hret rfl hh (by exact ⟨⟨tK_13, tV_14⟩, tY_12, Or.inr ⟨_, _, nm_, g_, t_, LU_, R_, hD_, ⟨hMx_, hOk_⟩, by first | (rw [show decide (R_.length = 0) = true by assumption]; rfl) | (rw [show decide (R_.length = 0) = false by assumption]; rfl)⟩⟩) d_FT_empty_29
    · -- 21 -> 24
      have b_20 := bI_t hr_15 c_18
      skip
      refine lv_iconst (v := nI 1) C.1 C.2.1 d_FT_empty_24 rfl ?_
      refine lv_goto (tgt := 29) C.1 C.2.1 d_FT_empty_25 (by decide) ?_
      exact gr_i C hlk hret rfl hh (by exact ⟨⟨tK_13, tV_14⟩, tY_12, Or.inr ⟨_, _, nm_, g_, t_, LU_, R_, hD_, ⟨hMx_, hOk_⟩, by first | (rw [show decide (R_.length = 0) = true by assumption]; rfl) | (rw [show decide (R_.length = 0) = false by assumption]; rfl)⟩⟩) d_FT_empty_29
  · -- 6 -> 9
    have b_21 := bI_f hr_1 c_4
    skip
    refine lv_bipush (v := (-2)) C.1 C.2.1 d_FT_empty_9 rfl ?_
    exact gr_i C hlk hret rfl hh (by exact ⟨⟨tK_0, tV_0⟩, tY_0, Or.inl ⟨by assumption, rfl⟩⟩) d_FT_empty_11
