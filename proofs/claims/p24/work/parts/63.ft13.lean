set_option maxHeartbeats 4000000 in
set_option maxRecDepth 100000 in
theorem c_FT_spaceOf (l : Launch) (D : va_G) (cs : Nat → ClassId) (sh : gm_H) (sz : Nat) (I : gm_I) (J : gm_J) (B : Nat) (hF : is_FT cs sh B) (hV : inv_FT I B) (j k : Nat) (hj : j < 8) (hk : k < 3) : CR l y_FT_spaceOf w_FT_spaceOf { frames := 5, cells := 0, slots := 0, locals := 137 } D cs sh sz I J [.ref B, .int (nI j), .int (nI k)] (fun a u => a = B + 180 + 12 * k ∧ sfF B I J u) := by
  refine gm_start (by decide) (Nat.le_of_ble_eq_true rfl) ?_
  intro p' e' s' m' be' me' co' ls C hml hlk hret hh hl
  have hl : lv_has ls 3 [(0, .ref B), (1, .int (nI j)), (2, .int (nI k))] := hl
  have tK_0 : keepF B I I J J := keepF.nil
  have tV_0 : inv_FT I B := hV
  refine lv_aload_n C.1 C.2.1 d_FT_spaceOf_0 rfl (lv_at hl 0 rfl) ?_
  refine gg_r C hh hF.1 rfl in_FT 2 (by decide) rfl tw_212 rfl d_FT_spaceOf_1 ?_
  refine lv_iload_n C.1 C.2.1 d_FT_spaceOf_4 rfl (lv_at hl 2 rfl) ?_
  refine ga_q C hh 3 hF.2.2.1.1 (Cn := "FallingTerms$Space") rfl (k := k) (v := B + 180 + 12 * k) rfl (by omega) (by omega) (if_pos (by omega)) d_FT_spaceOf_5 ?_
  obtain ⟨p_1, ep_1⟩ : ∃ z : Nat, z = B + 180 + 12 * k := ⟨_, rfl⟩
  have hp_1 : is_Sp sh p_1 := by rw [ep_1]; exact hF.2.2.1.2 k (by omega)
  refine gm_eqr ep_1.symm ?_
  refine lv_aload_n C.1 C.2.1 d_FT_spaceOf_6 rfl (lv_at hl 0 rfl) ?_
  refine gg_r C hh hF.1 rfl in_FT 0 (by decide) rfl tw_210 rfl d_FT_spaceOf_7 ?_
  refine lv_iload_n C.1 C.2.1 d_FT_spaceOf_10 rfl (lv_at hl 1 rfl) ?_
  refine ga_q C hh 2 hF.2.1 (Cn := "FallingTerms$Loop") rfl (k := j) (v := B + 12 + 21 * j) rfl (by omega) (by omega) (if_pos (by omega)) d_FT_spaceOf_11 ?_
  obtain ⟨p_2, ep_2⟩ : ∃ z : Nat, z = B + 12 + 21 * j := ⟨_, rfl⟩
  have hp_2 : is_Lp cs sh p_2 := by rw [ep_2]; exact hF.2.2.2.2.2.2.2.2.2.2 j (by omega)
  refine gm_eqr ep_2.symm ?_
  refine lv_iload_n C.1 C.2.1 d_FT_spaceOf_12 rfl (lv_at hl 2 rfl) ?_
  refine gc_v hh (gc_runV (As := [.ref p_2, .int (nI k)]) (rest := []) (n := 2) C hml hh (c_Sp_fill l D cs sh sz I J p_1 hp_1 (by have h_ := tV_0.2.2.2.2.1 (2 * k) (by omega); rw [show B + 180 + 6 * (2 * k) = p_1 by omega] at h_; exact h_ : inv_Sp I p_1) p_2 hp_2 (by have h_ := tV_0.2.1 j (by omega); rw [← ep_2] at h_; exact h_ : inv_Lp I p_2) k (by omega) (by omega)) (tg_V tw_326 tw_327 tw_328 tw_63 tw_329) (by decide +kernel) ⟨rfl, rfl, by decide, by decide, Nat.zero_le _, Nat.zero_le _⟩ hp_1.1 rfl rfl hl.1 rfl (Nat.le_of_ble_eq_true rfl) d_FT_spaceOf_13) (fun I_4 J_5 H locs hr_3 hh => ?_)
  have tK_6 : keepF B I I_4 J J_5 := keepF.tr tK_0 (keepF.of hr_3.1 (by omega))
  have tV_7 : inv_FT I_4 B := inv_FT.sp (m := 2 * k) tV_0 hr_3 (by omega) (by omega)
  refine lv_aload_n C.1 C.2.1 d_FT_spaceOf_16 rfl (lv_at hl 0 rfl) ?_
  refine gg_r C hh hF.1 rfl in_FT 2 (by decide) rfl tw_212 rfl d_FT_spaceOf_17 ?_
  refine lv_iload_n C.1 C.2.1 d_FT_spaceOf_20 rfl (lv_at hl 2 rfl) ?_
  refine ga_q C hh 3 hF.2.2.1.1 (Cn := "FallingTerms$Space") rfl (k := k) (v := B + 180 + 12 * k) rfl (by omega) (by omega) (if_pos (by omega)) d_FT_spaceOf_21 ?_
  refine gm_eqr ep_1.symm ?_
  exact gr_r C hlk hret hh (by exact ⟨ep_1, tK_6, tV_7⟩) d_FT_spaceOf_22

set_option maxHeartbeats 4000000 in
set_option maxRecDepth 100000 in
theorem c_FT_fillSpaces (l : Launch) (D : va_G) (cs : Nat → ClassId) (sh : gm_H) (sz : Nat) (I : gm_I) (J : gm_J) (B : Nat) (hF : is_FT cs sh B) (hV : inv_FT I B) (j o : Nat) (hj : j < 8) (eo : o = B + 12 + 21 * j) (ho : is_Lp cs sh o)  : CV l y_FT_fillSpaces w_FT_fillSpaces { frames := 5, cells := 0, slots := 0, locals := 137 } D cs sh sz I J [.ref B, .ref o] (fun u => sfF B I J u) := by
  refine gm_start (by decide) (Nat.le_of_ble_eq_true rfl) ?_
  intro p' e' s' m' be' me' co' ls C hml hlk hret hh hl
  have hl : lv_has ls 3 [(0, .ref B), (1, .ref o)] := hl
  have tK_0 : keepF B I I J J := keepF.nil
  have tV_0 : inv_FT I B := hV
  refine lv_iconst (v := nI 0) C.1 C.2.1 d_FT_fillSpaces_0 rfl ?_
  refine lv_istore_n (lv' := [(2, .int (nI 0)), (0, .ref B), (1, .ref o)]) C.1 C.2.1 d_FT_fillSpaces_1 rfl hl (by decide) rfl (fun ls hl => ?_)
  have K2 : ∀ (n_2 : Nat) (k : Nat) (I2 : gm_I) (J2 : gm_J) (hk : k ≤ 3) (tK2 : keepF B I I2 J J2) (tV2 : inv_FT I2 B) (hm_2 : 4 - k < n_2), ∀ (H : Heap) (locs : List Loc) (ls : Array Slot), gm_St D cs sh (gm_A sh) s'.heap sz I2 J2 H locs → lv_has ls 3 [(0, .ref B), (1, .ref o), (2, .int (nI k))] → W p' l e' { frames := 5, cells := 0, slots := 0, locals := 137 } s' m' ([.ref B, .ref o] : List Value).toArray be' me' co' H locs 0 0 (MQ be' (va_Qv (fun u => sfF B I J u) (gm_B D cs sh sz) (gm_A sh)) ([.ref B, .ref o] : List Value).toArray s' 0 0 (gm_A sh)) (F0 m' 2 ls []) := by
    intro n_2
    induction n_2 with
    | zero => intro k I2 J2 hk tK2 tV2 hm_2; exact absurd hm_2 (Nat.not_lt_zero _)
    | succ n_2 ih2 =>
      intro k I2 J2 hk tK2 tV2 hm_2 H locs ls hh hl
      refine lv_iload_n C.1 C.2.1 d_FT_fillSpaces_2 rfl (lv_at hl 2 rfl) ?_
      refine lv_aload_n C.1 C.2.1 d_FT_fillSpaces_3 rfl (lv_at hl 1 rfl) ?_
      refine gn_i C hh ho.1 rfl in_Lp 3 (by decide) rfl tw_163 rfl d_FT_fillSpaces_4 ?_
      obtain ⟨g_1, hg_1, eg_1⟩ := (by have h_ := tV2.2.1 j (by omega); rw [← eo] at h_; exact h_ : inv_Lp I2 o).2.2.1
      refine gm_eqi eg_1 ?_
      refine lv_icmp_ge (tgt := 27) C.1 C.2.1 d_FT_fillSpaces_7 (by decide) (fun c_2 => ?_) (fun c_2 => ?_)
      · -- 7 -> 27
        have c_2 := gm_get (by omega) (by omega) c_2
        have c_2' := Nat.not_lt.mpr c_2
        exact gr_v C hlk hret hh (by exact ⟨tK2, tV2⟩) d_FT_fillSpaces_27
      · -- 7 -> 10
        have c_2 := gm_gef (by omega) (by omega) c_2
        have c_2' := Nat.not_le.mpr c_2
        refine lv_aload_n C.1 C.2.1 d_FT_fillSpaces_10 rfl (lv_at hl 0 rfl) ?_
        refine gg_r C hh hF.1 rfl in_FT 2 (by decide) rfl tw_212 rfl d_FT_fillSpaces_11 ?_
        refine lv_iload_n C.1 C.2.1 d_FT_fillSpaces_14 rfl (lv_at hl 2 rfl) ?_
        refine ga_q C hh 3 hF.2.2.1.1 (Cn := "FallingTerms$Space") rfl (k := k) (v := B + 180 + 12 * k) rfl (by omega) (by omega) (if_pos (by omega)) d_FT_fillSpaces_15 ?_
        obtain ⟨p_3, ep_3⟩ : ∃ z : Nat, z = B + 180 + 12 * k := ⟨_, rfl⟩
        have hp_3 : is_Sp sh p_3 := by rw [ep_3]; exact hF.2.2.1.2 k (by omega)
        refine gm_eqr ep_3.symm ?_
        refine lv_aload_n C.1 C.2.1 d_FT_fillSpaces_16 rfl (lv_at hl 1 rfl) ?_
        refine lv_iload_n C.1 C.2.1 d_FT_fillSpaces_17 rfl (lv_at hl 2 rfl) ?_
        refine gc_v hh (gc_runV (As := [.ref o, .int (nI k)]) (rest := []) (n := 2) C hml hh (c_Sp_fill l D cs sh sz I2 J2 p_3 hp_3 (by have h_ := tV2.2.2.2.2.1 (2 * k) (by omega); rw [show B + 180 + 6 * (2 * k) = p_3 by omega] at h_; exact h_ : inv_Sp I2 p_3) o ho (by have h_ := tV2.2.1 j (by omega); rw [← eo] at h_; exact h_ : inv_Lp I2 o) k (by omega) (by omega)) (tg_V tw_326 tw_327 tw_328 tw_63 tw_329) (by decide +kernel) ⟨rfl, rfl, by decide, by decide, Nat.zero_le _, Nat.zero_le _⟩ hp_3.1 rfl rfl hl.1 rfl (Nat.le_of_ble_eq_true rfl) d_FT_fillSpaces_18) (fun I_5 J_6 H locs hr_4 hh => ?_)
        have tK_7 : keepF B I I_5 J J_6 := keepF.tr tK2 (keepF.of hr_4.1 (by omega))
        have tV_8 : inv_FT I_5 B := inv_FT.sp (m := 2 * k) tV2 hr_4 (by omega) (by omega)
        refine lv_iinc (v := nI (k + 1)) (lv' := [(2, .int (nI (k + 1))), (0, .ref B), (1, .ref o)]) C.1 C.2.1 d_FT_fillSpaces_21 hl (k := 2) rfl (gm_inc k 1) (by decide) rfl (fun ls hl => ?_)
        refine lv_goto (tgt := 2) C.1 C.2.1 d_FT_fillSpaces_24 (by decide) ?_
        exact ih2 (k + 1) I_5 J_6 (by omega) (by exact tK_7) (by exact tV_8) (by omega) _ _ _ hh (lv_sub hl [1, 2, 0] rfl)
  exact K2 _ 0 I J (by omega) (by exact tK_0) (by exact tV_0) (Nat.lt_succ_self _) _ _ _ hh (lv_sub hl [1, 2, 0] rfl)

set_option maxHeartbeats 4000000 in
set_option maxRecDepth 100000 in
theorem c_FT_narrowSpaces (l : Launch) (D : va_G) (cs : Nat → ClassId) (sh : gm_H) (sz : Nat) (I : gm_I) (J : gm_J) (B : Nat) (hF : is_FT cs sh B) (hV : inv_FT I B) (j o : Nat) (hj : j < 8) (eo : o = B + 12 + 21 * j) (ho : is_Lp cs sh o) (a b c d : Int32) : CV l y_FT_narrowSpaces w_FT_narrowSpaces { frames := 4, cells := 0, slots := 0, locals := 111 } D cs sh sz I J [.ref B, .ref o, .int a, .int b, .int c, .int d] (fun u => sfF B I J u) := by
  refine gm_start (by decide) (Nat.le_of_ble_eq_true rfl) ?_
  intro p' e' s' m' be' me' co' ls C hml hlk hret hh hl
  have hl : lv_has ls 7 [(0, .ref B), (1, .ref o), (2, .int a), (3, .int b), (4, .int c), (5, .int d)] := hl
  have tK_0 : keepF B I I J J := keepF.nil
  have tV_0 : inv_FT I B := hV
  refine lv_iconst (v := nI 0) C.1 C.2.1 d_FT_narrowSpaces_0 rfl ?_
  refine lv_istore (lv' := [(6, .int (nI 0)), (0, .ref B), (1, .ref o), (2, .int a), (3, .int b), (4, .int c), (5, .int d)]) C.1 C.2.1 d_FT_narrowSpaces_1 hl (by decide) rfl (fun ls hl => ?_)
  have K3 : ∀ (n_3 : Nat) (k : Nat) (I3 : gm_I) (J3 : gm_J) (hk : k ≤ 3) (tK3 : keepF B I I3 J J3) (tV3 : inv_FT I3 B) (hm_3 : 4 - k < n_3), ∀ (H : Heap) (locs : List Loc) (ls : Array Slot), gm_St D cs sh (gm_A sh) s'.heap sz I3 J3 H locs → lv_has ls 7 [(0, .ref B), (1, .ref o), (2, .int a), (3, .int b), (4, .int c), (5, .int d), (6, .int (nI k))] → W p' l e' { frames := 4, cells := 0, slots := 0, locals := 111 } s' m' ([.ref B, .ref o, .int a, .int b, .int c, .int d] : List Value).toArray be' me' co' H locs 0 0 (MQ be' (va_Qv (fun u => sfF B I J u) (gm_B D cs sh sz) (gm_A sh)) ([.ref B, .ref o, .int a, .int b, .int c, .int d] : List Value).toArray s' 0 0 (gm_A sh)) (F0 m' 3 ls []) := by
    intro n_3
    induction n_3 with
    | zero => intro k I3 J3 hk tK3 tV3 hm_3; exact absurd hm_3 (Nat.not_lt_zero _)
    | succ n_3 ih3 =>
      intro k I3 J3 hk tK3 tV3 hm_3 H locs ls hh hl
      refine lv_iload C.1 C.2.1 d_FT_narrowSpaces_3 (lv_at hl 6 rfl) ?_
      refine lv_aload_n C.1 C.2.1 d_FT_narrowSpaces_5 rfl (lv_at hl 1 rfl) ?_
      refine gn_i C hh ho.1 rfl in_Lp 3 (by decide) rfl tw_163 rfl d_FT_narrowSpaces_6 ?_
      obtain ⟨g_1, hg_1, eg_1⟩ := (by have h_ := tV3.2.1 j (by omega); rw [← eo] at h_; exact h_ : inv_Lp I3 o).2.2.1
      refine gm_eqi eg_1 ?_
      refine lv_icmp_ge (tgt := 51) C.1 C.2.1 d_FT_narrowSpaces_9 (by decide) (fun c_2 => ?_) (fun c_2 => ?_)
      · -- 9 -> 51
        have c_2 := gm_get (by omega) (by omega) c_2
        have c_2' := Nat.not_lt.mpr c_2
        exact gr_v C hlk hret hh (by exact ⟨tK3, tV3⟩) d_FT_narrowSpaces_51
      · -- 9 -> 12
        have c_2 := gm_gef (by omega) (by omega) c_2
        have c_2' := Nat.not_le.mpr c_2
        refine lv_aload_n C.1 C.2.1 d_FT_narrowSpaces_12 rfl (lv_at hl 0 rfl) ?_
        refine gg_r C hh hF.1 rfl in_FT 3 (by decide) rfl tw_213 rfl d_FT_narrowSpaces_13 ?_
        refine lv_iload C.1 C.2.1 d_FT_narrowSpaces_16 (lv_at hl 6 rfl) ?_
        refine ga_q C hh 3 hF.2.2.2.1.1 (Cn := "FallingTerms$Space") rfl (k := k) (v := B + 186 + 12 * k) rfl (by omega) (by omega) (if_pos (by omega)) d_FT_narrowSpaces_18 ?_
        obtain ⟨p_3, ep_3⟩ : ∃ z : Nat, z = B + 186 + 12 * k := ⟨_, rfl⟩
        have hp_3 : is_Sp sh p_3 := by rw [ep_3]; exact hF.2.2.2.1.2 k (by omega)
        refine gm_eqr ep_3.symm ?_
        refine lv_aload_n C.1 C.2.1 d_FT_narrowSpaces_19 rfl (lv_at hl 0 rfl) ?_
        refine gg_r C hh hF.1 rfl in_FT 2 (by decide) rfl tw_212 rfl d_FT_narrowSpaces_20 ?_
        refine lv_iload C.1 C.2.1 d_FT_narrowSpaces_23 (lv_at hl 6 rfl) ?_
        refine ga_q C hh 3 hF.2.2.1.1 (Cn := "FallingTerms$Space") rfl (k := k) (v := B + 180 + 12 * k) rfl (by omega) (by omega) (if_pos (by omega)) d_FT_narrowSpaces_25 ?_
        obtain ⟨p_4, ep_4⟩ : ∃ z : Nat, z = B + 180 + 12 * k := ⟨_, rfl⟩
        have hp_4 : is_Sp sh p_4 := by rw [ep_4]; exact hF.2.2.1.2 k (by omega)
        refine gm_eqr ep_4.symm ?_
        refine gc_v hh (gc_runV (As := [.ref p_4]) (rest := []) (n := 1) C hml hh (c_Sp_copy l D cs sh sz I3 J3 p_3 hp_3 (by have h_ := tV3.2.2.2.2.1 (2 * k + 1) (by omega); rw [show B + 180 + 6 * (2 * k + 1) = p_3 by omega] at h_; exact h_ : inv_Sp I3 p_3) p_4 hp_4 (by have h_ := tV3.2.2.2.2.1 (2 * k) (by omega); rw [show B + 180 + 6 * (2 * k) = p_4 by omega] at h_; exact h_ : inv_Sp I3 p_4) (by omega)) (tg_V tw_470 tw_471 tw_472 tw_63 tw_473) (by decide +kernel) ⟨rfl, rfl, by decide, by decide, Nat.zero_le _, Nat.zero_le _⟩ hp_3.1 rfl rfl hl.1 rfl (Nat.le_of_ble_eq_true rfl) d_FT_narrowSpaces_26) (fun I_6 J_7 H locs hr_5 hh => ?_)
        have tK_8 : keepF B I I_6 J J_7 := keepF.tr tK3 (keepF.of hr_5.1 (by omega))
        have tV_9 : inv_FT I_6 B := inv_FT.sp (m := 2 * k + 1) tV3 hr_5 (by omega) (by omega)
        refine lv_aload_n C.1 C.2.1 d_FT_narrowSpaces_29 rfl (lv_at hl 0 rfl) ?_
        refine gg_r C hh hF.1 rfl in_FT 3 (by decide) rfl tw_213 rfl d_FT_narrowSpaces_30 ?_
        refine lv_iload C.1 C.2.1 d_FT_narrowSpaces_33 (lv_at hl 6 rfl) ?_
        refine ga_q C hh 3 hF.2.2.2.1.1 (Cn := "FallingTerms$Space") rfl (k := k) (v := B + 186 + 12 * k) rfl (by omega) (by omega) (if_pos (by omega)) d_FT_narrowSpaces_35 ?_
        refine gm_eqr ep_3.symm ?_
        refine lv_iload_n C.1 C.2.1 d_FT_narrowSpaces_36 rfl (lv_at hl 2 rfl) ?_
        refine lv_iload_n C.1 C.2.1 d_FT_narrowSpaces_37 rfl (lv_at hl 3 rfl) ?_
        refine lv_iload C.1 C.2.1 d_FT_narrowSpaces_38 (lv_at hl 4 rfl) ?_
        refine lv_iload C.1 C.2.1 d_FT_narrowSpaces_40 (lv_at hl 5 rfl) ?_
        refine gc_v hh (gc_runV (As := [.int a, .int b, .int c, .int d]) (rest := []) (n := 4) C hml hh (c_Sp_narrow l D cs sh sz I_6 J_7 p_3 hp_3 (by have h_ := tV_9.2.2.2.2.1 (2 * k + 1) (by omega); rw [show B + 180 + 6 * (2 * k + 1) = p_3 by omega] at h_; exact h_ : inv_Sp I_6 p_3) a b c d) (tg_V tw_474 tw_339 tw_340 tw_63 tw_341) (by decide +kernel) ⟨rfl, rfl, by decide, by decide, Nat.zero_le _, Nat.zero_le _⟩ hp_3.1 rfl rfl hl.1 rfl (Nat.le_of_ble_eq_true rfl) d_FT_narrowSpaces_42) (fun I_11 J_12 H locs hr_10 hh => ?_)
        have tK_13 : keepF B I I_11 J J_12 := keepF.tr tK_8 (keepF.of hr_10.1 (by omega))
        have tV_14 : inv_FT I_11 B := inv_FT.sp (m := 2 * k + 1) tV_9 hr_10 (by omega) (by omega)
        refine lv_iinc (v := nI (k + 1)) (lv' := [(6, .int (nI (k + 1))), (0, .ref B), (1, .ref o), (2, .int a), (3, .int b), (4, .int c), (5, .int d)]) C.1 C.2.1 d_FT_narrowSpaces_45 hl (k := 6) rfl (gm_inc k 1) (by decide) rfl (fun ls hl => ?_)
        refine lv_goto (tgt := 3) C.1 C.2.1 d_FT_narrowSpaces_48 (by decide) ?_
        exact ih3 (k + 1) I_11 J_12 (by omega) (by exact tK_13) (by exact tV_14) (by omega) _ _ _ hh (lv_sub hl [1, 2, 3, 4, 5, 6, 0] rfl)
  exact K3 _ 0 I J (by omega) (by exact tK_0) (by exact tV_0) (Nat.lt_succ_self _) _ _ _ hh (lv_sub hl [1, 2, 3, 4, 5, 6, 0] rfl)

set_option maxHeartbeats 4000000 in
set_option maxRecDepth 100000 in
theorem c_FT_lasts (l : Launch) (D : va_G) (cs : Nat → ClassId) (sh : gm_H) (sz : Nat) (I : gm_I) (J : gm_J) (B : Nat) (hF : is_FT cs sh B) (hV : inv_FT I B) (j o : Nat) (hj : j < 8) (eo : o = B + 12 + 21 * j) (ho : is_Lp cs sh o) (a b c d : Int32) : CI l y_FT_lasts w_FT_lasts { frames := 2, cells := 0, slots := 0, locals := 50 } D cs sh sz I J [.ref B, .ref o, .int a, .int b, .int c, .int d] (fun x u => u = (I, J) ∧ (x = 0 ∨ x = 1)) := by
  refine gm_start (by decide) (Nat.le_of_ble_eq_true rfl) ?_
  intro p' e' s' m' be' me' co' ls C hml hlk hret hh hl
  have hl : lv_has ls 7 [(0, .ref B), (1, .ref o), (2, .int a), (3, .int b), (4, .int c), (5, .int d)] := hl
  refine lv_iconst (v := nI 0) C.1 C.2.1 d_FT_lasts_0 rfl ?_
  refine lv_istore (lv' := [(6, .int (nI 0)), (0, .ref B), (1, .ref o), (2, .int a), (3, .int b), (4, .int c), (5, .int d)]) C.1 C.2.1 d_FT_lasts_1 hl (by decide) rfl (fun ls hl => ?_)
  have K3 : ∀ (n_3 : Nat) (k : Nat) (hk : k ≤ 3) (hm_3 : 4 - k < n_3), ∀ (H : Heap) (locs : List Loc) (ls : Array Slot), gm_St D cs sh (gm_A sh) s'.heap sz I J H locs → lv_has ls 7 [(0, .ref B), (1, .ref o), (2, .int a), (3, .int b), (4, .int c), (5, .int d), (6, .int (nI k))] → W p' l e' { frames := 2, cells := 0, slots := 0, locals := 50 } s' m' ([.ref B, .ref o, .int a, .int b, .int c, .int d] : List Value).toArray be' me' co' H locs 0 0 (MQ be' (va_Qi (fun x u => u = (I, J) ∧ (x = 0 ∨ x = 1)) (gm_B D cs sh sz) (gm_A sh)) ([.ref B, .ref o, .int a, .int b, .int c, .int d] : List Value).toArray s' 0 0 (gm_A sh)) (F0 m' 3 ls []) := by
    intro n_3
    induction n_3 with
    | zero => intro k hk hm_3; exact absurd hm_3 (Nat.not_lt_zero _)
    | succ n_3 ih3 =>
      intro k hk hm_3 H locs ls hh hl
      refine lv_iload C.1 C.2.1 d_FT_lasts_3 (lv_at hl 6 rfl) ?_
      refine lv_aload_n C.1 C.2.1 d_FT_lasts_5 rfl (lv_at hl 1 rfl) ?_
      refine gn_i C hh ho.1 rfl in_Lp 3 (by decide) rfl tw_163 rfl d_FT_lasts_6 ?_
      obtain ⟨g_1, hg_1, eg_1⟩ := (by have h_ := hV.2.1 j (by omega); rw [← eo] at h_; exact h_ : inv_Lp I o).2.2.1
      refine gm_eqi eg_1 ?_
      refine lv_icmp_ge (tgt := 46) C.1 C.2.1 d_FT_lasts_9 (by decide) (fun c_2 => ?_) (fun c_2 => ?_)
      · -- 9 -> 46
        have c_2 := gm_get (by omega) (by omega) c_2
        have c_2' := Nat.not_lt.mpr c_2
        refine lv_iconst (v := nI 1) C.1 C.2.1 d_FT_lasts_46 rfl ?_
        exact gr_i C hlk hret (gm_nb (Or.inr rfl)) hh (by exact ⟨rfl, Or.inr rfl⟩) d_FT_lasts_47
      · -- 9 -> 12
        have c_2 := gm_gef (by omega) (by omega) c_2
        have c_2' := Nat.not_le.mpr c_2
        refine lv_aload_n C.1 C.2.1 d_FT_lasts_12 rfl (lv_at hl 1 rfl) ?_
        refine gn_r C hh ho.1 rfl in_Lp 2 (by decide) rfl tw_160 rfl d_FT_lasts_13 ?_
        refine lv_iload C.1 C.2.1 d_FT_lasts_16 (lv_at hl 6 rfl) ?_
        refine ga_q C hh 4 ho.2.2.1 (Cn := "FallingTerms$Way") rfl (k := k) (v := o + 6 + 5 * k) rfl (by omega) (by omega) (if_pos (by omega)) d_FT_lasts_18 ?_
        obtain ⟨p_3, ep_3⟩ : ∃ z : Nat, z = o + 6 + 5 * k := ⟨_, rfl⟩
        have hp_3 : is_Wy sh p_3 := by rw [ep_3]; exact ho.2.2.2.2.2 k (by omega)
        refine gm_eqr ep_3.symm ?_
        refine lv_aload_n C.1 C.2.1 d_FT_lasts_19 rfl (lv_at hl 0 rfl) ?_
        refine gg_r C hh hF.1 rfl in_FT 3 (by decide) rfl tw_213 rfl d_FT_lasts_20 ?_
        refine lv_iload C.1 C.2.1 d_FT_lasts_23 (lv_at hl 6 rfl) ?_
        refine ga_q C hh 3 hF.2.2.2.1.1 (Cn := "FallingTerms$Space") rfl (k := k) (v := B + 186 + 12 * k) rfl (by omega) (by omega) (if_pos (by omega)) d_FT_lasts_25 ?_
        obtain ⟨p_4, ep_4⟩ : ∃ z : Nat, z = B + 186 + 12 * k := ⟨_, rfl⟩
        have hp_4 : is_Sp sh p_4 := by rw [ep_4]; exact hF.2.2.2.1.2 k (by omega)
        refine gm_eqr ep_4.symm ?_
        refine lv_iload_n C.1 C.2.1 d_FT_lasts_26 rfl (lv_at hl 2 rfl) ?_
        refine lv_iload_n C.1 C.2.1 d_FT_lasts_27 rfl (lv_at hl 3 rfl) ?_
        refine lv_iload C.1 C.2.1 d_FT_lasts_28 (lv_at hl 4 rfl) ?_
        refine lv_iload C.1 C.2.1 d_FT_lasts_30 (lv_at hl 5 rfl) ?_
        obtain ⟨⟨l_5, hl_5, el_5⟩, ⟨n_6, hn_6, en_6⟩⟩ := (by have h_ := hV.2.2.2.2.1 (2 * k + 1) (by omega); rw [show B + 180 + 6 * (2 * k + 1) = p_4 by omega] at h_; exact h_ : inv_Sp I p_4)
        refine gc_i hh (gc_runV (As := [.ref p_4, .int a, .int b, .int c, .int d]) (rest := []) (n := 5) C hml hh (c_Wy_keeps l D cs sh sz I J p_3 hp_3 p_4 hp_4 l_5 el_5 hl_5 n_6 en_6 hn_6 a b c d) (tg_V tw_479 tw_480 tw_481 tw_62 tw_482) (by decide +kernel) ⟨rfl, rfl, by decide, by decide, Nat.zero_le _, Nat.zero_le _⟩ hp_3.1 rfl rfl hl.1 rfl (Nat.le_of_ble_eq_true rfl) d_FT_lasts_32) (fun r_7 I_8 J_9 H locs hr_7 hh => ?_)
        obtain ⟨e_r_7, hr_7⟩ := hr_7
        rw [(Prod.mk.inj e_r_7).1, (Prod.mk.inj e_r_7).2] at hh
        obtain ⟨br_7, hr_7, ihr_7⟩ := hr_7
        refine lv_if_ne (tgt := 40) C.1 C.2.1 d_FT_lasts_35 (by decide) (fun c_10 => ?_) (fun c_10 => ?_)
        · -- 35 -> 40
          have b_11 := bI_t hr_7 c_10
          skip
          refine lv_iinc (v := nI (k + 1)) (lv' := [(6, .int (nI (k + 1))), (0, .ref B), (1, .ref o), (2, .int a), (3, .int b), (4, .int c), (5, .int d)]) C.1 C.2.1 d_FT_lasts_40 hl (k := 6) rfl (gm_inc k 1) (by decide) rfl (fun ls hl => ?_)
          refine lv_goto (tgt := 3) C.1 C.2.1 d_FT_lasts_43 (by decide) ?_
          exact ih3 (k + 1) (by omega) (by omega) _ _ _ hh (lv_sub hl [1, 2, 3, 4, 5, 6, 0] rfl)
        · -- 35 -> 38
          have b_12 := bI_f hr_7 c_10
          skip
          refine lv_iconst (v := nI 0) C.1 C.2.1 d_FT_lasts_38 rfl ?_
          exact gr_i C hlk hret (gm_nb (Or.inl rfl)) hh (by exact ⟨rfl, Or.inl rfl⟩) d_FT_lasts_39
  exact K3 _ 0 (by omega) (Nat.lt_succ_self _) _ _ _ hh (lv_sub hl [1, 2, 3, 4, 5, 6, 0] rfl)

set_option maxHeartbeats 4000000 in
set_option maxRecDepth 100000 in
theorem c_FT_keepNeed (l : Launch) (D : va_G) (cs : Nat → ClassId) (sh : gm_H) (sz : Nat) (I : gm_I) (J : gm_J) (B : Nat) (hF : is_FT cs sh B) (hV : inv_FT I B) (a b c d : Int32) : CV l y_FT_keepNeed w_FT_keepNeed { frames := 0, cells := 0, slots := 0, locals := 0 } D cs sh sz I J [.ref B, .int a, .int b, .int c, .int d] (fun u => sfF B I J u) := by
  refine gm_start (by decide) (Nat.le_of_ble_eq_true rfl) ?_
  intro p' e' s' m' be' me' co' ls C hml hlk hret hh hl
  have hl : lv_has ls 5 [(0, .ref B), (1, .int a), (2, .int b), (3, .int c), (4, .int d)] := hl
  have tK_0 : keepF B I I J J := keepF.nil
  have tV_0 : inv_FT I B := hV
  refine lv_aload_n C.1 C.2.1 d_FT_keepNeed_0 rfl (lv_at hl 0 rfl) ?_
  refine lv_iconst (v := nI 1) C.1 C.2.1 d_FT_keepNeed_1 rfl ?_
  refine gp_i (ty := .boolean) C hh hF.1 rfl in_FT t_FT t_FT_ok n_FT 7 (by decide) rfl tw_217 rfl rfl (by decide +kernel) (gm_nb (Or.inr rfl)) (gm_fb (Or.inr rfl)) d_FT_keepNeed_2 (fun H locs hh => ?_)
  obtain ⟨I_1, eI_1⟩ : ∃ z : gm_I, z = gm_up I B 7 (nI 1) := ⟨_, rfl⟩
  rw [← eI_1] at hh
  have tK_2 : keepF B I I_1 J J := by rw [eI_1]; exact keepF.tr tK_0 keepF.b7
  have tV_3 : inv_FT I_1 B := by rw [eI_1]; exact inv_FT.b7 tV_0 (Or.inr (by decide))
  refine lv_aload_n C.1 C.2.1 d_FT_keepNeed_5 rfl (lv_at hl 0 rfl) ?_
  refine gg_r C hh hF.1 rfl in_FT 6 (by decide) rfl tw_216 rfl d_FT_keepNeed_6 ?_
  refine lv_iconst (v := nI 0) C.1 C.2.1 d_FT_keepNeed_9 rfl ?_
  refine lv_iload_n C.1 C.2.1 d_FT_keepNeed_10 rfl (lv_at hl 1 rfl) ?_
  refine gs_i C hh hF.2.2.2.2.2.2.1 (k := 0) rfl (by omega) (by omega) d_FT_keepNeed_11 (fun H locs hh => ?_)
  obtain ⟨I_4, eI_4⟩ : ∃ z : gm_I, z = gm_up I_1 (B + 8) 0 a := ⟨_, rfl⟩
  rw [← eI_4] at hh
  have tK_5 : keepF B I I_4 J J := by rw [eI_4]; exact keepF.tr tK_2 (keepF.of (lo := B + 8) (hi := B + 8) (offR.nil.upI (by omega)) (by omega))
  have tV_6 : inv_FT I_4 B := by rw [eI_4]; exact inv_FT.keep (J1 := J) (J2 := J) (lo := B + 8) (hi := B + 8) tV_3 (offR.nil.upI (by omega)) (by omega)
  refine lv_aload_n C.1 C.2.1 d_FT_keepNeed_12 rfl (lv_at hl 0 rfl) ?_
  refine gg_r C hh hF.1 rfl in_FT 6 (by decide) rfl tw_216 rfl d_FT_keepNeed_13 ?_
  refine lv_iconst (v := nI 1) C.1 C.2.1 d_FT_keepNeed_16 rfl ?_
  refine lv_iload_n C.1 C.2.1 d_FT_keepNeed_17 rfl (lv_at hl 2 rfl) ?_
  refine gs_i C hh hF.2.2.2.2.2.2.1 (k := 1) rfl (by omega) (by omega) d_FT_keepNeed_18 (fun H locs hh => ?_)
  obtain ⟨I_7, eI_7⟩ : ∃ z : gm_I, z = gm_up I_4 (B + 8) 1 b := ⟨_, rfl⟩
  rw [← eI_7] at hh
  have tK_8 : keepF B I I_7 J J := by rw [eI_7]; exact keepF.tr tK_5 (keepF.of (lo := B + 8) (hi := B + 8) (offR.nil.upI (by omega)) (by omega))
  have tV_9 : inv_FT I_7 B := by rw [eI_7]; exact inv_FT.keep (J1 := J) (J2 := J) (lo := B + 8) (hi := B + 8) tV_6 (offR.nil.upI (by omega)) (by omega)
  refine lv_aload_n C.1 C.2.1 d_FT_keepNeed_19 rfl (lv_at hl 0 rfl) ?_
  refine gg_r C hh hF.1 rfl in_FT 6 (by decide) rfl tw_216 rfl d_FT_keepNeed_20 ?_
  refine lv_iconst (v := nI 2) C.1 C.2.1 d_FT_keepNeed_23 rfl ?_
  refine lv_iload_n C.1 C.2.1 d_FT_keepNeed_24 rfl (lv_at hl 3 rfl) ?_
  refine gs_i C hh hF.2.2.2.2.2.2.1 (k := 2) rfl (by omega) (by omega) d_FT_keepNeed_25 (fun H locs hh => ?_)
  obtain ⟨I_10, eI_10⟩ : ∃ z : gm_I, z = gm_up I_7 (B + 8) 2 c := ⟨_, rfl⟩
  rw [← eI_10] at hh
  have tK_11 : keepF B I I_10 J J := by rw [eI_10]; exact keepF.tr tK_8 (keepF.of (lo := B + 8) (hi := B + 8) (offR.nil.upI (by omega)) (by omega))
  have tV_12 : inv_FT I_10 B := by rw [eI_10]; exact inv_FT.keep (J1 := J) (J2 := J) (lo := B + 8) (hi := B + 8) tV_9 (offR.nil.upI (by omega)) (by omega)
  refine lv_aload_n C.1 C.2.1 d_FT_keepNeed_26 rfl (lv_at hl 0 rfl) ?_
  refine gg_r C hh hF.1 rfl in_FT 6 (by decide) rfl tw_216 rfl d_FT_keepNeed_27 ?_
  refine lv_iconst (v := nI 3) C.1 C.2.1 d_FT_keepNeed_30 rfl ?_
  refine lv_iload C.1 C.2.1 d_FT_keepNeed_31 (lv_at hl 4 rfl) ?_
  refine gs_i C hh hF.2.2.2.2.2.2.1 (k := 3) rfl (by omega) (by omega) d_FT_keepNeed_33 (fun H locs hh => ?_)
  obtain ⟨I_13, eI_13⟩ : ∃ z : gm_I, z = gm_up I_10 (B + 8) 3 d := ⟨_, rfl⟩
  rw [← eI_13] at hh
  have tK_14 : keepF B I I_13 J J := by rw [eI_13]; exact keepF.tr tK_11 (keepF.of (lo := B + 8) (hi := B + 8) (offR.nil.upI (by omega)) (by omega))
  have tV_15 : inv_FT I_13 B := by rw [eI_13]; exact inv_FT.keep (J1 := J) (J2 := J) (lo := B + 8) (hi := B + 8) tV_12 (offR.nil.upI (by omega)) (by omega)
  exact gr_v C hlk hret hh (by exact ⟨tK_14, tV_15⟩) d_FT_keepNeed_34
