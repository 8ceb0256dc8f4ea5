set_option maxHeartbeats 4000000 in
set_option maxRecDepth 100000 in
theorem c_FT_fillSpacesQ (l : Launch) (D : va_G) (cs : Nat → ClassId) (sh : gm_H) (sz : Nat) (I : gm_I) (J : gm_J) (B : Nat) (hF : is_FT cs sh B) (hV : inv_FT I B) (j o : Nat) (hj : j < 8) (eo : o = B + 12 + 21 * j) (ho : is_Lp cs sh o) (hD : LD I o) : CV l y_FT_fillSpaces w_FT_fillSpaces { frames := 5, cells := 0, slots := 0, locals := 137 } D cs sh sz I J [.ref B, .ref o] (fun u => sfF B I J u ∧ (∀ w, w < q_lm I o → sp_K u.1 u.2 (B + 180 + 12 * w) (dd_ab (q_ln I o)) (dd_rw (fF I o w (q_lg I o)) (q_lg I o + q_lt I o w))) ∧ offR (B + 180) (B + 215) I u.1 J u.2) := by
  refine gm_start (by decide) (Nat.le_of_ble_eq_true rfl) ?_
  intro p' e' s' m' be' me' co' ls C hml hlk hret hh hl
  have hl : lv_has ls 3 [(0, .ref B), (1, .ref o)] := hl
  have hm3_ : q_lm I o ≤ 3 := hD.1.2
  have tK_0 : keepF B I I J J := keepF.nil
  have tV_0 : inv_FT I B := hV
  have tO_0 : offR (B + 180) (B + 215) I I J J := offR.nil
  refine lv_iconst (v := nI 0) C.1 C.2.1 d_FT_fillSpaces_0 rfl ?_
  refine lv_istore_n (lv' := [(2, .int (nI 0)), (0, .ref B), (1, .ref o)]) C.1 C.2.1 d_FT_fillSpaces_1 rfl hl (by decide) rfl (fun ls hl => ?_)
  have K2 : ∀ (n_2 : Nat) (k : Nat) (I2 : gm_I) (J2 : gm_J) (hk : k ≤ q_lm I o) (hKs : ∀ w, w < k → sp_K I2 J2 (B + 180 + 12 * w) (dd_ab (q_ln I o)) (dd_rw (fF I o w (q_lg I o)) (q_lg I o + q_lt I o w))) (tK2 : keepF B I I2 J J2) (tV2 : inv_FT I2 B) (tO2 : offR (B + 180) (B + 215) I I2 J J2) (hm_2 : q_lm I o - k < n_2), ∀ (H : Heap) (locs : List Loc) (ls : Array Slot), gm_St D cs sh (gm_A sh) s'.heap sz I2 J2 H locs → lv_has ls 3 [(0, .ref B), (1, .ref o), (2, .int (nI k))] → W p' l e' { frames := 5, cells := 0, slots := 0, locals := 137 } s' m' ([.ref B, .ref o] : List Value).toArray be' me' co' H locs 0 0 (MQ be' (va_Qv (fun u => sfF B I J u ∧ (∀ w, w < q_lm I o → sp_K u.1 u.2 (B + 180 + 12 * w) (dd_ab (q_ln I o)) (dd_rw (fF I o w (q_lg I o)) (q_lg I o + q_lt I o w))) ∧ offR (B + 180) (B + 215) I u.1 J u.2) (gm_B D cs sh sz) (gm_A sh)) ([.ref B, .ref o] : List Value).toArray s' 0 0 (gm_A sh)) (F0 m' 2 ls []) := by
    intro n_2
    induction n_2 with
    | zero => intro k I2 J2 hk hKs tK2 tV2 tO2 hm_2; exact absurd hm_2 (Nat.not_lt_zero _)
    | succ n_2 ih2 =>
      intro k I2 J2 hk hKs tK2 tV2 tO2 hm_2 H locs ls hh hl
      refine lv_iload_n C.1 C.2.1 d_FT_fillSpaces_2 rfl (lv_at hl 2 rfl) ?_
      refine lv_aload_n C.1 C.2.1 d_FT_fillSpaces_3 rfl (lv_at hl 1 rfl) ?_
      refine gn_i C hh ho.1 rfl in_Lp 3 (by decide) rfl tw_163 rfl d_FT_fillSpaces_4 ?_
      refine gm_eqi ((congrFun (tK2.1 o (by omega)).1 3).trans hD.1.1) ?_
      refine lv_icmp_ge (tgt := 27) C.1 C.2.1 d_FT_fillSpaces_7 (by decide) (fun c_1 => ?_) (fun c_1 => ?_)
      · -- 7 -> 27
        have c_1 := gm_get (by omega) (by omega) c_1
        have c_1' := Nat.not_lt.mpr c_1
        exact gr_v C hlk hret hh (by exact ⟨⟨tK2, tV2⟩, fun w_ hw_ => hKs w_ (by omega), tO2⟩) d_FT_fillSpaces_27
      · -- 7 -> 10
        have c_1 := gm_gef (by omega) (by omega) c_1
        have c_1' := Nat.not_le.mpr c_1
        refine lv_aload_n C.1 C.2.1 d_FT_fillSpaces_10 rfl (lv_at hl 0 rfl) ?_
        refine gg_r C hh hF.1 rfl in_FT 2 (by decide) rfl tw_212 rfl d_FT_fillSpaces_11 ?_
        refine lv_iload_n C.1 C.2.1 d_FT_fillSpaces_14 rfl (lv_at hl 2 rfl) ?_
        refine ga_q C hh 3 hF.2.2.1.1 (Cn := "FallingTerms$Space") rfl (k := k) (v := B + 180 + 12 * k) rfl (by omega) (by omega) (if_pos (by omega)) d_FT_fillSpaces_15 ?_
        obtain ⟨p_2, ep_2⟩ : ∃ z : Nat, z = B + 180 + 12 * k := ⟨_, rfl⟩
        have hp_2 : is_Sp sh p_2 := by rw [ep_2]; exact hF.2.2.1.2 k (by omega)
        refine gm_eqr ep_2.symm ?_
        refine lv_aload_n C.1 C.2.1 d_FT_fillSpaces_16 rfl (lv_at hl 1 rfl) ?_
        refine lv_iload_n C.1 C.2.1 d_FT_fillSpaces_17 rfl (lv_at hl 2 rfl) ?_
        have ef_ : fF I2 o k (q_lg I o) = fF I o k (q_lg I o) := fF_keep tK2 eo hj (by omega)
        have ht_ := hD.2.2.2.1 k (by omega)
        refine gc_v hh (gc_runV (As := [.ref o, .int (nI k)]) (rest := []) (n := 2) C hml hh (c_Sp_fillQ l D cs sh sz I2 J2 p_2 hp_2 o ho k (by omega) (by omega) (q_ln I o) (q_lg I o) (q_lt I o k) (by rw [(tK2.1 o (by omega)).1]; exact hD.2.1.1) hD.2.1.2.1 hD.2.1.2.2 (by rw [(tK2.1 (o + 1) (by omega)).1]; exact hD.2.2.1.1) hD.2.2.1.2 (by rw [(tK2.1 (o + 6 + 5 * k + 1) (by omega)).1]; exact ht_.1) ht_.2 (by rw [ef_]; exact fun i_ hi_ => ⟨(hD.2.2.2.2.1 _ (by omega) i_ hi_).1, (hD.2.2.2.2.1 _ (by omega) i_ hi_).2.1⟩)) (tg_V tw_326 tw_327 tw_328 tw_63 tw_329) (by decide +kernel) ⟨rfl, rfl, by decide, by decide, Nat.zero_le _, Nat.zero_le _⟩ hp_2.1 rfl rfl hl.1 rfl (Nat.le_of_ble_eq_true rfl) d_FT_fillSpaces_18) (fun I_4 J_5 H locs hr_3 hh => ?_)
        have hsf_ := skP.sf hr_3 (by rw [dd_rw_len]; have h1_ := hD.2.2.1.2; have h2_ := ht_.2; omega)
        have tK_6 : keepF B I I_4 J J_5 := keepF.tr tK2 (keepF.of hsf_.1 (by omega))
        have tV_7 : inv_FT I_4 B := inv_FT.sp (m := 2 * k) tV2 hsf_ (by omega) (by omega)
        have tO_8 : offR (B + 180) (B + 215) I I_4 J J_5 := offR.tr tO2 (offR.wide hr_3.1 (by omega) (by omega))
        have hKn_ := fs_step (tw := q_lt I o) hKs hr_3 ep_2 ef_
        refine lv_iinc (v := nI (k + 1)) (lv' := [(2, .int (nI (k + 1))), (0, .ref B), (1, .ref o)]) C.1 C.2.1 d_FT_fillSpaces_21 hl (k := 2) rfl (gm_inc k 1) (by decide) rfl (fun ls hl => ?_)
        refine lv_goto (tgt := 2) C.1 C.2.1 d_FT_fillSpaces_24 (by decide) ?_
        exact ih2 (k + 1) I_4 J_5 (by omega) (by exact hKn_) (by exact tK_6) (by exact tV_7) (by exact tO_8) (by omega) _ _ _ hh (lv_sub hl [1, 2, 0] rfl)
  exact K2 _ 0 I J (by omega) (by intro w_ hw_; omega) (by exact tK_0) (by exact tV_0) (by exact tO_0) (Nat.lt_succ_self _) _ _ _ hh (lv_sub hl [1, 2, 0] rfl)

set_option maxHeartbeats 4000000 in
set_option maxRecDepth 100000 in
theorem c_FT_proveQ (l : Launch) (D : va_G) (cs : Nat → ClassId) (sh : gm_H) (sz : Nat) (I : gm_I) (J : gm_J) (B : Nat) (hF : is_FT cs sh B) (hV : inv_FT I B) (n : Nat) (en : I B 1 = nI n) (hn : n ≤ 8) (hG : GQ I B) (v : Int32) (Z : Int32 → Int32 → Int32 → Nat → zT) (hZ : zHyp I B n v Z) : CI l y_FT_prove w_FT_prove { frames := 6, cells := 0, slots := 0, locals := 159 } D cs sh sz I J [.ref B, .int v] (fun x u => prQ I J B n v Z x u) := by
  refine gm_start (by decide) (Nat.le_of_ble_eq_true rfl) ?_
  intro p' e' s' m' be' me' co' ls C hml hlk hret hh hl
  have hl : lv_has ls 2 [(0, .ref B), (1, .int v)] := hl
  have tK_0 : keepF B I I J J := keepF.nil
  have tV_0 : inv_FT I B := hV
  refine lv_aload_n C.1 C.2.1 d_FT_prove_0 rfl (lv_at hl 0 rfl) ?_
  refine lv_iload_n C.1 C.2.1 d_FT_prove_1 rfl (lv_at hl 1 rfl) ?_
  refine gc_i hh (gc_runV (As := [.int v]) (rest := []) (n := 1) C hml hh (c_FT_isLoop l D cs sh sz I J B hF hV n en hn v) (tg_V tw_264 tw_266 tw_0 tw_57 tw_267) (by decide +kernel) ⟨rfl, rfl, by decide, by decide, Nat.zero_le _, Nat.zero_le _⟩ hF.1 rfl rfl hl.1 rfl (Nat.le_of_ble_eq_true rfl) d_FT_prove_2) (fun r_1 I_2 J_3 H locs hr_1 hh => ?_)
  obtain ⟨e_r_1, hr_1⟩ := hr_1
  rw [(Prod.mk.inj e_r_1).1, (Prod.mk.inj e_r_1).2] at hh
  refine lv_if_ne (tgt := 11) C.1 C.2.1 d_FT_prove_5 (by decide) (fun c_4 => ?_) (fun c_4 => ?_)
  · -- 5 -> 11
    have b_5 := bI_t hr_1 c_4
    obtain ⟨j_6, hj_6, ej_6⟩ := inI_nat (by omega) b_5
    subst ej_6
    skip
    have hD_ := gq_ld hG hV en hn hj_6
    refine lv_aload_n C.1 C.2.1 d_FT_prove_11 rfl (lv_at hl 0 rfl) ?_
    refine lv_aload_n C.1 C.2.1 d_FT_prove_12 rfl (lv_at hl 0 rfl) ?_
    refine gg_r C hh hF.1 rfl in_FT 0 (by decide) rfl tw_210 rfl d_FT_prove_13 ?_
    refine lv_iload_n C.1 C.2.1 d_FT_prove_16 rfl (lv_at hl 1 rfl) ?_
    refine ga_q C hh 2 hF.2.1 (Cn := "FallingTerms$Loop") rfl (k := j_6) (v := B + 12 + 21 * j_6) rfl (by omega) (by omega) (if_pos (by omega)) d_FT_prove_17 ?_
    obtain ⟨p_7, ep_7⟩ : ∃ z : Nat, z = B + 12 + 21 * j_6 := ⟨_, rfl⟩
    have hp_7 : is_Lp cs sh p_7 := by rw [ep_7]; exact hF.2.2.2.2.2.2.2.2.2.2 j_6 (by omega)
    refine gm_eqr ep_7.symm ?_
    refine gc_v hh (gc_runV (As := [.ref p_7]) (rest := []) (n := 1) C hml hh (c_FT_fillSpacesQ l D cs sh sz I J B hF tV_0 j_6 p_7 (by omega) ep_7 hp_7 (by rw [ep_7]; exact hD_)) (tg_V tw_423 tw_425 tw_17 tw_57 tw_426) (by decide +kernel) ⟨rfl, rfl, by decide, by decide, Nat.zero_le _, Nat.zero_le _⟩ hF.1 rfl rfl hl.1 rfl (Nat.le_of_ble_eq_true rfl) d_FT_prove_18) (fun I_9 J_10 H locs hr_8 hh => ?_)
    have tK_11 : keepF B I I_9 J J_10 := keepF.tr tK_0 hr_8.1.1
    have tV_12 : inv_FT I_9 B := hr_8.1.2
    have hkf_ : keepF B I I_9 J J_10 := hr_8.1.1
    refine lv_aload_n C.1 C.2.1 d_FT_prove_21 rfl (lv_at hl 0 rfl) ?_
    refine gg_r C hh hF.1 rfl in_FT 4 (by decide) rfl tw_214 rfl d_FT_prove_22 ?_
    refine lv_aload_n C.1 C.2.1 d_FT_prove_25 rfl (lv_at hl 0 rfl) ?_
    refine gg_r C hh hF.1 rfl in_FT 0 (by decide) rfl tw_210 rfl d_FT_prove_26 ?_
    refine lv_iload_n C.1 C.2.1 d_FT_prove_29 rfl (lv_at hl 1 rfl) ?_
    refine ga_q C hh 2 hF.2.1 (Cn := "FallingTerms$Loop") rfl (k := j_6) (v := B + 12 + 21 * j_6) rfl (by omega) (by omega) (if_pos (by omega)) d_FT_prove_30 ?_
    refine gm_eqr ep_7.symm ?_
    refine lv_aload_n C.1 C.2.1 d_FT_prove_31 rfl (lv_at hl 0 rfl) ?_
    refine gg_r C hh hF.1 rfl in_FT 2 (by decide) rfl tw_212 rfl d_FT_prove_32 ?_
    have hDo_ : LD I p_7 := by rw [ep_7]; exact hD_
    have hZo_ : ∀ a b c, numB (q_ln I p_7) a b c (nI 2) = true → ∀ w, w < q_lm I p_7 → zok I_9 J_10 (p_7 + 6 + 5 * w) (B + 180 + 12 * w) a b c (Z a b c w) := by
      intro a b c hb_ w hw_
      have hw3_ : w < 3 := by have h_ := hDo_.1.2; omega
      have hq_ := hZ j_6 hj_6 rfl a b c (by rw [← ep_7]; exact hb_) w (by rw [← ep_7]; exact hw_)
      rw [← ep_7] at hq_
      exact zok_of (hr_8.2.1 w hw_) (by have h1_ := hDo_.2.2.1.2; have h2_ := (hDo_.2.2.2.1 w hw_).2; omega) (hDo_.2.2.2.2.2 w hw_) hDo_.2.1.2.1 hDo_.2.1.2.2 (hDo_.2.2.2.2.1 w hw_) (hkf_.1 _ (by omega)).1 (hkf_.1 _ (by omega)).1 hb_ hq_
    refine gc_v hh (gc_runV (As := [.ref p_7, .ref (B + 2)]) (rest := []) (n := 2) C hml hh (c_Pf_searchQ l D cs sh sz I_9 J_10 (B + 4) hF.2.2.2.2.1 p_7 hp_7 (B + 2) (B + 180) hF.2.2.1 (q_lm I p_7) (q_ln I p_7) (by rw [(hkf_.1 p_7 (by omega)).1]; exact hDo_.1.1) hDo_.1.2 (by rw [(hkf_.1 p_7 (by omega)).1]; exact hDo_.2.1.1) hDo_.2.1.2.2 (by omega) (by omega) Z hZo_) (tg_V tw_427 tw_428 tw_429 tw_58 tw_430) (by decide +kernel) ⟨rfl, rfl, by decide, by decide, Nat.zero_le _, Nat.zero_le _⟩ hF.2.2.2.2.1.1 rfl rfl hl.1 rfl (Nat.le_of_ble_eq_true rfl) d_FT_prove_35) (fun I_14 J_15 H locs hr_13 hh => ?_)
    have hsf_ : pfP (B + 4) I_9 J_10 (I_14, J_15) := ⟨hr_13.1, _, hr_13.2.2.1, hr_13.2.2.2.1⟩
    have tK_16 : keepF B I I_14 J J_15 := keepF.tr tK_11 (keepF.of hsf_.1 (by omega))
    have tV_17 : inv_FT I_14 B := inv_FT.pf tV_12 hsf_ (by omega)
    obtain ⟨lf_, elf_⟩ : ∃ z : Nat, z = (lbN (ckk (q_ln I p_7) (q_lm I p_7) Z) 4 (opN (q_lm I p_7))).2 := ⟨_, rfl⟩
    have hlf_ : I_14 (B + 4) 2 = nI lf_ := by rw [elf_]; exact hr_13.2.2.2.2.1
    have l8_ : lf_ < 8 := by rw [elf_]; exact hr_13.2.1
    refine lv_aload_n C.1 C.2.1 d_FT_prove_38 rfl (lv_at hl 0 rfl) ?_
    refine gg_r C hh hF.1 rfl in_FT 4 (by decide) rfl tw_214 rfl d_FT_prove_39 ?_
    refine gn_i C hh hF.2.2.2.2.1.1 rfl in_Pf 2 (by decide) rfl tw_88 rfl d_FT_prove_42 ?_
    refine gm_eqi hlf_ ?_
    refine lv_if_ne (tgt := 52) C.1 C.2.1 d_FT_prove_45 (by decide) (fun c_18 => ?_) (fun c_18 => ?_)
    · -- 45 -> 52
      have c_18 := gm_net (b := 0) (by omega) (by omega) c_18
      refine lv_iconst (v := nI 0) C.1 C.2.1 d_FT_prove_52 rfl ?_
      exact gr_i C hlk hret rfl hh (by refine ⟨⟨tK_16, tV_17⟩, Or.inr ⟨_, by assumption, rfl, ?_⟩⟩; rw [← ep_7]; refine ⟨hr_13.2.2.1, ?_, hr_13.2.2.2.1, hr_13.2.2.2.2.1, _, hr_13.2.2.2.2.2⟩; rw [← elf_]; first | (rw [if_pos (by assumption)]; rfl) | (rw [if_neg (by assumption)]; rfl)) d_FT_prove_53
    · -- 45 -> 48
      have c_18 := gm_nef (b := 0) (by omega) (by omega) c_18
      refine lv_iconst (v := nI 1) C.1 C.2.1 d_FT_prove_48 rfl ?_
      refine lv_goto (tgt := 53) C.1 C.2.1 d_FT_prove_49 (by decide) ?_
      exact gr_i C hlk hret rfl hh (by refine ⟨⟨tK_16, tV_17⟩, Or.inr ⟨_, by assumption, rfl, ?_⟩⟩; rw [← ep_7]; refine ⟨hr_13.2.2.1, ?_, hr_13.2.2.2.1, hr_13.2.2.2.2.1, _, hr_13.2.2.2.2.2⟩; rw [← elf_]; first | (rw [if_pos (by assumption)]; rfl) | (rw [if_neg (by assumption)]; rfl)) d_FT_prove_53
  · -- 5 -> 8
    have b_19 := bI_f hr_1 c_4
    skip
    refine lv_bipush (v := (-2)) C.1 C.2.1 d_FT_prove_8 rfl ?_
    exact gr_i C hlk hret rfl hh (by exact ⟨⟨tK_0, tV_0⟩, Or.inl ⟨by assumption, rfl, rfl⟩⟩) d_FT_prove_10
