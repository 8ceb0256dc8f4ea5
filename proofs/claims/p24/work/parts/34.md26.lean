set_option maxHeartbeats 4000000 in
set_option maxRecDepth 100000 in
theorem c_Md_empty (l : Launch) (D : va_G) (cs : Nat → ClassId) (sh : gm_H) (sz : Nat) (I : gm_I) (J : gm_J) (r : Nat) (hM : is_Md sh r) (hV : inv_Md I r) (hb : ∃ b, I r 20 = bI b) (v w : Int32) : CI l y_Md_empty w_Md_empty { frames := 4, cells := 0, slots := 0, locals := 102 } D cs sh sz I J [.ref r, .int v, .int w] (fun z u => (z = if wyB I r v w = true then bI (nothB (rowF I J r (nN v) (nN w) (nN (I (r + 3) (nN v))) (nN (I (r + 5) (3 * nN v + nN w)))) (nN (I (r + 3) (nN v)) + nN (I (r + 5) (3 * nN v + nN w)))) else -2) ∧ eqS r I J u.1 u.2) := by
  refine gm_start (by decide) (Nat.le_of_ble_eq_true rfl) ?_
  intro p' e' s' m' be' me' co' ls C hml hlk hret hh hl
  have hl : lv_has ls 3 [(0, .ref r), (1, .int v), (2, .int w)] := hl
  refine lv_aload_n C.1 C.2.1 d_Md_empty_0 rfl (lv_at hl 0 rfl) ?_
  refine lv_iload_n C.1 C.2.1 d_Md_empty_1 rfl (lv_at hl 1 rfl) ?_
  refine lv_iload_n C.1 C.2.1 d_Md_empty_2 rfl (lv_at hl 2 rfl) ?_
  refine gc_i hh (gc_runV (As := [.int v, .int w]) (rest := []) (n := 2) C hml hh (c_Md_isWay l D cs sh sz I J r hM hV v w) (tg_V tw_718 tw_720 tw_29 tw_64 tw_721) (by decide +kernel) ⟨rfl, rfl, by decide, by decide, Nat.zero_le _, Nat.zero_le _⟩ (Md_0 hM) rfl rfl hl.1 rfl (Nat.le_of_ble_eq_true rfl) d_Md_empty_3) (fun r_1 I_2 J_3 H locs hr_1 hh => ?_)
  obtain ⟨e_r_1, hr_1⟩ := hr_1
  rw [(Prod.mk.inj e_r_1).1, (Prod.mk.inj e_r_1).2] at hh
  refine lv_if_ne (tgt := 12) C.1 C.2.1 d_Md_empty_6 (by decide) (fun c_4 => ?_) (fun c_4 => ?_)
  · -- 6 -> 12
    have b_5 := bI_t hr_1 c_4
    obtain ⟨j_6, k_7, hj_6, hk_7, ej_6, ek_7, lp_k_7, lt_k_7⟩ := wyB_j hV b_5
    subst ej_6
    subst ek_7
    skip
    refine lv_aload_n C.1 C.2.1 d_Md_empty_12 rfl (lv_at hl 0 rfl) ?_
    refine lv_iload_n C.1 C.2.1 d_Md_empty_13 rfl (lv_at hl 1 rfl) ?_
    refine lv_iload_n C.1 C.2.1 d_Md_empty_14 rfl (lv_at hl 2 rfl) ?_
    refine lv_iconst (v := nI 0) C.1 C.2.1 d_Md_empty_15 rfl ?_
    obtain ⟨gg, hgg, egg⟩ := hV.2.2.2.1 j_6 (by omega)
    obtain ⟨tt, htt, ett⟩ := hV.2.2.2.2.1 (3 * j_6 + k_7) (by omega)
    refine gc_v hh (gc_runV (As := [.int (nI j_6), .int (nI k_7), .int (nI 0)]) (rest := []) (n := 3) C hml hh (c_Md_space l D cs sh sz I J r hM hV j_6 (by omega) k_7 (by omega) gg tt hgg htt egg ett (nI 0) false rfl) (tg_V tw_742 tw_744 tw_31 tw_64 tw_745) (by decide +kernel) ⟨rfl, rfl, by decide, by decide, Nat.zero_le _, Nat.zero_le _⟩ (Md_0 hM) rfl rfl hl.1 rfl (Nat.le_of_ble_eq_true rfl) d_Md_empty_16) (fun I_9 J_10 H locs hr_8 hh => ?_)
    obtain ⟨nn, enn⟩ : ∃ z : Nat, z = gg + tt + false.toNat := ⟨_, rfl⟩
    have hnn : nn ≤ 8 := by rw [enn]; show gg + tt + 0 ≤ 8; omega
    rw [← enn] at hr_8
    obtain ⟨Is, eIs⟩ : ∃ z : gm_I, z = gm_up I r 15 (nI nn) := ⟨_, rfl⟩
    obtain ⟨Js, eJs⟩ : ∃ z : gm_J, z = spJ J r nn (rowF I J r j_6 k_7 gg tt) := ⟨_, rfl⟩
    rw [← eIs, ← eJs] at hr_8
    rw [(Prod.mk.inj hr_8).1, (Prod.mk.inj hr_8).2] at hh
    have hn : Is r 15 = nI nn := by rw [eIs]; exact gm_up_same _ _ _ _
    obtain ⟨b0, hb0⟩ := hb
    have hb1 : Is r 20 = bI b0 := by rw [eIs, gm_up_ne _ _ (by omega)]; exact hb0
    have hh : gm_St D cs sh (gm_A sh) s'.heap sz (scI Is r (b0, Js r 21, Js r 22, G3 Js r, (Js r 26, Js r 27, Js r 28))) (scJ Js r (b0, Js r 21, Js r 22, G3 Js r, (Js r 26, Js r 27, Js r 28))) H locs := by rw [scJ_id]; unfold scI; rw [lsI_id hb1]; exact hh
    refine lv_aload_n C.1 C.2.1 d_Md_empty_19 rfl (lv_at hl 0 rfl) ?_
    refine gc_i hh (gc_runV (As := []) (rest := []) (n := 0) C hml hh (c_Md_isNothing l D cs sh sz Is Js r hM (b0, Js r 21, Js r 22, G3 Js r, (Js r 26, Js r 27, Js r 28)) nn hn hnn) (tg_V tw_750 tw_752 tw_33 tw_64 tw_753) (by decide +kernel) ⟨rfl, rfl, by decide, by decide, Nat.zero_le _, Nat.zero_le _⟩ (Md_0 hM) rfl rfl hl.1 rfl (Nat.le_of_ble_eq_true rfl) d_Md_empty_20) (fun r_11 I_12 J_13 H locs hr_11 hh => ?_)
    obtain ⟨hr_11, c_14, qhr_11⟩ := hr_11
    rw [(Prod.mk.inj qhr_11).1, (Prod.mk.inj qhr_11).2] at hh
    refine lv_if_eq (tgt := 30) C.1 C.2.1 d_Md_empty_23 (by decide) (fun c_15 => ?_) (fun c_15 => ?_)
    · -- 23 -> 30
      have b_16 := bI_f hr_11 c_15
      skip
      refine lv_iconst (v := nI 0) C.1 C.2.1 d_Md_empty_30 rfl ?_
      exact gr_i C hlk hret rfl hh (by refine ⟨?_, by rw [eIs, eJs]; exact eqS_sc⟩; subst hr_1 hr_11; rw [if_pos (by assumption)]; simp only [nN_nI (show j_6 < 2 ^ 31 by omega), nN_nI (show k_7 < 2 ^ 31 by omega), egg, ett, nN_nI (show gg < 2 ^ 31 by omega), nN_nI (show tt < 2 ^ 31 by omega)]; rw [← show nothB (rwF Js r) nn = nothB (rowF I J r j_6 k_7 gg tt) (gg + tt) by rw [eJs, nothB_congr rw_sp, enn]; rfl]; first | (rw [show nothB (rwF Js r) nn = true by assumption]; rfl) | (rw [show nothB (rwF Js r) nn = false by assumption]; rfl)) d_Md_empty_31
    · -- 23 -> 26
      have b_17 := bI_t hr_11 c_15
      skip
      refine lv_iconst (v := nI 1) C.1 C.2.1 d_Md_empty_26 rfl ?_
      refine lv_goto (tgt := 31) C.1 C.2.1 d_Md_empty_27 (by decide) ?_
      exact gr_i C hlk hret rfl hh (by refine ⟨?_, by rw [eIs, eJs]; exact eqS_sc⟩; subst hr_1 hr_11; rw [if_pos (by assumption)]; simp only [nN_nI (show j_6 < 2 ^ 31 by omega), nN_nI (show k_7 < 2 ^ 31 by omega), egg, ett, nN_nI (show gg < 2 ^ 31 by omega), nN_nI (show tt < 2 ^ 31 by omega)]; rw [← show nothB (rwF Js r) nn = nothB (rowF I J r j_6 k_7 gg tt) (gg + tt) by rw [eJs, nothB_congr rw_sp, enn]; rfl]; first | (rw [show nothB (rwF Js r) nn = true by assumption]; rfl) | (rw [show nothB (rwF Js r) nn = false by assumption]; rfl)) d_Md_empty_31
  · -- 6 -> 9
    have b_18 := bI_f hr_1 c_4
    skip
    refine lv_bipush (v := (-2)) C.1 C.2.1 d_Md_empty_9 rfl ?_
    exact gr_i C hlk hret rfl hh (by exact ⟨by rw [if_neg (by simp [b_18])], eqS_rf hb⟩) d_Md_empty_11
