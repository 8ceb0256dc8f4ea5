set_option maxHeartbeats 4000000 in
set_option maxRecDepth 100000 in
theorem c_Md_holds (l : Launch) (D : va_G) (cs : Nat → ClassId) (sh : gm_H) (sz : Nat) (I : gm_I) (J : gm_J) (r : Nat) (hM : is_Md sh r) (hV : inv_Md I r) (hb : ∃ b, I r 20 = bI b) (v w a b c d : Int32) : CI l y_Md_holds w_Md_holds { frames := 4, cells := 0, slots := 0, locals := 103 } D cs sh sz I J [.ref r, .int v, .int w, .int a, .int b, .int c, .int d] (fun z u => (z = if wyB I r v w = true then if rowB (nN (I (r + 1) (nN v))) a b c d = true then bI (nothB (rowF I J r (nN v) (nN w) (nN (I (r + 3) (nN v))) (nN (I (r + 5) (3 * nN v + nN w)))) (nN (I (r + 3) (nN v)) + nN (I (r + 5) (3 * nN v + nN w))) || leastT (rowF I J r (nN v) (nN w) (nN (I (r + 3) (nN v))) (nN (I (r + 5) (3 * nN v + nN w)))) (a.toInt64, b.toInt64, c.toInt64) (nN (I (r + 3) (nN v)) + nN (I (r + 5) (3 * nN v + nN w))) d.toInt64) else -3 else -2) ∧ eqS r I J u.1 u.2) := by
  refine gm_start (by decide) (Nat.le_of_ble_eq_true rfl) ?_
  intro p' e' s' m' be' me' co' ls C hml hlk hret hh hl
  have hl : lv_has ls 7 [(0, .ref r), (1, .int v), (2, .int w), (3, .int a), (4, .int b), (5, .int c), (6, .int d)] := hl
  refine lv_aload_n C.1 C.2.1 d_Md_holds_0 rfl (lv_at hl 0 rfl) ?_
  refine lv_iload_n C.1 C.2.1 d_Md_holds_1 rfl (lv_at hl 1 rfl) ?_
  refine lv_iload_n C.1 C.2.1 d_Md_holds_2 rfl (lv_at hl 2 rfl) ?_
  refine gc_i hh (gc_runV (As := [.int v, .int w]) (rest := []) (n := 2) C hml hh (c_Md_isWay l D cs sh sz I J r hM hV v w) (tg_V tw_718 tw_720 tw_29 tw_64 tw_721) (by decide +kernel) ⟨rfl, rfl, by decide, by decide, Nat.zero_le _, Nat.zero_le _⟩ (Md_0 hM) rfl rfl hl.1 rfl (Nat.le_of_ble_eq_true rfl) d_Md_holds_3) (fun r_1 I_2 J_3 H locs hr_1 hh => ?_)
  obtain ⟨e_r_1, hr_1⟩ := hr_1
  rw [(Prod.mk.inj e_r_1).1, (Prod.mk.inj e_r_1).2] at hh
  refine lv_if_ne (tgt := 12) C.1 C.2.1 d_Md_holds_6 (by decide) (fun c_4 => ?_) (fun c_4 => ?_)
  · -- 6 -> 12
    have b_5 := bI_t hr_1 c_4
    obtain ⟨j_6, k_7, hj_6, hk_7, ej_6, ek_7, lp_k_7, lt_k_7⟩ := wyB_j hV b_5
    subst ej_6
    subst ek_7
    skip
    obtain ⟨nm, hnm, enm⟩ := hV.2.1 j_6 (by omega)
    refine lv_aload_n C.1 C.2.1 d_Md_holds_12 rfl (lv_at hl 0 rfl) ?_
    refine lv_iload_n C.1 C.2.1 d_Md_holds_13 rfl (lv_at hl 1 rfl) ?_
    refine lv_iload_n C.1 C.2.1 d_Md_holds_14 rfl (lv_at hl 3 rfl) ?_
    refine lv_iload C.1 C.2.1 d_Md_holds_15 (lv_at hl 4 rfl) ?_
    refine lv_iload C.1 C.2.1 d_Md_holds_17 (lv_at hl 5 rfl) ?_
    refine lv_iload C.1 C.2.1 d_Md_holds_19 (lv_at hl 6 rfl) ?_
    refine gc_i hh (gc_runV (As := [.int (nI j_6), .int a, .int b, .int c, .int d]) (rest := []) (n := 5) C hml hh (c_Md_isRow l D cs sh sz I J r hM hV j_6 nm a b c d (by omega) enm hnm) (tg_V tw_699 tw_701 tw_27 tw_64 tw_702) (by decide +kernel) ⟨rfl, rfl, by decide, by decide, Nat.zero_le _, Nat.zero_le _⟩ (Md_0 hM) rfl rfl hl.1 rfl (Nat.le_of_ble_eq_true rfl) d_Md_holds_21) (fun r_8 I_9 J_10 H locs hr_8 hh => ?_)
    obtain ⟨e_r_8, hr_8⟩ := hr_8
    rw [(Prod.mk.inj e_r_8).1, (Prod.mk.inj e_r_8).2] at hh
    refine lv_if_ne (tgt := 30) C.1 C.2.1 d_Md_holds_24 (by decide) (fun c_11 => ?_) (fun c_11 => ?_)
    · -- 24 -> 30
      have b_12 := bI_t hr_8 c_11
      skip
      refine lv_aload_n C.1 C.2.1 d_Md_holds_30 rfl (lv_at hl 0 rfl) ?_
      refine lv_iload_n C.1 C.2.1 d_Md_holds_31 rfl (lv_at hl 1 rfl) ?_
      refine lv_iload_n C.1 C.2.1 d_Md_holds_32 rfl (lv_at hl 2 rfl) ?_
      refine lv_iconst (v := nI 0) C.1 C.2.1 d_Md_holds_33 rfl ?_
      obtain ⟨gg, hgg, egg⟩ := hV.2.2.2.1 j_6 (by omega)
      obtain ⟨tt, htt, ett⟩ := hV.2.2.2.2.1 (3 * j_6 + k_7) (by omega)
      refine gc_v hh (gc_runV (As := [.int (nI j_6), .int (nI k_7), .int (nI 0)]) (rest := []) (n := 3) C hml hh (c_Md_space l D cs sh sz I J r hM hV j_6 (by omega) k_7 (by omega) gg tt hgg htt egg ett (nI 0) false rfl) (tg_V tw_742 tw_744 tw_31 tw_64 tw_745) (by decide +kernel) ⟨rfl, rfl, by decide, by decide, Nat.zero_le _, Nat.zero_le _⟩ (Md_0 hM) rfl rfl hl.1 rfl (Nat.le_of_ble_eq_true rfl) d_Md_holds_34) (fun I_14 J_15 H locs hr_13 hh => ?_)
      obtain ⟨nn, enn⟩ : ∃ z : Nat, z = gg + tt + false.toNat := ⟨_, rfl⟩
      have hnn : nn ≤ 8 := by rw [enn]; show gg + tt + 0 ≤ 8; omega
      rw [← enn] at hr_13
      obtain ⟨Is, eIs⟩ : ∃ z : gm_I, z = gm_up I r 15 (nI nn) := ⟨_, rfl⟩
      obtain ⟨Js, eJs⟩ : ∃ z : gm_J, z = spJ J r nn (rowF I J r j_6 k_7 gg tt) := ⟨_, rfl⟩
      rw [← eIs, ← eJs] at hr_13
      rw [(Prod.mk.inj hr_13).1, (Prod.mk.inj hr_13).2] at hh
      have hn : Is r 15 = nI nn := by rw [eIs]; exact gm_up_same _ _ _ _
      obtain ⟨b0, hb0⟩ := hb
      have hb1 : Is r 20 = bI b0 := by rw [eIs, gm_up_ne _ _ (by omega)]; exact hb0
      have hh : gm_St D cs sh (gm_A sh) s'.heap sz (scI Is r (b0, Js r 21, Js r 22, G3 Js r, (Js r 26, Js r 27, Js r 28))) (scJ Js r (b0, Js r 21, Js r 22, G3 Js r, (Js r 26, Js r 27, Js r 28))) H locs := by rw [scJ_id]; unfold scI; rw [lsI_id hb1]; exact hh
      refine lv_aload_n C.1 C.2.1 d_Md_holds_37 rfl (lv_at hl 0 rfl) ?_
      refine gc_i hh (gc_runV (As := []) (rest := []) (n := 0) C hml hh (c_Md_isNothing l D cs sh sz Is Js r hM (b0, Js r 21, Js r 22, G3 Js r, (Js r 26, Js r 27, Js r 28)) nn hn hnn) (tg_V tw_750 tw_752 tw_33 tw_64 tw_753) (by decide +kernel) ⟨rfl, rfl, by decide, by decide, Nat.zero_le _, Nat.zero_le _⟩ (Md_0 hM) rfl rfl hl.1 rfl (Nat.le_of_ble_eq_true rfl) d_Md_holds_38) (fun r_16 I_17 J_18 H locs hr_16 hh => ?_)
      obtain ⟨hr_16, c_19, qhr_16⟩ := hr_16
      rw [(Prod.mk.inj qhr_16).1, (Prod.mk.inj qhr_16).2] at hh
      refine lv_if_eq (tgt := 46) C.1 C.2.1 d_Md_holds_41 (by decide) (fun c_20 => ?_) (fun c_20 => ?_)
      · -- 41 -> 46
        have b_21 := bI_f hr_16 c_20
        skip
        refine lv_aload_n C.1 C.2.1 d_Md_holds_46 rfl (lv_at hl 0 rfl) ?_
        refine lv_iload_n C.1 C.2.1 d_Md_holds_47 rfl (lv_at hl 3 rfl) ?_
        refine lv_i2l (v := a.toInt64) C.1 C.2.1 d_Md_holds_48 rfl ?_
        refine lv_iload C.1 C.2.1 d_Md_holds_49 (lv_at hl 4 rfl) ?_
        refine lv_i2l (v := b.toInt64) C.1 C.2.1 d_Md_holds_51 rfl ?_
        refine lv_iload C.1 C.2.1 d_Md_holds_52 (lv_at hl 5 rfl) ?_
        refine lv_i2l (v := c.toInt64) C.1 C.2.1 d_Md_holds_54 rfl ?_
        refine gc_v hh (gc_runV (As := [.long a.toInt64, .long b.toInt64, .long c.toInt64]) (rest := []) (n := 3) C hml hh (c_Md_goal l D cs sh sz (scI Is r c_19) (scJ Js r c_19) r hM a.toInt64 b.toInt64 c.toInt64) (tg_V tw_754 tw_756 tw_34 tw_64 tw_757) (by decide +kernel) ⟨rfl, rfl, by decide, by decide, Nat.zero_le _, Nat.zero_le _⟩ (Md_0 hM) rfl rfl hl.1 rfl (Nat.le_of_ble_eq_true rfl) d_Md_holds_55) (fun I_23 J_24 H locs hr_22 hh => ?_)
        rw [goal_sc] at hr_22
        rw [(Prod.mk.inj hr_22).1, (Prod.mk.inj hr_22).2] at hh
        have hh : gm_St D cs sh (gm_A sh) s'.heap sz (scI Is r (c_19.1, c_19.2.1, c_19.2.2.1, (a.toInt64, b.toInt64, c.toInt64), c_19.2.2.2.2)) (scJ Js r (c_19.1, c_19.2.1, c_19.2.2.1, (a.toInt64, b.toInt64, c.toInt64), c_19.2.2.2.2)) H locs := hh
        refine lv_aload_n C.1 C.2.1 d_Md_holds_58 rfl (lv_at hl 0 rfl) ?_
        refine lv_iload C.1 C.2.1 d_Md_holds_59 (lv_at hl 6 rfl) ?_
        refine lv_i2l (v := d.toInt64) C.1 C.2.1 d_Md_holds_61 rfl ?_
        refine gc_i hh (gc_runV (As := [.long d.toInt64]) (rest := []) (n := 1) C hml hh (c_Md_isLeast l D cs sh sz Is Js r hM (c_19.1, c_19.2.1, c_19.2.2.1, (a.toInt64, b.toInt64, c.toInt64), c_19.2.2.2.2) nn hn hnn d.toInt64) (tg_V tw_787 tw_789 tw_41 tw_64 tw_790) (by decide +kernel) ⟨rfl, rfl, by decide, by decide, Nat.zero_le _, Nat.zero_le _⟩ (Md_0 hM) rfl rfl hl.1 rfl (Nat.le_of_ble_eq_true rfl) d_Md_holds_62) (fun r_25 I_26 J_27 H locs hr_25 hh => ?_)
        obtain ⟨hr_25, c_28, qhr_25⟩ := hr_25
        rw [(Prod.mk.inj qhr_25).1, (Prod.mk.inj qhr_25).2] at hh
        refine lv_if_eq (tgt := 72) C.1 C.2.1 d_Md_holds_65 (by decide) (fun c_29 => ?_) (fun c_29 => ?_)
        · -- 65 -> 72
          have b_30 := bI_f hr_25 c_29
          skip
          refine lv_iconst (v := nI 0) C.1 C.2.1 d_Md_holds_72 rfl ?_
          exact gr_i C hlk hret rfl hh (by refine ⟨?_, by rw [eIs, eJs]; exact eqS_sc⟩; subst hr_1 hr_8 hr_16 hr_25; rw [if_pos (by assumption), if_pos (by simp only [nN_nI (show j_6 < 2 ^ 31 by omega), enm, nN_nI (show nm < 2 ^ 31 by omega)]; assumption)]; simp only [nN_nI (show j_6 < 2 ^ 31 by omega), nN_nI (show k_7 < 2 ^ 31 by omega), egg, ett, nN_nI (show gg < 2 ^ 31 by omega), nN_nI (show tt < 2 ^ 31 by omega)]; rw [show nothB (rowF I J r j_6 k_7 gg tt) (gg + tt) = false by rw [← show nothB (rwF Js r) nn = nothB (rowF I J r j_6 k_7 gg tt) (gg + tt) by rw [eJs, nothB_congr rw_sp, enn]; rfl]; assumption]; first | (rw [show leastT (rowF I J r j_6 k_7 gg tt) (a.toInt64, b.toInt64, c.toInt64) (gg + tt) d.toInt64 = true by rw [← show leastT (rwF Js r) (a.toInt64, b.toInt64, c.toInt64) nn d.toInt64 = leastT (rowF I J r j_6 k_7 gg tt) (a.toInt64, b.toInt64, c.toInt64) (gg + tt) d.toInt64 by rw [eJs, leastT_congr rw_sp, enn]; rfl]; assumption]; rfl) | (rw [show leastT (rowF I J r j_6 k_7 gg tt) (a.toInt64, b.toInt64, c.toInt64) (gg + tt) d.toInt64 = false by rw [← show leastT (rwF Js r) (a.toInt64, b.toInt64, c.toInt64) nn d.toInt64 = leastT (rowF I J r j_6 k_7 gg tt) (a.toInt64, b.toInt64, c.toInt64) (gg + tt) d.toInt64 by rw [eJs, leastT_congr rw_sp, enn]; rfl]; assumption]; rfl)) d_Md_holds_73
        · -- 65 -> 68
          have b_31 := bI_t hr_25 c_29
          skip
          refine lv_iconst (v := nI 1) C.1 C.2.1 d_Md_holds_68 rfl ?_
          refine lv_goto (tgt := 73) C.1 C.2.1 d_Md_holds_69 (by decide) ?_
          exact gr_i C hlk hret rfl hh (by refine ⟨?_, by rw [eIs, eJs]; exact eqS_sc⟩; subst hr_1 hr_8 hr_16 hr_25; rw [if_pos (by assumption), if_pos (by simp only [nN_nI (show j_6 < 2 ^ 31 by omega), enm, nN_nI (show nm < 2 ^ 31 by omega)]; assumption)]; simp only [nN_nI (show j_6 < 2 ^ 31 by omega), nN_nI (show k_7 < 2 ^ 31 by omega), egg, ett, nN_nI (show gg < 2 ^ 31 by omega), nN_nI (show tt < 2 ^ 31 by omega)]; rw [show nothB (rowF I J r j_6 k_7 gg tt) (gg + tt) = false by rw [← show nothB (rwF Js r) nn = nothB (rowF I J r j_6 k_7 gg tt) (gg + tt) by rw [eJs, nothB_congr rw_sp, enn]; rfl]; assumption]; first | (rw [show leastT (rowF I J r j_6 k_7 gg tt) (a.toInt64, b.toInt64, c.toInt64) (gg + tt) d.toInt64 = true by rw [← show leastT (rwF Js r) (a.toInt64, b.toInt64, c.toInt64) nn d.toInt64 = leastT (rowF I J r j_6 k_7 gg tt) (a.toInt64, b.toInt64, c.toInt64) (gg + tt) d.toInt64 by rw [eJs, leastT_congr rw_sp, enn]; rfl]; assumption]; rfl) | (rw [show leastT (rowF I J r j_6 k_7 gg tt) (a.toInt64, b.toInt64, c.toInt64) (gg + tt) d.toInt64 = false by rw [← show leastT (rwF Js r) (a.toInt64, b.toInt64, c.toInt64) nn d.toInt64 = leastT (rowF I J r j_6 k_7 gg tt) (a.toInt64, b.toInt64, c.toInt64) (gg + tt) d.toInt64 by rw [eJs, leastT_congr rw_sp, enn]; rfl]; assumption]; rfl)) d_Md_holds_73
      · -- 41 -> 44
        have b_32 := bI_t hr_16 c_20
        skip
        refine lv_iconst (v := nI 1) C.1 C.2.1 d_Md_holds_44 rfl ?_
        exact gr_i C hlk hret rfl hh (by refine ⟨?_, by rw [eIs, eJs]; exact eqS_sc⟩; subst hr_1 hr_8 hr_16; rw [if_pos (by assumption), if_pos (by simp only [nN_nI (show j_6 < 2 ^ 31 by omega), enm, nN_nI (show nm < 2 ^ 31 by omega)]; assumption)]; simp only [nN_nI (show j_6 < 2 ^ 31 by omega), nN_nI (show k_7 < 2 ^ 31 by omega), egg, ett, nN_nI (show gg < 2 ^ 31 by omega), nN_nI (show tt < 2 ^ 31 by omega)]; rw [show nothB (rowF I J r j_6 k_7 gg tt) (gg + tt) = true by rw [← show nothB (rwF Js r) nn = nothB (rowF I J r j_6 k_7 gg tt) (gg + tt) by rw [eJs, nothB_congr rw_sp, enn]; rfl]; assumption]; rfl) d_Md_holds_45
    · -- 24 -> 27
      have b_33 := bI_f hr_8 c_11
      skip
      refine lv_bipush (v := (-3)) C.1 C.2.1 d_Md_holds_27 rfl ?_
      exact gr_i C hlk hret rfl hh (by exact ⟨by rw [if_pos (by assumption), if_neg (by simp only [nN_nI (show j_6 < 2 ^ 31 by omega), enm, nN_nI (show nm < 2 ^ 31 by omega)]; simp [b_5, b_33])], eqS_rf hb⟩) d_Md_holds_29
  · -- 6 -> 9
    have b_34 := bI_f hr_1 c_4
    skip
    refine lv_bipush (v := (-2)) C.1 C.2.1 d_Md_holds_9 rfl ?_
    exact gr_i C hlk hret rfl hh (by exact ⟨by rw [if_neg (by simp [b_34])], eqS_rf hb⟩) d_Md_holds_11

set_option maxHeartbeats 4000000 in
set_option maxRecDepth 100000 in
theorem c_Md_term (l : Launch) (D : va_G) (cs : Nat → ClassId) (sh : gm_H) (sz : Nat) (I : gm_I) (J : gm_J) (r : Nat) (hM : is_Md sh r) (hV : inv_Md I r) (hb : ∃ b, I r 20 = bI b) (v w a b c : Int32) : CI l y_Md_term w_Md_term { frames := 4, cells := 0, slots := 0, locals := 108 } D cs sh sz I J [.ref r, .int v, .int w, .int a, .int b, .int c] (fun z u => (z = if wyB I r v w = true then if numB (nN (I (r + 1) (nN v))) a b c (nI 2) = true then (if nothB (rowF I J r (nN v) (nN w) (nN (I (r + 3) (nN v))) (nN (I (r + 5) (3 * nN v + nN w)))) (nN (I (r + 3) (nN v)) + nN (I (r + 5) (3 * nN v + nN w))) = true then 7 else bI (LQ (rowF I J r (nN v) (nN w) (nN (I (r + 3) (nN v))) (nN (I (r + 5) (3 * nN v + nN w)))) (a.toInt64, b.toInt64, c.toInt64) (nN (I (r + 3) (nN v)) + nN (I (r + 5) (3 * nN v + nN w)))).1 + fallsV (rowF I J r (nN v) (nN w) (nN (I (r + 3) (nN v))) (nN (I (r + 5) (3 * nN v + nN w)))) (tmG I r (3 * nN v + nN w) a b c) (nN (I (r + 3) (nN v)) + nN (I (r + 5) (3 * nN v + nN w))) (chC I r (3 * nN v + nN w) a.toInt64 b.toInt64 c.toInt64)) else -3 else -2) ∧ eqS r I J u.1 u.2) := by
  refine gm_start (by decide) (Nat.le_of_ble_eq_true rfl) ?_
  intro p' e' s' m' be' me' co' ls C hml hlk hret hh hl
  have hl : lv_has ls 6 [(0, .ref r), (1, .int v), (2, .int w), (3, .int a), (4, .int b), (5, .int c)] := hl
  refine lv_aload_n C.1 C.2.1 d_Md_term_0 rfl (lv_at hl 0 rfl) ?_
  refine lv_iload_n C.1 C.2.1 d_Md_term_1 rfl (lv_at hl 1 rfl) ?_
  refine lv_iload_n C.1 C.2.1 d_Md_term_2 rfl (lv_at hl 2 rfl) ?_
  refine gc_i hh (gc_runV (As := [.int v, .int w]) (rest := []) (n := 2) C hml hh (c_Md_isWay l D cs sh sz I J r hM hV v w) (tg_V tw_718 tw_720 tw_29 tw_64 tw_721) (by decide +kernel) ⟨rfl, rfl, by decide, by decide, Nat.zero_le _, Nat.zero_le _⟩ (Md_0 hM) rfl rfl hl.1 rfl (Nat.le_of_ble_eq_true rfl) d_Md_term_3) (fun r_1 I_2 J_3 H locs hr_1 hh => ?_)
  obtain ⟨e_r_1, hr_1⟩ := hr_1
  rw [(Prod.mk.inj e_r_1).1, (Prod.mk.inj e_r_1).2] at hh
  refine lv_if_ne (tgt := 12) C.1 C.2.1 d_Md_term_6 (by decide) (fun c_4 => ?_) (fun c_4 => ?_)
  · -- 6 -> 12
    have b_5 := bI_t hr_1 c_4
    obtain ⟨j_6, k_7, hj_6, hk_7, ej_6, ek_7, lp_k_7, lt_k_7⟩ := wyB_j hV b_5
    subst ej_6
    subst ek_7
    skip
    obtain ⟨nm, hnm, enm⟩ := hV.2.1 j_6 (by omega)
    refine lv_aload_n C.1 C.2.1 d_Md_term_12 rfl (lv_at hl 0 rfl) ?_
    refine lv_iload_n C.1 C.2.1 d_Md_term_13 rfl (lv_at hl 1 rfl) ?_
    refine lv_iload_n C.1 C.2.1 d_Md_term_14 rfl (lv_at hl 3 rfl) ?_
    refine lv_iload C.1 C.2.1 d_Md_term_15 (lv_at hl 4 rfl) ?_
    refine lv_iload C.1 C.2.1 d_Md_term_17 (lv_at hl 5 rfl) ?_
    refine lv_iconst (v := nI 2) C.1 C.2.1 d_Md_term_19 rfl ?_
    refine gc_i hh (gc_runV (As := [.int (nI j_6), .int a, .int b, .int c, .int (nI 2)]) (rest := []) (n := 5) C hml hh (c_Md_areNumbers l D cs sh sz I J r hM hV j_6 nm a b c (nI 2) (by omega) enm hnm) (tg_V tw_703 tw_705 tw_28 tw_64 tw_706) (by decide +kernel) ⟨rfl, rfl, by decide, by decide, Nat.zero_le _, Nat.zero_le _⟩ (Md_0 hM) rfl rfl hl.1 rfl (Nat.le_of_ble_eq_true rfl) d_Md_term_20) (fun r_8 I_9 J_10 H locs hr_8 hh => ?_)
    obtain ⟨e_r_8, hr_8⟩ := hr_8
    rw [(Prod.mk.inj e_r_8).1, (Prod.mk.inj e_r_8).2] at hh
    refine lv_if_ne (tgt := 29) C.1 C.2.1 d_Md_term_23 (by decide) (fun c_11 => ?_) (fun c_11 => ?_)
    · -- 23 -> 29
      have b_12 := bI_t hr_8 c_11
      skip
      refine lv_aload_n C.1 C.2.1 d_Md_term_29 rfl (lv_at hl 0 rfl) ?_
      refine lv_iload_n C.1 C.2.1 d_Md_term_30 rfl (lv_at hl 1 rfl) ?_
      refine lv_iload_n C.1 C.2.1 d_Md_term_31 rfl (lv_at hl 2 rfl) ?_
      refine lv_iconst (v := nI 0) C.1 C.2.1 d_Md_term_32 rfl ?_
      obtain ⟨gg, hgg, egg⟩ := hV.2.2.2.1 j_6 (by omega)
      obtain ⟨tt, htt, ett⟩ := hV.2.2.2.2.1 (3 * j_6 + k_7) (by omega)
      refine gc_v hh (gc_runV (As := [.int (nI j_6), .int (nI k_7), .int (nI 0)]) (rest := []) (n := 3) C hml hh (c_Md_space l D cs sh sz I J r hM hV j_6 (by omega) k_7 (by omega) gg tt hgg htt egg ett (nI 0) false rfl) (tg_V tw_742 tw_744 tw_31 tw_64 tw_745) (by decide +kernel) ⟨rfl, rfl, by decide, by decide, Nat.zero_le _, Nat.zero_le _⟩ (Md_0 hM) rfl rfl hl.1 rfl (Nat.le_of_ble_eq_true rfl) d_Md_term_33) (fun I_14 J_15 H locs hr_13 hh => ?_)
      obtain ⟨nn, enn⟩ : ∃ z : Nat, z = gg + tt + false.toNat := ⟨_, rfl⟩
      have hnn : nn ≤ 8 := by rw [enn]; show gg + tt + 0 ≤ 8; omega
      rw [← enn] at hr_13
      obtain ⟨Is, eIs⟩ : ∃ z : gm_I, z = gm_up I r 15 (nI nn) := ⟨_, rfl⟩
      obtain ⟨Js, eJs⟩ : ∃ z : gm_J, z = spJ J r nn (rowF I J r j_6 k_7 gg tt) := ⟨_, rfl⟩
      rw [← eIs, ← eJs] at hr_13
      rw [(Prod.mk.inj hr_13).1, (Prod.mk.inj hr_13).2] at hh
      have hn : Is r 15 = nI nn := by rw [eIs]; exact gm_up_same _ _ _ _
      obtain ⟨b0, hb0⟩ := hb
      have hb1 : Is r 20 = bI b0 := by rw [eIs, gm_up_ne _ _ (by omega)]; exact hb0
      have hh : gm_St D cs sh (gm_A sh) s'.heap sz (scI Is r (b0, Js r 21, Js r 22, G3 Js r, (Js r 26, Js r 27, Js r 28))) (scJ Js r (b0, Js r 21, Js r 22, G3 Js r, (Js r 26, Js r 27, Js r 28))) H locs := by rw [scJ_id]; unfold scI; rw [lsI_id hb1]; exact hh
      refine lv_aload_n C.1 C.2.1 d_Md_term_36 rfl (lv_at hl 0 rfl) ?_
      refine gc_i hh (gc_runV (As := []) (rest := []) (n := 0) C hml hh (c_Md_isNothing l D cs sh sz Is Js r hM (b0, Js r 21, Js r 22, G3 Js r, (Js r 26, Js r 27, Js r 28)) nn hn hnn) (tg_V tw_750 tw_752 tw_33 tw_64 tw_753) (by decide +kernel) ⟨rfl, rfl, by decide, by decide, Nat.zero_le _, Nat.zero_le _⟩ (Md_0 hM) rfl rfl hl.1 rfl (Nat.le_of_ble_eq_true rfl) d_Md_term_37) (fun r_16 I_17 J_18 H locs hr_16 hh => ?_)
      obtain ⟨hr_16, c_19, qhr_16⟩ := hr_16
      rw [(Prod.mk.inj qhr_16).1, (Prod.mk.inj qhr_16).2] at hh
      refine lv_if_eq (tgt := 46) C.1 C.2.1 d_Md_term_40 (by decide) (fun c_20 => ?_) (fun c_20 => ?_)
      · -- 40 -> 46
        have b_21 := bI_f hr_16 c_20
        skip
        refine lv_aload_n C.1 C.2.1 d_Md_term_46 rfl (lv_at hl 0 rfl) ?_
        refine lv_iload_n C.1 C.2.1 d_Md_term_47 rfl (lv_at hl 3 rfl) ?_
        refine lv_iload C.1 C.2.1 d_Md_term_48 (lv_at hl 4 rfl) ?_
        refine lv_iload C.1 C.2.1 d_Md_term_50 (lv_at hl 5 rfl) ?_
        refine gc_i hh (gc_runV (As := [.int a, .int b, .int c]) (rest := []) (n := 3) C hml hh (c_Md_isBounded l D cs sh sz Is Js r hM c_19 nn hn hnn a b c) (tg_V tw_795 tw_797 tw_42 tw_64 tw_798) (by decide +kernel) ⟨rfl, rfl, by decide, by decide, Nat.zero_le _, Nat.zero_le _⟩ (Md_0 hM) rfl rfl hl.1 rfl (Nat.le_of_ble_eq_true rfl) d_Md_term_52) (fun r_22 I_23 J_24 H locs hr_22 hh => ?_)
        obtain ⟨hr_22, c_25, qhr_22⟩ := hr_22
        rw [(Prod.mk.inj qhr_22).1, (Prod.mk.inj qhr_22).2] at hh
        refine lv_if_eq (tgt := 62) C.1 C.2.1 d_Md_term_55 (by decide) (fun c_26 => ?_) (fun c_26 => ?_)
        · -- 55 -> 62
          have b_27 := bI_f hr_22 c_26
          skip
          refine lv_iconst (v := nI 0) C.1 C.2.1 d_Md_term_62 rfl ?_
          refine lv_aload_n C.1 C.2.1 d_Md_term_63 rfl (lv_at hl 0 rfl) ?_
          refine lv_iload_n C.1 C.2.1 d_Md_term_64 rfl (lv_at hl 1 rfl) ?_
          refine lv_iload_n C.1 C.2.1 d_Md_term_65 rfl (lv_at hl 2 rfl) ?_
          refine lv_iload_n C.1 C.2.1 d_Md_term_66 rfl (lv_at hl 3 rfl) ?_
          refine lv_iload C.1 C.2.1 d_Md_term_67 (lv_at hl 4 rfl) ?_
          refine lv_iload C.1 C.2.1 d_Md_term_69 (lv_at hl 5 rfl) ?_
          refine gc_i hh (gc_runV (As := [.int (nI j_6), .int (nI k_7), .int a, .int b, .int c]) (rest := [.int (nI 0)]) (n := 5) C hml hh (c_Md_falls l D cs sh sz Is Js r hM c_25 nn hn hnn j_6 k_7 (by omega) (by omega) a b c) (tg_V tw_799 tw_801 tw_43 tw_64 tw_802) (by decide +kernel) ⟨rfl, rfl, by decide, by decide, Nat.zero_le _, Nat.zero_le _⟩ (Md_0 hM) rfl rfl hl.1 rfl (Nat.le_of_ble_eq_true rfl) d_Md_term_71) (fun r_28 I_29 J_30 H locs hr_28 hh => ?_)
          obtain ⟨hr_28, c_31, qhr_28⟩ := hr_28
          rw [(Prod.mk.inj qhr_28).1, (Prod.mk.inj qhr_28).2] at hh
          refine lv_iadd C.1 C.2.1 d_Md_term_74 ?_
          exact gr_i C hlk hret rfl hh (by refine ⟨?_, by rw [eIs, eJs]; exact eqS_sc⟩; subst hr_1 hr_8 hr_16 hr_22 hr_28; rw [if_pos (by assumption), if_pos (by simp only [nN_nI (show j_6 < 2 ^ 31 by omega), enm, nN_nI (show nm < 2 ^ 31 by omega)]; assumption)]; simp only [nN_nI (show j_6 < 2 ^ 31 by omega), nN_nI (show k_7 < 2 ^ 31 by omega), egg, ett, nN_nI (show gg < 2 ^ 31 by omega), nN_nI (show tt < 2 ^ 31 by omega)]; rw [if_neg (by rw [show nothB (rowF I J r j_6 k_7 gg tt) (gg + tt) = false by rw [← show nothB (rwF Js r) nn = nothB (rowF I J r j_6 k_7 gg tt) (gg + tt) by rw [eJs, nothB_congr rw_sp, enn]; rfl]; assumption]; decide), show fallsV (rowF I J r j_6 k_7 gg tt) (tmG I r (3 * j_6 + k_7) a b c) (gg + tt) (chC I r (3 * j_6 + k_7) a.toInt64 b.toInt64 c.toInt64) = fallsV (rwF Js r) (a.toInt64 - (chG Is r (3 * j_6 + k_7) a.toInt64 b.toInt64 c.toInt64).1, b.toInt64 - (chG Is r (3 * j_6 + k_7) a.toInt64 b.toInt64 c.toInt64).2.1, c.toInt64 - (chG Is r (3 * j_6 + k_7) a.toInt64 b.toInt64 c.toInt64).2.2) nn (chC Is r (3 * j_6 + k_7) a.toInt64 b.toInt64 c.toInt64) by rw [eIs, eJs, chG_sp, chC_sp, fallsV_congr rw_sp, enn]; rfl]; first | (rw [show (LQ (rowF I J r j_6 k_7 gg tt) (a.toInt64, b.toInt64, c.toInt64) (gg + tt)).1 = true by rw [← show LQ (rwF Js r) (a.toInt64, b.toInt64, c.toInt64) nn = LQ (rowF I J r j_6 k_7 gg tt) (a.toInt64, b.toInt64, c.toInt64) (gg + tt) by rw [eJs, LQ_congr rw_sp, enn]; rfl]; assumption]; rfl) | (rw [show (LQ (rowF I J r j_6 k_7 gg tt) (a.toInt64, b.toInt64, c.toInt64) (gg + tt)).1 = false by rw [← show LQ (rwF Js r) (a.toInt64, b.toInt64, c.toInt64) nn = LQ (rowF I J r j_6 k_7 gg tt) (a.toInt64, b.toInt64, c.toInt64) (gg + tt) by rw [eJs, LQ_congr rw_sp, enn]; rfl]; assumption]; rfl)) d_Md_term_75
        · -- 55 -> 58
          have b_32 := bI_t hr_22 c_26
          skip
          refine lv_iconst (v := nI 1) C.1 C.2.1 d_Md_term_58 rfl ?_
          refine lv_goto (tgt := 63) C.1 C.2.1 d_Md_term_59 (by decide) ?_
          refine lv_aload_n C.1 C.2.1 d_Md_term_63 rfl (lv_at hl 0 rfl) ?_
          refine lv_iload_n C.1 C.2.1 d_Md_term_64 rfl (lv_at hl 1 rfl) ?_
          refine lv_iload_n C.1 C.2.1 d_Md_term_65 rfl (lv_at hl 2 rfl) ?_
          refine lv_iload_n C.1 C.2.1 d_Md_term_66 rfl (lv_at hl 3 rfl) ?_
          refine lv_iload C.1 C.2.1 d_Md_term_67 (lv_at hl 4 rfl) ?_
          refine lv_iload C.1 C.2.1 d_Md_term_69 (lv_at hl 5 rfl) ?_
          refine gc_i hh (gc_runV (As := [.int (nI j_6), .int (nI k_7), .int a, .int b, .int c]) (rest := [.int (nI 1)]) (n := 5) C hml hh (c_Md_falls l D cs sh sz Is Js r hM c_25 nn hn hnn j_6 k_7 (by omega) (by omega) a b c) (tg_V tw_799 tw_801 tw_43 tw_64 tw_802) (by decide +kernel) ⟨rfl, rfl, by decide, by decide, Nat.zero_le _, Nat.zero_le _⟩ (Md_0 hM) rfl rfl hl.1 rfl (Nat.le_of_ble_eq_true rfl) d_Md_term_71) (fun r_33 I_34 J_35 H locs hr_33 hh => ?_)
          obtain ⟨hr_33, c_36, qhr_33⟩ := hr_33
          rw [(Prod.mk.inj qhr_33).1, (Prod.mk.inj qhr_33).2] at hh
          refine lv_iadd C.1 C.2.1 d_Md_term_74 ?_
          exact gr_i C hlk hret rfl hh (by refine ⟨?_, by rw [eIs, eJs]; exact eqS_sc⟩; subst hr_1 hr_8 hr_16 hr_22 hr_33; rw [if_pos (by assumption), if_pos (by simp only [nN_nI (show j_6 < 2 ^ 31 by omega), enm, nN_nI (show nm < 2 ^ 31 by omega)]; assumption)]; simp only [nN_nI (show j_6 < 2 ^ 31 by omega), nN_nI (show k_7 < 2 ^ 31 by omega), egg, ett, nN_nI (show gg < 2 ^ 31 by omega), nN_nI (show tt < 2 ^ 31 by omega)]; rw [if_neg (by rw [show nothB (rowF I J r j_6 k_7 gg tt) (gg + tt) = false by rw [← show nothB (rwF Js r) nn = nothB (rowF I J r j_6 k_7 gg tt) (gg + tt) by rw [eJs, nothB_congr rw_sp, enn]; rfl]; assumption]; decide), show fallsV (rowF I J r j_6 k_7 gg tt) (tmG I r (3 * j_6 + k_7) a b c) (gg + tt) (chC I r (3 * j_6 + k_7) a.toInt64 b.toInt64 c.toInt64) = fallsV (rwF Js r) (a.toInt64 - (chG Is r (3 * j_6 + k_7) a.toInt64 b.toInt64 c.toInt64).1, b.toInt64 - (chG Is r (3 * j_6 + k_7) a.toInt64 b.toInt64 c.toInt64).2.1, c.toInt64 - (chG Is r (3 * j_6 + k_7) a.toInt64 b.toInt64 c.toInt64).2.2) nn (chC Is r (3 * j_6 + k_7) a.toInt64 b.toInt64 c.toInt64) by rw [eIs, eJs, chG_sp, chC_sp, fallsV_congr rw_sp, enn]; rfl]; first | (rw [show (LQ (rowF I J r j_6 k_7 gg tt) (a.toInt64, b.toInt64, c.toInt64) (gg + tt)).1 = true by rw [← show LQ (rwF Js r) (a.toInt64, b.toInt64, c.toInt64) nn = LQ (rowF I J r j_6 k_7 gg tt) (a.toInt64, b.toInt64, c.toInt64) (gg + tt) by rw [eJs, LQ_congr rw_sp, enn]; rfl]; assumption]; rfl) | (rw [show (LQ (rowF I J r j_6 k_7 gg tt) (a.toInt64, b.toInt64, c.toInt64) (gg + tt)).1 = false by rw [← show LQ (rwF Js r) (a.toInt64, b.toInt64, c.toInt64) nn = LQ (rowF I J r j_6 k_7 gg tt) (a.toInt64, b.toInt64, c.toInt64) (gg + tt) by rw [eJs, LQ_congr rw_sp, enn]; rfl]; assumption]; rfl)) d_Md_term_75
      · -- 40 -> 43
        have b_37 := bI_t hr_16 c_20
        skip
        refine lv_bipush (v := nI 7) C.1 C.2.1 d_Md_term_43 rfl ?_
        exact gr_i C hlk hret rfl hh (by refine ⟨?_, by rw [eIs, eJs]; exact eqS_sc⟩; subst hr_1 hr_8 hr_16; rw [if_pos (by assumption), if_pos (by simp only [nN_nI (show j_6 < 2 ^ 31 by omega), enm, nN_nI (show nm < 2 ^ 31 by omega)]; assumption)]; simp only [nN_nI (show j_6 < 2 ^ 31 by omega), nN_nI (show k_7 < 2 ^ 31 by omega), egg, ett, nN_nI (show gg < 2 ^ 31 by omega), nN_nI (show tt < 2 ^ 31 by omega)]; rw [if_pos (show nothB (rowF I J r j_6 k_7 gg tt) (gg + tt) = true by rw [← show nothB (rwF Js r) nn = nothB (rowF I J r j_6 k_7 gg tt) (gg + tt) by rw [eJs, nothB_congr rw_sp, enn]; rfl]; assumption)]; rfl) d_Md_term_45
    · -- 23 -> 26
      have b_38 := bI_f hr_8 c_11
      skip
      refine lv_bipush (v := (-3)) C.1 C.2.1 d_Md_term_26 rfl ?_
      exact gr_i C hlk hret rfl hh (by exact ⟨by rw [if_pos (by assumption), if_neg (by simp only [nN_nI (show j_6 < 2 ^ 31 by omega), enm, nN_nI (show nm < 2 ^ 31 by omega)]; simp [b_5, b_38])], eqS_rf hb⟩) d_Md_term_28
  · -- 6 -> 9
    have b_39 := bI_f hr_1 c_4
    skip
    refine lv_bipush (v := (-2)) C.1 C.2.1 d_Md_term_9 rfl ?_
    exact gr_i C hlk hret rfl hh (by exact ⟨by rw [if_neg (by simp [b_39])], eqS_rf hb⟩) d_Md_term_11
