set_option maxHeartbeats 4000000 in
set_option maxRecDepth 100000 in
theorem c_FT_needQ (l : Launch) (D : va_G) (cs : Nat → ClassId) (sh : gm_H) (sz : Nat) (I : gm_I) (J : gm_J) (B : Nat) (hF : is_FT cs sh B) (hV : inv_FT I B) (n : Nat) (en : I B 1 = nI n) (hn : n ≤ 8) (hG : GQ I B) (v : Int32) (Z0 : Int32 → Int32 → Int32 → Nat → zT) (hZ0 : zHyp I B n v Z0) (Z : Z4) (Y : Y4) (hZ : ∀ j, j < n → v = nI j → z4Hyp I (B + 12 + 21 * j) Z Y) : CI l y_FT_need w_FT_need { frames := 7, cells := 0, slots := 0, locals := 177 } D cs sh sz I J [.ref B, .int v] (fun x u => ndQ I J B n v Z0 Z Y x u) := by
  refine gm_start (by decide) (Nat.le_of_ble_eq_true rfl) ?_
  intro p' e' s' m' be' me' co' ls C hml hlk hret hh hl
  have hl : lv_has ls 8 [(0, .ref B), (1, .int v)] := hl
  have tK_0 : keepF B I I J J := keepF.nil
  have tV_0 : inv_FT I B := hV
  have tY_0 : kY B I I := kY.nil
  refine lv_aload_n C.1 C.2.1 d_FT_need_0 rfl (lv_at hl 0 rfl) ?_
  refine lv_iload_n C.1 C.2.1 d_FT_need_1 rfl (lv_at hl 1 rfl) ?_
  refine gc_i hh (gc_runV (As := [.int v]) (rest := []) (n := 1) C hml hh (c_FT_isLoop l D cs sh sz I J B hF hV n en hn v) (tg_V tw_264 tw_266 tw_0 tw_57 tw_267) (by decide +kernel) ⟨rfl, rfl, by decide, by decide, Nat.zero_le _, Nat.zero_le _⟩ hF.1 rfl rfl hl.1 rfl (Nat.le_of_ble_eq_true rfl) d_FT_need_2) (fun r_1 I_2 J_3 H locs hr_1 hh => ?_)
  obtain ⟨e_r_1, hr_1⟩ := hr_1
  rw [(Prod.mk.inj e_r_1).1, (Prod.mk.inj e_r_1).2] at hh
  refine lv_if_ne (tgt := 11) C.1 C.2.1 d_FT_need_5 (by decide) (fun c_4 => ?_) (fun c_4 => ?_)
  · -- 5 -> 11
    have b_5 := bI_t hr_1 c_4
    obtain ⟨j_6, hj_6, ej_6⟩ := inI_nat (by omega) b_5
    subst ej_6
    skip
    refine lv_aload_n C.1 C.2.1 d_FT_need_11 rfl (lv_at hl 0 rfl) ?_
    refine gg_r C hh hF.1 rfl in_FT 0 (by decide) rfl tw_210 rfl d_FT_need_12 ?_
    refine lv_iload_n C.1 C.2.1 d_FT_need_15 rfl (lv_at hl 1 rfl) ?_
    refine ga_q C hh 2 hF.2.1 (Cn := "FallingTerms$Loop") rfl (k := j_6) (v := B + 12 + 21 * j_6) rfl (by omega) (by omega) (if_pos (by omega)) d_FT_need_16 ?_
    obtain ⟨p_7, ep_7⟩ : ∃ z : Nat, z = B + 12 + 21 * j_6 := ⟨_, rfl⟩
    have hp_7 : is_Lp cs sh p_7 := by rw [ep_7]; exact hF.2.2.2.2.2.2.2.2.2.2 j_6 (by omega)
    refine gm_eqr ep_7.symm ?_
    refine lv_astore_n (lv' := [(2, .ref p_7), (0, .ref B), (1, .int (nI j_6))]) C.1 C.2.1 d_FT_need_17 rfl hl (by decide) rfl (fun ls hl => ?_)
    have hD_ : LD I p_7 := by rw [ep_7]; exact gq_ld hG hV en hn hj_6
    have hm3_ : q_lm I p_7 ≤ 3 := hD_.1.2
    have hj8_ : j_6 < 8 := by omega
    have hZ_ : z4Hyp I p_7 Z Y := by rw [ep_7]; exact hZ j_6 hj_6 rfl
    refine lv_aload_n C.1 C.2.1 d_FT_need_18 rfl (lv_at hl 1 rfl) ?_
    refine lv_iconst (v := nI 0) C.1 C.2.1 d_FT_need_19 rfl ?_
    refine gp_i (ty := .boolean) C hh hF.1 rfl in_FT t_FT t_FT_ok n_FT 7 (by decide) rfl tw_217 rfl rfl (by decide +kernel) (gm_nb (Or.inl rfl)) (gm_fb (Or.inl rfl)) d_FT_need_20 (fun H locs hh => ?_)
    obtain ⟨I_8, eI_8⟩ : ∃ z : gm_I, z = gm_up I B 7 (nI 0) := ⟨_, rfl⟩
    rw [← eI_8] at hh
    have tK_9 : keepF B I I_8 J J := by rw [eI_8]; exact keepF.tr tK_0 keepF.b7
    have tV_10 : inv_FT I_8 B := by rw [eI_8]; exact inv_FT.b7 tV_0 (Or.inl (by decide))
    have tY_11 : kY B I I_8 := by rw [eI_8]; exact kY.tr tY_0 ⟨gm_up_off _ _ _ (by omega), gm_up_off _ _ _ (by omega)⟩
    refine lv_aload_n C.1 C.2.1 d_FT_need_23 rfl (lv_at hl 1 rfl) ?_
    refine lv_aload_n C.1 C.2.1 d_FT_need_24 rfl (lv_at hl 0 rfl) ?_
    have el_ := kp_lp tK_9 ep_7 hj8_
    refine gc_v hh (gc_runV (As := [.ref p_7]) (rest := []) (n := 1) C hml hh (c_FT_fillSpacesQ l D cs sh sz I_8 J B hF tV_10 j_6 p_7 hj8_ ep_7 hp_7 (hD_.base el_)) (tg_V tw_423 tw_425 tw_17 tw_57 tw_426) (by decide +kernel) ⟨rfl, rfl, by decide, by decide, Nat.zero_le _, Nat.zero_le _⟩ hF.1 rfl rfl hl.1 rfl (Nat.le_of_ble_eq_true rfl) d_FT_need_25) (fun I_13 J_14 H locs hr_12 hh => ?_)
    have tK_15 : keepF B I I_13 J J_14 := keepF.tr tK_9 hr_12.1.1
    have tV_16 : inv_FT I_13 B := hr_12.1.2
    have tS_17 : ksP I B p_7 I_13 J_14 := ksP.back el_ hm3_ hr_12.2.1
    have tY_18 : kY B I I_13 := kY.tr tY_11 (kY.of hr_12.2.2 (by omega))
    refine lv_aload_n C.1 C.2.1 d_FT_need_28 rfl (lv_at hl 1 rfl) ?_
    refine gg_r C hh hF.1 rfl in_FT 5 (by decide) rfl tw_215 rfl d_FT_need_29 ?_
    refine lv_aload_n C.1 C.2.1 d_FT_need_32 rfl (lv_at hl 0 rfl) ?_
    refine lv_aload_n C.1 C.2.1 d_FT_need_33 rfl (lv_at hl 1 rfl) ?_
    refine gg_r C hh hF.1 rfl in_FT 2 (by decide) rfl tw_212 rfl d_FT_need_34 ?_
    have hZo_ : ∀ a b c, numB (q_ln I p_7) a b c (nI 2) = true → ∀ w, w < q_lm I p_7 → zok I_13 J_14 (p_7 + 6 + 5 * w) (B + 180 + 12 * w) a b c (Z0 a b c w) := by
      intro a b c hb_ w hw_
      have hq_ := hZ0 j_6 hj_6 rfl a b c (by rw [← ep_7]; exact hb_) w (by rw [← ep_7]; exact hw_)
      rw [← ep_7] at hq_
      exact zok_of (tS_17 w hw_) (by have h1_ := hD_.2.2.1.2; have h2_ := (hD_.2.2.2.1 w hw_).2; omega) (hD_.2.2.2.2.2 w hw_) hD_.2.1.2.1 hD_.2.1.2.2 (hD_.2.2.2.2.1 w hw_) (tK_15.1 _ (by omega)).1 (tK_15.1 _ (by omega)).1 hb_ hq_
    refine gc_v hh (gc_runV (As := [.ref p_7, .ref (B + 2)]) (rest := []) (n := 2) C hml hh (c_Pf_searchQ l D cs sh sz I_13 J_14 (B + 6) hF.2.2.2.2.2.1 p_7 hp_7 (B + 2) (B + 180) hF.2.2.1 (q_lm I p_7) (q_ln I p_7) ((congrFun (tK_15.1 p_7 (by omega)).1 3).trans hD_.1.1) hD_.1.2 ((congrFun (tK_15.1 p_7 (by omega)).1 0).trans hD_.2.1.1) hD_.2.1.2.2 (by omega) (by omega) Z0 hZo_) (tg_V tw_427 tw_428 tw_429 tw_58 tw_430) (by decide +kernel) ⟨rfl, rfl, by decide, by decide, Nat.zero_le _, Nat.zero_le _⟩ hF.2.2.2.2.2.1.1 rfl rfl hl.1 rfl (Nat.le_of_ble_eq_true rfl) d_FT_need_37) (fun I_20 J_21 H locs hr_19 hh => ?_)
    have hsf_ : pfP (B + 6) I_13 J_14 (I_20, J_21) := ⟨hr_19.1, _, hr_19.2.2.1, hr_19.2.2.2.1⟩
    have tK_22 : keepF B I I_20 J J_21 := keepF.tr tK_15 (keepF.of hsf_.1 (by omega))
    have tV_23 : inv_FT I_20 B := inv_FT.pf tV_16 hsf_ (by omega)
    have tS_24 : ksP I B p_7 I_20 J_21 := tS_17.off hsf_.1 hD_.1.2 (by omega)
    have tY_25 : kY B I I_20 := kY.tr tY_18 (kY.of hsf_.1 (by omega))
    obtain ⟨lf_, elf_⟩ : ∃ z : Nat, z = (lbN (ckk (q_ln I p_7) (q_lm I p_7) Z0) 4 (opN (q_lm I p_7))).2 := ⟨_, rfl⟩
    have hlf_ : I_20 (B + 6) 2 = nI lf_ := by rw [elf_]; exact hr_19.2.2.2.2.1
    have l8_ : lf_ < 8 := by rw [elf_]; exact hr_19.2.1
    refine lv_aload_n C.1 C.2.1 d_FT_need_40 rfl (lv_at hl 1 rfl) ?_
    refine gg_r C hh hF.1 rfl in_FT 5 (by decide) rfl tw_215 rfl d_FT_need_41 ?_
    refine gn_i C hh hF.2.2.2.2.2.1.1 rfl in_Pf 2 (by decide) rfl tw_88 rfl d_FT_need_44 ?_
    refine gm_eqi hlf_ ?_
    refine lv_if_ne (tgt := 52) C.1 C.2.1 d_FT_need_47 (by decide) (fun c_26 => ?_) (fun c_26 => ?_)
    · -- 47 -> 52
      have c_26 := gm_net (b := 0) (by omega) (by omega) c_26
      refine lv_aload_n C.1 C.2.1 d_FT_need_52 rfl (lv_at hl 0 rfl) ?_
      refine lv_iconst (v := nI 1) C.1 C.2.1 d_FT_need_53 rfl ?_
      refine lv_iconst (v := nI 1) C.1 C.2.1 d_FT_need_54 rfl ?_
      refine gc_i hh (gc_runV (As := [.int (nI 1), .int (nI 1)]) (rest := []) (n := 2) C hml hh (c_Lp_reach l D cs sh sz I_20 J_21 p_7 hp_7 (q_ln I p_7) 1 ((congrFun (tK_22.1 p_7 (by omega)).1 0).trans hD_.2.1.1) hD_.2.1.2.2 (by omega) (nI 1)) (tg_V tw_461 tw_436 tw_437 tw_59 tw_438) (by decide +kernel) ⟨rfl, rfl, by decide, by decide, Nat.zero_le _, Nat.zero_le _⟩ hp_7.1 rfl rfl hl.1 rfl (Nat.le_of_ble_eq_true rfl) d_FT_need_55) (fun r_27 I_28 J_29 H locs hr_27 hh => ?_)
      obtain ⟨e_r_27, hr_27⟩ := hr_27
      rw [(Prod.mk.inj e_r_27).1, (Prod.mk.inj e_r_27).2] at hh
      obtain ⟨g_30, eg_30, vg_30⟩ : ∃ z : Nat, r_27 = nI z ∧ z = (if 1 < q_ln I p_7 then 1 else 0) := ⟨if 1 < q_ln I p_7 then 1 else 0, by rw [hr_27]; split <;> rfl, rfl⟩
      have hg_30 : g_30 ≤ 1 := by rw [vg_30]; split <;> omega
      rw [eg_30]
      refine lv_istore_n (lv' := [(3, .int (nI g_30)), (2, .ref p_7), (0, .ref B), (1, .int (nI j_6))]) C.1 C.2.1 d_FT_need_58 rfl hl (by decide) rfl (fun ls hl => ?_)
      refine lv_aload_n C.1 C.2.1 d_FT_need_59 rfl (lv_at hl 1 rfl) ?_
      refine lv_iconst (v := nI 2) C.1 C.2.1 d_FT_need_60 rfl ?_
      refine lv_iconst (v := nI 1) C.1 C.2.1 d_FT_need_61 rfl ?_
      refine gc_i hh (gc_runV (As := [.int (nI 2), .int (nI 1)]) (rest := []) (n := 2) C hml hh (c_Lp_reach l D cs sh sz I_20 J_21 p_7 hp_7 (q_ln I p_7) 2 ((congrFun (tK_22.1 p_7 (by omega)).1 0).trans hD_.2.1.1) hD_.2.1.2.2 (by omega) (nI 1)) (tg_V tw_461 tw_436 tw_437 tw_59 tw_438) (by decide +kernel) ⟨rfl, rfl, by decide, by decide, Nat.zero_le _, Nat.zero_le _⟩ hp_7.1 rfl rfl hl.1 rfl (Nat.le_of_ble_eq_true rfl) d_FT_need_62) (fun r_31 I_32 J_33 H locs hr_31 hh => ?_)
      obtain ⟨e_r_31, hr_31⟩ := hr_31
      rw [(Prod.mk.inj e_r_31).1, (Prod.mk.inj e_r_31).2] at hh
      obtain ⟨g_34, eg_34, vg_34⟩ : ∃ z : Nat, r_31 = nI z ∧ z = (if 2 < q_ln I p_7 then 1 else 0) := ⟨if 2 < q_ln I p_7 then 1 else 0, by rw [hr_31]; split <;> rfl, rfl⟩
      have hg_34 : g_34 ≤ 1 := by rw [vg_34]; split <;> omega
      rw [eg_34]
      refine lv_istore (lv' := [(4, .int (nI g_34)), (3, .int (nI g_30)), (2, .ref p_7), (0, .ref B), (1, .int (nI j_6))]) C.1 C.2.1 d_FT_need_65 hl (by decide) rfl (fun ls hl => ?_)
      refine lv_iconst (v := (-1)) C.1 C.2.1 d_FT_need_67 rfl ?_
      refine lv_topi (fun x_35 ex_35 => ?_)
      refine lv_istore (lv' := [(5, .int x_35), (4, .int (nI g_34)), (3, .int (nI g_30)), (2, .ref p_7), (0, .ref B), (1, .int (nI j_6))]) C.1 C.2.1 d_FT_need_68 hl (by decide) rfl (fun ls hl => ?_)
      have K70 : ∀ (n_70 : Nat) (a : Int32) (I70 : gm_I) (J70 : gm_J) (ha1 : -7 ≤ a.toInt) (ha2 : a.toInt ≤ 7) (ha3 : -1 ≤ a.toInt) (h7_70 : I70 B 7 = nI 0) (hza : nz (NG (q_ln I p_7) (q_lm I p_7) Z Y) (45 * (a.toInt + 1))) (tK70 : keepF B I I70 J J70) (tV70 : inv_FT I70 B) (tS70 : ksP I B p_7 I70 J70) (tY70 : kY B I I70) (hm_70 : (8 - a.toInt).toNat < n_70), ∀ (H : Heap) (locs : List Loc) (ls : Array Slot), gm_St D cs sh (gm_A sh) s'.heap sz I70 J70 H locs → lv_has ls 8 [(0, .ref B), (1, .int (nI j_6)), (2, .ref p_7), (3, .int (nI g_30)), (4, .int (nI g_34)), (5, .int a)] → W p' l e' { frames := 7, cells := 0, slots := 0, locals := 177 } s' m' ([.ref B, .int (nI j_6)] : List Value).toArray be' me' co' H locs 0 0 (MQ be' (va_Qi (fun x u => ndQ I J B n (nI j_6) Z0 Z Y x u) (gm_B D cs sh sz) (gm_A sh)) ([.ref B, .int (nI j_6)] : List Value).toArray s' 0 0 (gm_A sh)) (F0 m' 70 ls []) := by
        intro n_70
        induction n_70 with
        | zero => intro a I70 J70 ha1 ha2 ha3 h7_70 hza tK70 tV70 tS70 tY70 hm_70; exact absurd hm_70 (Nat.not_lt_zero _)
        | succ n_70 ih70 =>
          intro a I70 J70 ha1 ha2 ha3 h7_70 hza tK70 tV70 tS70 tY70 hm_70 H locs ls hh hl
          refine lv_iload C.1 C.2.1 d_FT_need_70 (lv_at hl 5 rfl) ?_
          refine lv_iconst (v := nI 1) C.1 C.2.1 d_FT_need_72 rfl ?_
          refine lv_icmp_gt (tgt := 147) C.1 C.2.1 d_FT_need_73 (by decide) (fun c_36 => ?_) (fun c_36 => ?_)
          · -- 73 -> 147
            skip
            refine lv_iconst (v := nI 0) C.1 C.2.1 d_FT_need_147 rfl ?_
            exact gr_i C hlk hret rfl hh (by refine ⟨⟨tK70, tV70⟩, tY70, Or.inr ⟨_, by assumption, rfl, Or.inr ⟨?_, Or.inl ⟨rfl, h7_70, ?_⟩⟩⟩⟩; (rw [← ep_7, ← elf_]; assumption); rw [← ep_7]; exact fun k_ hk_ => hza k_ (by have h_ := hiI (by omega) (by assumption : nI 1 < a); omega) hk_) d_FT_need_148
          · -- 73 -> 76
            skip
            have lo_a := loI (by omega) (by assumption : ¬ nI 1 < a)
            refine lv_iload_n C.1 C.2.1 d_FT_need_76 rfl (lv_at hl 3 rfl) ?_
            refine lv_ineg C.1 C.2.1 d_FT_need_77 ?_
            refine lv_istore (lv' := [(6, .int (-(nI g_30))), (0, .ref B), (1, .int (nI j_6)), (2, .ref p_7), (3, .int (nI g_30)), (4, .int (nI g_34)), (5, .int a)]) C.1 C.2.1 d_FT_need_78 hl (by decide) rfl (fun ls hl => ?_)
            have K80 : ∀ (n_80 : Nat) (b : Int32) (I80 : gm_I) (J80 : gm_J) (hb1 : -7 ≤ b.toInt) (hb2 : b.toInt ≤ 7) (hb3 : -(g_30 : Int) ≤ b.toInt) (h7_80 : I80 B 7 = nI 0) (hzb : nz (NG (q_ln I p_7) (q_lm I p_7) Z Y) (45 * (a.toInt + 1) + 15 * (b.toInt + 1))) (tK80 : keepF B I I80 J J80) (tV80 : inv_FT I80 B) (tS80 : ksP I B p_7 I80 J80) (tY80 : kY B I I80) (hm_80 : (8 - b.toInt).toNat < n_80), ∀ (H : Heap) (locs : List Loc) (ls : Array Slot), gm_St D cs sh (gm_A sh) s'.heap sz I80 J80 H locs → lv_has ls 8 [(0, .ref B), (1, .int (nI j_6)), (2, .ref p_7), (3, .int (nI g_30)), (4, .int (nI g_34)), (5, .int a), (6, .int b)] → W p' l e' { frames := 7, cells := 0, slots := 0, locals := 177 } s' m' ([.ref B, .int (nI j_6)] : List Value).toArray be' me' co' H locs 0 0 (MQ be' (va_Qi (fun x u => ndQ I J B n (nI j_6) Z0 Z Y x u) (gm_B D cs sh sz) (gm_A sh)) ([.ref B, .int (nI j_6)] : List Value).toArray s' 0 0 (gm_A sh)) (F0 m' 80 ls []) := by
              intro n_80
              induction n_80 with
              | zero => intro b I80 J80 hb1 hb2 hb3 h7_80 hzb tK80 tV80 tS80 tY80 hm_80; exact absurd hm_80 (Nat.not_lt_zero _)
              | succ n_80 ih80 =>
                intro b I80 J80 hb1 hb2 hb3 h7_80 hzb tK80 tV80 tS80 tY80 hm_80 H locs ls hh hl
                refine lv_iload C.1 C.2.1 d_FT_need_80 (lv_at hl 6 rfl) ?_
                refine lv_iload_n C.1 C.2.1 d_FT_need_82 rfl (lv_at hl 3 rfl) ?_
                refine lv_icmp_gt (tgt := 141) C.1 C.2.1 d_FT_need_83 (by decide) (fun c_37 => ?_) (fun c_37 => ?_)
                · -- 83 -> 141
                  skip
                  obtain ⟨x_38, ex_38⟩ : ∃ z : Int32, z = a + Int32.ofInt 1 := ⟨_, rfl⟩
                  refine lv_iinc (v := x_38) (lv' := [(5, .int x_38), (0, .ref B), (1, .int (nI j_6)), (2, .ref p_7), (3, .int (nI g_30)), (4, .int (nI g_34)), (6, .int b)]) C.1 C.2.1 d_FT_need_141 hl (k := 5) rfl (ex_38.symm) (by decide) rfl (fun ls hl => ?_)
                  refine lv_goto (tgt := 70) C.1 C.2.1 d_FT_need_144 (by decide) ?_
                  have nx_a : x_38.toInt = a.toInt + 1 := by rw [ex_38]; exact incT (by omega) (by omega)
                  exact ih70 x_38 I80 J80 (by omega) (by omega) (by omega) (by exact h7_80) (by rw [nx_a]; exact nz_b2 hzb (by omega) (hiI (by omega) (by assumption)) vg_30) (by exact tK80) (by exact tV80) (by exact tS80) (by exact tY80) (by omega) _ _ _ hh (lv_sub hl [1, 2, 3, 4, 5, 0] rfl)
                · -- 83 -> 86
                  skip
                  have lo_b := loI (by omega) (by assumption : ¬ nI g_30 < b)
                  refine lv_iload C.1 C.2.1 d_FT_need_86 (lv_at hl 4 rfl) ?_
                  refine lv_ineg C.1 C.2.1 d_FT_need_88 ?_
                  refine lv_istore (lv' := [(7, .int (-(nI g_34))), (0, .ref B), (1, .int (nI j_6)), (2, .ref p_7), (3, .int (nI g_30)), (4, .int (nI g_34)), (5, .int a), (6, .int b)]) C.1 C.2.1 d_FT_need_89 hl (by decide) rfl (fun ls hl => ?_)
                  have K91 : ∀ (n_91 : Nat) (c : Int32) (I91 : gm_I) (J91 : gm_J) (hc1 : -7 ≤ c.toInt) (hc2 : c.toInt ≤ 7) (hc3 : -(g_34 : Int) ≤ c.toInt) (h7_91 : I91 B 7 = nI 0) (hzc : nz (NG (q_ln I p_7) (q_lm I p_7) Z Y) (45 * (a.toInt + 1) + 15 * (b.toInt + 1) + 5 * (c.toInt + 1))) (tK91 : keepF B I I91 J J91) (tV91 : inv_FT I91 B) (tS91 : ksP I B p_7 I91 J91) (tY91 : kY B I I91) (hm_91 : (8 - c.toInt).toNat < n_91), ∀ (H : Heap) (locs : List Loc) (ls : Array Slot), gm_St D cs sh (gm_A sh) s'.heap sz I91 J91 H locs → lv_has ls 8 [(0, .ref B), (1, .int (nI j_6)), (2, .ref p_7), (3, .int (nI g_30)), (4, .int (nI g_34)), (5, .int a), (6, .int b), (7, .int c)] → W p' l e' { frames := 7, cells := 0, slots := 0, locals := 177 } s' m' ([.ref B, .int (nI j_6)] : List Value).toArray be' me' co' H locs 0 0 (MQ be' (va_Qi (fun x u => ndQ I J B n (nI j_6) Z0 Z Y x u) (gm_B D cs sh sz) (gm_A sh)) ([.ref B, .int (nI j_6)] : List Value).toArray s' 0 0 (gm_A sh)) (F0 m' 91 ls []) := by
                    intro n_91
                    induction n_91 with
                    | zero => intro c I91 J91 hc1 hc2 hc3 h7_91 hzc tK91 tV91 tS91 tY91 hm_91; exact absurd hm_91 (Nat.not_lt_zero _)
                    | succ n_91 ih91 =>
                      intro c I91 J91 hc1 hc2 hc3 h7_91 hzc tK91 tV91 tS91 tY91 hm_91 H locs ls hh hl
                      refine lv_iload C.1 C.2.1 d_FT_need_91 (lv_at hl 7 rfl) ?_
                      refine lv_iload C.1 C.2.1 d_FT_need_93 (lv_at hl 4 rfl) ?_
                      refine lv_icmp_gt (tgt := 135) C.1 C.2.1 d_FT_need_95 (by decide) (fun c_39 => ?_) (fun c_39 => ?_)
                      · -- 95 -> 135
                        skip
                        obtain ⟨x_40, ex_40⟩ : ∃ z : Int32, z = b + Int32.ofInt 1 := ⟨_, rfl⟩
                        refine lv_iinc (v := x_40) (lv' := [(6, .int x_40), (0, .ref B), (1, .int (nI j_6)), (2, .ref p_7), (3, .int (nI g_30)), (4, .int (nI g_34)), (5, .int a), (7, .int c)]) C.1 C.2.1 d_FT_need_135 hl (k := 6) rfl (ex_40.symm) (by decide) rfl (fun ls hl => ?_)
                        refine lv_goto (tgt := 80) C.1 C.2.1 d_FT_need_138 (by decide) ?_
                        have nx_b : x_40.toInt = b.toInt + 1 := by rw [ex_40]; exact incT (by omega) (by omega)
                        exact ih80 x_40 I91 J91 (by omega) (by omega) (by omega) (by exact h7_91) (by rw [nx_b]; exact nz_c2 hzc (by omega) (by omega) (hiI (by omega) (by assumption)) vg_34) (by exact tK91) (by exact tV91) (by exact tS91) (by exact tY91) (by omega) _ _ _ hh (lv_sub hl [1, 2, 3, 4, 5, 6, 0] rfl)
                      · -- 95 -> 98
                        skip
                        have lo_c := loI (by omega) (by assumption : ¬ nI g_34 < c)
                        refine lv_iload C.1 C.2.1 d_FT_need_98 (lv_at hl 5 rfl) ?_
                        refine lv_if_ne (tgt := 113) C.1 C.2.1 d_FT_need_100 (by decide) (fun c_41 => ?_) (fun c_41 => ?_)
                        · -- 100 -> 113
                          skip
                          refine lv_aload_n C.1 C.2.1 d_FT_need_113 rfl (lv_at hl 0 rfl) ?_
                          refine lv_aload_n C.1 C.2.1 d_FT_need_114 rfl (lv_at hl 2 rfl) ?_
                          refine lv_iload C.1 C.2.1 d_FT_need_115 (lv_at hl 5 rfl) ?_
                          refine lv_iload C.1 C.2.1 d_FT_need_117 (lv_at hl 6 rfl) ?_
                          refine lv_iload C.1 C.2.1 d_FT_need_119 (lv_at hl 7 rfl) ?_
                          have hnb_ : numB (q_ln I p_7) a b c (nI 1) = true := num_mk1 (by omega) (by omega) (by omega) vg_30 vg_34 (by rintro ⟨q1, q2, q3⟩; first | exact absurd q1 (by assumption) | exact absurd q2 (by assumption) | exact absurd q3 (by assumption))
                          have el2_ := kp_lp tK91 ep_7 hj8_
                          refine gc_i hh (gc_runV (As := [.ref p_7, .int a, .int b, .int c]) (rest := []) (n := 4) C hml hh (c_FT_findNeedQ l D cs sh sz I91 J91 B hF tV91 j_6 p_7 hj8_ ep_7 hp_7 (hD_.base el2_) (ksP.base el2_ hm3_ tS91) a b c (by rw [b_ln el2_]; exact hnb_) Z Y (hZ_.base el2_ hm3_)) (tg_V tw_462 tw_464 tw_21 tw_57 tw_465) (by decide +kernel) ⟨rfl, rfl, by decide, by decide, Nat.zero_le _, Nat.zero_le _⟩ hF.1 rfl rfl hl.1 rfl (Nat.le_of_ble_eq_true rfl) d_FT_need_121) (fun r_42 I_43 J_44 H locs hr_42 hh => ?_)
                          have hr_42 := fnP.base el2_ hm3_ hr_42
                          have tK_45 : keepF B I I_43 J J_44 := keepF.tr tK91 hr_42.1.1
                          have tV_46 : inv_FT I_43 B := hr_42.1.2
                          have tS_47 : ksP I B p_7 I_43 J_44 := hr_42.2.2.1
                          have tY_48 : kY B I I_43 := kY.tr tY91 hr_42.2.1
                          refine lv_if_eq (tgt := 129) C.1 C.2.1 d_FT_need_124 (by decide) (fun c_49 => ?_) (fun c_49 => ?_)
                          · -- 124 -> 129
                            skip
                            obtain ⟨x_50, ex_50⟩ : ∃ z : Int32, z = c + Int32.ofInt 1 := ⟨_, rfl⟩
                            refine lv_iinc (v := x_50) (lv' := [(7, .int x_50), (0, .ref B), (1, .int (nI j_6)), (2, .ref p_7), (3, .int (nI g_30)), (4, .int (nI g_34)), (5, .int a), (6, .int b)]) C.1 C.2.1 d_FT_need_129 hl (k := 7) rfl (ex_50.symm) (by decide) rfl (fun ls hl => ?_)
                            refine lv_goto (tgt := 91) C.1 C.2.1 d_FT_need_132 (by decide) ?_
                            have nx_c : x_50.toInt = c.toInt + 1 := by rw [ex_50]; exact incT (by omega) (by omega)
                            exact ih91 x_50 I_43 J_44 (by omega) (by omega) (by omega) (by exact (by rcases hr_42.2.2.2 with ⟨_, h_, _⟩ | ⟨h_, _⟩; exact h_.trans h7_91; exact absurd ((show _ = (0 : Int32) by assumption).symm.trans h_) (by decide) : I_43 B 7 = nI 0)) (by rw [nx_c]; exact nz_on hzc (by omega) (by omega) (by omega) (by first | exact Or.inl (by rw [show a = 0 by assumption, show b = 0 by assumption, show c = 0 by assumption]; exact num_01) | exact Or.inr (by rcases hr_42.2.2.2 with ⟨_, _, h_⟩ | ⟨h_, _⟩; exact h_; exact absurd ((show _ = (0 : Int32) by assumption).symm.trans h_) (by decide)))) (by exact tK_45) (by exact tV_46) (by exact tS_47) (by exact tY_48) (by omega) _ _ _ hh (lv_sub hl [1, 2, 3, 4, 5, 6, 7, 0] rfl)
                          · -- 124 -> 127
                            skip
                            refine lv_iconst (v := nI 1) C.1 C.2.1 d_FT_need_127 rfl ?_
                            exact gr_i C hlk hret rfl hh (by refine ⟨⟨tK_45, tV_46⟩, tY_48, Or.inr ⟨_, by assumption, rfl, Or.inr ⟨?_, Or.inr ?_⟩⟩⟩; (rw [← ep_7, ← elf_]; assumption); rcases hr_42.2.2.2 with ⟨h_, _⟩ | ⟨_, d_, h1_, h2_, h3_, h4_, h5_, h6_, h7_, h8_⟩; exact absurd h_ (by assumption); obtain ⟨k1_, k2_, k3_⟩ := nz_yes hzc (by omega) (by omega) (by omega) h1_ hnb_ h2_ h3_; obtain ⟨_, _, m3_, m4_, m5_, m6_⟩ := nKx_of (a := a) (b := b) (c := c) (d := d_) (by omega) (by omega) (by omega) h1_; rw [← ep_7]; exact ⟨rfl, h4_, nKx a b c d_, k1_, k2_, k3_, h5_.trans m3_.symm, h6_.trans m4_.symm, h7_.trans m5_.symm, h8_.trans m6_.symm⟩) d_FT_need_128
                        · -- 100 -> 103
                          skip
                          refine lv_iload C.1 C.2.1 d_FT_need_103 (lv_at hl 6 rfl) ?_
                          refine lv_if_ne (tgt := 113) C.1 C.2.1 d_FT_need_105 (by decide) (fun c_51 => ?_) (fun c_51 => ?_)
                          · -- 105 -> 113
                            skip
                            refine lv_aload_n C.1 C.2.1 d_FT_need_113 rfl (lv_at hl 0 rfl) ?_
                            refine lv_aload_n C.1 C.2.1 d_FT_need_114 rfl (lv_at hl 2 rfl) ?_
                            refine lv_iload C.1 C.2.1 d_FT_need_115 (lv_at hl 5 rfl) ?_
                            refine lv_iload C.1 C.2.1 d_FT_need_117 (lv_at hl 6 rfl) ?_
                            refine lv_iload C.1 C.2.1 d_FT_need_119 (lv_at hl 7 rfl) ?_
                            have hnb_ : numB (q_ln I p_7) a b c (nI 1) = true := num_mk1 (by omega) (by omega) (by omega) vg_30 vg_34 (by rintro ⟨q1, q2, q3⟩; first | exact absurd q1 (by assumption) | exact absurd q2 (by assumption) | exact absurd q3 (by assumption))
                            have el2_ := kp_lp tK91 ep_7 hj8_
                            refine gc_i hh (gc_runV (As := [.ref p_7, .int a, .int b, .int c]) (rest := []) (n := 4) C hml hh (c_FT_findNeedQ l D cs sh sz I91 J91 B hF tV91 j_6 p_7 hj8_ ep_7 hp_7 (hD_.base el2_) (ksP.base el2_ hm3_ tS91) a b c (by rw [b_ln el2_]; exact hnb_) Z Y (hZ_.base el2_ hm3_)) (tg_V tw_462 tw_464 tw_21 tw_57 tw_465) (by decide +kernel) ⟨rfl, rfl, by decide, by decide, Nat.zero_le _, Nat.zero_le _⟩ hF.1 rfl rfl hl.1 rfl (Nat.le_of_ble_eq_true rfl) d_FT_need_121) (fun r_52 I_53 J_54 H locs hr_52 hh => ?_)
                            have hr_52 := fnP.base el2_ hm3_ hr_52
                            have tK_55 : keepF B I I_53 J J_54 := keepF.tr tK91 hr_52.1.1
                            have tV_56 : inv_FT I_53 B := hr_52.1.2
                            have tS_57 : ksP I B p_7 I_53 J_54 := hr_52.2.2.1
                            have tY_58 : kY B I I_53 := kY.tr tY91 hr_52.2.1
                            refine lv_if_eq (tgt := 129) C.1 C.2.1 d_FT_need_124 (by decide) (fun c_59 => ?_) (fun c_59 => ?_)
                            · -- 124 -> 129
                              skip
                              obtain ⟨x_60, ex_60⟩ : ∃ z : Int32, z = c + Int32.ofInt 1 := ⟨_, rfl⟩
                              refine lv_iinc (v := x_60) (lv' := [(7, .int x_60), (0, .ref B), (1, .int (nI j_6)), (2, .ref p_7), (3, .int (nI g_30)), (4, .int (nI g_34)), (5, .int a), (6, .int b)]) C.1 C.2.1 d_FT_need_129 hl (k := 7) rfl (ex_60.symm) (by decide) rfl (fun ls hl => ?_)
                              refine lv_goto (tgt := 91) C.1 C.2.1 d_FT_need_132 (by decide) ?_
                              have nx_c : x_60.toInt = c.toInt + 1 := by rw [ex_60]; exact incT (by omega) (by omega)
                              exact ih91 x_60 I_53 J_54 (by omega) (by omega) (by omega) (by exact (by rcases hr_52.2.2.2 with ⟨_, h_, _⟩ | ⟨h_, _⟩; exact h_.trans h7_91; exact absurd ((show _ = (0 : Int32) by assumption).symm.trans h_) (by decide) : I_53 B 7 = nI 0)) (by rw [nx_c]; exact nz_on hzc (by omega) (by omega) (by omega) (by first | exact Or.inl (by rw [show a = 0 by assumption, show b = 0 by assumption, show c = 0 by assumption]; exact num_01) | exact Or.inr (by rcases hr_52.2.2.2 with ⟨_, _, h_⟩ | ⟨h_, _⟩; exact h_; exact absurd ((show _ = (0 : Int32) by assumption).symm.trans h_) (by decide)))) (by exact tK_55) (by exact tV_56) (by exact tS_57) (by exact tY_58) (by omega) _ _ _ hh (lv_sub hl [1, 2, 3, 4, 5, 6, 7, 0] rfl)
                            · -- 124 -> 127
                              skip
                              refine lv_iconst (v := nI 1) C.1 C.2.1 d_FT_need_127 rfl ?_
                              exact gr_i C hlk hret rfl hh (by refine ⟨⟨tK_55, tV_56⟩, tY_58, Or.inr ⟨_, by assumption, rfl, Or.inr ⟨?_, Or.inr ?_⟩⟩⟩; (rw [← ep_7, ← elf_]; assumption); rcases hr_52.2.2.2 with ⟨h_, _⟩ | ⟨_, d_, h1_, h2_, h3_, h4_, h5_, h6_, h7_, h8_⟩; exact absurd h_ (by assumption); obtain ⟨k1_, k2_, k3_⟩ := nz_yes hzc (by omega) (by omega) (by omega) h1_ hnb_ h2_ h3_; obtain ⟨_, _, m3_, m4_, m5_, m6_⟩ := nKx_of (a := a) (b := b) (c := c) (d := d_) (by omega) (by omega) (by omega) h1_; rw [← ep_7]; exact ⟨rfl, h4_, nKx a b c d_, k1_, k2_, k3_, h5_.trans m3_.symm, h6_.trans m4_.symm, h7_.trans m5_.symm, h8_.trans m6_.symm⟩) d_FT_need_128
                          · -- 105 -> 108
                            skip
                            refine lv_iload C.1 C.2.1 d_FT_need_108 (lv_at hl 7 rfl) ?_
                            refine lv_if_eq (tgt := 129) C.1 C.2.1 d_FT_need_110 (by decide) (fun c_61 => ?_) (fun c_61 => ?_)
                            · -- 110 -> 129
                              skip
                              obtain ⟨x_62, ex_62⟩ : ∃ z : Int32, z = c + Int32.ofInt 1 := ⟨_, rfl⟩
                              refine lv_iinc (v := x_62) (lv' := [(7, .int x_62), (0, .ref B), (1, .int (nI j_6)), (2, .ref p_7), (3, .int (nI g_30)), (4, .int (nI g_34)), (5, .int a), (6, .int b)]) C.1 C.2.1 d_FT_need_129 hl (k := 7) rfl (ex_62.symm) (by decide) rfl (fun ls hl => ?_)
                              refine lv_goto (tgt := 91) C.1 C.2.1 d_FT_need_132 (by decide) ?_
                              have nx_c : x_62.toInt = c.toInt + 1 := by rw [ex_62]; exact incT (by omega) (by omega)
                              exact ih91 x_62 I91 J91 (by omega) (by omega) (by omega) (by exact h7_91) (by rw [nx_c]; exact nz_on hzc (by omega) (by omega) (by omega) (by first | exact Or.inl (by rw [show a = 0 by assumption, show b = 0 by assumption, show c = 0 by assumption]; exact num_01) | exact Or.inr (by rcases hr_42.2.2.2 with ⟨_, _, h_⟩ | ⟨h_, _⟩; exact h_; exact absurd ((show _ = (0 : Int32) by assumption).symm.trans h_) (by decide)))) (by exact tK91) (by exact tV91) (by exact tS91) (by exact tY91) (by omega) _ _ _ hh (lv_sub hl [1, 2, 3, 4, 5, 6, 7, 0] rfl)
                            · -- 110 -> 113
                              skip
                              refine lv_aload_n C.1 C.2.1 d_FT_need_113 rfl (lv_at hl 0 rfl) ?_
                              refine lv_aload_n C.1 C.2.1 d_FT_need_114 rfl (lv_at hl 2 rfl) ?_
                              refine lv_iload C.1 C.2.1 d_FT_need_115 (lv_at hl 5 rfl) ?_
                              refine lv_iload C.1 C.2.1 d_FT_need_117 (lv_at hl 6 rfl) ?_
                              refine lv_iload C.1 C.2.1 d_FT_need_119 (lv_at hl 7 rfl) ?_
                              have hnb_ : numB (q_ln I p_7) a b c (nI 1) = true := num_mk1 (by omega) (by omega) (by omega) vg_30 vg_34 (by rintro ⟨q1, q2, q3⟩; first | exact absurd q1 (by assumption) | exact absurd q2 (by assumption) | exact absurd q3 (by assumption))
                              have el2_ := kp_lp tK91 ep_7 hj8_
                              refine gc_i hh (gc_runV (As := [.ref p_7, .int a, .int b, .int c]) (rest := []) (n := 4) C hml hh (c_FT_findNeedQ l D cs sh sz I91 J91 B hF tV91 j_6 p_7 hj8_ ep_7 hp_7 (hD_.base el2_) (ksP.base el2_ hm3_ tS91) a b c (by rw [b_ln el2_]; exact hnb_) Z Y (hZ_.base el2_ hm3_)) (tg_V tw_462 tw_464 tw_21 tw_57 tw_465) (by decide +kernel) ⟨rfl, rfl, by decide, by decide, Nat.zero_le _, Nat.zero_le _⟩ hF.1 rfl rfl hl.1 rfl (Nat.le_of_ble_eq_true rfl) d_FT_need_121) (fun r_63 I_64 J_65 H locs hr_63 hh => ?_)
                              have hr_63 := fnP.base el2_ hm3_ hr_63
                              have tK_66 : keepF B I I_64 J J_65 := keepF.tr tK91 hr_63.1.1
                              have tV_67 : inv_FT I_64 B := hr_63.1.2
                              have tS_68 : ksP I B p_7 I_64 J_65 := hr_63.2.2.1
                              have tY_69 : kY B I I_64 := kY.tr tY91 hr_63.2.1
                              refine lv_if_eq (tgt := 129) C.1 C.2.1 d_FT_need_124 (by decide) (fun c_70 => ?_) (fun c_70 => ?_)
                              · -- 124 -> 129
                                skip
                                obtain ⟨x_71, ex_71⟩ : ∃ z : Int32, z = c + Int32.ofInt 1 := ⟨_, rfl⟩
                                refine lv_iinc (v := x_71) (lv' := [(7, .int x_71), (0, .ref B), (1, .int (nI j_6)), (2, .ref p_7), (3, .int (nI g_30)), (4, .int (nI g_34)), (5, .int a), (6, .int b)]) C.1 C.2.1 d_FT_need_129 hl (k := 7) rfl (ex_71.symm) (by decide) rfl (fun ls hl => ?_)
                                refine lv_goto (tgt := 91) C.1 C.2.1 d_FT_need_132 (by decide) ?_
                                have nx_c : x_71.toInt = c.toInt + 1 := by rw [ex_71]; exact incT (by omega) (by omega)
                                exact ih91 x_71 I_64 J_65 (by omega) (by omega) (by omega) (by exact (by rcases hr_63.2.2.2 with ⟨_, h_, _⟩ | ⟨h_, _⟩; exact h_.trans h7_91; exact absurd ((show _ = (0 : Int32) by assumption).symm.trans h_) (by decide) : I_64 B 7 = nI 0)) (by rw [nx_c]; exact nz_on hzc (by omega) (by omega) (by omega) (by first | exact Or.inl (by rw [show a = 0 by assumption, show b = 0 by assumption, show c = 0 by assumption]; exact num_01) | exact Or.inr (by rcases hr_63.2.2.2 with ⟨_, _, h_⟩ | ⟨h_, _⟩; exact h_; exact absurd ((show _ = (0 : Int32) by assumption).symm.trans h_) (by decide)))) (by exact tK_66) (by exact tV_67) (by exact tS_68) (by exact tY_69) (by omega) _ _ _ hh (lv_sub hl [1, 2, 3, 4, 5, 6, 7, 0] rfl)
                              · -- 124 -> 127
                                skip
                                refine lv_iconst (v := nI 1) C.1 C.2.1 d_FT_need_127 rfl ?_
                                exact gr_i C hlk hret rfl hh (by refine ⟨⟨tK_66, tV_67⟩, tY_69, Or.inr ⟨_, by assumption, rfl, Or.inr ⟨?_, Or.inr ?_⟩⟩⟩; (rw [← ep_7, ← elf_]; assumption); rcases hr_63.2.2.2 with ⟨h_, _⟩ | ⟨_, d_, h1_, h2_, h3_, h4_, h5_, h6_, h7_, h8_⟩; exact absurd h_ (by assumption); obtain ⟨k1_, k2_, k3_⟩ := nz_yes hzc (by omega) (by omega) (by omega) h1_ hnb_ h2_ h3_; obtain ⟨_, _, m3_, m4_, m5_, m6_⟩ := nKx_of (a := a) (b := b) (c := c) (d := d_) (by omega) (by omega) (by omega) h1_; rw [← ep_7]; exact ⟨rfl, h4_, nKx a b c d_, k1_, k2_, k3_, h5_.trans m3_.symm, h6_.trans m4_.symm, h7_.trans m5_.symm, h8_.trans m6_.symm⟩) d_FT_need_128
                  exact K91 _ (-(nI g_34)) I80 J80 (by first | decide | (rw [negN (by omega)]; omega)) (by first | decide | (rw [negN (by omega)]; omega)) (by rw [negN (by omega)]; omega) (by exact h7_80) (by rw [negN (by omega)]; exact nz_c hzb (by omega) (by omega) vg_34) (by exact tK80) (by exact tV80) (by exact tS80) (by exact tY80) (Nat.lt_succ_self _) _ _ _ hh (lv_sub hl [1, 2, 3, 4, 5, 6, 7, 0] rfl)
            exact K80 _ (-(nI g_30)) I70 J70 (by first | decide | (rw [negN (by omega)]; omega)) (by first | decide | (rw [negN (by omega)]; omega)) (by rw [negN (by omega)]; omega) (by exact h7_70) (by rw [negN (by omega)]; exact nz_b hza (by omega) vg_30) (by exact tK70) (by exact tV70) (by exact tS70) (by exact tY70) (Nat.lt_succ_self _) _ _ _ hh (lv_sub hl [1, 2, 3, 4, 5, 6, 0] rfl)
      exact K70 _ x_35 I_20 J_21 (by rw [ex_35]; decide) (by rw [ex_35]; decide) (by rw [show (x_35).toInt = -1 by subst hr_1 eI_8 ex_35; decide]; decide) (by exact ((congrFun (offR.i hr_19.1 (by omega)) 7).trans ((congrFun (offR.i hr_12.2.2 (by omega)) 7).trans (by rw [eI_8]; exact gm_up_same _ _ _ _ : I_8 B 7 = nI 0)))) (by exact nz_a0 (by subst hr_1 eI_8 ex_35; decide)) (by exact tK_22) (by exact tV_23) (by exact tS_24) (by exact tY_25) (Nat.lt_succ_self _) _ _ _ hh (lv_sub hl [4, 5, 3, 2, 1, 0] rfl)
    · -- 47 -> 50
      have c_26 := gm_nef (b := 0) (by omega) (by omega) c_26
      refine lv_iconst (v := nI 2) C.1 C.2.1 d_FT_need_50 rfl ?_
      exact gr_i C hlk hret rfl hh (by refine ⟨⟨tK_22, tV_23⟩, tY_25, Or.inr ⟨_, by assumption, rfl, Or.inl ⟨?_, rfl, ((congrFun (offR.i hr_19.1 (by omega)) 7).trans ((congrFun (offR.i hr_12.2.2 (by omega)) 7).trans (by rw [eI_8]; exact gm_up_same _ _ _ _ : I_8 B 7 = nI 0)))⟩⟩⟩; rw [← ep_7, ← elf_]; assumption) d_FT_need_51
  · -- 5 -> 8
    have b_72 := bI_f hr_1 c_4
    skip
    refine lv_bipush (v := (-2)) C.1 C.2.1 d_FT_need_8 rfl ?_
    exact gr_i C hlk hret rfl hh (by exact ⟨⟨tK_0, tV_0⟩, tY_0, Or.inl ⟨by assumption, rfl, rfl⟩⟩) d_FT_need_10
