set_option maxHeartbeats 4000000 in
set_option maxRecDepth 100000 in
theorem c_FT_keepNeedQ (l : Launch) (D : va_G) (cs : Nat → ClassId) (sh : gm_H) (sz : Nat) (I : gm_I) (J : gm_J) (B : Nat) (hF : is_FT cs sh B) (hV : inv_FT I B) (a b c d : Int32) : CV l y_FT_keepNeed w_FT_keepNeed { frames := 0, cells := 0, slots := 0, locals := 0 } D cs sh sz I J [.ref B, .int a, .int b, .int c, .int d] (fun u => u = (lay4 (gm_up I B 7 (nI 1)) (B + 8) 0 a b c d, J)) := by
  refine gm_start (by decide) (Nat.le_of_ble_eq_true rfl) ?_
  intro p' e' s' m' be' me' co' ls C hml hlk hret hh hl
  have hl : lv_has ls 5 [(0, .ref B), (1, .int a), (2, .int b), (3, .int c), (4, .int d)] := hl
  refine lv_aload_n C.1 C.2.1 d_FT_keepNeed_0 rfl (lv_at hl 0 rfl) ?_
  refine lv_iconst (v := nI 1) C.1 C.2.1 d_FT_keepNeed_1 rfl ?_
  refine gp_i (ty := .boolean) C hh hF.1 rfl in_FT t_FT t_FT_ok n_FT 7 (by decide) rfl tw_217 rfl rfl (by decide +kernel) (gm_nb (Or.inr rfl)) (gm_fb (Or.inr rfl)) d_FT_keepNeed_2 (fun H locs hh => ?_)
  obtain ⟨I_1, eI_1⟩ : ∃ z : gm_I, z = gm_up I B 7 (nI 1) := ⟨_, rfl⟩
  rw [← eI_1] at hh
  refine lv_aload_n C.1 C.2.1 d_FT_keepNeed_5 rfl (lv_at hl 0 rfl) ?_
  refine gg_r C hh hF.1 rfl in_FT 6 (by decide) rfl tw_216 rfl d_FT_keepNeed_6 ?_
  refine lv_iconst (v := nI 0) C.1 C.2.1 d_FT_keepNeed_9 rfl ?_
  refine lv_iload_n C.1 C.2.1 d_FT_keepNeed_10 rfl (lv_at hl 1 rfl) ?_
  refine gs_i C hh hF.2.2.2.2.2.2.1 (k := 0) rfl (by omega) (by omega) d_FT_keepNeed_11 (fun H locs hh => ?_)
  obtain ⟨I_2, eI_2⟩ : ∃ z : gm_I, z = gm_up I_1 (B + 8) 0 a := ⟨_, rfl⟩
  rw [← eI_2] at hh
  refine lv_aload_n C.1 C.2.1 d_FT_keepNeed_12 rfl (lv_at hl 0 rfl) ?_
  refine gg_r C hh hF.1 rfl in_FT 6 (by decide) rfl tw_216 rfl d_FT_keepNeed_13 ?_
  refine lv_iconst (v := nI 1) C.1 C.2.1 d_FT_keepNeed_16 rfl ?_
  refine lv_iload_n C.1 C.2.1 d_FT_keepNeed_17 rfl (lv_at hl 2 rfl) ?_
  refine gs_i C hh hF.2.2.2.2.2.2.1 (k := 1) rfl (by omega) (by omega) d_FT_keepNeed_18 (fun H locs hh => ?_)
  obtain ⟨I_3, eI_3⟩ : ∃ z : gm_I, z = gm_up I_2 (B + 8) 1 b := ⟨_, rfl⟩
  rw [← eI_3] at hh
  refine lv_aload_n C.1 C.2.1 d_FT_keepNeed_19 rfl (lv_at hl 0 rfl) ?_
  refine gg_r C hh hF.1 rfl in_FT 6 (by decide) rfl tw_216 rfl d_FT_keepNeed_20 ?_
  refine lv_iconst (v := nI 2) C.1 C.2.1 d_FT_keepNeed_23 rfl ?_
  refine lv_iload_n C.1 C.2.1 d_FT_keepNeed_24 rfl (lv_at hl 3 rfl) ?_
  refine gs_i C hh hF.2.2.2.2.2.2.1 (k := 2) rfl (by omega) (by omega) d_FT_keepNeed_25 (fun H locs hh => ?_)
  obtain ⟨I_4, eI_4⟩ : ∃ z : gm_I, z = gm_up I_3 (B + 8) 2 c := ⟨_, rfl⟩
  rw [← eI_4] at hh
  refine lv_aload_n C.1 C.2.1 d_FT_keepNeed_26 rfl (lv_at hl 0 rfl) ?_
  refine gg_r C hh hF.1 rfl in_FT 6 (by decide) rfl tw_216 rfl d_FT_keepNeed_27 ?_
  refine lv_iconst (v := nI 3) C.1 C.2.1 d_FT_keepNeed_30 rfl ?_
  refine lv_iload C.1 C.2.1 d_FT_keepNeed_31 (lv_at hl 4 rfl) ?_
  refine gs_i C hh hF.2.2.2.2.2.2.1 (k := 3) rfl (by omega) (by omega) d_FT_keepNeed_33 (fun H locs hh => ?_)
  obtain ⟨I_5, eI_5⟩ : ∃ z : gm_I, z = gm_up I_4 (B + 8) 3 d := ⟨_, rfl⟩
  rw [← eI_5] at hh
  exact gr_v C hlk hret hh (by subst_vars; rfl) d_FT_keepNeed_34

set_option maxHeartbeats 4000000 in
set_option maxRecDepth 100000 in
theorem c_FT_findNeedQ (l : Launch) (D : va_G) (cs : Nat → ClassId) (sh : gm_H) (sz : Nat) (I : gm_I) (J : gm_J) (B : Nat) (hF : is_FT cs sh B) (hV : inv_FT I B) (j o : Nat) (hj : j < 8) (eo : o = B + 12 + 21 * j) (ho : is_Lp cs sh o) (hD : LD I o) (hK : ksP I B o I J) (a b c : Int32) (hn1 : numB (q_ln I o) a b c (nI 1) = true) (Z : Z4) (Y : Y4) (hZ : z4Hyp I o Z Y) : CI l y_FT_findNeed w_FT_findNeed { frames := 6, cells := 0, slots := 0, locals := 152 } D cs sh sz I J [.ref B, .ref o, .int a, .int b, .int c] (fun x u => fnP I J B o a b c Z Y x u) := by
  refine gm_start (by decide) (Nat.le_of_ble_eq_true rfl) ?_
  intro p' e' s' m' be' me' co' ls C hml hlk hret hh hl
  have hl : lv_has ls 6 [(0, .ref B), (1, .ref o), (2, .int a), (3, .int b), (4, .int c)] := hl
  have hm3_ : q_lm I o ≤ 3 := hD.1.2
  have tK_0 : keepF B I I J J := keepF.nil
  have tV_0 : inv_FT I B := hV
  have tS_0 : ksP I B o I J := hK
  have tY_0 : kY B I I := kY.nil
  refine lv_aload_n C.1 C.2.1 d_FT_findNeed_0 rfl (lv_at hl 0 rfl) ?_
  refine lv_aload_n C.1 C.2.1 d_FT_findNeed_1 rfl (lv_at hl 1 rfl) ?_
  refine lv_iload_n C.1 C.2.1 d_FT_findNeed_2 rfl (lv_at hl 2 rfl) ?_
  refine lv_iload_n C.1 C.2.1 d_FT_findNeed_3 rfl (lv_at hl 3 rfl) ?_
  refine lv_iload C.1 C.2.1 d_FT_findNeed_4 (lv_at hl 4 rfl) ?_
  refine lv_iconst (v := nI 2) C.1 C.2.1 d_FT_findNeed_6 rfl ?_
  have rg_ : rg2 (nI 2) := ⟨by first | decide | omega, by first | decide | omega⟩
  have hg_ : gdV (q_ln I o) (rV a b c (nI 2)) := num_gd hD.2.1.2.1 (by omega) hn1 (by have h_ := rg_; unfold rg2 at h_; omega)
  refine gc_v hh (gc_runV (As := [.ref o, .int a, .int b, .int c, .int (nI 2)]) (rest := []) (n := 5) C hml hh (c_FT_narrowSpacesQ l D cs sh sz I J B hF tV_0 j o hj eo ho (q_lm I o) ((congrFun (tK_0.1 o (by omega)).1 3).trans hD.1.1) hD.1.2 (dd_ab (q_ln I o)) (fun w_ => dd_rw (fF I o w_ (q_lg I o)) ((q_lg I o) + q_lt I o w_)) (fun w_ _ => List.mem_cons_self) (fun w_ hw_ => by have h1_ := hD.2.2.1.2; have h2_ := (hD.2.2.2.1 w_ hw_).2; show (dd_rw _ _).length ≤ 7; rw [dd_rw_len]; omega) tS_0 a b c (nI 2) hg_.1 hg_.2.1) (tg_V tw_466 tw_468 tw_22 tw_57 tw_469) (by decide +kernel) ⟨rfl, rfl, by decide, by decide, Nat.zero_le _, Nat.zero_le _⟩ hF.1 rfl rfl hl.1 rfl (Nat.le_of_ble_eq_true rfl) d_FT_findNeed_7) (fun I_2 J_3 H locs hr_1 hh => ?_)
  have tK_4 : keepF B I I_2 J J_3 := keepF.tr tK_0 hr_1.1.1
  have tV_5 : inv_FT I_2 B := hr_1.1.2
  have tS_6 : ksP I B o I_2 J_3 := hr_1.2.1
  have tY_7 : kY B I I_2 := kY.tr tY_0 (kY.of hr_1.2.2.2 (by omega))
  have hN_ : ∀ w, w < (q_lm I o) → sp_K I_2 J_3 (B + 186 + 12 * w) (dd_ab (q_ln I o)) (dd_rw (fE (fF I o w (q_lg I o)) ((q_lg I o) + q_lt I o w) (rV a b c (nI 2))) ((q_lg I o) + q_lt I o w + 1)) := fun w_ hw_ => by have h_ := hr_1.2.2.1 w_ hw_; rw [dd_rw_fE] at h_; exact h_
  refine lv_aload_n C.1 C.2.1 d_FT_findNeed_10 rfl (lv_at hl 0 rfl) ?_
  refine gg_r C hh hF.1 rfl in_FT 5 (by decide) rfl tw_215 rfl d_FT_findNeed_11 ?_
  refine lv_aload_n C.1 C.2.1 d_FT_findNeed_14 rfl (lv_at hl 1 rfl) ?_
  refine lv_aload_n C.1 C.2.1 d_FT_findNeed_15 rfl (lv_at hl 0 rfl) ?_
  refine gg_r C hh hF.1 rfl in_FT 3 (by decide) rfl tw_213 rfl d_FT_findNeed_16 ?_
  have hZo_ : ∀ a_ b_ c_, numB (q_ln I o) a_ b_ c_ (nI 2) = true → ∀ w, w < (q_lm I o) → zok I_2 J_3 (o + 6 + 5 * w) (B + 186 + 12 * w) a_ b_ c_ (Z a b c (nI 2) a_ b_ c_ w) := fun a_ b_ c_ hb_ w_ hw_ => zok_of (hN_ w_ hw_) (by have h1_ := hD.2.2.1.2; have h2_ := (hD.2.2.2.1 w_ hw_).2; omega) (hD.2.2.2.2.2 w_ hw_) hD.2.1.2.1 hD.2.1.2.2 (gd_fE (hD.2.2.2.2.1 w_ hw_) hg_) (tK_4.1 _ (by omega)).1 (tK_4.1 _ (by omega)).1 hb_ ((hZ a b c (nI 2) hn1 rg_ w_ hw_).1 a_ b_ c_ hb_)
  refine gc_v hh (gc_runV (As := [.ref o, .ref (B + 3)]) (rest := []) (n := 2) C hml hh (c_Pf_searchQ l D cs sh sz I_2 J_3 (B + 6) hF.2.2.2.2.2.1 o ho (B + 3) (B + 186) hF.2.2.2.1 (q_lm I o) (q_ln I o) ((congrFun (tK_4.1 o (by omega)).1 3).trans hD.1.1) hD.1.2 ((congrFun (tK_4.1 o (by omega)).1 0).trans hD.2.1.1) hD.2.1.2.2 (by omega) (by omega) (Z a b c (nI 2)) hZo_) (tg_V tw_427 tw_428 tw_429 tw_58 tw_430) (by decide +kernel) ⟨rfl, rfl, by decide, by decide, Nat.zero_le _, Nat.zero_le _⟩ hF.2.2.2.2.2.1.1 rfl rfl hl.1 rfl (Nat.le_of_ble_eq_true rfl) d_FT_findNeed_19) (fun I_9 J_10 H locs hr_8 hh => ?_)
  have hsf_ : pfP (B + 6) I_2 J_3 (I_9, J_10) := ⟨hr_8.1, _, hr_8.2.2.1, hr_8.2.2.2.1⟩
  have tK_11 : keepF B I I_9 J J_10 := keepF.tr tK_4 (keepF.of hsf_.1 (by omega))
  have tV_12 : inv_FT I_9 B := inv_FT.pf tV_5 hsf_ (by omega)
  have tS_13 : ksP I B o I_9 J_10 := tS_6.off hsf_.1 hD.1.2 (by omega)
  have tY_14 : kY B I I_9 := kY.tr tY_7 (kY.of hsf_.1 (by omega))
  obtain ⟨lf_, elf_⟩ : ∃ z : Nat, z = (lbN (ckk (q_ln I o) (q_lm I o) (Z a b c (nI 2))) 4 (opN (q_lm I o))).2 := ⟨_, rfl⟩
  have hlf_ : I_9 (B + 6) 2 = nI lf_ := by rw [elf_]; exact hr_8.2.2.2.2.1
  have l8_ : lf_ < 8 := by rw [elf_]; exact hr_8.2.1
  refine lv_aload_n C.1 C.2.1 d_FT_findNeed_22 rfl (lv_at hl 0 rfl) ?_
  refine gg_r C hh hF.1 rfl in_FT 5 (by decide) rfl tw_215 rfl d_FT_findNeed_23 ?_
  refine gn_i C hh hF.2.2.2.2.2.1.1 rfl in_Pf 2 (by decide) rfl tw_88 rfl d_FT_findNeed_26 ?_
  refine gm_eqi hlf_ ?_
  refine lv_if_eq (tgt := 34) C.1 C.2.1 d_FT_findNeed_29 (by decide) (fun c_15 => ?_) (fun c_15 => ?_)
  · -- 29 -> 34
    have c_15 := gm_eqt (b := 0) (by omega) (by omega) c_15
    refine lv_bipush (v := (-2)) C.1 C.2.1 d_FT_findNeed_34 rfl ?_
    refine lv_topi (fun x_16 ex_16 => ?_)
    refine lv_istore (lv' := [(5, .int x_16), (0, .ref B), (1, .ref o), (2, .int a), (3, .int b), (4, .int c)]) C.1 C.2.1 d_FT_findNeed_36 hl (by decide) rfl (fun ls hl => ?_)
    have K38 : ∀ (n_38 : Nat) (d : Int32) (I38 : gm_I) (J38 : gm_J) (hd1 : -7 ≤ d.toInt) (hd2 : d.toInt ≤ 7) (hd3 : -2 ≤ d.toInt) (h7_38 : I38 B 7 = I B 7) (hgd : ∀ d_, rg2 d_ → d_.toInt < d.toInt → ¬ ngd (q_ln I o) (q_lm I o) Z Y a b c d_) (tK38 : keepF B I I38 J J38) (tV38 : inv_FT I38 B) (tS38 : ksP I B o I38 J38) (tY38 : kY B I I38) (hm_38 : (8 - d.toInt).toNat < n_38), ∀ (H : Heap) (locs : List Loc) (ls : Array Slot), gm_St D cs sh (gm_A sh) s'.heap sz I38 J38 H locs → lv_has ls 6 [(0, .ref B), (1, .ref o), (2, .int a), (3, .int b), (4, .int c), (5, .int d)] → W p' l e' { frames := 6, cells := 0, slots := 0, locals := 152 } s' m' ([.ref B, .ref o, .int a, .int b, .int c] : List Value).toArray be' me' co' H locs 0 0 (MQ be' (va_Qi (fun x u => fnP I J B o a b c Z Y x u) (gm_B D cs sh sz) (gm_A sh)) ([.ref B, .ref o, .int a, .int b, .int c] : List Value).toArray s' 0 0 (gm_A sh)) (F0 m' 38 ls []) := by
      intro n_38
      induction n_38 with
      | zero => intro d I38 J38 hd1 hd2 hd3 h7_38 hgd tK38 tV38 tS38 tY38 hm_38; exact absurd hm_38 (Nat.not_lt_zero _)
      | succ n_38 ih38 =>
        intro d I38 J38 hd1 hd2 hd3 h7_38 hgd tK38 tV38 tS38 tY38 hm_38 H locs ls hh hl
        refine lv_iload C.1 C.2.1 d_FT_findNeed_38 (lv_at hl 5 rfl) ?_
        refine lv_iconst (v := nI 2) C.1 C.2.1 d_FT_findNeed_40 rfl ?_
        refine lv_icmp_gt (tgt := 112) C.1 C.2.1 d_FT_findNeed_41 (by decide) (fun c_17 => ?_) (fun c_17 => ?_)
        · -- 41 -> 112
          skip
          refine lv_iconst (v := nI 0) C.1 C.2.1 d_FT_findNeed_112 rfl ?_
          exact gr_i C hlk hret (gm_nb (Or.inl rfl)) hh (by exact ⟨⟨tK38, tV38⟩, tY38, tS38, Or.inl ⟨rfl, h7_38, fun d_ h1_ => hgd d_ h1_ (by have h2_ := hiI (by omega) (by assumption : nI 2 < d); have h3_ := h1_.2; omega)⟩⟩) d_FT_findNeed_113
        · -- 41 -> 44
          skip
          have lo_d := loI (by omega) (by assumption : ¬ nI 2 < d)
          refine lv_aload_n C.1 C.2.1 d_FT_findNeed_44 rfl (lv_at hl 0 rfl) ?_
          refine lv_aload_n C.1 C.2.1 d_FT_findNeed_45 rfl (lv_at hl 1 rfl) ?_
          refine lv_iload_n C.1 C.2.1 d_FT_findNeed_46 rfl (lv_at hl 2 rfl) ?_
          refine lv_iload_n C.1 C.2.1 d_FT_findNeed_47 rfl (lv_at hl 3 rfl) ?_
          refine lv_iload C.1 C.2.1 d_FT_findNeed_48 (lv_at hl 4 rfl) ?_
          refine lv_iload C.1 C.2.1 d_FT_findNeed_50 (lv_at hl 5 rfl) ?_
          have rg_ : rg2 d := ⟨by first | decide | omega, by first | decide | omega⟩
          have hg_ : gdV (q_ln I o) (rV a b c d) := num_gd hD.2.1.2.1 (by omega) hn1 (by have h_ := rg_; unfold rg2 at h_; omega)
          refine gc_v hh (gc_runV (As := [.ref o, .int a, .int b, .int c, .int d]) (rest := []) (n := 5) C hml hh (c_FT_narrowSpacesQ l D cs sh sz I38 J38 B hF tV38 j o hj eo ho (q_lm I o) ((congrFun (tK38.1 o (by omega)).1 3).trans hD.1.1) hD.1.2 (dd_ab (q_ln I o)) (fun w_ => dd_rw (fF I o w_ (q_lg I o)) ((q_lg I o) + q_lt I o w_)) (fun w_ _ => List.mem_cons_self) (fun w_ hw_ => by have h1_ := hD.2.2.1.2; have h2_ := (hD.2.2.2.1 w_ hw_).2; show (dd_rw _ _).length ≤ 7; rw [dd_rw_len]; omega) tS38 a b c d hg_.1 hg_.2.1) (tg_V tw_466 tw_468 tw_22 tw_57 tw_469) (by decide +kernel) ⟨rfl, rfl, by decide, by decide, Nat.zero_le _, Nat.zero_le _⟩ hF.1 rfl rfl hl.1 rfl (Nat.le_of_ble_eq_true rfl) d_FT_findNeed_52) (fun I_19 J_20 H locs hr_18 hh => ?_)
          have tK_21 : keepF B I I_19 J J_20 := keepF.tr tK38 hr_18.1.1
          have tV_22 : inv_FT I_19 B := hr_18.1.2
          have tS_23 : ksP I B o I_19 J_20 := hr_18.2.1
          have tY_24 : kY B I I_19 := kY.tr tY38 (kY.of hr_18.2.2.2 (by omega))
          have hN_ : ∀ w, w < (q_lm I o) → sp_K I_19 J_20 (B + 186 + 12 * w) (dd_ab (q_ln I o)) (dd_rw (fE (fF I o w (q_lg I o)) ((q_lg I o) + q_lt I o w) (rV a b c d)) ((q_lg I o) + q_lt I o w + 1)) := fun w_ hw_ => by have h_ := hr_18.2.2.1 w_ hw_; rw [dd_rw_fE] at h_; exact h_
          refine lv_aload_n C.1 C.2.1 d_FT_findNeed_55 rfl (lv_at hl 0 rfl) ?_
          refine lv_aload_n C.1 C.2.1 d_FT_findNeed_56 rfl (lv_at hl 1 rfl) ?_
          refine lv_iload_n C.1 C.2.1 d_FT_findNeed_57 rfl (lv_at hl 2 rfl) ?_
          refine lv_iload_n C.1 C.2.1 d_FT_findNeed_58 rfl (lv_at hl 3 rfl) ?_
          refine lv_iload C.1 C.2.1 d_FT_findNeed_59 (lv_at hl 4 rfl) ?_
          refine lv_iload C.1 C.2.1 d_FT_findNeed_61 (lv_at hl 5 rfl) ?_
          have hYo_ : ∀ w, w < (q_lm I o) → yok I_19 J_20 (o + 6 + 5 * w) (B + 186 + 12 * w) a b c d (Y a b c d w) := fun w_ hw_ => yok_of (hN_ w_ hw_) (by have h1_ := hD.2.2.1.2; have h2_ := (hD.2.2.2.1 w_ hw_).2; omega) (hD.2.2.2.2.2 w_ hw_) hD.2.1.2.1 hD.2.1.2.2 (gd_fE (hD.2.2.2.2.1 w_ hw_) hg_) (tK_21.1 _ (by omega)).1 (tK_21.1 _ (by omega)).1 hn1 rg_ (hZ a b c d hn1 rg_ w_ hw_).2
          refine gc_i hh (gc_runV (As := [.ref o, .int a, .int b, .int c, .int d]) (rest := []) (n := 5) C hml hh (c_FT_lastsQ l D cs sh sz I_19 J_20 B hF tV_22 j o hj eo ho (q_lm I o) ((congrFun (tK_21.1 o (by omega)).1 3).trans hD.1.1) hD.1.2 a b c d (Y a b c d) hYo_) (tg_V tw_475 tw_477 tw_23 tw_57 tw_478) (by decide +kernel) ⟨rfl, rfl, by decide, by decide, Nat.zero_le _, Nat.zero_le _⟩ hF.1 rfl rfl hl.1 rfl (Nat.le_of_ble_eq_true rfl) d_FT_findNeed_63) (fun r_25 I_26 J_27 H locs hr_25 hh => ?_)
          obtain ⟨e_r_25, hr_25⟩ := hr_25
          rw [(Prod.mk.inj e_r_25).1, (Prod.mk.inj e_r_25).2] at hh
          refine lv_if_ne (tgt := 72) C.1 C.2.1 d_FT_findNeed_66 (by decide) (fun c_28 => ?_) (fun c_28 => ?_)
          · -- 66 -> 72
            have b_29 := bI_t hr_25 c_28
            skip
            refine lv_aload_n C.1 C.2.1 d_FT_findNeed_72 rfl (lv_at hl 0 rfl) ?_
            refine gg_r C hh hF.1 rfl in_FT 5 (by decide) rfl tw_215 rfl d_FT_findNeed_73 ?_
            refine lv_aload_n C.1 C.2.1 d_FT_findNeed_76 rfl (lv_at hl 1 rfl) ?_
            refine lv_aload_n C.1 C.2.1 d_FT_findNeed_77 rfl (lv_at hl 0 rfl) ?_
            refine gg_r C hh hF.1 rfl in_FT 3 (by decide) rfl tw_213 rfl d_FT_findNeed_78 ?_
            have hZo_ : ∀ a_ b_ c_, numB (q_ln I o) a_ b_ c_ (nI 2) = true → ∀ w, w < (q_lm I o) → zok I_19 J_20 (o + 6 + 5 * w) (B + 186 + 12 * w) a_ b_ c_ (Z a b c d a_ b_ c_ w) := fun a_ b_ c_ hb_ w_ hw_ => zok_of (hN_ w_ hw_) (by have h1_ := hD.2.2.1.2; have h2_ := (hD.2.2.2.1 w_ hw_).2; omega) (hD.2.2.2.2.2 w_ hw_) hD.2.1.2.1 hD.2.1.2.2 (gd_fE (hD.2.2.2.2.1 w_ hw_) hg_) (tK_21.1 _ (by omega)).1 (tK_21.1 _ (by omega)).1 hb_ ((hZ a b c d hn1 rg_ w_ hw_).1 a_ b_ c_ hb_)
            refine gc_v hh (gc_runV (As := [.ref o, .ref (B + 3)]) (rest := []) (n := 2) C hml hh (c_Pf_searchQ l D cs sh sz I_19 J_20 (B + 6) hF.2.2.2.2.2.1 o ho (B + 3) (B + 186) hF.2.2.2.1 (q_lm I o) (q_ln I o) ((congrFun (tK_21.1 o (by omega)).1 3).trans hD.1.1) hD.1.2 ((congrFun (tK_21.1 o (by omega)).1 0).trans hD.2.1.1) hD.2.1.2.2 (by omega) (by omega) (Z a b c d) hZo_) (tg_V tw_427 tw_428 tw_429 tw_58 tw_430) (by decide +kernel) ⟨rfl, rfl, by decide, by decide, Nat.zero_le _, Nat.zero_le _⟩ hF.2.2.2.2.2.1.1 rfl rfl hl.1 rfl (Nat.le_of_ble_eq_true rfl) d_FT_findNeed_81) (fun I_31 J_32 H locs hr_30 hh => ?_)
            have hsf_ : pfP (B + 6) I_19 J_20 (I_31, J_32) := ⟨hr_30.1, _, hr_30.2.2.1, hr_30.2.2.2.1⟩
            have tK_33 : keepF B I I_31 J J_32 := keepF.tr tK_21 (keepF.of hsf_.1 (by omega))
            have tV_34 : inv_FT I_31 B := inv_FT.pf tV_22 hsf_ (by omega)
            have tS_35 : ksP I B o I_31 J_32 := tS_23.off hsf_.1 hD.1.2 (by omega)
            have tY_36 : kY B I I_31 := kY.tr tY_24 (kY.of hsf_.1 (by omega))
            obtain ⟨lf_, elf_⟩ : ∃ z : Nat, z = (lbN (ckk (q_ln I o) (q_lm I o) (Z a b c d)) 4 (opN (q_lm I o))).2 := ⟨_, rfl⟩
            have hlf_ : I_31 (B + 6) 2 = nI lf_ := by rw [elf_]; exact hr_30.2.2.2.2.1
            have l8_ : lf_ < 8 := by rw [elf_]; exact hr_30.2.1
            refine lv_aload_n C.1 C.2.1 d_FT_findNeed_84 rfl (lv_at hl 0 rfl) ?_
            refine gg_r C hh hF.1 rfl in_FT 5 (by decide) rfl tw_215 rfl d_FT_findNeed_85 ?_
            refine gn_i C hh hF.2.2.2.2.2.1.1 rfl in_Pf 2 (by decide) rfl tw_88 rfl d_FT_findNeed_88 ?_
            refine gm_eqi hlf_ ?_
            refine lv_if_ne (tgt := 106) C.1 C.2.1 d_FT_findNeed_91 (by decide) (fun c_37 => ?_) (fun c_37 => ?_)
            · -- 91 -> 106
              have c_37 := gm_net (b := 0) (by omega) (by omega) c_37
              obtain ⟨x_38, ex_38⟩ : ∃ z : Int32, z = d + Int32.ofInt 1 := ⟨_, rfl⟩
              refine lv_iinc (v := x_38) (lv' := [(5, .int x_38), (0, .ref B), (1, .ref o), (2, .int a), (3, .int b), (4, .int c)]) C.1 C.2.1 d_FT_findNeed_106 hl (k := 5) rfl (ex_38.symm) (by decide) rfl (fun ls hl => ?_)
              refine lv_goto (tgt := 38) C.1 C.2.1 d_FT_findNeed_109 (by decide) ?_
              have nx_d : x_38.toInt = d.toInt + 1 := by rw [ex_38]; exact incT (by omega) (by omega)
              exact ih38 x_38 I_31 J_32 (by omega) (by omega) (by omega) (by exact ((congrFun (offR.i hr_30.1 (by omega)) 7).trans ((congrFun (offR.i hr_18.2.2.2 (by omega)) 7).trans h7_38))) (by exact fn_next hgd nx_d (by first | exact fun q_ => absurd q_.1 (by rw [show yN (Y a b c d) (q_lm I o) = false by assumption]; decide) | exact fun q_ => (by assumption : ¬ lf_ = 0) (elf_.trans q_.2))) (by exact tK_33) (by exact tV_34) (by exact tS_35) (by exact tY_36) (by omega) _ _ _ hh (lv_sub hl [1, 2, 3, 4, 5, 0] rfl)
            · -- 91 -> 94
              have c_37 := gm_nef (b := 0) (by omega) (by omega) c_37
              refine lv_aload_n C.1 C.2.1 d_FT_findNeed_94 rfl (lv_at hl 0 rfl) ?_
              refine lv_iload_n C.1 C.2.1 d_FT_findNeed_95 rfl (lv_at hl 2 rfl) ?_
              refine lv_iload_n C.1 C.2.1 d_FT_findNeed_96 rfl (lv_at hl 3 rfl) ?_
              refine lv_iload C.1 C.2.1 d_FT_findNeed_97 (lv_at hl 4 rfl) ?_
              refine lv_iload C.1 C.2.1 d_FT_findNeed_99 (lv_at hl 5 rfl) ?_
              refine gc_v hh (gc_runV (As := [.int a, .int b, .int c, .int d]) (rest := []) (n := 4) C hml hh (c_FT_keepNeedQ l D cs sh sz I_31 J_32 B hF tV_34 a b c d) (tg_V tw_483 tw_485 tw_24 tw_57 tw_486) (by decide +kernel) ⟨rfl, rfl, by decide, by decide, Nat.zero_le _, Nat.zero_le _⟩ hF.1 rfl rfl hl.1 rfl (Nat.le_of_ble_eq_true rfl) d_FT_findNeed_101) (fun I_40 J_41 H locs hr_39 hh => ?_)
              have hu_ : (I_40, J_41) = (lay4 (gm_up I_31 B 7 (nI 1)) (B + 8) 0 a b c d, J_32) := hr_39
              have hks_ := kn_sf (J := J_32) (a := a) (b := b) (c := c) (d := d) tV_34
              rw [← hu_] at hks_
              have hof_ : offR B (B + 8) I_31 I_40 J_32 J_41 := fun q_ hq_ => by rw [(Prod.mk.inj hu_).1, (Prod.mk.inj hu_).2]; exact ⟨((kn_off (J := J_32)) q_ (by omega)).1.trans (gm_up_off _ _ _ (by omega)), rfl⟩
              have tK_42 : keepF B I I_40 J J_41 := keepF.tr tK_33 hks_.1
              have tV_43 : inv_FT I_40 B := hks_.2
              have tS_44 : ksP I B o I_40 J_41 := tS_35.off hof_ hD.1.2 (by omega)
              have hkr_ := kn_row (B := B) (I := I_31) (a := a) (b := b) (c := c) (d := d)
              rw [← (Prod.mk.inj hu_).1] at hkr_
              have tY_45 : kY B I I_40 := kY.tr tY_36 ⟨by rw [(Prod.mk.inj hu_).1]; exact ((kn_off (J := J_32)) (B + 4) (by omega)).1.trans (gm_up_off _ _ _ (by omega)), by rw [(Prod.mk.inj hu_).1]; exact ((kn_off (J := J_32)) (B + 5) (by omega)).1.trans (gm_up_off _ _ _ (by omega))⟩
              refine lv_iconst (v := nI 1) C.1 C.2.1 d_FT_findNeed_104 rfl ?_
              exact gr_i C hlk hret (gm_nb (Or.inr rfl)) hh (by exact ⟨⟨tK_42, tV_43⟩, tY_45, tS_44, Or.inr ⟨rfl, d, rg_, ⟨by assumption, by rw [← elf_]; assumption⟩, hgd, hkr_.1, hkr_.2.1, hkr_.2.2.1, hkr_.2.2.2.1, hkr_.2.2.2.2⟩⟩) d_FT_findNeed_105
          · -- 66 -> 69
            have b_46 := bI_f hr_25 c_28
            skip
            refine lv_goto (tgt := 106) C.1 C.2.1 d_FT_findNeed_69 (by decide) ?_
            obtain ⟨x_47, ex_47⟩ : ∃ z : Int32, z = d + Int32.ofInt 1 := ⟨_, rfl⟩
            refine lv_iinc (v := x_47) (lv' := [(5, .int x_47), (0, .ref B), (1, .ref o), (2, .int a), (3, .int b), (4, .int c)]) C.1 C.2.1 d_FT_findNeed_106 hl (k := 5) rfl (ex_47.symm) (by decide) rfl (fun ls hl => ?_)
            refine lv_goto (tgt := 38) C.1 C.2.1 d_FT_findNeed_109 (by decide) ?_
            have nx_d : x_47.toInt = d.toInt + 1 := by rw [ex_47]; exact incT (by omega) (by omega)
            exact ih38 x_47 I_19 J_20 (by omega) (by omega) (by omega) (by exact ((congrFun (offR.i hr_18.2.2.2 (by omega)) 7).trans h7_38)) (by exact fn_next hgd nx_d (by first | exact fun q_ => absurd q_.1 (by rw [show yN (Y a b c d) (q_lm I o) = false by assumption]; decide) | exact fun q_ => (by assumption : ¬ lf_ = 0) (elf_.trans q_.2))) (by exact tK_21) (by exact tV_22) (by exact tS_23) (by exact tY_24) (by omega) _ _ _ hh (lv_sub hl [1, 2, 3, 4, 5, 0] rfl)
    exact K38 _ x_16 I_9 J_10 (by rw [ex_16]; decide) (by rw [ex_16]; decide) (by rw [show (x_16).toInt = -2 by subst ex_16; decide]; decide) (by exact ((congrFun (offR.i hr_8.1 (by omega)) 7).trans ((congrFun (offR.i hr_1.2.2.2 (by omega)) 7).trans rfl))) (by exact fun d_ h1_ h2_ => absurd h2_ (by have h3_ := h1_.1; have h4_ : (x_16).toInt = -2 := (by subst ex_16; decide); omega)) (by exact tK_11) (by exact tV_12) (by exact tS_13) (by exact tY_14) (Nat.lt_succ_self _) _ _ _ hh (lv_sub hl [1, 2, 3, 4, 5, 0] rfl)
  · -- 29 -> 32
    have c_15 := gm_eqf (b := 0) (by omega) (by omega) c_15
    refine lv_iconst (v := nI 0) C.1 C.2.1 d_FT_findNeed_32 rfl ?_
    exact gr_i C hlk hret (gm_nb (Or.inl rfl)) hh (by exact ⟨⟨tK_11, tV_12⟩, tY_14, tS_13, Or.inl ⟨rfl, ((congrFun (offR.i hr_8.1 (by omega)) 7).trans ((congrFun (offR.i hr_1.2.2.2 (by omega)) 7).trans rfl)), fun d_ h1_ q_ => (by assumption : ¬ lf_ = 0) (elf_.trans (ngd_2 hD hZ hn1 h1_ q_.2))⟩⟩) d_FT_findNeed_33
