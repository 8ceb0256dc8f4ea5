set_option maxHeartbeats 4000000 in
set_option maxRecDepth 100000 in
theorem c_Md_need (l : Launch) (D : va_G) (cs : Nat → ClassId) (sh : gm_H) (sz : Nat) (I : gm_I) (J : gm_J) (r : Nat) (hM : is_Md sh r) (hV : inv_Md I r) (hb : ∃ b, I r 20 = bI b) (v : Int32) : CI l y_Md_need w_Md_need { frames := 6, cells := 0, slots := 0, locals := 169 } D cs sh sz I J [.ref r, .int v] (fun z u => (lpB I r v = false ∧ z = -2 ∧ u = (I, J)) ∨ (lpB I r v = true ∧ needP I J r (nN v) z u)) := by
  refine gm_start (by decide) (Nat.le_of_ble_eq_true rfl) ?_
  intro p' e' s' m' be' me' co' ls C hml hlk hret hh hl
  have hl : lv_has ls 7 [(0, .ref r), (1, .int v)] := hl
  refine lv_aload_n C.1 C.2.1 d_Md_need_0 rfl (lv_at hl 0 rfl) ?_
  refine lv_iload_n C.1 C.2.1 d_Md_need_1 rfl (lv_at hl 1 rfl) ?_
  refine gc_i hh (gc_runV (As := [.int v]) (rest := []) (n := 1) C hml hh (c_Md_isLoop l D cs sh sz I J r hM hV v) (tg_V tw_695 tw_697 tw_26 tw_64 tw_698) (by decide +kernel) ⟨rfl, rfl, by decide, by decide, Nat.zero_le _, Nat.zero_le _⟩ (Md_0 hM) rfl rfl hl.1 rfl (Nat.le_of_ble_eq_true rfl) d_Md_need_2) (fun r_1 I_2 J_3 H locs hr_1 hh => ?_)
  obtain ⟨e_r_1, hr_1⟩ := hr_1
  rw [(Prod.mk.inj e_r_1).1, (Prod.mk.inj e_r_1).2] at hh
  refine lv_if_ne (tgt := 11) C.1 C.2.1 d_Md_need_5 (by decide) (fun c_4 => ?_) (fun c_4 => ?_)
  · -- 5 -> 11
    have b_5 := bI_t hr_1 c_4
    obtain ⟨n_7, hn_7, en_7⟩ := hV.1
    obtain ⟨j_6, hj_6, ej_6⟩ := lpB_j en_7 hn_7 b_5
    subst ej_6
    skip
    refine lv_aload_n C.1 C.2.1 d_Md_need_11 rfl (lv_at hl 0 rfl) ?_
    refine lv_iconst (v := nI 0) C.1 C.2.1 d_Md_need_12 rfl ?_
    refine gp_i (ty := .boolean) C hh (Md_0 hM) rfl in_Md t_Md t_Md_ok n_Md 13 (by decide) rfl tw_578 rfl rfl (by decide +kernel) (gm_nb (Or.inl rfl)) (gm_fb (Or.inl rfl)) d_Md_need_13 (fun H locs hh => ?_)
    obtain ⟨I_8, eI_8⟩ : ∃ z : gm_I, z = gm_up I r 13 (nI 0) := ⟨_, rfl⟩
    rw [← eI_8] at hh
    refine lv_aload_n C.1 C.2.1 d_Md_need_16 rfl (lv_at hl 0 rfl) ?_
    refine lv_iload_n C.1 C.2.1 d_Md_need_17 rfl (lv_at hl 1 rfl) ?_
    refine lv_iconst (v := nI 0) C.1 C.2.1 d_Md_need_18 rfl ?_
    obtain ⟨wn, hwn, ewn⟩ := hV.2.2.1 j_6 (by omega)
    obtain ⟨nm, hnm, enm⟩ := hV.2.1 j_6 (by omega)
    have hN0 : eqN r I J I_8 J := ⟨fun q k h => by rw [eI_8, gm_up_ne _ _ (by omega)], fun _ _ _ => rfl, by obtain ⟨b_, h_⟩ := hb; exact ⟨b_, by rw [eI_8, gm_up_ne _ _ (by omega)]; exact h_⟩⟩
    have hQ0 : eqQ r I J I_8 J := ⟨fun c _ _ k => hN0.1 _ _ (by omega), fun _ _ _ => rfl⟩
    refine gc_i hh (gc_runV (As := [.int (nI j_6), .int (nI 0)]) (rest := []) (n := 2) C hml hh (c_Md_leftBy l D cs sh sz I_8 J r hM (inv_eqN hN0 hV) hN0.2.2 j_6 (by omega) (nI 0) false rfl) (tg_V tw_811 tw_813 tw_45 tw_64 tw_814) (by decide +kernel) ⟨rfl, rfl, by decide, by decide, Nat.zero_le _, Nat.zero_le _⟩ (Md_0 hM) rfl rfl hl.1 rfl (Nat.le_of_ble_eq_true rfl) d_Md_need_19) (fun r_9 I_10 J_11 H locs hr_9 hh => ?_)
    obtain ⟨hr_9, l8_lf_12, -, hE_lf_12, -, -⟩ := hr_9
    rw [leftR_eqQ hQ0] at hr_9 l8_lf_12
    obtain ⟨lf_12, elf_12⟩ : ∃ z_ : Nat, z_ = (leftR I J r j_6 false).2 := ⟨_, rfl⟩
    rw [← elf_12] at hr_9 l8_lf_12
    rw [hr_9]
    have hN_lf_12 := eqN_trans hN0 (eqN_L hE_lf_12)
    have hH_lf_12 : I_10 r 13 = nI 0 := (hE_lf_12.1 r 13 (by omega)).trans (by rw [eI_8]; exact gm_up_same _ _ _ _)
    refine lv_if_ne (tgt := 27) C.1 C.2.1 d_Md_need_22 (by decide) (fun c_13 => ?_) (fun c_13 => ?_)
    · -- 22 -> 27
      have c_13 := gm_net (b := 0) (by omega) (by omega) c_13
      refine lv_iconst (v := nI 0) C.1 C.2.1 d_Md_need_27 rfl ?_
      refine lv_istore_n (lv' := [(2, .int (nI 0)), (0, .ref r), (1, .int (nI j_6))]) C.1 C.2.1 d_Md_need_28 rfl hl (by decide) rfl (fun ls hl => ?_)
      have K29 : ∀ (n_29 : Nat) (k : Nat) (I29 : gm_I) (J29 : gm_J) (hk : k ≤ 135) (hN29 : eqN r I J I29 J29) (hH29 : I29 r 13 = nI 0) (hfk : fkN (ndT I J r j_6) 135 0 = fkN (ndT I J r j_6) (135 - k) k) (hm_29 : 135 - k < n_29), ∀ (H : Heap) (locs : List Loc) (ls : Array Slot), gm_St D cs sh (gm_A sh) s'.heap sz I29 J29 H locs → lv_has ls 7 [(0, .ref r), (1, .int (nI j_6)), (2, .int (nI k))] → W p' l e' { frames := 6, cells := 0, slots := 0, locals := 169 } s' m' ([.ref r, .int (nI j_6)] : List Value).toArray be' me' co' H locs 0 0 (MQ be' (va_Qi (fun z u => (lpB I r (nI j_6) = false ∧ z = -2 ∧ u = (I, J)) ∨ (lpB I r (nI j_6) = true ∧ needP I J r (nN (nI j_6)) z u)) (gm_B D cs sh sz) (gm_A sh)) ([.ref r, .int (nI j_6)] : List Value).toArray s' 0 0 (gm_A sh)) (F0 m' 29 ls []) := by
        intro n_29
        induction n_29 with
        | zero => intro k I29 J29 hk hN29 hH29 hfk hm_29; exact absurd hm_29 (Nat.not_lt_zero _)
        | succ n_29 ih29 =>
          intro k I29 J29 hk hN29 hH29 hfk hm_29 H locs ls hh hl
          refine lv_iload_n C.1 C.2.1 d_Md_need_29 rfl (lv_at hl 2 rfl) ?_
          refine lv_sipush (v := nI 135) C.1 C.2.1 d_Md_need_30 rfl ?_
          refine lv_icmp_ge (tgt := 164) C.1 C.2.1 d_Md_need_33 (by decide) (fun c_14 => ?_) (fun c_14 => ?_)
          · -- 33 -> 164
            have c_14 := gm_get (by omega) (by omega) c_14
            have c_14' := Nat.not_lt.mpr c_14
            refine lv_aload_n C.1 C.2.1 d_Md_need_164 rfl (lv_at hl 0 rfl) ?_
            refine gg_i C hh (Md_0 hM) rfl in_Md 13 (by decide) rfl tw_578 rfl d_Md_need_165 ?_
            refine gm_eqi (y := nI 0) (by exact hH29) ?_
            refine lv_if_eq (tgt := 175) C.1 C.2.1 d_Md_need_168 (by decide) (fun c_ => ?_) (fun c_ => absurd (by decide) c_)
            refine lv_iconst (v := nI 0) C.1 C.2.1 d_Md_need_175 rfl ?_
            exact gr_i C hlk hret rfl hh (by first | (refine Or.inr ⟨by assumption, ?_⟩; rw [nN_nI (by omega)]; exact needP_0 hN29 (by rw [← elf_12]; assumption) (hfk.trans (by rw [show 135 - k = 0 by omega]; rfl)) hH29) | (refine Or.inr ⟨by assumption, ?_⟩; skip; rw [nN_nI (by omega), ]; exact needP_1 hN_lf_12 (by rw [← elf_12]; assumption) (hfk.trans (by rw [show 135 - k = (134 - k) + 1 by omega]; refine fkN_yes ?_; unfold ndT; rw [enm, nN_nI (by omega), if_pos ⟨by assumption, by assumption, by rw [← e]; assumption⟩]; omega)))) d_Md_need_176
          · -- 33 -> 36
            have c_14 := gm_gef (by omega) (by omega) c_14
            have c_14' := Nat.not_le.mpr c_14
            refine lv_aload_n C.1 C.2.1 d_Md_need_36 rfl (lv_at hl 0 rfl) ?_
            refine gg_i C hh (Md_0 hM) rfl in_Md 13 (by decide) rfl tw_578 rfl d_Md_need_37 ?_
            refine gm_eqi (y := nI 0) (by exact hH29) ?_
            refine lv_if_ne (tgt := 164) C.1 C.2.1 d_Md_need_40 (by decide) (fun c_ => absurd (by decide) c_) (fun c_ => ?_)
            refine lv_iload_n C.1 C.2.1 d_Md_need_43 rfl (lv_at hl 2 rfl) ?_
            refine lv_bipush (v := nI 45) C.1 C.2.1 d_Md_need_44 rfl ?_
            refine lv_idiv C.1 C.2.1 d_Md_need_46 (by decide) ?_
            refine gm_eqi (pk_div (by omega) (by omega) (by omega)) ?_
            refine lv_iconst (v := nI 1) C.1 C.2.1 d_Md_need_47 rfl ?_
            refine lv_isub C.1 C.2.1 d_Md_need_48 ?_
            refine lv_topi (fun x_15 ex_15 => ?_)
            refine lv_istore_n (lv' := [(3, .int x_15), (0, .ref r), (1, .int (nI j_6)), (2, .int (nI k))]) C.1 C.2.1 d_Md_need_49 rfl hl (by decide) rfl (fun ls hl => ?_)
            refine lv_iload_n C.1 C.2.1 d_Md_need_50 rfl (lv_at hl 3 rfl) ?_
            refine lv_bipush (v := nI 15) C.1 C.2.1 d_Md_need_51 rfl ?_
            refine lv_idiv C.1 C.2.1 d_Md_need_53 (by decide) ?_
            refine gm_eqi (pk_div (by omega) (by omega) (by omega)) ?_
            refine lv_iconst (v := nI 3) C.1 C.2.1 d_Md_need_54 rfl ?_
            refine lv_irem C.1 C.2.1 d_Md_need_55 (by decide) ?_
            refine gm_eqi (pk_rem (by omega) (by omega) (by omega)) ?_
            refine lv_iconst (v := nI 1) C.1 C.2.1 d_Md_need_56 rfl ?_
            refine lv_isub C.1 C.2.1 d_Md_need_57 ?_
            refine lv_topi (fun x_16 ex_16 => ?_)
            refine lv_istore (lv' := [(4, .int x_16), (3, .int x_15), (0, .ref r), (1, .int (nI j_6)), (2, .int (nI k))]) C.1 C.2.1 d_Md_need_58 hl (by decide) rfl (fun ls hl => ?_)
            refine lv_iload_n C.1 C.2.1 d_Md_need_60 rfl (lv_at hl 4 rfl) ?_
            refine lv_iconst (v := nI 5) C.1 C.2.1 d_Md_need_61 rfl ?_
            refine lv_idiv C.1 C.2.1 d_Md_need_62 (by decide) ?_
            refine gm_eqi (pk_div (by omega) (by omega) (by omega)) ?_
            refine lv_iconst (v := nI 3) C.1 C.2.1 d_Md_need_63 rfl ?_
            refine lv_irem C.1 C.2.1 d_Md_need_64 (by decide) ?_
            refine gm_eqi (pk_rem (by omega) (by omega) (by omega)) ?_
            refine lv_iconst (v := nI 1) C.1 C.2.1 d_Md_need_65 rfl ?_
            refine lv_isub C.1 C.2.1 d_Md_need_66 ?_
            refine lv_topi (fun x_17 ex_17 => ?_)
            refine lv_istore (lv' := [(5, .int x_17), (4, .int x_16), (3, .int x_15), (0, .ref r), (1, .int (nI j_6)), (2, .int (nI k))]) C.1 C.2.1 d_Md_need_67 hl (by decide) rfl (fun ls hl => ?_)
            refine lv_iload_n C.1 C.2.1 d_Md_need_69 rfl (lv_at hl 5 rfl) ?_
            refine lv_iconst (v := nI 5) C.1 C.2.1 d_Md_need_70 rfl ?_
            refine lv_irem C.1 C.2.1 d_Md_need_71 (by decide) ?_
            refine gm_eqi (pk_rem (by omega) (by omega) (by omega)) ?_
            refine lv_iconst (v := nI 2) C.1 C.2.1 d_Md_need_72 rfl ?_
            refine lv_isub C.1 C.2.1 d_Md_need_73 ?_
            refine lv_topi (fun x_18 ex_18 => ?_)
            refine lv_istore (lv' := [(6, .int x_18), (5, .int x_17), (4, .int x_16), (3, .int x_15), (0, .ref r), (1, .int (nI j_6)), (2, .int (nI k))]) C.1 C.2.1 d_Md_need_74 hl (by decide) rfl (fun ls hl => ?_)
            refine lv_aload_n C.1 C.2.1 d_Md_need_76 rfl (lv_at hl 4 rfl) ?_
            refine lv_iload_n C.1 C.2.1 d_Md_need_77 rfl (lv_at hl 5 rfl) ?_
            refine lv_iload_n C.1 C.2.1 d_Md_need_78 rfl (lv_at hl 3 rfl) ?_
            refine lv_iload C.1 C.2.1 d_Md_need_79 (lv_at hl 2 rfl) ?_
            refine lv_iload C.1 C.2.1 d_Md_need_81 (lv_at hl 1 rfl) ?_
            refine lv_iconst (v := nI 1) C.1 C.2.1 d_Md_need_83 rfl ?_
            refine gc_i hh (gc_runV (As := [.int (nI j_6), .int x_15, .int x_16, .int x_17, .int (nI 1)]) (rest := []) (n := 5) C hml hh (c_Md_areNumbers l D cs sh sz I29 J29 r hM (inv_eqN hN29 hV) j_6 nm x_15 x_16 x_17 (nI 1) (by omega) ((hN29.1 _ _ (by omega)).trans enm) hnm) (tg_V tw_703 tw_705 tw_28 tw_64 tw_706) (by decide +kernel) ⟨rfl, rfl, by decide, by decide, Nat.zero_le _, Nat.zero_le _⟩ (Md_0 hM) rfl rfl hl.1 rfl (Nat.le_of_ble_eq_true rfl) d_Md_need_84) (fun r_19 I_20 J_21 H locs hr_19 hh => ?_)
            obtain ⟨e_r_19, hr_19⟩ := hr_19
            rw [(Prod.mk.inj e_r_19).1, (Prod.mk.inj e_r_19).2] at hh
            refine lv_if_eq (tgt := 158) C.1 C.2.1 d_Md_need_87 (by decide) (fun c_22 => ?_) (fun c_22 => ?_)
            · -- 87 -> 158
              have b_23 := bI_f hr_19 c_22
              skip
              refine lv_iinc (v := nI (k + 1)) (lv' := [(2, .int (nI (k + 1))), (6, .int x_18), (5, .int x_17), (4, .int x_16), (3, .int x_15), (0, .ref r), (1, .int (nI j_6))]) C.1 C.2.1 d_Md_need_158 hl (k := 6) rfl (gm_inc k 1) (by decide) rfl (fun ls hl => ?_)
              refine lv_goto (tgt := 29) C.1 C.2.1 d_Md_need_161 (by decide) ?_
              exact ih29 (k + 1) I29 J29 (by omega) (by exact hN29) (by exact hH29) (by rw [hfk, show 135 - k = (135 - (k + 1)) + 1 by omega]; refine fkN_on ?_; subst ex_15 ex_16 ex_17 ex_18; unfold ndT; rw [enm, nN_nI (by omega), if_neg (by rintro ⟨q1, q2, q3⟩; first | (rw [show numB nm (nKa k) (nKb k) (nKc k) (nI 1) = false by assumption] at q1; exact absurd q1 (by decide)) | (rw [show lastN I (naJ J r k) r j_6 (nN (I (r + 2) j_6)) = false by assumption] at q2; exact absurd q2 (by decide)) | (rw [← e] at q3; omega))]; omega) (by omega) _ _ _ hh (lv_sub hl [5, 6, 0] rfl)
            · -- 87 -> 90
              have b_24 := bI_t hr_19 c_22
              skip
              refine lv_aload_n C.1 C.2.1 d_Md_need_90 rfl (lv_at hl 4 rfl) ?_
              refine lv_iload_n C.1 C.2.1 d_Md_need_91 rfl (lv_at hl 3 rfl) ?_
              refine lv_i2l (v := x_15.toInt64) C.1 C.2.1 d_Md_need_92 rfl ?_
              refine gp_l C hh (Md_0 hM) rfl in_Md t_Md t_Md_ok n_Md 29 (by decide) rfl tw_594 rfl rfl (by decide +kernel) d_Md_need_93 (fun H locs hh => ?_)
              obtain ⟨J_25, eJ_25⟩ : ∃ z : gm_J, z = gm_up J29 r 29 x_15.toInt64 := ⟨_, rfl⟩
              rw [← eJ_25] at hh
              refine lv_aload_n C.1 C.2.1 d_Md_need_96 rfl (lv_at hl 4 rfl) ?_
              refine lv_iload C.1 C.2.1 d_Md_need_97 (lv_at hl 2 rfl) ?_
              refine lv_i2l (v := x_16.toInt64) C.1 C.2.1 d_Md_need_99 rfl ?_
              refine gp_l C hh (Md_0 hM) rfl in_Md t_Md t_Md_ok n_Md 30 (by decide) rfl tw_595 rfl rfl (by decide +kernel) d_Md_need_100 (fun H locs hh => ?_)
              obtain ⟨J_26, eJ_26⟩ : ∃ z : gm_J, z = gm_up J_25 r 30 x_16.toInt64 := ⟨_, rfl⟩
              rw [← eJ_26] at hh
              refine lv_aload_n C.1 C.2.1 d_Md_need_103 rfl (lv_at hl 4 rfl) ?_
              refine lv_iload C.1 C.2.1 d_Md_need_104 (lv_at hl 1 rfl) ?_
              refine lv_i2l (v := x_17.toInt64) C.1 C.2.1 d_Md_need_106 rfl ?_
              refine gp_l C hh (Md_0 hM) rfl in_Md t_Md t_Md_ok n_Md 31 (by decide) rfl tw_596 rfl rfl (by decide +kernel) d_Md_need_107 (fun H locs hh => ?_)
              obtain ⟨J_27, eJ_27⟩ : ∃ z : gm_J, z = gm_up J_26 r 31 x_17.toInt64 := ⟨_, rfl⟩
              rw [← eJ_27] at hh
              refine lv_aload_n C.1 C.2.1 d_Md_need_110 rfl (lv_at hl 4 rfl) ?_
              refine lv_iload C.1 C.2.1 d_Md_need_111 (lv_at hl 0 rfl) ?_
              refine lv_i2l (v := x_18.toInt64) C.1 C.2.1 d_Md_need_113 rfl ?_
              refine gp_l C hh (Md_0 hM) rfl in_Md t_Md t_Md_ok n_Md 32 (by decide) rfl tw_597 rfl rfl (by decide +kernel) d_Md_need_114 (fun H locs hh => ?_)
              obtain ⟨J_28, eJ_28⟩ : ∃ z : gm_J, z = gm_up J_27 r 32 x_18.toInt64 := ⟨_, rfl⟩
              rw [← eJ_28] at hh
              refine lv_aload_n C.1 C.2.1 d_Md_need_117 rfl (lv_at hl 4 rfl) ?_
              refine lv_aload_n C.1 C.2.1 d_Md_need_118 rfl (lv_at hl 4 rfl) ?_
              refine lv_iload_n C.1 C.2.1 d_Md_need_119 rfl (lv_at hl 5 rfl) ?_
              have eJn : J_28 = naJ J29 r k := by subst ex_15 ex_16 ex_17 ex_18; rw [eJ_28, eJ_27, eJ_26, eJ_25]; rfl
              have hNn : eqN r I J I29 J_28 := by rw [eJn]; exact eqN_na hN29
              have hQn : eqQ r I (naJ J r k) I29 J_28 := eqQ_N hN29 (fun _ _ _ _ => rfl) (fun i _ _ => by rw [eJn])
              refine gc_i hh (gc_runV (As := [.int (nI j_6)]) (rest := [.ref r]) (n := 1) C hml hh (c_Md_lasts l D cs sh sz I29 J_28 r hM (inv_eqN hNn hV) hNn.2.2 j_6 (by omega)) (tg_V tw_831 tw_833 tw_47 tw_64 tw_834) (by decide +kernel) ⟨rfl, rfl, by decide, by decide, Nat.zero_le _, Nat.zero_le _⟩ (Md_0 hM) rfl rfl hl.1 rfl (Nat.le_of_ble_eq_true rfl) d_Md_need_120) (fun r_29 I_30 J_31 H locs hr_29 hh => ?_)
              obtain ⟨hr_29, hSl⟩ := hr_29
              rw [lastN_eqQ hQn, hN29.1 (r + 2) _ (by omega)] at hr_29
              have hNl := eqN_trans hNn (eqN_S hSl)
              have hQl : eqQ r I (naJ J r k) I_30 J_31 := eqQ_N hN29 (fun c _ _ i => hSl.1 _ _ (by omega)) (fun i h1 h2 => (hSl.2.1 r i (by omega)).trans (by rw [eJn]))
              refine lv_if_eq (tgt := 139) C.1 C.2.1 d_Md_need_123 (by decide) (fun c_32 => ?_) (fun c_32 => ?_)
              · -- 123 -> 139
                have b_33 := bI_f hr_29 c_32
                skip
                refine lv_iconst (v := nI 0) C.1 C.2.1 d_Md_need_139 rfl ?_
                refine gp_i (ty := .boolean) C hh (Md_0 hM) rfl in_Md t_Md t_Md_ok n_Md 13 (by decide) rfl tw_578 rfl rfl (by decide +kernel) (gm_nb (Or.inl rfl)) (gm_fb (Or.inl rfl)) d_Md_need_140 (fun H locs hh => ?_)
                obtain ⟨I_34, eI_34⟩ : ∃ z : gm_I, z = gm_up I_30 r 13 (nI 0) := ⟨_, rfl⟩
                rw [← eI_34] at hh
                refine lv_aload_n C.1 C.2.1 d_Md_need_143 rfl (lv_at hl 4 rfl) ?_
                refine gg_r C hh (Md_0 hM) rfl in_Md 14 (by decide) rfl tw_579 rfl d_Md_need_144 ?_
                refine lv_iconst (v := nI 0) C.1 C.2.1 d_Md_need_147 rfl ?_
                refine lv_iload_n C.1 C.2.1 d_Md_need_148 rfl (lv_at hl 3 rfl) ?_
                refine lv_iload C.1 C.2.1 d_Md_need_149 (lv_at hl 2 rfl) ?_
                refine lv_iload C.1 C.2.1 d_Md_need_151 (lv_at hl 1 rfl) ?_
                refine lv_iload C.1 C.2.1 d_Md_need_153 (lv_at hl 0 rfl) ?_
                refine gc_v hh (gc_runS (As := [.ref (r + 11), .int (nI 0), .int x_15, .int x_16, .int x_17, .int x_18]) (rest := []) (n := 6) C hml hh (c_Md_lay l D cs sh sz I_34 J_31 (r + 11) 4 0 x_15 x_16 x_17 x_18 (Md_11 hM) (by omega) (by omega)) (tg_S tw_707 tw_708 tw_64 tw_709) (by decide +kernel) ⟨rfl, rfl, by decide, by decide, Nat.zero_le _, Nat.zero_le _⟩ rfl hl.1 rfl (Nat.le_of_ble_eq_true rfl) d_Md_need_155) (fun I_36 J_37 H locs hr_35 hh => ?_)
                obtain ⟨X_38, eX_38⟩ : ∃ z : gm_I, z = gm_up I_34 (r + 11) 0 x_15 := ⟨_, rfl⟩
                obtain ⟨X_39, eX_39⟩ : ∃ z : gm_I, z = gm_up X_38 (r + 11) (0 + 1) x_16 := ⟨_, rfl⟩
                obtain ⟨X_40, eX_40⟩ : ∃ z : gm_I, z = gm_up X_39 (r + 11) (0 + 2) x_17 := ⟨_, rfl⟩
                obtain ⟨X_41, eX_41⟩ : ∃ z : gm_I, z = gm_up X_40 (r + 11) (0 + 3) x_18 := ⟨_, rfl⟩
                rw [← eX_38, ← eX_39, ← eX_40, ← eX_41] at hr_35
                rw [(Prod.mk.inj hr_35).1, (Prod.mk.inj hr_35).2] at hh
                refine lv_iinc (v := nI (k + 1)) (lv' := [(2, .int (nI (k + 1))), (6, .int x_18), (5, .int x_17), (4, .int x_16), (3, .int x_15), (0, .ref r), (1, .int (nI j_6))]) C.1 C.2.1 d_Md_need_158 hl (k := 6) rfl (gm_inc k 1) (by decide) rfl (fun ls hl => ?_)
                refine lv_goto (tgt := 29) C.1 C.2.1 d_Md_need_161 (by decide) ?_
                exact ih29 (k + 1) X_41 J_31 (by omega) (by exact (by rw [eX_41, eX_40, eX_39, eX_38, eI_34]; exact eqN_lay hNl)) (by exact (by rw [eX_41, eX_40, eX_39, eX_38, eI_34]; exact lay_13)) (by rw [hfk, show 135 - k = (135 - (k + 1)) + 1 by omega]; refine fkN_on ?_; subst ex_15 ex_16 ex_17 ex_18; unfold ndT; rw [enm, nN_nI (by omega), if_neg (by rintro ⟨q1, q2, q3⟩; first | (rw [show numB nm (nKa k) (nKb k) (nKc k) (nI 1) = false by assumption] at q1; exact absurd q1 (by decide)) | (rw [show lastN I (naJ J r k) r j_6 (nN (I (r + 2) j_6)) = false by assumption] at q2; exact absurd q2 (by decide)) | (rw [← e] at q3; omega))]; omega) (by omega) _ _ _ hh (lv_sub hl [5, 6, 0] rfl)
              · -- 123 -> 126
                have b_42 := bI_t hr_29 c_32
                skip
                refine lv_aload_n C.1 C.2.1 d_Md_need_126 rfl (lv_at hl 4 rfl) ?_
                refine lv_iload_n C.1 C.2.1 d_Md_need_127 rfl (lv_at hl 5 rfl) ?_
                refine lv_iconst (v := nI 1) C.1 C.2.1 d_Md_need_128 rfl ?_
                refine gc_i hh (gc_runV (As := [.int (nI j_6), .int (nI 1)]) (rest := [.ref r]) (n := 2) C hml hh (c_Md_leftBy l D cs sh sz I_30 J_31 r hM (inv_eqN hNl hV) hNl.2.2 j_6 (by omega) (nI 1) true rfl) (tg_V tw_811 tw_813 tw_45 tw_64 tw_814) (by decide +kernel) ⟨rfl, rfl, by decide, by decide, Nat.zero_le _, Nat.zero_le _⟩ (Md_0 hM) rfl rfl hl.1 rfl (Nat.le_of_ble_eq_true rfl) d_Md_need_129) (fun r_43 I_44 J_45 H locs hr_43 hh => ?_)
                obtain ⟨hr_43, l8_lf_46, -, hE_lf_46, -, -⟩ := hr_43
                rw [leftR_eqQ hQl] at hr_43 l8_lf_46
                obtain ⟨lf_46, elf_46⟩ : ∃ z_ : Nat, z_ = (leftR I (naJ J r k) r j_6 true).2 := ⟨_, rfl⟩
                rw [← elf_46] at hr_43 l8_lf_46
                rw [hr_43]
                have hN_lf_46 := eqN_trans hNl (eqN_L hE_lf_46)
                refine lv_if_ne (tgt := 139) C.1 C.2.1 d_Md_need_132 (by decide) (fun c_47 => ?_) (fun c_47 => ?_)
                · -- 132 -> 139
                  have c_47 := gm_net (b := 0) (by omega) (by omega) c_47
                  refine lv_iconst (v := nI 0) C.1 C.2.1 d_Md_need_139 rfl ?_
                  refine gp_i (ty := .boolean) C hh (Md_0 hM) rfl in_Md t_Md t_Md_ok n_Md 13 (by decide) rfl tw_578 rfl rfl (by decide +kernel) (gm_nb (Or.inl rfl)) (gm_fb (Or.inl rfl)) d_Md_need_140 (fun H locs hh => ?_)
                  obtain ⟨I_48, eI_48⟩ : ∃ z : gm_I, z = gm_up I_44 r 13 (nI 0) := ⟨_, rfl⟩
                  rw [← eI_48] at hh
                  refine lv_aload_n C.1 C.2.1 d_Md_need_143 rfl (lv_at hl 4 rfl) ?_
                  refine gg_r C hh (Md_0 hM) rfl in_Md 14 (by decide) rfl tw_579 rfl d_Md_need_144 ?_
                  refine lv_iconst (v := nI 0) C.1 C.2.1 d_Md_need_147 rfl ?_
                  refine lv_iload_n C.1 C.2.1 d_Md_need_148 rfl (lv_at hl 3 rfl) ?_
                  refine lv_iload C.1 C.2.1 d_Md_need_149 (lv_at hl 2 rfl) ?_
                  refine lv_iload C.1 C.2.1 d_Md_need_151 (lv_at hl 1 rfl) ?_
                  refine lv_iload C.1 C.2.1 d_Md_need_153 (lv_at hl 0 rfl) ?_
                  refine gc_v hh (gc_runS (As := [.ref (r + 11), .int (nI 0), .int x_15, .int x_16, .int x_17, .int x_18]) (rest := []) (n := 6) C hml hh (c_Md_lay l D cs sh sz I_48 J_45 (r + 11) 4 0 x_15 x_16 x_17 x_18 (Md_11 hM) (by omega) (by omega)) (tg_S tw_707 tw_708 tw_64 tw_709) (by decide +kernel) ⟨rfl, rfl, by decide, by decide, Nat.zero_le _, Nat.zero_le _⟩ rfl hl.1 rfl (Nat.le_of_ble_eq_true rfl) d_Md_need_155) (fun I_50 J_51 H locs hr_49 hh => ?_)
                  obtain ⟨X_52, eX_52⟩ : ∃ z : gm_I, z = gm_up I_48 (r + 11) 0 x_15 := ⟨_, rfl⟩
                  obtain ⟨X_53, eX_53⟩ : ∃ z : gm_I, z = gm_up X_52 (r + 11) (0 + 1) x_16 := ⟨_, rfl⟩
                  obtain ⟨X_54, eX_54⟩ : ∃ z : gm_I, z = gm_up X_53 (r + 11) (0 + 2) x_17 := ⟨_, rfl⟩
                  obtain ⟨X_55, eX_55⟩ : ∃ z : gm_I, z = gm_up X_54 (r + 11) (0 + 3) x_18 := ⟨_, rfl⟩
                  rw [← eX_52, ← eX_53, ← eX_54, ← eX_55] at hr_49
                  rw [(Prod.mk.inj hr_49).1, (Prod.mk.inj hr_49).2] at hh
                  refine lv_iinc (v := nI (k + 1)) (lv' := [(2, .int (nI (k + 1))), (6, .int x_18), (5, .int x_17), (4, .int x_16), (3, .int x_15), (0, .ref r), (1, .int (nI j_6))]) C.1 C.2.1 d_Md_need_158 hl (k := 6) rfl (gm_inc k 1) (by decide) rfl (fun ls hl => ?_)
                  refine lv_goto (tgt := 29) C.1 C.2.1 d_Md_need_161 (by decide) ?_
                  exact ih29 (k + 1) X_55 J_45 (by omega) (by exact (by rw [eX_55, eX_54, eX_53, eX_52, eI_48]; exact eqN_lay hN_lf_46)) (by exact (by rw [eX_55, eX_54, eX_53, eX_52, eI_48]; exact lay_13)) (by rw [hfk, show 135 - k = (135 - (k + 1)) + 1 by omega]; refine fkN_on ?_; subst ex_15 ex_16 ex_17 ex_18; unfold ndT; rw [enm, nN_nI (by omega), if_neg (by rintro ⟨q1, q2, q3⟩; first | (rw [show numB nm (nKa k) (nKb k) (nKc k) (nI 1) = false by assumption] at q1; exact absurd q1 (by decide)) | (rw [show lastN I (naJ J r k) r j_6 (nN (I (r + 2) j_6)) = false by assumption] at q2; exact absurd q2 (by decide)) | (rw [← elf_46] at q3; omega))]; omega) (by omega) _ _ _ hh (lv_sub hl [5, 6, 0] rfl)
                · -- 132 -> 135
                  have c_47 := gm_nef (b := 0) (by omega) (by omega) c_47
                  refine lv_iconst (v := nI 1) C.1 C.2.1 d_Md_need_135 rfl ?_
                  refine lv_goto (tgt := 140) C.1 C.2.1 d_Md_need_136 (by decide) ?_
                  refine gp_i (ty := .boolean) C hh (Md_0 hM) rfl in_Md t_Md t_Md_ok n_Md 13 (by decide) rfl tw_578 rfl rfl (by decide +kernel) (gm_nb (Or.inr rfl)) (gm_fb (Or.inr rfl)) d_Md_need_140 (fun H locs hh => ?_)
                  obtain ⟨I_56, eI_56⟩ : ∃ z : gm_I, z = gm_up I_44 r 13 (nI 1) := ⟨_, rfl⟩
                  rw [← eI_56] at hh
                  refine lv_aload_n C.1 C.2.1 d_Md_need_143 rfl (lv_at hl 4 rfl) ?_
                  refine gg_r C hh (Md_0 hM) rfl in_Md 14 (by decide) rfl tw_579 rfl d_Md_need_144 ?_
                  refine lv_iconst (v := nI 0) C.1 C.2.1 d_Md_need_147 rfl ?_
                  refine lv_iload_n C.1 C.2.1 d_Md_need_148 rfl (lv_at hl 3 rfl) ?_
                  refine lv_iload C.1 C.2.1 d_Md_need_149 (lv_at hl 2 rfl) ?_
                  refine lv_iload C.1 C.2.1 d_Md_need_151 (lv_at hl 1 rfl) ?_
                  refine lv_iload C.1 C.2.1 d_Md_need_153 (lv_at hl 0 rfl) ?_
                  refine gc_v hh (gc_runS (As := [.ref (r + 11), .int (nI 0), .int x_15, .int x_16, .int x_17, .int x_18]) (rest := []) (n := 6) C hml hh (c_Md_lay l D cs sh sz I_56 J_45 (r + 11) 4 0 x_15 x_16 x_17 x_18 (Md_11 hM) (by omega) (by omega)) (tg_S tw_707 tw_708 tw_64 tw_709) (by decide +kernel) ⟨rfl, rfl, by decide, by decide, Nat.zero_le _, Nat.zero_le _⟩ rfl hl.1 rfl (Nat.le_of_ble_eq_true rfl) d_Md_need_155) (fun I_58 J_59 H locs hr_57 hh => ?_)
                  obtain ⟨X_60, eX_60⟩ : ∃ z : gm_I, z = gm_up I_56 (r + 11) 0 x_15 := ⟨_, rfl⟩
                  obtain ⟨X_61, eX_61⟩ : ∃ z : gm_I, z = gm_up X_60 (r + 11) (0 + 1) x_16 := ⟨_, rfl⟩
                  obtain ⟨X_62, eX_62⟩ : ∃ z : gm_I, z = gm_up X_61 (r + 11) (0 + 2) x_17 := ⟨_, rfl⟩
                  obtain ⟨X_63, eX_63⟩ : ∃ z : gm_I, z = gm_up X_62 (r + 11) (0 + 3) x_18 := ⟨_, rfl⟩
                  rw [← eX_60, ← eX_61, ← eX_62, ← eX_63] at hr_57
                  rw [(Prod.mk.inj hr_57).1, (Prod.mk.inj hr_57).2] at hh
                  refine lv_iinc (v := nI (k + 1)) (lv' := [(2, .int (nI (k + 1))), (6, .int x_18), (5, .int x_17), (4, .int x_16), (3, .int x_15), (0, .ref r), (1, .int (nI j_6))]) C.1 C.2.1 d_Md_need_158 hl (k := 6) rfl (gm_inc k 1) (by decide) rfl (fun ls hl => ?_)
                  refine lv_goto (tgt := 29) C.1 C.2.1 d_Md_need_161 (by decide) ?_
                  refine lv_iload_n C.1 C.2.1 d_Md_need_29 rfl (lv_at hl 0 rfl) ?_
                  refine lv_sipush (v := nI 135) C.1 C.2.1 d_Md_need_30 rfl ?_
                  refine lv_icmp_ge (tgt := 164) C.1 C.2.1 d_Md_need_33 (by decide) (fun c_64 => ?_) (fun c_64 => ?_)
                  · -- 33 -> 164
                    have c_64 := gm_get (by omega) (by omega) c_64
                    have c_64' := Nat.not_lt.mpr c_64
                    refine lv_aload_n C.1 C.2.1 d_Md_need_164 rfl (lv_at hl 5 rfl) ?_
                    refine gg_i C hh (Md_0 hM) rfl in_Md 13 (by decide) rfl tw_578 rfl d_Md_need_165 ?_
                    refine gm_eqi (y := nI 1) (by rw [eX_63, gm_up_ne _ _ (Or.inl (by omega)), eX_62, gm_up_ne _ _ (Or.inl (by omega)), eX_61, gm_up_ne _ _ (Or.inl (by omega)), eX_60, gm_up_ne _ _ (Or.inl (by omega)), eI_56, gm_up_same]) ?_
                    refine lv_if_eq (tgt := 175) C.1 C.2.1 d_Md_need_168 (by decide) (fun c_ => absurd c_ (by decide)) (fun c_ => ?_)
                    refine lv_iconst (v := nI 1) C.1 C.2.1 d_Md_need_171 rfl ?_
                    refine lv_goto (tgt := 176) C.1 C.2.1 d_Md_need_172 (by decide) ?_
                    exact gr_i C hlk hret rfl hh (by first | (refine Or.inr ⟨by assumption, ?_⟩; rw [nN_nI (by omega)]; exact needP_0 hN29 (by rw [← elf_12]; assumption) (hfk.trans (by rw [show 135 - k = 0 by omega]; rfl)) hH29) | (refine Or.inr ⟨by assumption, ?_⟩; subst ex_15 ex_16 ex_17 ex_18; rw [nN_nI (by omega), eX_63, eX_62, eX_61, eX_60, eI_56]; exact needP_1 hN_lf_46 (by rw [← elf_12]; assumption) (hfk.trans (by rw [show 135 - k = (134 - k) + 1 by omega]; refine fkN_yes ?_; unfold ndT; rw [enm, nN_nI (by omega), if_pos ⟨by assumption, by assumption, by rw [← elf_46]; assumption⟩]; omega)))) d_Md_need_176
                  · -- 33 -> 36
                    have c_64 := gm_gef (by omega) (by omega) c_64
                    have c_64' := Nat.not_le.mpr c_64
                    refine lv_aload_n C.1 C.2.1 d_Md_need_36 rfl (lv_at hl 5 rfl) ?_
                    refine gg_i C hh (Md_0 hM) rfl in_Md 13 (by decide) rfl tw_578 rfl d_Md_need_37 ?_
                    refine gm_eqi (y := nI 1) (by rw [eX_63, gm_up_ne _ _ (Or.inl (by omega)), eX_62, gm_up_ne _ _ (Or.inl (by omega)), eX_61, gm_up_ne _ _ (Or.inl (by omega)), eX_60, gm_up_ne _ _ (Or.inl (by omega)), eI_56, gm_up_same]) ?_
                    refine lv_if_ne (tgt := 164) C.1 C.2.1 d_Md_need_40 (by decide) (fun c_ => ?_) (fun c_ => absurd c_ (by decide))
                    refine lv_aload_n C.1 C.2.1 d_Md_need_164 rfl (lv_at hl 5 rfl) ?_
                    refine gg_i C hh (Md_0 hM) rfl in_Md 13 (by decide) rfl tw_578 rfl d_Md_need_165 ?_
                    refine gm_eqi (y := nI 1) (by rw [eX_63, gm_up_ne _ _ (Or.inl (by omega)), eX_62, gm_up_ne _ _ (Or.inl (by omega)), eX_61, gm_up_ne _ _ (Or.inl (by omega)), eX_60, gm_up_ne _ _ (Or.inl (by omega)), eI_56, gm_up_same]) ?_
                    refine lv_if_eq (tgt := 175) C.1 C.2.1 d_Md_need_168 (by decide) (fun c_ => absurd c_ (by decide)) (fun c_ => ?_)
                    refine lv_iconst (v := nI 1) C.1 C.2.1 d_Md_need_171 rfl ?_
                    refine lv_goto (tgt := 176) C.1 C.2.1 d_Md_need_172 (by decide) ?_
                    exact gr_i C hlk hret rfl hh (by first | (refine Or.inr ⟨by assumption, ?_⟩; rw [nN_nI (by omega)]; exact needP_0 hN29 (by rw [← elf_12]; assumption) (hfk.trans (by rw [show 135 - k = 0 by omega]; rfl)) hH29) | (refine Or.inr ⟨by assumption, ?_⟩; subst ex_15 ex_16 ex_17 ex_18; rw [nN_nI (by omega), eX_63, eX_62, eX_61, eX_60, eI_56]; exact needP_1 hN_lf_46 (by rw [← elf_12]; assumption) (hfk.trans (by rw [show 135 - k = (134 - k) + 1 by omega]; refine fkN_yes ?_; unfold ndT; rw [enm, nN_nI (by omega), if_pos ⟨by assumption, by assumption, by rw [← elf_46]; assumption⟩]; omega)))) d_Md_need_176
      exact K29 _ 0 I_10 J_11 (by omega) (by exact hN_lf_12) (by exact hH_lf_12) (by rfl) (Nat.lt_succ_self _) _ _ _ hh (lv_sub hl [1, 2, 0] rfl)
    · -- 22 -> 25
      have c_13 := gm_nef (b := 0) (by omega) (by omega) c_13
      refine lv_iconst (v := nI 2) C.1 C.2.1 d_Md_need_25 rfl ?_
      exact gr_i C hlk hret rfl hh (by refine Or.inr ⟨by assumption, ?_⟩; rw [nN_nI (by omega)]; exact needP_2 hN_lf_12 (by rw [← elf_12]; assumption) hH_lf_12) d_Md_need_26
  · -- 5 -> 8
    have b_65 := bI_f hr_1 c_4
    skip
    refine lv_bipush (v := (-2)) C.1 C.2.1 d_Md_need_8 rfl ?_
    exact gr_i C hlk hret rfl hh (by exact Or.inl ⟨by assumption, rfl, rfl⟩) d_Md_need_10
