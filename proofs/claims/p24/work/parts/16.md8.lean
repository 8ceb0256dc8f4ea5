set_option maxHeartbeats 4000000 in
set_option maxRecDepth 100000 in
theorem c_Md_goes (l : Launch) (D : va_G) (cs : Nat → ClassId) (sh : gm_H) (sz : Nat) (I : gm_I) (J : gm_J) (r : Nat) (hM : is_Md sh r) (hV : inv_Md I r) (j : Nat) (hj : j < 8) (k : Nat) (hk : k < 3) : CI l y_Md_goes w_Md_goes { frames := 1, cells := 0, slots := 0, locals := 23 } D cs sh sz I J [.ref r, .int (nI j), .int (nI k)] (fun z u => (z, u) = sp_goes I J r j k) := by
  refine gm_start (by decide) (Nat.le_of_ble_eq_true rfl) ?_
  intro p' e' s' m' be' me' co' ls C hml hlk hret hh hl
  have hl : lv_has ls 11 [(0, .ref r), (1, .int (nI j)), (2, .int (nI k))] := hl
  refine lv_iconst (v := nI 3) C.1 C.2.1 d_Md_goes_0 rfl ?_
  refine lv_iload_n C.1 C.2.1 d_Md_goes_1 rfl (lv_at hl 1 rfl) ?_
  refine lv_imul C.1 C.2.1 d_Md_goes_2 ?_
  refine gm_eqi (pk_mul _ _) ?_
  refine lv_iload_n C.1 C.2.1 d_Md_goes_3 rfl (lv_at hl 2 rfl) ?_
  refine lv_iadd C.1 C.2.1 d_Md_goes_4 ?_
  refine gm_eqi (nI_add _ _) ?_
  refine lv_istore_n (lv' := [(3, .int (nI ((3 * j) + k))), (0, .ref r), (1, .int (nI j)), (2, .int (nI k))]) C.1 C.2.1 d_Md_goes_5 rfl hl (by decide) rfl (fun ls hl => ?_)
  refine lv_aload_n C.1 C.2.1 d_Md_goes_6 rfl (lv_at hl 1 rfl) ?_
  refine lv_iload_n C.1 C.2.1 d_Md_goes_7 rfl (lv_at hl 0 rfl) ?_
  refine lv_iconst (v := nI 0) C.1 C.2.1 d_Md_goes_8 rfl ?_
  refine gc_l hh (gc_runV (As := [.int (nI ((3 * j) + k)), .int (nI 0)]) (rest := []) (n := 2) C hml hh (c_Md_becomes l D cs sh sz I J r hM ((3 * j) + k) 0 (by omega) (by omega)) (tg_V tw_878 tw_880 tw_53 tw_64 tw_881) (by decide +kernel) ⟨rfl, rfl, by decide, by decide, Nat.zero_le _, Nat.zero_le _⟩ (Md_0 hM) rfl rfl hl.1 rfl (Nat.le_of_ble_eq_true rfl) d_Md_goes_9) (fun r_1 I_2 J_3 H locs hr_1 hh => ?_)
  obtain ⟨e_r_1, hr_1⟩ := hr_1
  rw [(Prod.mk.inj e_r_1).1, (Prod.mk.inj e_r_1).2] at hh
  refine lv_lstore (lv' := [(4, .long r_1), (3, .int (nI ((3 * j) + k))), (0, .ref r), (1, .int (nI j)), (2, .int (nI k))]) C.1 C.2.1 d_Md_goes_12 hl (by decide) rfl (fun ls hl => ?_)
  refine lv_aload_n C.1 C.2.1 d_Md_goes_14 rfl (lv_at hl 2 rfl) ?_
  refine gg_r C hh (Md_0 hM) rfl in_Md 1 (by decide) rfl tw_566 rfl d_Md_goes_15 ?_
  refine lv_iload_n C.1 C.2.1 d_Md_goes_18 rfl (lv_at hl 3 rfl) ?_
  refine ga_i C hh (Md_1 hM) (k := j) rfl (by omega) (by omega) d_Md_goes_19 ?_
  obtain ⟨g_4, hg_4, eg_4⟩ := hV.2.1 j (by omega)
  refine gm_eqi eg_4 ?_
  refine lv_iconst (v := nI 1) C.1 C.2.1 d_Md_goes_20 rfl ?_
  refine lv_icmp_le (tgt := 33) C.1 C.2.1 d_Md_goes_21 (by decide) (fun c_5 => ?_) (fun c_5 => ?_)
  · -- 21 -> 33
    have c_5 := gm_let (by omega) (by omega) c_5
    have c_5' := Nat.not_lt.mpr c_5
    refine lv_lconst (v := 0) C.1 C.2.1 d_Md_goes_33 rfl ?_
    refine lv_topl (fun x_6 ex_6 => ?_)
    refine lv_lstore (lv' := [(6, .long x_6), (4, .long r_1), (3, .int (nI ((3 * j) + k))), (0, .ref r), (1, .int (nI j)), (2, .int (nI k))]) C.1 C.2.1 d_Md_goes_34 hl (by decide) rfl (fun ls hl => ?_)
    refine lv_aload_n C.1 C.2.1 d_Md_goes_36 rfl (lv_at hl 3 rfl) ?_
    refine gg_r C hh (Md_0 hM) rfl in_Md 1 (by decide) rfl tw_566 rfl d_Md_goes_37 ?_
    refine lv_iload_n C.1 C.2.1 d_Md_goes_40 rfl (lv_at hl 4 rfl) ?_
    refine ga_i C hh (Md_1 hM) (k := j) rfl (by omega) (by omega) d_Md_goes_41 ?_
    refine gm_eqi eg_4 ?_
    refine lv_iconst (v := nI 2) C.1 C.2.1 d_Md_goes_42 rfl ?_
    refine lv_icmp_le (tgt := 55) C.1 C.2.1 d_Md_goes_43 (by decide) (fun c_7 => ?_) (fun c_7 => ?_)
    · -- 43 -> 55
      have c_7 := gm_let (by omega) (by omega) c_7
      have c_7' := Nat.not_lt.mpr c_7
      refine lv_lconst (v := 0) C.1 C.2.1 d_Md_goes_55 rfl ?_
      refine lv_topl (fun x_8 ex_8 => ?_)
      refine lv_lstore (lv' := [(8, .long x_8), (6, .long x_6), (4, .long r_1), (3, .int (nI ((3 * j) + k))), (0, .ref r), (1, .int (nI j)), (2, .int (nI k))]) C.1 C.2.1 d_Md_goes_56 hl (by decide) rfl (fun ls hl => ?_)
      refine lv_lload C.1 C.2.1 d_Md_goes_58 (lv_at hl 2 rfl) ?_
      refine gc_i hh (gc_runS (As := [.long r_1]) (rest := []) (n := 1) C hml hh (c_Md_isNear l D cs sh sz I J r_1) (tg_S tw_882 tw_883 tw_64 tw_884) (by decide +kernel) ⟨rfl, rfl, by decide, by decide, Nat.zero_le _, Nat.zero_le _⟩ rfl hl.1 rfl (Nat.le_of_ble_eq_true rfl) d_Md_goes_60) (fun r_9 I_10 J_11 H locs hr_9 hh => ?_)
      obtain ⟨e_r_9, hr_9⟩ := hr_9
      rw [(Prod.mk.inj e_r_9).1, (Prod.mk.inj e_r_9).2] at hh
      refine lv_if_eq (tgt := 86) C.1 C.2.1 d_Md_goes_63 (by decide) (fun c_12 => ?_) (fun c_12 => ?_)
      · -- 63 -> 86
        have b_13 := bI_f hr_9 c_12
        skip
        refine lv_iconst (v := nI 0) C.1 C.2.1 d_Md_goes_86 rfl ?_
        refine lv_istore (lv' := [(10, .int (nI 0)), (8, .long x_8), (6, .long x_6), (4, .long r_1), (3, .int (nI ((3 * j) + k))), (0, .ref r), (1, .int (nI j)), (2, .int (nI k))]) C.1 C.2.1 d_Md_goes_87 hl (by decide) rfl (fun ls hl => ?_)
        refine lv_iload C.1 C.2.1 d_Md_goes_89 (lv_at hl 0 rfl) ?_
        refine lv_if_eq (tgt := 112) C.1 C.2.1 d_Md_goes_91 (by decide) (fun c_ => ?_) (fun c_ => absurd (by decide) c_)
        refine lv_iload C.1 C.2.1 d_Md_goes_112 (lv_at hl 0 rfl) ?_
        exact gr_i C hlk hret (gm_nb (Or.inl rfl)) hh (by subst hr_1 ex_6 ex_8 hr_9; first | (simp (disch := omega) [sp_goes, goB, goV, xyz, nI_clamp, nI_0, nI_one, eg_4, c_5', c_5, c_7', c_7, b_13]; done) | (exfalso; simp_all; done)) d_Md_goes_114
      · -- 63 -> 66
        have b_14 := bI_t hr_9 c_12
        skip
        refine lv_lload C.1 C.2.1 d_Md_goes_66 (lv_at hl 1 rfl) ?_
        refine gc_i hh (gc_runS (As := [.long x_6]) (rest := []) (n := 1) C hml hh (c_Md_isNear l D cs sh sz I J x_6) (tg_S tw_882 tw_883 tw_64 tw_884) (by decide +kernel) ⟨rfl, rfl, by decide, by decide, Nat.zero_le _, Nat.zero_le _⟩ rfl hl.1 rfl (Nat.le_of_ble_eq_true rfl) d_Md_goes_68) (fun r_15 I_16 J_17 H locs hr_15 hh => ?_)
        obtain ⟨e_r_15, hr_15⟩ := hr_15
        rw [(Prod.mk.inj e_r_15).1, (Prod.mk.inj e_r_15).2] at hh
        refine lv_if_eq (tgt := 86) C.1 C.2.1 d_Md_goes_71 (by decide) (fun c_18 => ?_) (fun c_18 => ?_)
        · -- 71 -> 86
          have b_19 := bI_f hr_15 c_18
          skip
          refine lv_iconst (v := nI 0) C.1 C.2.1 d_Md_goes_86 rfl ?_
          refine lv_istore (lv' := [(10, .int (nI 0)), (8, .long x_8), (6, .long x_6), (4, .long r_1), (3, .int (nI ((3 * j) + k))), (0, .ref r), (1, .int (nI j)), (2, .int (nI k))]) C.1 C.2.1 d_Md_goes_87 hl (by decide) rfl (fun ls hl => ?_)
          refine lv_iload C.1 C.2.1 d_Md_goes_89 (lv_at hl 0 rfl) ?_
          refine lv_if_eq (tgt := 112) C.1 C.2.1 d_Md_goes_91 (by decide) (fun c_ => ?_) (fun c_ => absurd (by decide) c_)
          refine lv_iload C.1 C.2.1 d_Md_goes_112 (lv_at hl 0 rfl) ?_
          exact gr_i C hlk hret (gm_nb (Or.inl rfl)) hh (by subst hr_1 ex_6 ex_8 hr_9 hr_15; first | (simp (disch := omega) [sp_goes, goB, goV, xyz, nI_clamp, nI_0, nI_one, eg_4, c_5', c_5, c_7', c_7, b_14, b_19]; done) | (exfalso; simp_all; done)) d_Md_goes_114
        · -- 71 -> 74
          have b_20 := bI_t hr_15 c_18
          skip
          refine lv_lload C.1 C.2.1 d_Md_goes_74 (lv_at hl 0 rfl) ?_
          refine gc_i hh (gc_runS (As := [.long x_8]) (rest := []) (n := 1) C hml hh (c_Md_isNear l D cs sh sz I J x_8) (tg_S tw_882 tw_883 tw_64 tw_884) (by decide +kernel) ⟨rfl, rfl, by decide, by decide, Nat.zero_le _, Nat.zero_le _⟩ rfl hl.1 rfl (Nat.le_of_ble_eq_true rfl) d_Md_goes_76) (fun r_21 I_22 J_23 H locs hr_21 hh => ?_)
          obtain ⟨e_r_21, hr_21⟩ := hr_21
          rw [(Prod.mk.inj e_r_21).1, (Prod.mk.inj e_r_21).2] at hh
          refine lv_if_eq (tgt := 86) C.1 C.2.1 d_Md_goes_79 (by decide) (fun c_24 => ?_) (fun c_24 => ?_)
          · -- 79 -> 86
            have b_25 := bI_f hr_21 c_24
            skip
            refine lv_iconst (v := nI 0) C.1 C.2.1 d_Md_goes_86 rfl ?_
            refine lv_istore (lv' := [(10, .int (nI 0)), (8, .long x_8), (6, .long x_6), (4, .long r_1), (3, .int (nI ((3 * j) + k))), (0, .ref r), (1, .int (nI j)), (2, .int (nI k))]) C.1 C.2.1 d_Md_goes_87 hl (by decide) rfl (fun ls hl => ?_)
            refine lv_iload C.1 C.2.1 d_Md_goes_89 (lv_at hl 0 rfl) ?_
            refine lv_if_eq (tgt := 112) C.1 C.2.1 d_Md_goes_91 (by decide) (fun c_ => ?_) (fun c_ => absurd (by decide) c_)
            refine lv_iload C.1 C.2.1 d_Md_goes_112 (lv_at hl 0 rfl) ?_
            exact gr_i C hlk hret (gm_nb (Or.inl rfl)) hh (by subst hr_1 ex_6 ex_8 hr_9 hr_15 hr_21; first | (simp (disch := omega) [sp_goes, goB, goV, xyz, nI_clamp, nI_0, nI_one, eg_4, c_5', c_5, c_7', c_7, b_14, b_20, b_25]; done) | (exfalso; simp_all; done)) d_Md_goes_114
          · -- 79 -> 82
            have b_26 := bI_t hr_21 c_24
            skip
            refine lv_iconst (v := nI 1) C.1 C.2.1 d_Md_goes_82 rfl ?_
            refine lv_goto (tgt := 87) C.1 C.2.1 d_Md_goes_83 (by decide) ?_
            refine lv_istore (lv' := [(10, .int (nI 1)), (8, .long x_8), (6, .long x_6), (4, .long r_1), (3, .int (nI ((3 * j) + k))), (0, .ref r), (1, .int (nI j)), (2, .int (nI k))]) C.1 C.2.1 d_Md_goes_87 hl (by decide) rfl (fun ls hl => ?_)
            refine lv_iload C.1 C.2.1 d_Md_goes_89 (lv_at hl 0 rfl) ?_
            refine lv_if_eq (tgt := 112) C.1 C.2.1 d_Md_goes_91 (by decide) (fun c_ => absurd c_ (by decide)) (fun c_ => ?_)
            refine lv_aload_n C.1 C.2.1 d_Md_goes_94 rfl (lv_at hl 5 rfl) ?_
            refine lv_lload C.1 C.2.1 d_Md_goes_95 (lv_at hl 3 rfl) ?_
            refine gp_l C hh (Md_0 hM) rfl in_Md t_Md t_Md_ok n_Md 35 (by decide) rfl tw_600 rfl rfl (by decide +kernel) d_Md_goes_97 (fun H locs hh => ?_)
            obtain ⟨J_27, eJ_27⟩ : ∃ z : gm_J, z = gm_up J r 35 r_1 := ⟨_, rfl⟩
            rw [← eJ_27] at hh
            refine lv_aload_n C.1 C.2.1 d_Md_goes_100 rfl (lv_at hl 5 rfl) ?_
            refine lv_lload C.1 C.2.1 d_Md_goes_101 (lv_at hl 2 rfl) ?_
            refine gp_l C hh (Md_0 hM) rfl in_Md t_Md t_Md_ok n_Md 36 (by decide) rfl tw_601 rfl rfl (by decide +kernel) d_Md_goes_103 (fun H locs hh => ?_)
            obtain ⟨J_28, eJ_28⟩ : ∃ z : gm_J, z = gm_up J_27 r 36 x_6 := ⟨_, rfl⟩
            rw [← eJ_28] at hh
            refine lv_aload_n C.1 C.2.1 d_Md_goes_106 rfl (lv_at hl 5 rfl) ?_
            refine lv_lload C.1 C.2.1 d_Md_goes_107 (lv_at hl 1 rfl) ?_
            refine gp_l C hh (Md_0 hM) rfl in_Md t_Md t_Md_ok n_Md 37 (by decide) rfl tw_602 rfl rfl (by decide +kernel) d_Md_goes_109 (fun H locs hh => ?_)
            obtain ⟨J_29, eJ_29⟩ : ∃ z : gm_J, z = gm_up J_28 r 37 x_8 := ⟨_, rfl⟩
            rw [← eJ_29] at hh
            refine lv_iload C.1 C.2.1 d_Md_goes_112 (lv_at hl 0 rfl) ?_
            exact gr_i C hlk hret (gm_nb (Or.inr rfl)) hh (by subst hr_1 ex_6 ex_8 hr_9 hr_15 hr_21 eJ_27 eJ_28 eJ_29; first | (simp (disch := omega) [sp_goes, goB, goV, xyz, nI_clamp, nI_0, nI_one, eg_4, c_5', c_5, c_7', c_7, b_14, b_20, b_26]; done) | (exfalso; simp_all; done)) d_Md_goes_114
    · -- 43 -> 46
      have c_7 := gm_lef (by omega) (by omega) c_7
      have c_7' := Nat.not_le.mpr c_7
      refine lv_aload_n C.1 C.2.1 d_Md_goes_46 rfl (lv_at hl 3 rfl) ?_
      refine lv_iload_n C.1 C.2.1 d_Md_goes_47 rfl (lv_at hl 2 rfl) ?_
      refine lv_iconst (v := nI 2) C.1 C.2.1 d_Md_goes_48 rfl ?_
      refine gc_l hh (gc_runV (As := [.int (nI ((3 * j) + k)), .int (nI 2)]) (rest := []) (n := 2) C hml hh (c_Md_becomes l D cs sh sz I J r hM ((3 * j) + k) 2 (by omega) (by omega)) (tg_V tw_878 tw_880 tw_53 tw_64 tw_881) (by decide +kernel) ⟨rfl, rfl, by decide, by decide, Nat.zero_le _, Nat.zero_le _⟩ (Md_0 hM) rfl rfl hl.1 rfl (Nat.le_of_ble_eq_true rfl) d_Md_goes_49) (fun r_30 I_31 J_32 H locs hr_30 hh => ?_)
      obtain ⟨e_r_30, hr_30⟩ := hr_30
      rw [(Prod.mk.inj e_r_30).1, (Prod.mk.inj e_r_30).2] at hh
      refine lv_goto (tgt := 56) C.1 C.2.1 d_Md_goes_52 (by decide) ?_
      refine lv_lstore (lv' := [(8, .long r_30), (6, .long x_6), (4, .long r_1), (3, .int (nI ((3 * j) + k))), (0, .ref r), (1, .int (nI j)), (2, .int (nI k))]) C.1 C.2.1 d_Md_goes_56 hl (by decide) rfl (fun ls hl => ?_)
      refine lv_lload C.1 C.2.1 d_Md_goes_58 (lv_at hl 2 rfl) ?_
      refine gc_i hh (gc_runS (As := [.long r_1]) (rest := []) (n := 1) C hml hh (c_Md_isNear l D cs sh sz I J r_1) (tg_S tw_882 tw_883 tw_64 tw_884) (by decide +kernel) ⟨rfl, rfl, by decide, by decide, Nat.zero_le _, Nat.zero_le _⟩ rfl hl.1 rfl (Nat.le_of_ble_eq_true rfl) d_Md_goes_60) (fun r_33 I_34 J_35 H locs hr_33 hh => ?_)
      obtain ⟨e_r_33, hr_33⟩ := hr_33
      rw [(Prod.mk.inj e_r_33).1, (Prod.mk.inj e_r_33).2] at hh
      refine lv_if_eq (tgt := 86) C.1 C.2.1 d_Md_goes_63 (by decide) (fun c_36 => ?_) (fun c_36 => ?_)
      · -- 63 -> 86
        have b_37 := bI_f hr_33 c_36
        skip
        refine lv_iconst (v := nI 0) C.1 C.2.1 d_Md_goes_86 rfl ?_
        refine lv_istore (lv' := [(10, .int (nI 0)), (8, .long r_30), (6, .long x_6), (4, .long r_1), (3, .int (nI ((3 * j) + k))), (0, .ref r), (1, .int (nI j)), (2, .int (nI k))]) C.1 C.2.1 d_Md_goes_87 hl (by decide) rfl (fun ls hl => ?_)
        refine lv_iload C.1 C.2.1 d_Md_goes_89 (lv_at hl 0 rfl) ?_
        refine lv_if_eq (tgt := 112) C.1 C.2.1 d_Md_goes_91 (by decide) (fun c_ => ?_) (fun c_ => absurd (by decide) c_)
        refine lv_iload C.1 C.2.1 d_Md_goes_112 (lv_at hl 0 rfl) ?_
        exact gr_i C hlk hret (gm_nb (Or.inl rfl)) hh (by subst hr_1 ex_6 hr_30 hr_33; first | (simp (disch := omega) [sp_goes, goB, goV, xyz, nI_clamp, nI_0, nI_one, eg_4, c_5', c_5, c_7', c_7, b_37]; done) | (exfalso; simp_all; done)) d_Md_goes_114
      · -- 63 -> 66
        have b_38 := bI_t hr_33 c_36
        skip
        refine lv_lload C.1 C.2.1 d_Md_goes_66 (lv_at hl 1 rfl) ?_
        refine gc_i hh (gc_runS (As := [.long x_6]) (rest := []) (n := 1) C hml hh (c_Md_isNear l D cs sh sz I J x_6) (tg_S tw_882 tw_883 tw_64 tw_884) (by decide +kernel) ⟨rfl, rfl, by decide, by decide, Nat.zero_le _, Nat.zero_le _⟩ rfl hl.1 rfl (Nat.le_of_ble_eq_true rfl) d_Md_goes_68) (fun r_39 I_40 J_41 H locs hr_39 hh => ?_)
        obtain ⟨e_r_39, hr_39⟩ := hr_39
        rw [(Prod.mk.inj e_r_39).1, (Prod.mk.inj e_r_39).2] at hh
        refine lv_if_eq (tgt := 86) C.1 C.2.1 d_Md_goes_71 (by decide) (fun c_42 => ?_) (fun c_42 => ?_)
        · -- 71 -> 86
          have b_43 := bI_f hr_39 c_42
          skip
          refine lv_iconst (v := nI 0) C.1 C.2.1 d_Md_goes_86 rfl ?_
          refine lv_istore (lv' := [(10, .int (nI 0)), (8, .long r_30), (6, .long x_6), (4, .long r_1), (3, .int (nI ((3 * j) + k))), (0, .ref r), (1, .int (nI j)), (2, .int (nI k))]) C.1 C.2.1 d_Md_goes_87 hl (by decide) rfl (fun ls hl => ?_)
          refine lv_iload C.1 C.2.1 d_Md_goes_89 (lv_at hl 0 rfl) ?_
          refine lv_if_eq (tgt := 112) C.1 C.2.1 d_Md_goes_91 (by decide) (fun c_ => ?_) (fun c_ => absurd (by decide) c_)
          refine lv_iload C.1 C.2.1 d_Md_goes_112 (lv_at hl 0 rfl) ?_
          exact gr_i C hlk hret (gm_nb (Or.inl rfl)) hh (by subst hr_1 ex_6 hr_30 hr_33 hr_39; first | (simp (disch := omega) [sp_goes, goB, goV, xyz, nI_clamp, nI_0, nI_one, eg_4, c_5', c_5, c_7', c_7, b_38, b_43]; done) | (exfalso; simp_all; done)) d_Md_goes_114
        · -- 71 -> 74
          have b_44 := bI_t hr_39 c_42
          skip
          refine lv_lload C.1 C.2.1 d_Md_goes_74 (lv_at hl 0 rfl) ?_
          refine gc_i hh (gc_runS (As := [.long r_30]) (rest := []) (n := 1) C hml hh (c_Md_isNear l D cs sh sz I J r_30) (tg_S tw_882 tw_883 tw_64 tw_884) (by decide +kernel) ⟨rfl, rfl, by decide, by decide, Nat.zero_le _, Nat.zero_le _⟩ rfl hl.1 rfl (Nat.le_of_ble_eq_true rfl) d_Md_goes_76) (fun r_45 I_46 J_47 H locs hr_45 hh => ?_)
          obtain ⟨e_r_45, hr_45⟩ := hr_45
          rw [(Prod.mk.inj e_r_45).1, (Prod.mk.inj e_r_45).2] at hh
          refine lv_if_eq (tgt := 86) C.1 C.2.1 d_Md_goes_79 (by decide) (fun c_48 => ?_) (fun c_48 => ?_)
          · -- 79 -> 86
            have b_49 := bI_f hr_45 c_48
            skip
            refine lv_iconst (v := nI 0) C.1 C.2.1 d_Md_goes_86 rfl ?_
            refine lv_istore (lv' := [(10, .int (nI 0)), (8, .long r_30), (6, .long x_6), (4, .long r_1), (3, .int (nI ((3 * j) + k))), (0, .ref r), (1, .int (nI j)), (2, .int (nI k))]) C.1 C.2.1 d_Md_goes_87 hl (by decide) rfl (fun ls hl => ?_)
            refine lv_iload C.1 C.2.1 d_Md_goes_89 (lv_at hl 0 rfl) ?_
            refine lv_if_eq (tgt := 112) C.1 C.2.1 d_Md_goes_91 (by decide) (fun c_ => ?_) (fun c_ => absurd (by decide) c_)
            refine lv_iload C.1 C.2.1 d_Md_goes_112 (lv_at hl 0 rfl) ?_
            exact gr_i C hlk hret (gm_nb (Or.inl rfl)) hh (by subst hr_1 ex_6 hr_30 hr_33 hr_39 hr_45; first | (simp (disch := omega) [sp_goes, goB, goV, xyz, nI_clamp, nI_0, nI_one, eg_4, c_5', c_5, c_7', c_7, b_38, b_44, b_49]; done) | (exfalso; simp_all; done)) d_Md_goes_114
          · -- 79 -> 82
            have b_50 := bI_t hr_45 c_48
            skip
            refine lv_iconst (v := nI 1) C.1 C.2.1 d_Md_goes_82 rfl ?_
            refine lv_goto (tgt := 87) C.1 C.2.1 d_Md_goes_83 (by decide) ?_
            refine lv_istore (lv' := [(10, .int (nI 1)), (8, .long r_30), (6, .long x_6), (4, .long r_1), (3, .int (nI ((3 * j) + k))), (0, .ref r), (1, .int (nI j)), (2, .int (nI k))]) C.1 C.2.1 d_Md_goes_87 hl (by decide) rfl (fun ls hl => ?_)
            refine lv_iload C.1 C.2.1 d_Md_goes_89 (lv_at hl 0 rfl) ?_
            refine lv_if_eq (tgt := 112) C.1 C.2.1 d_Md_goes_91 (by decide) (fun c_ => absurd c_ (by decide)) (fun c_ => ?_)
            refine lv_aload_n C.1 C.2.1 d_Md_goes_94 rfl (lv_at hl 5 rfl) ?_
            refine lv_lload C.1 C.2.1 d_Md_goes_95 (lv_at hl 3 rfl) ?_
            refine gp_l C hh (Md_0 hM) rfl in_Md t_Md t_Md_ok n_Md 35 (by decide) rfl tw_600 rfl rfl (by decide +kernel) d_Md_goes_97 (fun H locs hh => ?_)
            obtain ⟨J_51, eJ_51⟩ : ∃ z : gm_J, z = gm_up J r 35 r_1 := ⟨_, rfl⟩
            rw [← eJ_51] at hh
            refine lv_aload_n C.1 C.2.1 d_Md_goes_100 rfl (lv_at hl 5 rfl) ?_
            refine lv_lload C.1 C.2.1 d_Md_goes_101 (lv_at hl 2 rfl) ?_
            refine gp_l C hh (Md_0 hM) rfl in_Md t_Md t_Md_ok n_Md 36 (by decide) rfl tw_601 rfl rfl (by decide +kernel) d_Md_goes_103 (fun H locs hh => ?_)
            obtain ⟨J_52, eJ_52⟩ : ∃ z : gm_J, z = gm_up J_51 r 36 x_6 := ⟨_, rfl⟩
            rw [← eJ_52] at hh
            refine lv_aload_n C.1 C.2.1 d_Md_goes_106 rfl (lv_at hl 5 rfl) ?_
            refine lv_lload C.1 C.2.1 d_Md_goes_107 (lv_at hl 1 rfl) ?_
            refine gp_l C hh (Md_0 hM) rfl in_Md t_Md t_Md_ok n_Md 37 (by decide) rfl tw_602 rfl rfl (by decide +kernel) d_Md_goes_109 (fun H locs hh => ?_)
            obtain ⟨J_53, eJ_53⟩ : ∃ z : gm_J, z = gm_up J_52 r 37 r_30 := ⟨_, rfl⟩
            rw [← eJ_53] at hh
            refine lv_iload C.1 C.2.1 d_Md_goes_112 (lv_at hl 0 rfl) ?_
            exact gr_i C hlk hret (gm_nb (Or.inr rfl)) hh (by subst hr_1 ex_6 hr_30 hr_33 hr_39 hr_45 eJ_51 eJ_52 eJ_53; first | (simp (disch := omega) [sp_goes, goB, goV, xyz, nI_clamp, nI_0, nI_one, eg_4, c_5', c_5, c_7', c_7, b_38, b_44, b_50]; done) | (exfalso; simp_all; done)) d_Md_goes_114
  · -- 21 -> 24
    have c_5 := gm_lef (by omega) (by omega) c_5
    have c_5' := Nat.not_le.mpr c_5
    refine lv_aload_n C.1 C.2.1 d_Md_goes_24 rfl (lv_at hl 2 rfl) ?_
    refine lv_iload_n C.1 C.2.1 d_Md_goes_25 rfl (lv_at hl 1 rfl) ?_
    refine lv_iconst (v := nI 1) C.1 C.2.1 d_Md_goes_26 rfl ?_
    refine gc_l hh (gc_runV (As := [.int (nI ((3 * j) + k)), .int (nI 1)]) (rest := []) (n := 2) C hml hh (c_Md_becomes l D cs sh sz I J r hM ((3 * j) + k) 1 (by omega) (by omega)) (tg_V tw_878 tw_880 tw_53 tw_64 tw_881) (by decide +kernel) ⟨rfl, rfl, by decide, by decide, Nat.zero_le _, Nat.zero_le _⟩ (Md_0 hM) rfl rfl hl.1 rfl (Nat.le_of_ble_eq_true rfl) d_Md_goes_27) (fun r_54 I_55 J_56 H locs hr_54 hh => ?_)
    obtain ⟨e_r_54, hr_54⟩ := hr_54
    rw [(Prod.mk.inj e_r_54).1, (Prod.mk.inj e_r_54).2] at hh
    refine lv_goto (tgt := 34) C.1 C.2.1 d_Md_goes_30 (by decide) ?_
    refine lv_lstore (lv' := [(6, .long r_54), (4, .long r_1), (3, .int (nI ((3 * j) + k))), (0, .ref r), (1, .int (nI j)), (2, .int (nI k))]) C.1 C.2.1 d_Md_goes_34 hl (by decide) rfl (fun ls hl => ?_)
    refine lv_aload_n C.1 C.2.1 d_Md_goes_36 rfl (lv_at hl 3 rfl) ?_
    refine gg_r C hh (Md_0 hM) rfl in_Md 1 (by decide) rfl tw_566 rfl d_Md_goes_37 ?_
    refine lv_iload_n C.1 C.2.1 d_Md_goes_40 rfl (lv_at hl 4 rfl) ?_
    refine ga_i C hh (Md_1 hM) (k := j) rfl (by omega) (by omega) d_Md_goes_41 ?_
    refine gm_eqi eg_4 ?_
    refine lv_iconst (v := nI 2) C.1 C.2.1 d_Md_goes_42 rfl ?_
    refine lv_icmp_le (tgt := 55) C.1 C.2.1 d_Md_goes_43 (by decide) (fun c_57 => ?_) (fun c_57 => ?_)
    · -- 43 -> 55
      have c_57 := gm_let (by omega) (by omega) c_57
      have c_57' := Nat.not_lt.mpr c_57
      refine lv_lconst (v := 0) C.1 C.2.1 d_Md_goes_55 rfl ?_
      refine lv_topl (fun x_58 ex_58 => ?_)
      refine lv_lstore (lv' := [(8, .long x_58), (6, .long r_54), (4, .long r_1), (3, .int (nI ((3 * j) + k))), (0, .ref r), (1, .int (nI j)), (2, .int (nI k))]) C.1 C.2.1 d_Md_goes_56 hl (by decide) rfl (fun ls hl => ?_)
      refine lv_lload C.1 C.2.1 d_Md_goes_58 (lv_at hl 2 rfl) ?_
      refine gc_i hh (gc_runS (As := [.long r_1]) (rest := []) (n := 1) C hml hh (c_Md_isNear l D cs sh sz I J r_1) (tg_S tw_882 tw_883 tw_64 tw_884) (by decide +kernel) ⟨rfl, rfl, by decide, by decide, Nat.zero_le _, Nat.zero_le _⟩ rfl hl.1 rfl (Nat.le_of_ble_eq_true rfl) d_Md_goes_60) (fun r_59 I_60 J_61 H locs hr_59 hh => ?_)
      obtain ⟨e_r_59, hr_59⟩ := hr_59
      rw [(Prod.mk.inj e_r_59).1, (Prod.mk.inj e_r_59).2] at hh
      refine lv_if_eq (tgt := 86) C.1 C.2.1 d_Md_goes_63 (by decide) (fun c_62 => ?_) (fun c_62 => ?_)
      · -- 63 -> 86
        have b_63 := bI_f hr_59 c_62
        skip
        refine lv_iconst (v := nI 0) C.1 C.2.1 d_Md_goes_86 rfl ?_
        refine lv_istore (lv' := [(10, .int (nI 0)), (8, .long x_58), (6, .long r_54), (4, .long r_1), (3, .int (nI ((3 * j) + k))), (0, .ref r), (1, .int (nI j)), (2, .int (nI k))]) C.1 C.2.1 d_Md_goes_87 hl (by decide) rfl (fun ls hl => ?_)
        refine lv_iload C.1 C.2.1 d_Md_goes_89 (lv_at hl 0 rfl) ?_
        refine lv_if_eq (tgt := 112) C.1 C.2.1 d_Md_goes_91 (by decide) (fun c_ => ?_) (fun c_ => absurd (by decide) c_)
        refine lv_iload C.1 C.2.1 d_Md_goes_112 (lv_at hl 0 rfl) ?_
        exact gr_i C hlk hret (gm_nb (Or.inl rfl)) hh (by subst hr_1 hr_54 ex_58 hr_59; first | (simp (disch := omega) [sp_goes, goB, goV, xyz, nI_clamp, nI_0, nI_one, eg_4, c_5', c_5, c_57', c_57, b_63]; done) | (exfalso; simp_all; done)) d_Md_goes_114
      · -- 63 -> 66
        have b_64 := bI_t hr_59 c_62
        skip
        refine lv_lload C.1 C.2.1 d_Md_goes_66 (lv_at hl 1 rfl) ?_
        refine gc_i hh (gc_runS (As := [.long r_54]) (rest := []) (n := 1) C hml hh (c_Md_isNear l D cs sh sz I J r_54) (tg_S tw_882 tw_883 tw_64 tw_884) (by decide +kernel) ⟨rfl, rfl, by decide, by decide, Nat.zero_le _, Nat.zero_le _⟩ rfl hl.1 rfl (Nat.le_of_ble_eq_true rfl) d_Md_goes_68) (fun r_65 I_66 J_67 H locs hr_65 hh => ?_)
        obtain ⟨e_r_65, hr_65⟩ := hr_65
        rw [(Prod.mk.inj e_r_65).1, (Prod.mk.inj e_r_65).2] at hh
        refine lv_if_eq (tgt := 86) C.1 C.2.1 d_Md_goes_71 (by decide) (fun c_68 => ?_) (fun c_68 => ?_)
        · -- 71 -> 86
          have b_69 := bI_f hr_65 c_68
          skip
          refine lv_iconst (v := nI 0) C.1 C.2.1 d_Md_goes_86 rfl ?_
          refine lv_istore (lv' := [(10, .int (nI 0)), (8, .long x_58), (6, .long r_54), (4, .long r_1), (3, .int (nI ((3 * j) + k))), (0, .ref r), (1, .int (nI j)), (2, .int (nI k))]) C.1 C.2.1 d_Md_goes_87 hl (by decide) rfl (fun ls hl => ?_)
          refine lv_iload C.1 C.2.1 d_Md_goes_89 (lv_at hl 0 rfl) ?_
          refine lv_if_eq (tgt := 112) C.1 C.2.1 d_Md_goes_91 (by decide) (fun c_ => ?_) (fun c_ => absurd (by decide) c_)
          refine lv_iload C.1 C.2.1 d_Md_goes_112 (lv_at hl 0 rfl) ?_
          exact gr_i C hlk hret (gm_nb (Or.inl rfl)) hh (by subst hr_1 hr_54 ex_58 hr_59 hr_65; first | (simp (disch := omega) [sp_goes, goB, goV, xyz, nI_clamp, nI_0, nI_one, eg_4, c_5', c_5, c_57', c_57, b_64, b_69]; done) | (exfalso; simp_all; done)) d_Md_goes_114
        · -- 71 -> 74
          have b_70 := bI_t hr_65 c_68
          skip
          refine lv_lload C.1 C.2.1 d_Md_goes_74 (lv_at hl 0 rfl) ?_
          refine gc_i hh (gc_runS (As := [.long x_58]) (rest := []) (n := 1) C hml hh (c_Md_isNear l D cs sh sz I J x_58) (tg_S tw_882 tw_883 tw_64 tw_884) (by decide +kernel) ⟨rfl, rfl, by decide, by decide, Nat.zero_le _, Nat.zero_le _⟩ rfl hl.1 rfl (Nat.le_of_ble_eq_true rfl) d_Md_goes_76) (fun r_71 I_72 J_73 H locs hr_71 hh => ?_)
          obtain ⟨e_r_71, hr_71⟩ := hr_71
          rw [(Prod.mk.inj e_r_71).1, (Prod.mk.inj e_r_71).2] at hh
          refine lv_if_eq (tgt := 86) C.1 C.2.1 d_Md_goes_79 (by decide) (fun c_74 => ?_) (fun c_74 => ?_)
          · -- 79 -> 86
            have b_75 := bI_f hr_71 c_74
            skip
            refine lv_iconst (v := nI 0) C.1 C.2.1 d_Md_goes_86 rfl ?_
            refine lv_istore (lv' := [(10, .int (nI 0)), (8, .long x_58), (6, .long r_54), (4, .long r_1), (3, .int (nI ((3 * j) + k))), (0, .ref r), (1, .int (nI j)), (2, .int (nI k))]) C.1 C.2.1 d_Md_goes_87 hl (by decide) rfl (fun ls hl => ?_)
            refine lv_iload C.1 C.2.1 d_Md_goes_89 (lv_at hl 0 rfl) ?_
            refine lv_if_eq (tgt := 112) C.1 C.2.1 d_Md_goes_91 (by decide) (fun c_ => ?_) (fun c_ => absurd (by decide) c_)
            refine lv_iload C.1 C.2.1 d_Md_goes_112 (lv_at hl 0 rfl) ?_
            exact gr_i C hlk hret (gm_nb (Or.inl rfl)) hh (by subst hr_1 hr_54 ex_58 hr_59 hr_65 hr_71; first | (simp (disch := omega) [sp_goes, goB, goV, xyz, nI_clamp, nI_0, nI_one, eg_4, c_5', c_5, c_57', c_57, b_64, b_70, b_75]; done) | (exfalso; simp_all; done)) d_Md_goes_114
          · -- 79 -> 82
            have b_76 := bI_t hr_71 c_74
            skip
            refine lv_iconst (v := nI 1) C.1 C.2.1 d_Md_goes_82 rfl ?_
            refine lv_goto (tgt := 87) C.1 C.2.1 d_Md_goes_83 (by decide) ?_
            refine lv_istore (lv' := [(10, .int (nI 1)), (8, .long x_58), (6, .long r_54), (4, .long r_1), (3, .int (nI ((3 * j) + k))), (0, .ref r), (1, .int (nI j)), (2, .int (nI k))]) C.1 C.2.1 d_Md_goes_87 hl (by decide) rfl (fun ls hl => ?_)
            refine lv_iload C.1 C.2.1 d_Md_goes_89 (lv_at hl 0 rfl) ?_
            refine lv_if_eq (tgt := 112) C.1 C.2.1 d_Md_goes_91 (by decide) (fun c_ => absurd c_ (by decide)) (fun c_ => ?_)
            refine lv_aload_n C.1 C.2.1 d_Md_goes_94 rfl (lv_at hl 5 rfl) ?_
            refine lv_lload C.1 C.2.1 d_Md_goes_95 (lv_at hl 3 rfl) ?_
            refine gp_l C hh (Md_0 hM) rfl in_Md t_Md t_Md_ok n_Md 35 (by decide) rfl tw_600 rfl rfl (by decide +kernel) d_Md_goes_97 (fun H locs hh => ?_)
            obtain ⟨J_77, eJ_77⟩ : ∃ z : gm_J, z = gm_up J r 35 r_1 := ⟨_, rfl⟩
            rw [← eJ_77] at hh
            refine lv_aload_n C.1 C.2.1 d_Md_goes_100 rfl (lv_at hl 5 rfl) ?_
            refine lv_lload C.1 C.2.1 d_Md_goes_101 (lv_at hl 2 rfl) ?_
            refine gp_l C hh (Md_0 hM) rfl in_Md t_Md t_Md_ok n_Md 36 (by decide) rfl tw_601 rfl rfl (by decide +kernel) d_Md_goes_103 (fun H locs hh => ?_)
            obtain ⟨J_78, eJ_78⟩ : ∃ z : gm_J, z = gm_up J_77 r 36 r_54 := ⟨_, rfl⟩
            rw [← eJ_78] at hh
            refine lv_aload_n C.1 C.2.1 d_Md_goes_106 rfl (lv_at hl 5 rfl) ?_
            refine lv_lload C.1 C.2.1 d_Md_goes_107 (lv_at hl 1 rfl) ?_
            refine gp_l C hh (Md_0 hM) rfl in_Md t_Md t_Md_ok n_Md 37 (by decide) rfl tw_602 rfl rfl (by decide +kernel) d_Md_goes_109 (fun H locs hh => ?_)
            obtain ⟨J_79, eJ_79⟩ : ∃ z : gm_J, z = gm_up J_78 r 37 x_58 := ⟨_, rfl⟩
            rw [← eJ_79] at hh
            refine lv_iload C.1 C.2.1 d_Md_goes_112 (lv_at hl 0 rfl) ?_
            exact gr_i C hlk hret (gm_nb (Or.inr rfl)) hh (by subst hr_1 hr_54 ex_58 hr_59 hr_65 hr_71 eJ_77 eJ_78 eJ_79; first | (simp (disch := omega) [sp_goes, goB, goV, xyz, nI_clamp, nI_0, nI_one, eg_4, c_5', c_5, c_57', c_57, b_64, b_70, b_76]; done) | (exfalso; simp_all; done)) d_Md_goes_114
    · -- 43 -> 46
      have c_57 := gm_lef (by omega) (by omega) c_57
      have c_57' := Nat.not_le.mpr c_57
      refine lv_aload_n C.1 C.2.1 d_Md_goes_46 rfl (lv_at hl 3 rfl) ?_
      refine lv_iload_n C.1 C.2.1 d_Md_goes_47 rfl (lv_at hl 2 rfl) ?_
      refine lv_iconst (v := nI 2) C.1 C.2.1 d_Md_goes_48 rfl ?_
      refine gc_l hh (gc_runV (As := [.int (nI ((3 * j) + k)), .int (nI 2)]) (rest := []) (n := 2) C hml hh (c_Md_becomes l D cs sh sz I J r hM ((3 * j) + k) 2 (by omega) (by omega)) (tg_V tw_878 tw_880 tw_53 tw_64 tw_881) (by decide +kernel) ⟨rfl, rfl, by decide, by decide, Nat.zero_le _, Nat.zero_le _⟩ (Md_0 hM) rfl rfl hl.1 rfl (Nat.le_of_ble_eq_true rfl) d_Md_goes_49) (fun r_80 I_81 J_82 H locs hr_80 hh => ?_)
      obtain ⟨e_r_80, hr_80⟩ := hr_80
      rw [(Prod.mk.inj e_r_80).1, (Prod.mk.inj e_r_80).2] at hh
      refine lv_goto (tgt := 56) C.1 C.2.1 d_Md_goes_52 (by decide) ?_
      refine lv_lstore (lv' := [(8, .long r_80), (6, .long r_54), (4, .long r_1), (3, .int (nI ((3 * j) + k))), (0, .ref r), (1, .int (nI j)), (2, .int (nI k))]) C.1 C.2.1 d_Md_goes_56 hl (by decide) rfl (fun ls hl => ?_)
      refine lv_lload C.1 C.2.1 d_Md_goes_58 (lv_at hl 2 rfl) ?_
      refine gc_i hh (gc_runS (As := [.long r_1]) (rest := []) (n := 1) C hml hh (c_Md_isNear l D cs sh sz I J r_1) (tg_S tw_882 tw_883 tw_64 tw_884) (by decide +kernel) ⟨rfl, rfl, by decide, by decide, Nat.zero_le _, Nat.zero_le _⟩ rfl hl.1 rfl (Nat.le_of_ble_eq_true rfl) d_Md_goes_60) (fun r_83 I_84 J_85 H locs hr_83 hh => ?_)
      obtain ⟨e_r_83, hr_83⟩ := hr_83
      rw [(Prod.mk.inj e_r_83).1, (Prod.mk.inj e_r_83).2] at hh
      refine lv_if_eq (tgt := 86) C.1 C.2.1 d_Md_goes_63 (by decide) (fun c_86 => ?_) (fun c_86 => ?_)
      · -- 63 -> 86
        have b_87 := bI_f hr_83 c_86
        skip
        refine lv_iconst (v := nI 0) C.1 C.2.1 d_Md_goes_86 rfl ?_
        refine lv_istore (lv' := [(10, .int (nI 0)), (8, .long r_80), (6, .long r_54), (4, .long r_1), (3, .int (nI ((3 * j) + k))), (0, .ref r), (1, .int (nI j)), (2, .int (nI k))]) C.1 C.2.1 d_Md_goes_87 hl (by decide) rfl (fun ls hl => ?_)
        refine lv_iload C.1 C.2.1 d_Md_goes_89 (lv_at hl 0 rfl) ?_
        refine lv_if_eq (tgt := 112) C.1 C.2.1 d_Md_goes_91 (by decide) (fun c_ => ?_) (fun c_ => absurd (by decide) c_)
        refine lv_iload C.1 C.2.1 d_Md_goes_112 (lv_at hl 0 rfl) ?_
        exact gr_i C hlk hret (gm_nb (Or.inl rfl)) hh (by subst hr_1 hr_54 hr_80 hr_83; first | (simp (disch := omega) [sp_goes, goB, goV, xyz, nI_clamp, nI_0, nI_one, eg_4, c_5', c_5, c_57', c_57, b_87]; done) | (exfalso; simp_all; done)) d_Md_goes_114
      · -- 63 -> 66
        have b_88 := bI_t hr_83 c_86
        skip
        refine lv_lload C.1 C.2.1 d_Md_goes_66 (lv_at hl 1 rfl) ?_
        refine gc_i hh (gc_runS (As := [.long r_54]) (rest := []) (n := 1) C hml hh (c_Md_isNear l D cs sh sz I J r_54) (tg_S tw_882 tw_883 tw_64 tw_884) (by decide +kernel) ⟨rfl, rfl, by decide, by decide, Nat.zero_le _, Nat.zero_le _⟩ rfl hl.1 rfl (Nat.le_of_ble_eq_true rfl) d_Md_goes_68) (fun r_89 I_90 J_91 H locs hr_89 hh => ?_)
        obtain ⟨e_r_89, hr_89⟩ := hr_89
        rw [(Prod.mk.inj e_r_89).1, (Prod.mk.inj e_r_89).2] at hh
        refine lv_if_eq (tgt := 86) C.1 C.2.1 d_Md_goes_71 (by decide) (fun c_92 => ?_) (fun c_92 => ?_)
        · -- 71 -> 86
          have b_93 := bI_f hr_89 c_92
          skip
          refine lv_iconst (v := nI 0) C.1 C.2.1 d_Md_goes_86 rfl ?_
          refine lv_istore (lv' := [(10, .int (nI 0)), (8, .long r_80), (6, .long r_54), (4, .long r_1), (3, .int (nI ((3 * j) + k))), (0, .ref r), (1, .int (nI j)), (2, .int (nI k))]) C.1 C.2.1 d_Md_goes_87 hl (by decide) rfl (fun ls hl => ?_)
          refine lv_iload C.1 C.2.1 d_Md_goes_89 (lv_at hl 0 rfl) ?_
          refine lv_if_eq (tgt := 112) C.1 C.2.1 d_Md_goes_91 (by decide) (fun c_ => ?_) (fun c_ => absurd (by decide) c_)
          refine lv_iload C.1 C.2.1 d_Md_goes_112 (lv_at hl 0 rfl) ?_
          exact gr_i C hlk hret (gm_nb (Or.inl rfl)) hh (by subst hr_1 hr_54 hr_80 hr_83 hr_89; first | (simp (disch := omega) [sp_goes, goB, goV, xyz, nI_clamp, nI_0, nI_one, eg_4, c_5', c_5, c_57', c_57, b_88, b_93]; done) | (exfalso; simp_all; done)) d_Md_goes_114
        · -- 71 -> 74
          have b_94 := bI_t hr_89 c_92
          skip
          refine lv_lload C.1 C.2.1 d_Md_goes_74 (lv_at hl 0 rfl) ?_
          refine gc_i hh (gc_runS (As := [.long r_80]) (rest := []) (n := 1) C hml hh (c_Md_isNear l D cs sh sz I J r_80) (tg_S tw_882 tw_883 tw_64 tw_884) (by decide +kernel) ⟨rfl, rfl, by decide, by decide, Nat.zero_le _, Nat.zero_le _⟩ rfl hl.1 rfl (Nat.le_of_ble_eq_true rfl) d_Md_goes_76) (fun r_95 I_96 J_97 H locs hr_95 hh => ?_)
          obtain ⟨e_r_95, hr_95⟩ := hr_95
          rw [(Prod.mk.inj e_r_95).1, (Prod.mk.inj e_r_95).2] at hh
          refine lv_if_eq (tgt := 86) C.1 C.2.1 d_Md_goes_79 (by decide) (fun c_98 => ?_) (fun c_98 => ?_)
          · -- 79 -> 86
            have b_99 := bI_f hr_95 c_98
            skip
            refine lv_iconst (v := nI 0) C.1 C.2.1 d_Md_goes_86 rfl ?_
            refine lv_istore (lv' := [(10, .int (nI 0)), (8, .long r_80), (6, .long r_54), (4, .long r_1), (3, .int (nI ((3 * j) + k))), (0, .ref r), (1, .int (nI j)), (2, .int (nI k))]) C.1 C.2.1 d_Md_goes_87 hl (by decide) rfl (fun ls hl => ?_)
            refine lv_iload C.1 C.2.1 d_Md_goes_89 (lv_at hl 0 rfl) ?_
            refine lv_if_eq (tgt := 112) C.1 C.2.1 d_Md_goes_91 (by decide) (fun c_ => ?_) (fun c_ => absurd (by decide) c_)
            refine lv_iload C.1 C.2.1 d_Md_goes_112 (lv_at hl 0 rfl) ?_
            exact gr_i C hlk hret (gm_nb (Or.inl rfl)) hh (by subst hr_1 hr_54 hr_80 hr_83 hr_89 hr_95; first | (simp (disch := omega) [sp_goes, goB, goV, xyz, nI_clamp, nI_0, nI_one, eg_4, c_5', c_5, c_57', c_57, b_88, b_94, b_99]; done) | (exfalso; simp_all; done)) d_Md_goes_114
          · -- 79 -> 82
            have b_100 := bI_t hr_95 c_98
            skip
            refine lv_iconst (v := nI 1) C.1 C.2.1 d_Md_goes_82 rfl ?_
            refine lv_goto (tgt := 87) C.1 C.2.1 d_Md_goes_83 (by decide) ?_
            refine lv_istore (lv' := [(10, .int (nI 1)), (8, .long r_80), (6, .long r_54), (4, .long r_1), (3, .int (nI ((3 * j) + k))), (0, .ref r), (1, .int (nI j)), (2, .int (nI k))]) C.1 C.2.1 d_Md_goes_87 hl (by decide) rfl (fun ls hl => ?_)
            refine lv_iload C.1 C.2.1 d_Md_goes_89 (lv_at hl 0 rfl) ?_
            refine lv_if_eq (tgt := 112) C.1 C.2.1 d_Md_goes_91 (by decide) (fun c_ => absurd c_ (by decide)) (fun c_ => ?_)
            refine lv_aload_n C.1 C.2.1 d_Md_goes_94 rfl (lv_at hl 5 rfl) ?_
            refine lv_lload C.1 C.2.1 d_Md_goes_95 (lv_at hl 3 rfl) ?_
            refine gp_l C hh (Md_0 hM) rfl in_Md t_Md t_Md_ok n_Md 35 (by decide) rfl tw_600 rfl rfl (by decide +kernel) d_Md_goes_97 (fun H locs hh => ?_)
            obtain ⟨J_101, eJ_101⟩ : ∃ z : gm_J, z = gm_up J r 35 r_1 := ⟨_, rfl⟩
            rw [← eJ_101] at hh
            refine lv_aload_n C.1 C.2.1 d_Md_goes_100 rfl (lv_at hl 5 rfl) ?_
            refine lv_lload C.1 C.2.1 d_Md_goes_101 (lv_at hl 2 rfl) ?_
            refine gp_l C hh (Md_0 hM) rfl in_Md t_Md t_Md_ok n_Md 36 (by decide) rfl tw_601 rfl rfl (by decide +kernel) d_Md_goes_103 (fun H locs hh => ?_)
            obtain ⟨J_102, eJ_102⟩ : ∃ z : gm_J, z = gm_up J_101 r 36 r_54 := ⟨_, rfl⟩
            rw [← eJ_102] at hh
            refine lv_aload_n C.1 C.2.1 d_Md_goes_106 rfl (lv_at hl 5 rfl) ?_
            refine lv_lload C.1 C.2.1 d_Md_goes_107 (lv_at hl 1 rfl) ?_
            refine gp_l C hh (Md_0 hM) rfl in_Md t_Md t_Md_ok n_Md 37 (by decide) rfl tw_602 rfl rfl (by decide +kernel) d_Md_goes_109 (fun H locs hh => ?_)
            obtain ⟨J_103, eJ_103⟩ : ∃ z : gm_J, z = gm_up J_102 r 37 r_80 := ⟨_, rfl⟩
            rw [← eJ_103] at hh
            refine lv_iload C.1 C.2.1 d_Md_goes_112 (lv_at hl 0 rfl) ?_
            exact gr_i C hlk hret (gm_nb (Or.inr rfl)) hh (by subst hr_1 hr_54 hr_80 hr_83 hr_89 hr_95 eJ_101 eJ_102 eJ_103; first | (simp (disch := omega) [sp_goes, goB, goV, xyz, nI_clamp, nI_0, nI_one, eg_4, c_5', c_5, c_57', c_57, b_88, b_94, b_100]; done) | (exfalso; simp_all; done)) d_Md_goes_114

set_option maxHeartbeats 4000000 in
set_option maxRecDepth 100000 in
theorem c_Md_openAt (l : Launch) (D : va_G) (cs : Nat → ClassId) (sh : gm_H) (sz : Nat) (I : gm_I) (J : gm_J) (r : Nat) (hM : is_Md sh r) (hV : inv_Md I r) (j : Nat) (hj : j < 8) (g w : Nat) (hg : g ≤ 4) (hw : w ≤ 3) (eg : I (r + 3) j = nI g) (ew : I (r + 2) j = nI w) : CI l y_Md_openAt w_Md_openAt { frames := 1, cells := 0, slots := 0, locals := 22 } D cs sh sz I J [.ref r, .int (nI j)] (fun x u => u = (I, J) ∧ x = nI (openN I r j (J r 35) (J r 36) (J r 37))) := by
  refine gm_start (by decide) (Nat.le_of_ble_eq_true rfl) ?_
  intro p' e' s' m' be' me' co' ls C hml hlk hret hh hl
  have hl : lv_has ls 7 [(0, .ref r), (1, .int (nI j))] := hl
  refine lv_iconst (v := nI 0) C.1 C.2.1 d_Md_openAt_0 rfl ?_
  refine lv_istore_n (lv' := [(2, .int (nI 0)), (0, .ref r), (1, .int (nI j))]) C.1 C.2.1 d_Md_openAt_1 rfl hl (by decide) rfl (fun ls hl => ?_)
  have K2 : ∀ (n_2 : Nat) (k : Nat) (hk : k ≤ g) (ha : allMet I (r + 4) (16 * j) k (J r 35) (J r 36) (J r 37) = true) (hm_2 : g - k < n_2), ∀ (H : Heap) (locs : List Loc) (ls : Array Slot), gm_St D cs sh (gm_A sh) s'.heap sz I J H locs → lv_has ls 7 [(0, .ref r), (1, .int (nI j)), (2, .int (nI k))] → W p' l e' { frames := 1, cells := 0, slots := 0, locals := 22 } s' m' ([.ref r, .int (nI j)] : List Value).toArray be' me' co' H locs 0 0 (MQ be' (va_Qi (fun x u => u = (I, J) ∧ x = nI (openN I r j (J r 35) (J r 36) (J r 37))) (gm_B D cs sh sz) (gm_A sh)) ([.ref r, .int (nI j)] : List Value).toArray s' 0 0 (gm_A sh)) (F0 m' 2 ls []) := by
    intro n_2
    induction n_2 with
    | zero => intro k hk ha hm_2; exact absurd hm_2 (Nat.not_lt_zero _)
    | succ n_2 ih2 =>
      intro k hk ha hm_2 H locs ls hh hl
      refine lv_iload_n C.1 C.2.1 d_Md_openAt_2 rfl (lv_at hl 2 rfl) ?_
      refine lv_aload_n C.1 C.2.1 d_Md_openAt_3 rfl (lv_at hl 0 rfl) ?_
      refine gg_r C hh (Md_0 hM) rfl in_Md 3 (by decide) rfl tw_568 rfl d_Md_openAt_4 ?_
      refine lv_iload_n C.1 C.2.1 d_Md_openAt_7 rfl (lv_at hl 1 rfl) ?_
      refine ga_i C hh (Md_3 hM) (k := j) rfl (by omega) (by omega) d_Md_openAt_8 ?_
      refine gm_eqi eg ?_
      refine lv_icmp_ge (tgt := 39) C.1 C.2.1 d_Md_openAt_9 (by decide) (fun c_1 => ?_) (fun c_1 => ?_)
      · -- 9 -> 39
        have c_1 := gm_get (by omega) (by omega) c_1
        have c_1' := Nat.not_lt.mpr c_1
        refine lv_iconst (v := nI 0) C.1 C.2.1 d_Md_openAt_39 rfl ?_
        refine lv_istore_n (lv' := [(2, .int (nI 0)), (0, .ref r), (1, .int (nI j))]) C.1 C.2.1 d_Md_openAt_40 rfl hl (by decide) rfl (fun ls hl => ?_)
        refine lv_iconst (v := nI 0) C.1 C.2.1 d_Md_openAt_41 rfl ?_
        refine lv_istore_n (lv' := [(3, .int (nI 0)), (2, .int (nI 0)), (0, .ref r), (1, .int (nI j))]) C.1 C.2.1 d_Md_openAt_42 rfl hl (by decide) rfl (fun ls hl => ?_)
        have K43 : ∀ (n_43 : Nat) (k : Nat) (o : Nat) (hk : k ≤ w) (ha : allMet I (r + 4) (16 * j) g (J r 35) (J r 36) (J r 37) = true) (ho : o = opens I r j (J r 35) (J r 36) (J r 37) k) (hm_43 : w - k < n_43), ∀ (H : Heap) (locs : List Loc) (ls : Array Slot), gm_St D cs sh (gm_A sh) s'.heap sz I J H locs → lv_has ls 7 [(0, .ref r), (1, .int (nI j)), (2, .int (nI o)), (3, .int (nI k))] → W p' l e' { frames := 1, cells := 0, slots := 0, locals := 22 } s' m' ([.ref r, .int (nI j)] : List Value).toArray be' me' co' H locs 0 0 (MQ be' (va_Qi (fun x u => u = (I, J) ∧ x = nI (openN I r j (J r 35) (J r 36) (J r 37))) (gm_B D cs sh sz) (gm_A sh)) ([.ref r, .int (nI j)] : List Value).toArray s' 0 0 (gm_A sh)) (F0 m' 43 ls []) := by
          intro n_43
          induction n_43 with
          | zero => intro k o hk ha ho hm_43; exact absurd hm_43 (Nat.not_lt_zero _)
          | succ n_43 ih43 =>
            intro k o hk ha ho hm_43 H locs ls hh hl
            refine lv_iload_n C.1 C.2.1 d_Md_openAt_43 rfl (lv_at hl 3 rfl) ?_
            refine lv_aload_n C.1 C.2.1 d_Md_openAt_44 rfl (lv_at hl 0 rfl) ?_
            refine gg_r C hh (Md_0 hM) rfl in_Md 2 (by decide) rfl tw_567 rfl d_Md_openAt_45 ?_
            refine lv_iload_n C.1 C.2.1 d_Md_openAt_48 rfl (lv_at hl 1 rfl) ?_
            refine ga_i C hh (Md_2 hM) (k := j) rfl (by omega) (by omega) d_Md_openAt_49 ?_
            refine gm_eqi ew ?_
            refine lv_icmp_ge (tgt := 138) C.1 C.2.1 d_Md_openAt_50 (by decide) (fun c_2 => ?_) (fun c_2 => ?_)
            · -- 50 -> 138
              have c_2 := gm_get (by omega) (by omega) c_2
              have c_2' := Nat.not_lt.mpr c_2
              refine lv_iload_n C.1 C.2.1 d_Md_openAt_138 rfl (lv_at hl 2 rfl) ?_
              exact gr_i C hlk hret rfl hh (by refine ⟨rfl, ?_⟩; rw [openN, eg, ew, nN_nI (by omega), nN_nI (by omega), if_pos ha, ho, show k = w by omega]) d_Md_openAt_139
            · -- 50 -> 53
              have c_2 := gm_gef (by omega) (by omega) c_2
              have c_2' := Nat.not_le.mpr c_2
              refine lv_iconst (v := nI 3) C.1 C.2.1 d_Md_openAt_53 rfl ?_
              refine lv_iload_n C.1 C.2.1 d_Md_openAt_54 rfl (lv_at hl 1 rfl) ?_
              refine lv_imul C.1 C.2.1 d_Md_openAt_55 ?_
              refine gm_eqi (pk_mul _ _) ?_
              refine lv_iload_n C.1 C.2.1 d_Md_openAt_56 rfl (lv_at hl 3 rfl) ?_
              refine lv_iadd C.1 C.2.1 d_Md_openAt_57 ?_
              refine gm_eqi (nI_add _ _) ?_
              refine lv_istore (lv' := [(4, .int (nI ((3 * j) + k))), (0, .ref r), (1, .int (nI j)), (2, .int (nI o)), (3, .int (nI k))]) C.1 C.2.1 d_Md_openAt_58 hl (by decide) rfl (fun ls hl => ?_)
              refine lv_iconst (v := nI 1) C.1 C.2.1 d_Md_openAt_60 rfl ?_
              refine lv_istore (lv' := [(5, .int (nI 1)), (4, .int (nI ((3 * j) + k))), (0, .ref r), (1, .int (nI j)), (2, .int (nI o)), (3, .int (nI k))]) C.1 C.2.1 d_Md_openAt_61 hl (by decide) rfl (fun ls hl => ?_)
              refine lv_iconst (v := nI 0) C.1 C.2.1 d_Md_openAt_63 rfl ?_
              refine lv_istore (lv' := [(6, .int (nI 0)), (5, .int (nI 1)), (4, .int (nI ((3 * j) + k))), (0, .ref r), (1, .int (nI j)), (2, .int (nI o)), (3, .int (nI k))]) C.1 C.2.1 d_Md_openAt_64 hl (by decide) rfl (fun ls hl => ?_)
              obtain ⟨t_, ht_, et_⟩ := hV.2.2.2.2.1 (3 * j + k) (by omega)
              have K66 : ∀ (n_66 : Nat) (i : Nat) (b : Bool) (x : Int32) (hi : i ≤ t_) (hx : x = bI b) (hb : b = allMet I (r + 6) (8 * (3 * j + k)) i (J r 35) (J r 36) (J r 37)) (hm_66 : t_ - i < n_66), ∀ (H : Heap) (locs : List Loc) (ls : Array Slot), gm_St D cs sh (gm_A sh) s'.heap sz I J H locs → lv_has ls 7 [(0, .ref r), (1, .int (nI j)), (2, .int (nI o)), (3, .int (nI k)), (4, .int (nI ((3 * j) + k))), (5, .int x), (6, .int (nI i))] → W p' l e' { frames := 1, cells := 0, slots := 0, locals := 22 } s' m' ([.ref r, .int (nI j)] : List Value).toArray be' me' co' H locs 0 0 (MQ be' (va_Qi (fun x u => u = (I, J) ∧ x = nI (openN I r j (J r 35) (J r 36) (J r 37))) (gm_B D cs sh sz) (gm_A sh)) ([.ref r, .int (nI j)] : List Value).toArray s' 0 0 (gm_A sh)) (F0 m' 66 ls []) := by
                intro n_66
                induction n_66 with
                | zero => intro i b x hi hx hb hm_66; exact absurd hm_66 (Nat.not_lt_zero _)
                | succ n_66 ih66 =>
                  intro i b x hi hx hb hm_66 H locs ls hh hl
                  refine lv_iload C.1 C.2.1 d_Md_openAt_66 (lv_at hl 6 rfl) ?_
                  refine lv_aload_n C.1 C.2.1 d_Md_openAt_68 rfl (lv_at hl 0 rfl) ?_
                  refine gg_r C hh (Md_0 hM) rfl in_Md 5 (by decide) rfl tw_570 rfl d_Md_openAt_69 ?_
                  refine lv_iload C.1 C.2.1 d_Md_openAt_72 (lv_at hl 4 rfl) ?_
                  refine ga_i C hh (Md_5 hM) (k := (3 * j) + k) rfl (by omega) (by omega) d_Md_openAt_74 ?_
                  refine gm_eqi et_ ?_
                  refine lv_icmp_ge (tgt := 117) C.1 C.2.1 d_Md_openAt_75 (by decide) (fun c_3 => ?_) (fun c_3 => ?_)
                  · -- 75 -> 117
                    have c_3 := gm_get (by omega) (by omega) c_3
                    have c_3' := Nat.not_lt.mpr c_3
                    refine lv_iload_n C.1 C.2.1 d_Md_openAt_117 rfl (lv_at hl 2 rfl) ?_
                    refine lv_iload C.1 C.2.1 d_Md_openAt_118 (lv_at hl 5 rfl) ?_
                    refine lv_if_eq (tgt := 129) C.1 C.2.1 d_Md_openAt_120 (by decide) (fun c_4 => ?_) (fun c_4 => ?_)
                    · -- 120 -> 129
                      skip
                      refine lv_iconst (v := nI 0) C.1 C.2.1 d_Md_openAt_129 rfl ?_
                      refine lv_iadd C.1 C.2.1 d_Md_openAt_130 ?_
                      refine gm_eqi (nI_add _ _) ?_
                      refine lv_istore_n (lv' := [(2, .int (nI (o + 0))), (0, .ref r), (1, .int (nI j)), (3, .int (nI k)), (4, .int (nI ((3 * j) + k))), (5, .int x), (6, .int (nI i))]) C.1 C.2.1 d_Md_openAt_131 rfl hl (by decide) rfl (fun ls hl => ?_)
                      refine lv_iinc (v := nI (k + 1)) (lv' := [(3, .int (nI (k + 1))), (2, .int (nI (o + 0))), (0, .ref r), (1, .int (nI j)), (4, .int (nI ((3 * j) + k))), (5, .int x), (6, .int (nI i))]) C.1 C.2.1 d_Md_openAt_132 hl (k := 3) rfl (gm_inc k 1) (by decide) rfl (fun ls hl => ?_)
                      refine lv_goto (tgt := 43) C.1 C.2.1 d_Md_openAt_135 (by decide) ?_
                      exact ih43 (k + 1) (o + 0) (by omega) (by exact ha) (by rw [ho, opens, wayMet, et_, nN_nI (by omega), show t_ = i by omega, ← hb]; first | (rw [bI_f hx (by assumption)]; simp; done) | (rw [bI_t hx (by assumption)]; simp; done)) (by omega) _ _ _ hh (lv_sub hl [2, 3, 1, 0] rfl)
                    · -- 120 -> 123
                      skip
                      refine lv_iconst (v := nI 1) C.1 C.2.1 d_Md_openAt_123 rfl ?_
                      refine lv_iload_n C.1 C.2.1 d_Md_openAt_124 rfl (lv_at hl 3 rfl) ?_
                      refine lv_ishl C.1 C.2.1 d_Md_openAt_125 ?_
                      refine gm_eqi (gm_shl (by omega) (by omega)) ?_
                      refine lv_goto (tgt := 130) C.1 C.2.1 d_Md_openAt_126 (by decide) ?_
                      refine lv_iadd C.1 C.2.1 d_Md_openAt_130 ?_
                      refine gm_eqi (nI_add _ _) ?_
                      refine lv_istore_n (lv' := [(2, .int (nI (o + (1 * 2 ^ k)))), (0, .ref r), (1, .int (nI j)), (3, .int (nI k)), (4, .int (nI ((3 * j) + k))), (5, .int x), (6, .int (nI i))]) C.1 C.2.1 d_Md_openAt_131 rfl hl (by decide) rfl (fun ls hl => ?_)
                      refine lv_iinc (v := nI (k + 1)) (lv' := [(3, .int (nI (k + 1))), (2, .int (nI (o + (1 * 2 ^ k)))), (0, .ref r), (1, .int (nI j)), (4, .int (nI ((3 * j) + k))), (5, .int x), (6, .int (nI i))]) C.1 C.2.1 d_Md_openAt_132 hl (k := 3) rfl (gm_inc k 1) (by decide) rfl (fun ls hl => ?_)
                      refine lv_goto (tgt := 43) C.1 C.2.1 d_Md_openAt_135 (by decide) ?_
                      exact ih43 (k + 1) (o + (1 * 2 ^ k)) (by omega) (by exact ha) (by rw [ho, opens, wayMet, et_, nN_nI (by omega), show t_ = i by omega, ← hb]; first | (rw [bI_f hx (by assumption)]; simp; done) | (rw [bI_t hx (by assumption)]; simp; done)) (by omega) _ _ _ hh (lv_sub hl [2, 3, 1, 0] rfl)
                  · -- 75 -> 78
                    have c_3 := gm_gef (by omega) (by omega) c_3
                    have c_3' := Nat.not_le.mpr c_3
                    refine lv_iload C.1 C.2.1 d_Md_openAt_78 (lv_at hl 5 rfl) ?_
                    refine lv_if_eq (tgt := 108) C.1 C.2.1 d_Md_openAt_80 (by decide) (fun c_5 => ?_) (fun c_5 => ?_)
                    · -- 80 -> 108
                      skip
                      refine lv_iconst (v := nI 0) C.1 C.2.1 d_Md_openAt_108 rfl ?_
                      refine lv_istore (lv' := [(5, .int (nI 0)), (0, .ref r), (1, .int (nI j)), (2, .int (nI o)), (3, .int (nI k)), (4, .int (nI ((3 * j) + k))), (6, .int (nI i))]) C.1 C.2.1 d_Md_openAt_109 hl (by decide) rfl (fun ls hl => ?_)
                      refine lv_iinc (v := nI (i + 1)) (lv' := [(6, .int (nI (i + 1))), (5, .int (nI 0)), (0, .ref r), (1, .int (nI j)), (2, .int (nI o)), (3, .int (nI k)), (4, .int (nI ((3 * j) + k)))]) C.1 C.2.1 d_Md_openAt_111 hl (k := 6) rfl (gm_inc i 1) (by decide) rfl (fun ls hl => ?_)
                      refine lv_goto (tgt := 66) C.1 C.2.1 d_Md_openAt_114 (by decide) ?_
                      exact ih66 (i + 1) false (nI 0) (by omega) (by rfl) (by first | (rw [allMet, ← hb, bI_f hx (by assumption)]; rfl) | (rw [allMet, ← hb, bI_t hx (by assumption)]; simp [eg, c_1', c_1, ew, c_2', c_2, et_, c_3', c_3, c_5]; done)) (by omega) _ _ _ hh (lv_sub hl [2, 3, 4, 5, 6, 1, 0] rfl)
                    · -- 80 -> 83
                      skip
                      refine lv_aload_n C.1 C.2.1 d_Md_openAt_83 rfl (lv_at hl 0 rfl) ?_
                      refine lv_aload_n C.1 C.2.1 d_Md_openAt_84 rfl (lv_at hl 0 rfl) ?_
                      refine gg_r C hh (Md_0 hM) rfl in_Md 6 (by decide) rfl tw_571 rfl d_Md_openAt_85 ?_
                      refine lv_bipush (v := nI 8) C.1 C.2.1 d_Md_openAt_88 rfl ?_
                      refine lv_iload C.1 C.2.1 d_Md_openAt_90 (lv_at hl 4 rfl) ?_
                      refine lv_imul C.1 C.2.1 d_Md_openAt_92 ?_
                      refine gm_eqi (pk_mul _ _) ?_
                      refine lv_iconst (v := nI 4) C.1 C.2.1 d_Md_openAt_93 rfl ?_
                      refine lv_iload C.1 C.2.1 d_Md_openAt_94 (lv_at hl 6 rfl) ?_
                      refine lv_imul C.1 C.2.1 d_Md_openAt_96 ?_
                      refine gm_eqi (pk_mul _ _) ?_
                      refine lv_iadd C.1 C.2.1 d_Md_openAt_97 ?_
                      refine gm_eqi (nI_add _ _) ?_
                      refine gc_i hh (gc_runV (As := [.ref (r + 6), .int (nI ((8 * ((3 * j) + k)) + (4 * i)))]) (rest := []) (n := 2) C hml hh (c_Md_isMet l D cs sh sz I J r (r + 6) 192 ((8 * ((3 * j) + k)) + (4 * i)) hM (Md_6 hM) (by omega) (by omega)) (tg_V tw_862 tw_864 tw_50 tw_64 tw_865) (by decide +kernel) ⟨rfl, rfl, by decide, by decide, Nat.zero_le _, Nat.zero_le _⟩ (Md_0 hM) rfl rfl hl.1 rfl (Nat.le_of_ble_eq_true rfl) d_Md_openAt_98) (fun r_6 I_7 J_8 H locs hr_6 hh => ?_)
                      obtain ⟨e_r_6, hr_6⟩ := hr_6
                      rw [(Prod.mk.inj e_r_6).1, (Prod.mk.inj e_r_6).2] at hh
                      refine lv_if_eq (tgt := 108) C.1 C.2.1 d_Md_openAt_101 (by decide) (fun c_9 => ?_) (fun c_9 => ?_)
                      · -- 101 -> 108
                        have b_10 := bI_f hr_6 c_9
                        skip
                        refine lv_iconst (v := nI 0) C.1 C.2.1 d_Md_openAt_108 rfl ?_
                        refine lv_istore (lv' := [(5, .int (nI 0)), (0, .ref r), (1, .int (nI j)), (2, .int (nI o)), (3, .int (nI k)), (4, .int (nI ((3 * j) + k))), (6, .int (nI i))]) C.1 C.2.1 d_Md_openAt_109 hl (by decide) rfl (fun ls hl => ?_)
                        refine lv_iinc (v := nI (i + 1)) (lv' := [(6, .int (nI (i + 1))), (5, .int (nI 0)), (0, .ref r), (1, .int (nI j)), (2, .int (nI o)), (3, .int (nI k)), (4, .int (nI ((3 * j) + k)))]) C.1 C.2.1 d_Md_openAt_111 hl (k := 6) rfl (gm_inc i 1) (by decide) rfl (fun ls hl => ?_)
                        refine lv_goto (tgt := 66) C.1 C.2.1 d_Md_openAt_114 (by decide) ?_
                        exact ih66 (i + 1) false (nI 0) (by omega) (by rfl) (by first | (rw [allMet, ← hb, bI_f hx (by assumption)]; rfl) | (rw [allMet, ← hb, bI_t hx (by assumption)]; simp [eg, c_1', c_1, ew, c_2', c_2, et_, c_3', c_3, c_5, b_10]; done)) (by omega) _ _ _ hh (lv_sub hl [2, 3, 4, 5, 6, 1, 0] rfl)
                      · -- 101 -> 104
                        have b_11 := bI_t hr_6 c_9
                        skip
                        refine lv_iconst (v := nI 1) C.1 C.2.1 d_Md_openAt_104 rfl ?_
                        refine lv_goto (tgt := 109) C.1 C.2.1 d_Md_openAt_105 (by decide) ?_
                        refine lv_istore (lv' := [(5, .int (nI 1)), (0, .ref r), (1, .int (nI j)), (2, .int (nI o)), (3, .int (nI k)), (4, .int (nI ((3 * j) + k))), (6, .int (nI i))]) C.1 C.2.1 d_Md_openAt_109 hl (by decide) rfl (fun ls hl => ?_)
                        refine lv_iinc (v := nI (i + 1)) (lv' := [(6, .int (nI (i + 1))), (5, .int (nI 1)), (0, .ref r), (1, .int (nI j)), (2, .int (nI o)), (3, .int (nI k)), (4, .int (nI ((3 * j) + k)))]) C.1 C.2.1 d_Md_openAt_111 hl (k := 6) rfl (gm_inc i 1) (by decide) rfl (fun ls hl => ?_)
                        refine lv_goto (tgt := 66) C.1 C.2.1 d_Md_openAt_114 (by decide) ?_
                        exact ih66 (i + 1) true (nI 1) (by omega) (by rfl) (by first | (rw [allMet, ← hb, bI_f hx (by assumption)]; rfl) | (rw [allMet, ← hb, bI_t hx (by assumption)]; simp [eg, c_1', c_1, ew, c_2', c_2, et_, c_3', c_3, c_5, b_11]; done)) (by omega) _ _ _ hh (lv_sub hl [2, 3, 4, 5, 6, 1, 0] rfl)
              exact K66 _ 0 true (nI 1) (by omega) (by rfl) (by rfl) (Nat.lt_succ_self _) _ _ _ hh (lv_sub hl [3, 4, 5, 6, 2, 1, 0] rfl)
        exact K43 _ 0 0 (by omega) (by exact allMet_le ha (by omega)) (by rfl) (Nat.lt_succ_self _) _ _ _ hh (lv_sub hl [2, 3, 1, 0] rfl)
      · -- 9 -> 12
        have c_1 := gm_gef (by omega) (by omega) c_1
        have c_1' := Nat.not_le.mpr c_1
        refine lv_aload_n C.1 C.2.1 d_Md_openAt_12 rfl (lv_at hl 0 rfl) ?_
        refine lv_aload_n C.1 C.2.1 d_Md_openAt_13 rfl (lv_at hl 0 rfl) ?_
        refine gg_r C hh (Md_0 hM) rfl in_Md 4 (by decide) rfl tw_569 rfl d_Md_openAt_14 ?_
        refine lv_bipush (v := nI 16) C.1 C.2.1 d_Md_openAt_17 rfl ?_
        refine lv_iload_n C.1 C.2.1 d_Md_openAt_19 rfl (lv_at hl 1 rfl) ?_
        refine lv_imul C.1 C.2.1 d_Md_openAt_20 ?_
        refine gm_eqi (pk_mul _ _) ?_
        refine lv_iconst (v := nI 4) C.1 C.2.1 d_Md_openAt_21 rfl ?_
        refine lv_iload_n C.1 C.2.1 d_Md_openAt_22 rfl (lv_at hl 2 rfl) ?_
        refine lv_imul C.1 C.2.1 d_Md_openAt_23 ?_
        refine gm_eqi (pk_mul _ _) ?_
        refine lv_iadd C.1 C.2.1 d_Md_openAt_24 ?_
        refine gm_eqi (nI_add _ _) ?_
        refine gc_i hh (gc_runV (As := [.ref (r + 4), .int (nI ((16 * j) + (4 * k)))]) (rest := []) (n := 2) C hml hh (c_Md_isMet l D cs sh sz I J r (r + 4) 128 ((16 * j) + (4 * k)) hM (Md_4 hM) (by omega) (by omega)) (tg_V tw_862 tw_864 tw_50 tw_64 tw_865) (by decide +kernel) ⟨rfl, rfl, by decide, by decide, Nat.zero_le _, Nat.zero_le _⟩ (Md_0 hM) rfl rfl hl.1 rfl (Nat.le_of_ble_eq_true rfl) d_Md_openAt_25) (fun r_12 I_13 J_14 H locs hr_12 hh => ?_)
        obtain ⟨e_r_12, hr_12⟩ := hr_12
        rw [(Prod.mk.inj e_r_12).1, (Prod.mk.inj e_r_12).2] at hh
        refine lv_if_ne (tgt := 33) C.1 C.2.1 d_Md_openAt_28 (by decide) (fun c_15 => ?_) (fun c_15 => ?_)
        · -- 28 -> 33
          have b_16 := bI_t hr_12 c_15
          skip
          refine lv_iinc (v := nI (k + 1)) (lv' := [(2, .int (nI (k + 1))), (0, .ref r), (1, .int (nI j))]) C.1 C.2.1 d_Md_openAt_33 hl (k := 2) rfl (gm_inc k 1) (by decide) rfl (fun ls hl => ?_)
          refine lv_goto (tgt := 2) C.1 C.2.1 d_Md_openAt_36 (by decide) ?_
          exact ih2 (k + 1) (by omega) (by simp only [allMet, Bool.and_eq_true]; exact ⟨ha, by assumption⟩) (by omega) _ _ _ hh (lv_sub hl [1, 2, 0] rfl)
        · -- 28 -> 31
          have b_17 := bI_f hr_12 c_15
          skip
          refine lv_iconst (v := nI 0) C.1 C.2.1 d_Md_openAt_31 rfl ?_
          exact gr_i C hlk hret rfl hh (by refine ⟨rfl, ?_⟩; rw [openN, eg, nN_nI (by omega), if_neg (by rw [allMet_f (m := k) (by assumption) (by omega)]; decide)]) d_Md_openAt_32
  exact K2 _ 0 (by omega) (by rfl) (Nat.lt_succ_self _) _ _ _ hh (lv_sub hl [1, 2, 0] rfl)
