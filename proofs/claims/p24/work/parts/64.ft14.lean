set_option maxHeartbeats 4000000 in
set_option maxRecDepth 100000 in
theorem c_FT_findNeed (l : Launch) (D : va_G) (cs : Nat → ClassId) (sh : gm_H) (sz : Nat) (I : gm_I) (J : gm_J) (B : Nat) (hF : is_FT cs sh B) (hV : inv_FT I B) (j o : Nat) (hj : j < 8) (eo : o = B + 12 + 21 * j) (ho : is_Lp cs sh o) (a b c : Int32) : CI l y_FT_findNeed w_FT_findNeed { frames := 6, cells := 0, slots := 0, locals := 152 } D cs sh sz I J [.ref B, .ref o, .int a, .int b, .int c] (fun x u => (x = 0 ∨ x = 1) ∧ sfF B I J u) := by
  refine gm_start (by decide) (Nat.le_of_ble_eq_true rfl) ?_
  intro p' e' s' m' be' me' co' ls C hml hlk hret hh hl
  have hl : lv_has ls 6 [(0, .ref B), (1, .ref o), (2, .int a), (3, .int b), (4, .int c)] := hl
  have tK_0 : keepF B I I J J := keepF.nil
  have tV_0 : inv_FT I B := hV
  refine lv_aload_n C.1 C.2.1 d_FT_findNeed_0 rfl (lv_at hl 0 rfl) ?_
  refine lv_aload_n C.1 C.2.1 d_FT_findNeed_1 rfl (lv_at hl 1 rfl) ?_
  refine lv_iload_n C.1 C.2.1 d_FT_findNeed_2 rfl (lv_at hl 2 rfl) ?_
  refine lv_iload_n C.1 C.2.1 d_FT_findNeed_3 rfl (lv_at hl 3 rfl) ?_
  refine lv_iload C.1 C.2.1 d_FT_findNeed_4 (lv_at hl 4 rfl) ?_
  refine lv_iconst (v := nI 2) C.1 C.2.1 d_FT_findNeed_6 rfl ?_
  refine gc_v hh (gc_runV (As := [.ref o, .int a, .int b, .int c, .int (nI 2)]) (rest := []) (n := 5) C hml hh (c_FT_narrowSpaces l D cs sh sz I J B hF tV_0 j o (by omega) eo ho a b c (nI 2)) (tg_V tw_466 tw_468 tw_22 tw_57 tw_469) (by decide +kernel) ⟨rfl, rfl, by decide, by decide, Nat.zero_le _, Nat.zero_le _⟩ hF.1 rfl rfl hl.1 rfl (Nat.le_of_ble_eq_true rfl) d_FT_findNeed_7) (fun I_2 J_3 H locs hr_1 hh => ?_)
  have tK_4 : keepF B I I_2 J J_3 := keepF.tr tK_0 hr_1.1
  have tV_5 : inv_FT I_2 B := hr_1.2
  refine lv_aload_n C.1 C.2.1 d_FT_findNeed_10 rfl (lv_at hl 0 rfl) ?_
  refine gg_r C hh hF.1 rfl in_FT 5 (by decide) rfl tw_215 rfl d_FT_findNeed_11 ?_
  refine lv_aload_n C.1 C.2.1 d_FT_findNeed_14 rfl (lv_at hl 1 rfl) ?_
  refine lv_aload_n C.1 C.2.1 d_FT_findNeed_15 rfl (lv_at hl 0 rfl) ?_
  refine gg_r C hh hF.1 rfl in_FT 3 (by decide) rfl tw_213 rfl d_FT_findNeed_16 ?_
  refine gc_v hh (gc_runV (As := [.ref o, .ref (B + 3)]) (rest := []) (n := 2) C hml hh (c_Pf_search l D cs sh sz I_2 J_3 (B + 6) hF.2.2.2.2.2.1 tV_5.2.2.2.1 o ho (by have h_ := tV_5.2.1 j (by omega); rw [← eo] at h_; exact h_ : inv_Lp I_2 o) (B + 3) (B + 186) hF.2.2.2.1 (fun k hk => by have h_ := tV_5.2.2.2.2.1 (2 * k + 1) (by omega); rw [show B + 180 + 6 * (2 * k + 1) = B + 186 + 12 * k by omega] at h_; exact h_) (by omega) (by omega)) (tg_V tw_427 tw_428 tw_429 tw_58 tw_430) (by decide +kernel) ⟨rfl, rfl, by decide, by decide, Nat.zero_le _, Nat.zero_le _⟩ hF.2.2.2.2.2.1.1 rfl rfl hl.1 rfl (Nat.le_of_ble_eq_true rfl) d_FT_findNeed_19) (fun I_7 J_8 H locs hr_6 hh => ?_)
  have tK_9 : keepF B I I_7 J J_8 := keepF.tr tK_4 (keepF.of hr_6.1 (by omega))
  have tV_10 : inv_FT I_7 B := inv_FT.pf tV_5 hr_6 (by omega)
  refine lv_aload_n C.1 C.2.1 d_FT_findNeed_22 rfl (lv_at hl 0 rfl) ?_
  refine gg_r C hh hF.1 rfl in_FT 5 (by decide) rfl tw_215 rfl d_FT_findNeed_23 ?_
  refine gn_i C hh hF.2.2.2.2.2.1.1 rfl in_Pf 2 (by decide) rfl tw_88 rfl d_FT_findNeed_26 ?_
  refine lv_if_eq (tgt := 34) C.1 C.2.1 d_FT_findNeed_29 (by decide) (fun c_11 => ?_) (fun c_11 => ?_)
  · -- 29 -> 34
    skip
    refine lv_bipush (v := (-2)) C.1 C.2.1 d_FT_findNeed_34 rfl ?_
    refine lv_topi (fun x_12 ex_12 => ?_)
    refine lv_istore (lv' := [(5, .int x_12), (0, .ref B), (1, .ref o), (2, .int a), (3, .int b), (4, .int c)]) C.1 C.2.1 d_FT_findNeed_36 hl (by decide) rfl (fun ls hl => ?_)
    have K38 : ∀ (n_38 : Nat) (d : Int32) (I38 : gm_I) (J38 : gm_J) (hd1 : -7 ≤ d.toInt) (hd2 : d.toInt ≤ 7) (tK38 : keepF B I I38 J J38) (tV38 : inv_FT I38 B) (hm_38 : (8 - d.toInt).toNat < n_38), ∀ (H : Heap) (locs : List Loc) (ls : Array Slot), gm_St D cs sh (gm_A sh) s'.heap sz I38 J38 H locs → lv_has ls 6 [(0, .ref B), (1, .ref o), (2, .int a), (3, .int b), (4, .int c), (5, .int d)] → W p' l e' { frames := 6, cells := 0, slots := 0, locals := 152 } s' m' ([.ref B, .ref o, .int a, .int b, .int c] : List Value).toArray be' me' co' H locs 0 0 (MQ be' (va_Qi (fun x u => (x = 0 ∨ x = 1) ∧ sfF B I J u) (gm_B D cs sh sz) (gm_A sh)) ([.ref B, .ref o, .int a, .int b, .int c] : List Value).toArray s' 0 0 (gm_A sh)) (F0 m' 38 ls []) := by
      intro n_38
      induction n_38 with
      | zero => intro d I38 J38 hd1 hd2 tK38 tV38 hm_38; exact absurd hm_38 (Nat.not_lt_zero _)
      | succ n_38 ih38 =>
        intro d I38 J38 hd1 hd2 tK38 tV38 hm_38 H locs ls hh hl
        refine lv_iload C.1 C.2.1 d_FT_findNeed_38 (lv_at hl 5 rfl) ?_
        refine lv_iconst (v := nI 2) C.1 C.2.1 d_FT_findNeed_40 rfl ?_
        refine lv_icmp_gt (tgt := 112) C.1 C.2.1 d_FT_findNeed_41 (by decide) (fun c_13 => ?_) (fun c_13 => ?_)
        · -- 41 -> 112
          skip
          refine lv_iconst (v := nI 0) C.1 C.2.1 d_FT_findNeed_112 rfl ?_
          exact gr_i C hlk hret (gm_nb (Or.inl rfl)) hh (by exact ⟨Or.inl rfl, tK38, tV38⟩) d_FT_findNeed_113
        · -- 41 -> 44
          skip
          have lo_d := loI (by omega) (by assumption : ¬ nI 2 < d)
          refine lv_aload_n C.1 C.2.1 d_FT_findNeed_44 rfl (lv_at hl 0 rfl) ?_
          refine lv_aload_n C.1 C.2.1 d_FT_findNeed_45 rfl (lv_at hl 1 rfl) ?_
          refine lv_iload_n C.1 C.2.1 d_FT_findNeed_46 rfl (lv_at hl 2 rfl) ?_
          refine lv_iload_n C.1 C.2.1 d_FT_findNeed_47 rfl (lv_at hl 3 rfl) ?_
          refine lv_iload C.1 C.2.1 d_FT_findNeed_48 (lv_at hl 4 rfl) ?_
          refine lv_iload C.1 C.2.1 d_FT_findNeed_50 (lv_at hl 5 rfl) ?_
          refine gc_v hh (gc_runV (As := [.ref o, .int a, .int b, .int c, .int d]) (rest := []) (n := 5) C hml hh (c_FT_narrowSpaces l D cs sh sz I38 J38 B hF tV38 j o (by omega) eo ho a b c d) (tg_V tw_466 tw_468 tw_22 tw_57 tw_469) (by decide +kernel) ⟨rfl, rfl, by decide, by decide, Nat.zero_le _, Nat.zero_le _⟩ hF.1 rfl rfl hl.1 rfl (Nat.le_of_ble_eq_true rfl) d_FT_findNeed_52) (fun I_15 J_16 H locs hr_14 hh => ?_)
          have tK_17 : keepF B I I_15 J J_16 := keepF.tr tK38 hr_14.1
          have tV_18 : inv_FT I_15 B := hr_14.2
          refine lv_aload_n C.1 C.2.1 d_FT_findNeed_55 rfl (lv_at hl 0 rfl) ?_
          refine lv_aload_n C.1 C.2.1 d_FT_findNeed_56 rfl (lv_at hl 1 rfl) ?_
          refine lv_iload_n C.1 C.2.1 d_FT_findNeed_57 rfl (lv_at hl 2 rfl) ?_
          refine lv_iload_n C.1 C.2.1 d_FT_findNeed_58 rfl (lv_at hl 3 rfl) ?_
          refine lv_iload C.1 C.2.1 d_FT_findNeed_59 (lv_at hl 4 rfl) ?_
          refine lv_iload C.1 C.2.1 d_FT_findNeed_61 (lv_at hl 5 rfl) ?_
          refine gc_i hh (gc_runV (As := [.ref o, .int a, .int b, .int c, .int d]) (rest := []) (n := 5) C hml hh (c_FT_lasts l D cs sh sz I_15 J_16 B hF tV_18 j o (by omega) eo ho a b c d) (tg_V tw_475 tw_477 tw_23 tw_57 tw_478) (by decide +kernel) ⟨rfl, rfl, by decide, by decide, Nat.zero_le _, Nat.zero_le _⟩ hF.1 rfl rfl hl.1 rfl (Nat.le_of_ble_eq_true rfl) d_FT_findNeed_63) (fun r_19 I_20 J_21 H locs hr_19 hh => ?_)
          obtain ⟨e_r_19, hr_19⟩ := hr_19
          rw [(Prod.mk.inj e_r_19).1, (Prod.mk.inj e_r_19).2] at hh
          refine lv_if_ne (tgt := 72) C.1 C.2.1 d_FT_findNeed_66 (by decide) (fun c_22 => ?_) (fun c_22 => ?_)
          · -- 66 -> 72
            skip
            refine lv_aload_n C.1 C.2.1 d_FT_findNeed_72 rfl (lv_at hl 0 rfl) ?_
            refine gg_r C hh hF.1 rfl in_FT 5 (by decide) rfl tw_215 rfl d_FT_findNeed_73 ?_
            refine lv_aload_n C.1 C.2.1 d_FT_findNeed_76 rfl (lv_at hl 1 rfl) ?_
            refine lv_aload_n C.1 C.2.1 d_FT_findNeed_77 rfl (lv_at hl 0 rfl) ?_
            refine gg_r C hh hF.1 rfl in_FT 3 (by decide) rfl tw_213 rfl d_FT_findNeed_78 ?_
            refine gc_v hh (gc_runV (As := [.ref o, .ref (B + 3)]) (rest := []) (n := 2) C hml hh (c_Pf_search l D cs sh sz I_15 J_16 (B + 6) hF.2.2.2.2.2.1 tV_18.2.2.2.1 o ho (by have h_ := tV_18.2.1 j (by omega); rw [← eo] at h_; exact h_ : inv_Lp I_15 o) (B + 3) (B + 186) hF.2.2.2.1 (fun k hk => by have h_ := tV_18.2.2.2.2.1 (2 * k + 1) (by omega); rw [show B + 180 + 6 * (2 * k + 1) = B + 186 + 12 * k by omega] at h_; exact h_) (by omega) (by omega)) (tg_V tw_427 tw_428 tw_429 tw_58 tw_430) (by decide +kernel) ⟨rfl, rfl, by decide, by decide, Nat.zero_le _, Nat.zero_le _⟩ hF.2.2.2.2.2.1.1 rfl rfl hl.1 rfl (Nat.le_of_ble_eq_true rfl) d_FT_findNeed_81) (fun I_24 J_25 H locs hr_23 hh => ?_)
            have tK_26 : keepF B I I_24 J J_25 := keepF.tr tK_17 (keepF.of hr_23.1 (by omega))
            have tV_27 : inv_FT I_24 B := inv_FT.pf tV_18 hr_23 (by omega)
            refine lv_aload_n C.1 C.2.1 d_FT_findNeed_84 rfl (lv_at hl 0 rfl) ?_
            refine gg_r C hh hF.1 rfl in_FT 5 (by decide) rfl tw_215 rfl d_FT_findNeed_85 ?_
            refine gn_i C hh hF.2.2.2.2.2.1.1 rfl in_Pf 2 (by decide) rfl tw_88 rfl d_FT_findNeed_88 ?_
            refine lv_if_ne (tgt := 106) C.1 C.2.1 d_FT_findNeed_91 (by decide) (fun c_28 => ?_) (fun c_28 => ?_)
            · -- 91 -> 106
              skip
              obtain ⟨x_29, ex_29⟩ : ∃ z : Int32, z = d + Int32.ofInt 1 := ⟨_, rfl⟩
              refine lv_iinc (v := x_29) (lv' := [(5, .int x_29), (0, .ref B), (1, .ref o), (2, .int a), (3, .int b), (4, .int c)]) C.1 C.2.1 d_FT_findNeed_106 hl (k := 5) rfl (ex_29.symm) (by decide) rfl (fun ls hl => ?_)
              refine lv_goto (tgt := 38) C.1 C.2.1 d_FT_findNeed_109 (by decide) ?_
              have nx_d : x_29.toInt = d.toInt + 1 := by rw [ex_29]; exact incT (by omega) (by omega)
              exact ih38 x_29 I_24 J_25 (by omega) (by omega) (by exact tK_26) (by exact tV_27) (by omega) _ _ _ hh (lv_sub hl [1, 2, 3, 4, 5, 0] rfl)
            · -- 91 -> 94
              skip
              refine lv_aload_n C.1 C.2.1 d_FT_findNeed_94 rfl (lv_at hl 0 rfl) ?_
              refine lv_iload_n C.1 C.2.1 d_FT_findNeed_95 rfl (lv_at hl 2 rfl) ?_
              refine lv_iload_n C.1 C.2.1 d_FT_findNeed_96 rfl (lv_at hl 3 rfl) ?_
              refine lv_iload C.1 C.2.1 d_FT_findNeed_97 (lv_at hl 4 rfl) ?_
              refine lv_iload C.1 C.2.1 d_FT_findNeed_99 (lv_at hl 5 rfl) ?_
              refine gc_v hh (gc_runV (As := [.int a, .int b, .int c, .int d]) (rest := []) (n := 4) C hml hh (c_FT_keepNeed l D cs sh sz I_24 J_25 B hF tV_27 a b c d) (tg_V tw_483 tw_485 tw_24 tw_57 tw_486) (by decide +kernel) ⟨rfl, rfl, by decide, by decide, Nat.zero_le _, Nat.zero_le _⟩ hF.1 rfl rfl hl.1 rfl (Nat.le_of_ble_eq_true rfl) d_FT_findNeed_101) (fun I_31 J_32 H locs hr_30 hh => ?_)
              have tK_33 : keepF B I I_31 J J_32 := keepF.tr tK_26 hr_30.1
              have tV_34 : inv_FT I_31 B := hr_30.2
              refine lv_iconst (v := nI 1) C.1 C.2.1 d_FT_findNeed_104 rfl ?_
              exact gr_i C hlk hret (gm_nb (Or.inr rfl)) hh (by exact ⟨Or.inr rfl, tK_33, tV_34⟩) d_FT_findNeed_105
          · -- 66 -> 69
            skip
            refine lv_goto (tgt := 106) C.1 C.2.1 d_FT_findNeed_69 (by decide) ?_
            obtain ⟨x_35, ex_35⟩ : ∃ z : Int32, z = d + Int32.ofInt 1 := ⟨_, rfl⟩
            refine lv_iinc (v := x_35) (lv' := [(5, .int x_35), (0, .ref B), (1, .ref o), (2, .int a), (3, .int b), (4, .int c)]) C.1 C.2.1 d_FT_findNeed_106 hl (k := 5) rfl (ex_35.symm) (by decide) rfl (fun ls hl => ?_)
            refine lv_goto (tgt := 38) C.1 C.2.1 d_FT_findNeed_109 (by decide) ?_
            have nx_d : x_35.toInt = d.toInt + 1 := by rw [ex_35]; exact incT (by omega) (by omega)
            exact ih38 x_35 I_15 J_16 (by omega) (by omega) (by exact tK_17) (by exact tV_18) (by omega) _ _ _ hh (lv_sub hl [1, 2, 3, 4, 5, 0] rfl)
    exact K38 _ x_12 I_7 J_8 (by rw [ex_12]; decide) (by rw [ex_12]; decide) (by exact tK_9) (by exact tV_10) (Nat.lt_succ_self _) _ _ _ hh (lv_sub hl [1, 2, 3, 4, 5, 0] rfl)
  · -- 29 -> 32
    skip
    refine lv_iconst (v := nI 0) C.1 C.2.1 d_FT_findNeed_32 rfl ?_
    exact gr_i C hlk hret (gm_nb (Or.inl rfl)) hh (by exact ⟨Or.inl rfl, tK_9, tV_10⟩) d_FT_findNeed_33

set_option maxHeartbeats 4000000 in
set_option maxRecDepth 100000 in
theorem c_FT_empty (l : Launch) (D : va_G) (cs : Nat → ClassId) (sh : gm_H) (sz : Nat) (I : gm_I) (J : gm_J) (B : Nat) (hF : is_FT cs sh B) (hV : inv_FT I B) (v w : Int32) : CI l y_FT_empty w_FT_empty { frames := 6, cells := 0, slots := 0, locals := 159 } D cs sh sz I J [.ref B, .int v, .int w] (fun _ u => sfF B I J u) := by
  refine gm_start (by decide) (Nat.le_of_ble_eq_true rfl) ?_
  intro p' e' s' m' be' me' co' ls C hml hlk hret hh hl
  have hl : lv_has ls 3 [(0, .ref B), (1, .int v), (2, .int w)] := hl
  obtain ⟨n, hn, en⟩ := hV.1
  have tK_0 : keepF B I I J J := keepF.nil
  have tV_0 : inv_FT I B := hV
  refine lv_aload_n C.1 C.2.1 d_FT_empty_0 rfl (lv_at hl 0 rfl) ?_
  refine lv_iload_n C.1 C.2.1 d_FT_empty_1 rfl (lv_at hl 1 rfl) ?_
  refine lv_iload_n C.1 C.2.1 d_FT_empty_2 rfl (lv_at hl 2 rfl) ?_
  refine gc_i hh (gc_runV (As := [.int v, .int w]) (rest := []) (n := 2) C hml hh (c_FT_isWay l D cs sh sz I J B hF hV n en hn v w) (tg_V tw_298 tw_300 tw_2 tw_57 tw_301) (by decide +kernel) ⟨rfl, rfl, by decide, by decide, Nat.zero_le _, Nat.zero_le _⟩ hF.1 rfl rfl hl.1 rfl (Nat.le_of_ble_eq_true rfl) d_FT_empty_3) (fun r_1 I_2 J_3 H locs hr_1 hh => ?_)
  obtain ⟨e_r_1, hr_1⟩ := hr_1
  rw [(Prod.mk.inj e_r_1).1, (Prod.mk.inj e_r_1).2] at hh
  refine lv_if_ne (tgt := 12) C.1 C.2.1 d_FT_empty_6 (by decide) (fun c_4 => ?_) (fun c_4 => ?_)
  · -- 6 -> 12
    have b_5 := bI_t hr_1 c_4
    obtain ⟨j_6, k_7, m_8, hj_6, hk_7, hm_8, ej_6, fk_7, em_8⟩ := fwB_j hn hV b_5
    subst ej_6
    subst fk_7
    skip
    refine lv_aload_n C.1 C.2.1 d_FT_empty_12 rfl (lv_at hl 0 rfl) ?_
    refine lv_iload_n C.1 C.2.1 d_FT_empty_13 rfl (lv_at hl 1 rfl) ?_
    refine lv_iload_n C.1 C.2.1 d_FT_empty_14 rfl (lv_at hl 2 rfl) ?_
    refine gc_r hh (gc_runV (As := [.int (nI j_6), .int (nI k_7)]) (rest := []) (n := 2) C hml hh (c_FT_spaceOf l D cs sh sz I J B hF tV_0 j_6 k_7 (by omega) (by omega)) (tg_V tw_322 tw_324 tw_4 tw_57 tw_325) (by decide +kernel) ⟨rfl, rfl, by decide, by decide, Nat.zero_le _, Nat.zero_le _⟩ hF.1 rfl rfl hl.1 rfl (Nat.le_of_ble_eq_true rfl) d_FT_empty_15) (fun r_9 I_10 J_11 H locs hr_9 hh => ?_)
    have er_9 := hr_9.1
    have tK_12 : keepF B I I_10 J J_11 := keepF.tr tK_0 hr_9.2.1
    have tV_13 : inv_FT I_10 B := hr_9.2.2
    have h_r_9 : is_Sp sh r_9 := by rw [er_9]; exact hF.2.2.1.2 k_7 (by omega)
    obtain ⟨_, ⟨n_15, hn_15, en_15⟩⟩ := (by have h_ := tV_13.2.2.2.2.1 (2 * k_7) (by omega); rw [show B + 180 + 6 * (2 * k_7) = r_9 by omega] at h_; exact h_ : inv_Sp I_10 r_9)
    refine gc_i hh (gc_runV (As := []) (rest := []) (n := 0) C hml hh (c_Sp_hasNothing l D cs sh sz I_10 J_11 r_9 h_r_9 n_15 en_15 hn_15) (tg_V tw_386 tw_387 tw_388 tw_63 tw_389) (by decide +kernel) ⟨rfl, rfl, by decide, by decide, Nat.zero_le _, Nat.zero_le _⟩ h_r_9.1 rfl rfl hl.1 rfl (Nat.le_of_ble_eq_true rfl) d_FT_empty_18) (fun r_16 I_17 J_18 H locs hr_16 hh => ?_)
    obtain ⟨e_r_16, hr_16⟩ := hr_16
    rw [(Prod.mk.inj e_r_16).1, (Prod.mk.inj e_r_16).2] at hh
    refine lv_if_eq (tgt := 28) C.1 C.2.1 d_FT_empty_21 (by decide) (fun c_19 => ?_) (fun c_19 => ?_)
    · -- 21 -> 28
      have b_20 := bI_f hr_16 c_19
      skip
      refine lv_iconst (v := nI 0) C.1 C.2.1 d_FT_empty_28 rfl ?_
      exact gr_i C hlk hret rfl hh (by exact ⟨tK_12, tV_13⟩) d_FT_empty_29
    · -- 21 -> 24
      have b_21 := bI_t hr_16 c_19
      skip
      refine lv_iconst (v := nI 1) C.1 C.2.1 d_FT_empty_24 rfl ?_
      refine lv_goto (tgt := 29) C.1 C.2.1 d_FT_empty_25 (by decide) ?_
      exact gr_i C hlk hret rfl hh (by exact ⟨tK_12, tV_13⟩) d_FT_empty_29
  · -- 6 -> 9
    have b_22 := bI_f hr_1 c_4
    skip
    refine lv_bipush (v := (-2)) C.1 C.2.1 d_FT_empty_9 rfl ?_
    exact gr_i C hlk hret rfl hh (by exact ⟨tK_0, tV_0⟩) d_FT_empty_11

set_option maxHeartbeats 4000000 in
set_option maxRecDepth 100000 in
theorem c_FT_holds (l : Launch) (D : va_G) (cs : Nat → ClassId) (sh : gm_H) (sz : Nat) (I : gm_I) (J : gm_J) (B : Nat) (hF : is_FT cs sh B) (hV : inv_FT I B) (v w a b c d : Int32) : CI l y_FT_holds w_FT_holds { frames := 6, cells := 0, slots := 0, locals := 159 } D cs sh sz I J [.ref B, .int v, .int w, .int a, .int b, .int c, .int d] (fun _ u => sfF B I J u) := by
  refine gm_start (by decide) (Nat.le_of_ble_eq_true rfl) ?_
  intro p' e' s' m' be' me' co' ls C hml hlk hret hh hl
  have hl : lv_has ls 7 [(0, .ref B), (1, .int v), (2, .int w), (3, .int a), (4, .int b), (5, .int c), (6, .int d)] := hl
  obtain ⟨n, hn, en⟩ := hV.1
  have tK_0 : keepF B I I J J := keepF.nil
  have tV_0 : inv_FT I B := hV
  refine lv_aload_n C.1 C.2.1 d_FT_holds_0 rfl (lv_at hl 0 rfl) ?_
  refine lv_iload_n C.1 C.2.1 d_FT_holds_1 rfl (lv_at hl 1 rfl) ?_
  refine lv_iload_n C.1 C.2.1 d_FT_holds_2 rfl (lv_at hl 2 rfl) ?_
  refine gc_i hh (gc_runV (As := [.int v, .int w]) (rest := []) (n := 2) C hml hh (c_FT_isWay l D cs sh sz I J B hF hV n en hn v w) (tg_V tw_298 tw_300 tw_2 tw_57 tw_301) (by decide +kernel) ⟨rfl, rfl, by decide, by decide, Nat.zero_le _, Nat.zero_le _⟩ hF.1 rfl rfl hl.1 rfl (Nat.le_of_ble_eq_true rfl) d_FT_holds_3) (fun r_1 I_2 J_3 H locs hr_1 hh => ?_)
  obtain ⟨e_r_1, hr_1⟩ := hr_1
  rw [(Prod.mk.inj e_r_1).1, (Prod.mk.inj e_r_1).2] at hh
  refine lv_if_ne (tgt := 12) C.1 C.2.1 d_FT_holds_6 (by decide) (fun c_4 => ?_) (fun c_4 => ?_)
  · -- 6 -> 12
    have b_5 := bI_t hr_1 c_4
    obtain ⟨j_6, k_7, m_8, hj_6, hk_7, hm_8, ej_6, fk_7, em_8⟩ := fwB_j hn hV b_5
    subst ej_6
    subst fk_7
    skip
    obtain ⟨nm_, hnm_, enm_⟩ := (hV.2.1 j_6 (by omega)).1
    obtain ⟨g_, hg_, eg_⟩ := ((hV.2.1 j_6 (by omega)).2.2.2 k_7 (by omega)).2
    refine lv_aload_n C.1 C.2.1 d_FT_holds_12 rfl (lv_at hl 0 rfl) ?_
    refine lv_iload_n C.1 C.2.1 d_FT_holds_13 rfl (lv_at hl 1 rfl) ?_
    refine lv_iload_n C.1 C.2.1 d_FT_holds_14 rfl (lv_at hl 3 rfl) ?_
    refine lv_iload C.1 C.2.1 d_FT_holds_15 (lv_at hl 4 rfl) ?_
    refine lv_iload C.1 C.2.1 d_FT_holds_17 (lv_at hl 5 rfl) ?_
    refine lv_iload C.1 C.2.1 d_FT_holds_19 (lv_at hl 6 rfl) ?_
    refine gc_i hh (gc_runV (As := [.int (nI j_6), .int a, .int b, .int c, .int d]) (rest := []) (n := 5) C hml hh (c_FT_rowFits l D cs sh sz I J B hF hV j_6 nm_ (by omega) enm_ hnm_ a b c d) (tg_V tw_268 tw_270 tw_1 tw_57 tw_271) (by decide +kernel) ⟨rfl, rfl, by decide, by decide, Nat.zero_le _, Nat.zero_le _⟩ hF.1 rfl rfl hl.1 rfl (Nat.le_of_ble_eq_true rfl) d_FT_holds_21) (fun r_9 I_10 J_11 H locs hr_9 hh => ?_)
    obtain ⟨e_r_9, hr_9⟩ := hr_9
    rw [(Prod.mk.inj e_r_9).1, (Prod.mk.inj e_r_9).2] at hh
    refine lv_if_ne (tgt := 30) C.1 C.2.1 d_FT_holds_24 (by decide) (fun c_12 => ?_) (fun c_12 => ?_)
    · -- 24 -> 30
      have b_13 := bI_t hr_9 c_12
      skip
      refine lv_aload_n C.1 C.2.1 d_FT_holds_30 rfl (lv_at hl 0 rfl) ?_
      refine lv_iload_n C.1 C.2.1 d_FT_holds_31 rfl (lv_at hl 1 rfl) ?_
      refine lv_iload_n C.1 C.2.1 d_FT_holds_32 rfl (lv_at hl 2 rfl) ?_
      refine gc_r hh (gc_runV (As := [.int (nI j_6), .int (nI k_7)]) (rest := []) (n := 2) C hml hh (c_FT_spaceOf l D cs sh sz I J B hF tV_0 j_6 k_7 (by omega) (by omega)) (tg_V tw_322 tw_324 tw_4 tw_57 tw_325) (by decide +kernel) ⟨rfl, rfl, by decide, by decide, Nat.zero_le _, Nat.zero_le _⟩ hF.1 rfl rfl hl.1 rfl (Nat.le_of_ble_eq_true rfl) d_FT_holds_33) (fun r_14 I_15 J_16 H locs hr_14 hh => ?_)
      have er_14 := hr_14.1
      have tK_17 : keepF B I I_15 J J_16 := keepF.tr tK_0 hr_14.2.1
      have tV_18 : inv_FT I_15 B := hr_14.2.2
      have h_r_14 : is_Sp sh r_14 := by rw [er_14]; exact hF.2.2.1.2 k_7 (by omega)
      refine lv_iload_n C.1 C.2.1 d_FT_holds_36 rfl (lv_at hl 3 rfl) ?_
      refine lv_iload C.1 C.2.1 d_FT_holds_37 (lv_at hl 4 rfl) ?_
      refine lv_iload C.1 C.2.1 d_FT_holds_39 (lv_at hl 5 rfl) ?_
      refine lv_iload C.1 C.2.1 d_FT_holds_41 (lv_at hl 6 rfl) ?_
      obtain ⟨⟨l_19, hl_19, el_19⟩, ⟨n_20, hn_20, en_20⟩⟩ := (by have h_ := tV_18.2.2.2.2.1 (2 * k_7) (by omega); rw [show B + 180 + 6 * (2 * k_7) = r_14 by omega] at h_; exact h_ : inv_Sp I_15 r_14)
      refine gc_i hh (gc_runV (As := [.int a, .int b, .int c, .int d]) (rest := []) (n := 4) C hml hh (c_Sp_implies l D cs sh sz I_15 J_16 r_14 h_r_14 l_19 el_19 hl_19 n_20 en_20 hn_20 a b c d) (tg_V tw_394 tw_395 tw_396 tw_63 tw_397) (by decide +kernel) ⟨rfl, rfl, by decide, by decide, Nat.zero_le _, Nat.zero_le _⟩ h_r_14.1 rfl rfl hl.1 rfl (Nat.le_of_ble_eq_true rfl) d_FT_holds_43) (fun r_21 I_22 J_23 H locs hr_21 hh => ?_)
      obtain ⟨e_r_21, hr_21⟩ := hr_21
      rw [(Prod.mk.inj e_r_21).1, (Prod.mk.inj e_r_21).2] at hh
      obtain ⟨br_21, hr_21, ihr_21⟩ := hr_21
      refine lv_if_eq (tgt := 53) C.1 C.2.1 d_FT_holds_46 (by decide) (fun c_24 => ?_) (fun c_24 => ?_)
      · -- 46 -> 53
        have b_25 := bI_f hr_21 c_24
        skip
        refine lv_iconst (v := nI 0) C.1 C.2.1 d_FT_holds_53 rfl ?_
        exact gr_i C hlk hret rfl hh (by exact ⟨tK_17, tV_18⟩) d_FT_holds_54
      · -- 46 -> 49
        have b_26 := bI_t hr_21 c_24
        skip
        refine lv_iconst (v := nI 1) C.1 C.2.1 d_FT_holds_49 rfl ?_
        refine lv_goto (tgt := 54) C.1 C.2.1 d_FT_holds_50 (by decide) ?_
        exact gr_i C hlk hret rfl hh (by exact ⟨tK_17, tV_18⟩) d_FT_holds_54
    · -- 24 -> 27
      have b_27 := bI_f hr_9 c_12
      skip
      refine lv_bipush (v := (-3)) C.1 C.2.1 d_FT_holds_27 rfl ?_
      exact gr_i C hlk hret rfl hh (by exact ⟨tK_0, tV_0⟩) d_FT_holds_29
  · -- 6 -> 9
    have b_28 := bI_f hr_1 c_4
    skip
    refine lv_bipush (v := (-2)) C.1 C.2.1 d_FT_holds_9 rfl ?_
    exact gr_i C hlk hret rfl hh (by exact ⟨tK_0, tV_0⟩) d_FT_holds_11

set_option maxHeartbeats 4000000 in
set_option maxRecDepth 100000 in
theorem c_FT_term (l : Launch) (D : va_G) (cs : Nat → ClassId) (sh : gm_H) (sz : Nat) (I : gm_I) (J : gm_J) (B : Nat) (hF : is_FT cs sh B) (hV : inv_FT I B) (v w a b c : Int32) : CI l y_FT_term w_FT_term { frames := 6, cells := 0, slots := 0, locals := 159 } D cs sh sz I J [.ref B, .int v, .int w, .int a, .int b, .int c] (fun _ u => sfF B I J u) := by
  refine gm_start (by decide) (Nat.le_of_ble_eq_true rfl) ?_
  intro p' e' s' m' be' me' co' ls C hml hlk hret hh hl
  have hl : lv_has ls 8 [(0, .ref B), (1, .int v), (2, .int w), (3, .int a), (4, .int b), (5, .int c)] := hl
  obtain ⟨n, hn, en⟩ := hV.1
  have tK_0 : keepF B I I J J := keepF.nil
  have tV_0 : inv_FT I B := hV
  refine lv_aload_n C.1 C.2.1 d_FT_term_0 rfl (lv_at hl 0 rfl) ?_
  refine lv_iload_n C.1 C.2.1 d_FT_term_1 rfl (lv_at hl 1 rfl) ?_
  refine lv_iload_n C.1 C.2.1 d_FT_term_2 rfl (lv_at hl 2 rfl) ?_
  refine gc_i hh (gc_runV (As := [.int v, .int w]) (rest := []) (n := 2) C hml hh (c_FT_isWay l D cs sh sz I J B hF hV n en hn v w) (tg_V tw_298 tw_300 tw_2 tw_57 tw_301) (by decide +kernel) ⟨rfl, rfl, by decide, by decide, Nat.zero_le _, Nat.zero_le _⟩ hF.1 rfl rfl hl.1 rfl (Nat.le_of_ble_eq_true rfl) d_FT_term_3) (fun r_1 I_2 J_3 H locs hr_1 hh => ?_)
  obtain ⟨e_r_1, hr_1⟩ := hr_1
  rw [(Prod.mk.inj e_r_1).1, (Prod.mk.inj e_r_1).2] at hh
  refine lv_if_ne (tgt := 12) C.1 C.2.1 d_FT_term_6 (by decide) (fun c_4 => ?_) (fun c_4 => ?_)
  · -- 6 -> 12
    have b_5 := bI_t hr_1 c_4
    obtain ⟨j_6, k_7, m_8, hj_6, hk_7, hm_8, ej_6, fk_7, em_8⟩ := fwB_j hn hV b_5
    subst ej_6
    subst fk_7
    skip
    refine lv_aload_n C.1 C.2.1 d_FT_term_12 rfl (lv_at hl 0 rfl) ?_
    refine gg_r C hh hF.1 rfl in_FT 0 (by decide) rfl tw_210 rfl d_FT_term_13 ?_
    refine lv_iload_n C.1 C.2.1 d_FT_term_16 rfl (lv_at hl 1 rfl) ?_
    refine ga_q C hh 2 hF.2.1 (Cn := "FallingTerms$Loop") rfl (k := j_6) (v := B + 12 + 21 * j_6) rfl (by omega) (by omega) (if_pos (by omega)) d_FT_term_17 ?_
    obtain ⟨p_9, ep_9⟩ : ∃ z : Nat, z = B + 12 + 21 * j_6 := ⟨_, rfl⟩
    have hp_9 : is_Lp cs sh p_9 := by rw [ep_9]; exact hF.2.2.2.2.2.2.2.2.2.2 j_6 (by omega)
    refine gm_eqr ep_9.symm ?_
    refine gn_i C hh hp_9.1 rfl in_Lp 0 (by decide) rfl tw_153 rfl d_FT_term_18 ?_
    obtain ⟨g_10, hg_10, eg_10⟩ := (by have h_ := tV_0.2.1 j_6 (by omega); rw [← ep_9] at h_; exact h_ : inv_Lp I p_9).1
    refine gm_eqi eg_10 ?_
    refine lv_iload_n C.1 C.2.1 d_FT_term_21 rfl (lv_at hl 3 rfl) ?_
    refine lv_iload C.1 C.2.1 d_FT_term_22 (lv_at hl 4 rfl) ?_
    refine lv_iload C.1 C.2.1 d_FT_term_24 (lv_at hl 5 rfl) ?_
    refine lv_iconst (v := nI 2) C.1 C.2.1 d_FT_term_26 rfl ?_
    refine gc_i hh (gc_runS (As := [.int (nI g_10), .int a, .int b, .int c, .int (nI 2)]) (rest := []) (n := 5) C hml hh (c_FT_weightsFit l D cs sh sz I J g_10 (by omega) a b c (nI 2)) (tg_S tw_272 tw_273 tw_57 tw_274) (by decide +kernel) ⟨rfl, rfl, by decide, by decide, Nat.zero_le _, Nat.zero_le _⟩ rfl hl.1 rfl (Nat.le_of_ble_eq_true rfl) d_FT_term_27) (fun r_11 I_12 J_13 H locs hr_11 hh => ?_)
    obtain ⟨e_r_11, hr_11⟩ := hr_11
    rw [(Prod.mk.inj e_r_11).1, (Prod.mk.inj e_r_11).2] at hh
    refine lv_if_ne (tgt := 36) C.1 C.2.1 d_FT_term_30 (by decide) (fun c_14 => ?_) (fun c_14 => ?_)
    · -- 30 -> 36
      have b_15 := bI_t hr_11 c_14
      skip
      refine lv_aload_n C.1 C.2.1 d_FT_term_36 rfl (lv_at hl 0 rfl) ?_
      refine lv_iload_n C.1 C.2.1 d_FT_term_37 rfl (lv_at hl 1 rfl) ?_
      refine lv_iload_n C.1 C.2.1 d_FT_term_38 rfl (lv_at hl 2 rfl) ?_
      refine gc_r hh (gc_runV (As := [.int (nI j_6), .int (nI k_7)]) (rest := []) (n := 2) C hml hh (c_FT_spaceOf l D cs sh sz I J B hF tV_0 j_6 k_7 (by omega) (by omega)) (tg_V tw_322 tw_324 tw_4 tw_57 tw_325) (by decide +kernel) ⟨rfl, rfl, by decide, by decide, Nat.zero_le _, Nat.zero_le _⟩ hF.1 rfl rfl hl.1 rfl (Nat.le_of_ble_eq_true rfl) d_FT_term_39) (fun r_16 I_17 J_18 H locs hr_16 hh => ?_)
      have er_16 := hr_16.1
      have tK_19 : keepF B I I_17 J J_18 := keepF.tr tK_0 hr_16.2.1
      have tV_20 : inv_FT I_17 B := hr_16.2.2
      have h_r_16 : is_Sp sh r_16 := by rw [er_16]; exact hF.2.2.1.2 k_7 (by omega)
      refine lv_astore (lv' := [(6, .ref r_16), (0, .ref B), (1, .int (nI j_6)), (2, .int (nI k_7)), (3, .int a), (4, .int b), (5, .int c)]) C.1 C.2.1 d_FT_term_42 hl (by decide) rfl (fun ls hl => ?_)
      refine lv_aload_n C.1 C.2.1 d_FT_term_44 rfl (lv_at hl 1 rfl) ?_
      refine gg_r C hh hF.1 rfl in_FT 0 (by decide) rfl tw_210 rfl d_FT_term_45 ?_
      refine lv_iload_n C.1 C.2.1 d_FT_term_48 rfl (lv_at hl 2 rfl) ?_
      refine ga_q C hh 2 hF.2.1 (Cn := "FallingTerms$Loop") rfl (k := j_6) (v := B + 12 + 21 * j_6) rfl (by omega) (by omega) (if_pos (by omega)) d_FT_term_49 ?_
      refine gm_eqr ep_9.symm ?_
      refine gn_r C hh hp_9.1 rfl in_Lp 2 (by decide) rfl tw_160 rfl d_FT_term_50 ?_
      refine lv_iload_n C.1 C.2.1 d_FT_term_53 rfl (lv_at hl 3 rfl) ?_
      refine ga_q C hh 4 hp_9.2.2.1 (Cn := "FallingTerms$Way") rfl (k := k_7) (v := p_9 + 6 + 5 * k_7) rfl (by omega) (by omega) (if_pos (by omega)) d_FT_term_54 ?_
      obtain ⟨p_21, ep_21⟩ : ∃ z : Nat, z = p_9 + 6 + 5 * k_7 := ⟨_, rfl⟩
      have hp_21 : is_Wy sh p_21 := by rw [ep_21]; exact hp_9.2.2.2.2.2 k_7 (by omega)
      refine gm_eqr ep_21.symm ?_
      refine lv_astore (lv' := [(7, .ref p_21), (6, .ref r_16), (0, .ref B), (1, .int (nI j_6)), (2, .int (nI k_7)), (3, .int a), (4, .int b), (5, .int c)]) C.1 C.2.1 d_FT_term_55 hl (by decide) rfl (fun ls hl => ?_)
      refine lv_aload C.1 C.2.1 d_FT_term_57 (lv_at hl 1 rfl) ?_
      refine lv_iload_n C.1 C.2.1 d_FT_term_59 rfl (lv_at hl 5 rfl) ?_
      refine lv_iload C.1 C.2.1 d_FT_term_60 (lv_at hl 6 rfl) ?_
      refine lv_iload C.1 C.2.1 d_FT_term_62 (lv_at hl 7 rfl) ?_
      obtain ⟨⟨l_22, hl_22, el_22⟩, ⟨n_23, hn_23, en_23⟩⟩ := (by have h_ := tV_20.2.2.2.2.1 (2 * k_7) (by omega); rw [show B + 180 + 6 * (2 * k_7) = r_16 by omega] at h_; exact h_ : inv_Sp I_17 r_16)
      refine gc_i hh (gc_runV (As := [.int a, .int b, .int c]) (rest := []) (n := 3) C hml hh (c_Sp_bounds l D cs sh sz I_17 J_18 r_16 h_r_16 l_22 el_22 hl_22 n_23 en_23 hn_23 a b c) (tg_V tw_402 tw_403 tw_404 tw_63 tw_405) (by decide +kernel) ⟨rfl, rfl, by decide, by decide, Nat.zero_le _, Nat.zero_le _⟩ h_r_16.1 rfl rfl hl.1 rfl (Nat.le_of_ble_eq_true rfl) d_FT_term_64) (fun r_24 I_25 J_26 H locs hr_24 hh => ?_)
      obtain ⟨e_r_24, hr_24⟩ := hr_24
      rw [(Prod.mk.inj e_r_24).1, (Prod.mk.inj e_r_24).2] at hh
      obtain ⟨br_24, hr_24, ihr_24⟩ := hr_24
      refine lv_if_eq (tgt := 74) C.1 C.2.1 d_FT_term_67 (by decide) (fun c_27 => ?_) (fun c_27 => ?_)
      · -- 67 -> 74
        have b_28 := bI_f hr_24 c_27
        skip
        refine lv_iconst (v := nI 0) C.1 C.2.1 d_FT_term_74 rfl ?_
        refine lv_aload C.1 C.2.1 d_FT_term_75 (lv_at hl 0 rfl) ?_
        refine lv_aload C.1 C.2.1 d_FT_term_77 (lv_at hl 1 rfl) ?_
        refine lv_iload_n C.1 C.2.1 d_FT_term_79 rfl (lv_at hl 5 rfl) ?_
        refine lv_iload C.1 C.2.1 d_FT_term_80 (lv_at hl 6 rfl) ?_
        refine lv_iload C.1 C.2.1 d_FT_term_82 (lv_at hl 7 rfl) ?_
        refine lv_iconst (v := nI 0) C.1 C.2.1 d_FT_term_84 rfl ?_
        obtain ⟨⟨l_29, hl_29, el_29⟩, ⟨n_30, hn_30, en_30⟩⟩ := (by have h_ := tV_20.2.2.2.2.1 (2 * k_7) (by omega); rw [show B + 180 + 6 * (2 * k_7) = r_16 by omega] at h_; exact h_ : inv_Sp I_17 r_16)
        refine gc_i hh (gc_runV (As := [.ref r_16, .int a, .int b, .int c, .int (nI 0)]) (rest := [.int (nI 0)]) (n := 5) C hml hh (c_Wy_lessens l D cs sh sz I_17 J_18 p_21 hp_21 r_16 h_r_16 l_29 el_29 hl_29 n_30 en_30 hn_30 a b c (nI 0)) (tg_V tw_406 tw_407 tw_408 tw_62 tw_409) (by decide +kernel) ⟨rfl, rfl, by decide, by decide, Nat.zero_le _, Nat.zero_le _⟩ hp_21.1 rfl rfl hl.1 rfl (Nat.le_of_ble_eq_true rfl) d_FT_term_85) (fun r_31 I_32 J_33 H locs hr_31 hh => ?_)
        obtain ⟨e_r_31, hr_31⟩ := hr_31
        rw [(Prod.mk.inj e_r_31).1, (Prod.mk.inj e_r_31).2] at hh
        obtain ⟨br_31, hr_31, ihr_31⟩ := hr_31
        refine lv_if_eq (tgt := 95) C.1 C.2.1 d_FT_term_88 (by decide) (fun c_34 => ?_) (fun c_34 => ?_)
        · -- 88 -> 95
          have b_35 := bI_f hr_31 c_34
          skip
          refine lv_iconst (v := nI 0) C.1 C.2.1 d_FT_term_95 rfl ?_
          refine lv_iadd C.1 C.2.1 d_FT_term_96 ?_
          refine gm_eqi (y := nI 0) (by decide) ?_
          refine lv_aload C.1 C.2.1 d_FT_term_97 (lv_at hl 0 rfl) ?_
          refine lv_aload C.1 C.2.1 d_FT_term_99 (lv_at hl 1 rfl) ?_
          refine lv_iload_n C.1 C.2.1 d_FT_term_101 rfl (lv_at hl 5 rfl) ?_
          refine lv_iload C.1 C.2.1 d_FT_term_102 (lv_at hl 6 rfl) ?_
          refine lv_iload C.1 C.2.1 d_FT_term_104 (lv_at hl 7 rfl) ?_
          refine lv_iconst (v := nI 1) C.1 C.2.1 d_FT_term_106 rfl ?_
          obtain ⟨⟨l_36, hl_36, el_36⟩, ⟨n_37, hn_37, en_37⟩⟩ := (by have h_ := tV_20.2.2.2.2.1 (2 * k_7) (by omega); rw [show B + 180 + 6 * (2 * k_7) = r_16 by omega] at h_; exact h_ : inv_Sp I_17 r_16)
          refine gc_i hh (gc_runV (As := [.ref r_16, .int a, .int b, .int c, .int (nI 1)]) (rest := [.int (nI 0)]) (n := 5) C hml hh (c_Wy_lessens l D cs sh sz I_17 J_18 p_21 hp_21 r_16 h_r_16 l_36 el_36 hl_36 n_37 en_37 hn_37 a b c (nI 1)) (tg_V tw_406 tw_407 tw_408 tw_62 tw_409) (by decide +kernel) ⟨rfl, rfl, by decide, by decide, Nat.zero_le _, Nat.zero_le _⟩ hp_21.1 rfl rfl hl.1 rfl (Nat.le_of_ble_eq_true rfl) d_FT_term_107) (fun r_38 I_39 J_40 H locs hr_38 hh => ?_)
          obtain ⟨e_r_38, hr_38⟩ := hr_38
          rw [(Prod.mk.inj e_r_38).1, (Prod.mk.inj e_r_38).2] at hh
          obtain ⟨br_38, hr_38, ihr_38⟩ := hr_38
          refine lv_if_eq (tgt := 117) C.1 C.2.1 d_FT_term_110 (by decide) (fun c_41 => ?_) (fun c_41 => ?_)
          · -- 110 -> 117
            have b_42 := bI_f hr_38 c_41
            skip
            refine lv_iconst (v := nI 0) C.1 C.2.1 d_FT_term_117 rfl ?_
            refine lv_iadd C.1 C.2.1 d_FT_term_118 ?_
            refine gm_eqi (y := nI 0) (by decide) ?_
            exact gr_i C hlk hret rfl hh (by exact ⟨tK_19, tV_20⟩) d_FT_term_119
          · -- 110 -> 113
            have b_43 := bI_t hr_38 c_41
            skip
            refine lv_iconst (v := nI 4) C.1 C.2.1 d_FT_term_113 rfl ?_
            refine lv_goto (tgt := 118) C.1 C.2.1 d_FT_term_114 (by decide) ?_
            refine lv_iadd C.1 C.2.1 d_FT_term_118 ?_
            refine gm_eqi (y := nI 4) (by decide) ?_
            exact gr_i C hlk hret rfl hh (by exact ⟨tK_19, tV_20⟩) d_FT_term_119
        · -- 88 -> 91
          have b_44 := bI_t hr_31 c_34
          skip
          refine lv_iconst (v := nI 2) C.1 C.2.1 d_FT_term_91 rfl ?_
          refine lv_goto (tgt := 96) C.1 C.2.1 d_FT_term_92 (by decide) ?_
          refine lv_iadd C.1 C.2.1 d_FT_term_96 ?_
          refine gm_eqi (y := nI 2) (by decide) ?_
          refine lv_aload C.1 C.2.1 d_FT_term_97 (lv_at hl 0 rfl) ?_
          refine lv_aload C.1 C.2.1 d_FT_term_99 (lv_at hl 1 rfl) ?_
          refine lv_iload_n C.1 C.2.1 d_FT_term_101 rfl (lv_at hl 5 rfl) ?_
          refine lv_iload C.1 C.2.1 d_FT_term_102 (lv_at hl 6 rfl) ?_
          refine lv_iload C.1 C.2.1 d_FT_term_104 (lv_at hl 7 rfl) ?_
          refine lv_iconst (v := nI 1) C.1 C.2.1 d_FT_term_106 rfl ?_
          obtain ⟨⟨l_45, hl_45, el_45⟩, ⟨n_46, hn_46, en_46⟩⟩ := (by have h_ := tV_20.2.2.2.2.1 (2 * k_7) (by omega); rw [show B + 180 + 6 * (2 * k_7) = r_16 by omega] at h_; exact h_ : inv_Sp I_17 r_16)
          refine gc_i hh (gc_runV (As := [.ref r_16, .int a, .int b, .int c, .int (nI 1)]) (rest := [.int (nI 2)]) (n := 5) C hml hh (c_Wy_lessens l D cs sh sz I_17 J_18 p_21 hp_21 r_16 h_r_16 l_45 el_45 hl_45 n_46 en_46 hn_46 a b c (nI 1)) (tg_V tw_406 tw_407 tw_408 tw_62 tw_409) (by decide +kernel) ⟨rfl, rfl, by decide, by decide, Nat.zero_le _, Nat.zero_le _⟩ hp_21.1 rfl rfl hl.1 rfl (Nat.le_of_ble_eq_true rfl) d_FT_term_107) (fun r_47 I_48 J_49 H locs hr_47 hh => ?_)
          obtain ⟨e_r_47, hr_47⟩ := hr_47
          rw [(Prod.mk.inj e_r_47).1, (Prod.mk.inj e_r_47).2] at hh
          obtain ⟨br_47, hr_47, ihr_47⟩ := hr_47
          refine lv_if_eq (tgt := 117) C.1 C.2.1 d_FT_term_110 (by decide) (fun c_50 => ?_) (fun c_50 => ?_)
          · -- 110 -> 117
            have b_51 := bI_f hr_47 c_50
            skip
            refine lv_iconst (v := nI 0) C.1 C.2.1 d_FT_term_117 rfl ?_
            refine lv_iadd C.1 C.2.1 d_FT_term_118 ?_
            refine gm_eqi (y := nI 2) (by decide) ?_
            exact gr_i C hlk hret rfl hh (by exact ⟨tK_19, tV_20⟩) d_FT_term_119
          · -- 110 -> 113
            have b_52 := bI_t hr_47 c_50
            skip
            refine lv_iconst (v := nI 4) C.1 C.2.1 d_FT_term_113 rfl ?_
            refine lv_goto (tgt := 118) C.1 C.2.1 d_FT_term_114 (by decide) ?_
            refine lv_iadd C.1 C.2.1 d_FT_term_118 ?_
            refine gm_eqi (y := nI 6) (by decide) ?_
            exact gr_i C hlk hret rfl hh (by exact ⟨tK_19, tV_20⟩) d_FT_term_119
      · -- 67 -> 70
        have b_53 := bI_t hr_24 c_27
        skip
        refine lv_iconst (v := nI 1) C.1 C.2.1 d_FT_term_70 rfl ?_
        refine lv_goto (tgt := 75) C.1 C.2.1 d_FT_term_71 (by decide) ?_
        refine lv_aload C.1 C.2.1 d_FT_term_75 (lv_at hl 0 rfl) ?_
        refine lv_aload C.1 C.2.1 d_FT_term_77 (lv_at hl 1 rfl) ?_
        refine lv_iload_n C.1 C.2.1 d_FT_term_79 rfl (lv_at hl 5 rfl) ?_
        refine lv_iload C.1 C.2.1 d_FT_term_80 (lv_at hl 6 rfl) ?_
        refine lv_iload C.1 C.2.1 d_FT_term_82 (lv_at hl 7 rfl) ?_
        refine lv_iconst (v := nI 0) C.1 C.2.1 d_FT_term_84 rfl ?_
        obtain ⟨⟨l_54, hl_54, el_54⟩, ⟨n_55, hn_55, en_55⟩⟩ := (by have h_ := tV_20.2.2.2.2.1 (2 * k_7) (by omega); rw [show B + 180 + 6 * (2 * k_7) = r_16 by omega] at h_; exact h_ : inv_Sp I_17 r_16)
        refine gc_i hh (gc_runV (As := [.ref r_16, .int a, .int b, .int c, .int (nI 0)]) (rest := [.int (nI 1)]) (n := 5) C hml hh (c_Wy_lessens l D cs sh sz I_17 J_18 p_21 hp_21 r_16 h_r_16 l_54 el_54 hl_54 n_55 en_55 hn_55 a b c (nI 0)) (tg_V tw_406 tw_407 tw_408 tw_62 tw_409) (by decide +kernel) ⟨rfl, rfl, by decide, by decide, Nat.zero_le _, Nat.zero_le _⟩ hp_21.1 rfl rfl hl.1 rfl (Nat.le_of_ble_eq_true rfl) d_FT_term_85) (fun r_56 I_57 J_58 H locs hr_56 hh => ?_)
        obtain ⟨e_r_56, hr_56⟩ := hr_56
        rw [(Prod.mk.inj e_r_56).1, (Prod.mk.inj e_r_56).2] at hh
        obtain ⟨br_56, hr_56, ihr_56⟩ := hr_56
        refine lv_if_eq (tgt := 95) C.1 C.2.1 d_FT_term_88 (by decide) (fun c_59 => ?_) (fun c_59 => ?_)
        · -- 88 -> 95
          have b_60 := bI_f hr_56 c_59
          skip
          refine lv_iconst (v := nI 0) C.1 C.2.1 d_FT_term_95 rfl ?_
          refine lv_iadd C.1 C.2.1 d_FT_term_96 ?_
          refine gm_eqi (y := nI 1) (by decide) ?_
          refine lv_aload C.1 C.2.1 d_FT_term_97 (lv_at hl 0 rfl) ?_
          refine lv_aload C.1 C.2.1 d_FT_term_99 (lv_at hl 1 rfl) ?_
          refine lv_iload_n C.1 C.2.1 d_FT_term_101 rfl (lv_at hl 5 rfl) ?_
          refine lv_iload C.1 C.2.1 d_FT_term_102 (lv_at hl 6 rfl) ?_
          refine lv_iload C.1 C.2.1 d_FT_term_104 (lv_at hl 7 rfl) ?_
          refine lv_iconst (v := nI 1) C.1 C.2.1 d_FT_term_106 rfl ?_
          obtain ⟨⟨l_61, hl_61, el_61⟩, ⟨n_62, hn_62, en_62⟩⟩ := (by have h_ := tV_20.2.2.2.2.1 (2 * k_7) (by omega); rw [show B + 180 + 6 * (2 * k_7) = r_16 by omega] at h_; exact h_ : inv_Sp I_17 r_16)
          refine gc_i hh (gc_runV (As := [.ref r_16, .int a, .int b, .int c, .int (nI 1)]) (rest := [.int (nI 1)]) (n := 5) C hml hh (c_Wy_lessens l D cs sh sz I_17 J_18 p_21 hp_21 r_16 h_r_16 l_61 el_61 hl_61 n_62 en_62 hn_62 a b c (nI 1)) (tg_V tw_406 tw_407 tw_408 tw_62 tw_409) (by decide +kernel) ⟨rfl, rfl, by decide, by decide, Nat.zero_le _, Nat.zero_le _⟩ hp_21.1 rfl rfl hl.1 rfl (Nat.le_of_ble_eq_true rfl) d_FT_term_107) (fun r_63 I_64 J_65 H locs hr_63 hh => ?_)
          obtain ⟨e_r_63, hr_63⟩ := hr_63
          rw [(Prod.mk.inj e_r_63).1, (Prod.mk.inj e_r_63).2] at hh
          obtain ⟨br_63, hr_63, ihr_63⟩ := hr_63
          refine lv_if_eq (tgt := 117) C.1 C.2.1 d_FT_term_110 (by decide) (fun c_66 => ?_) (fun c_66 => ?_)
          · -- 110 -> 117
            have b_67 := bI_f hr_63 c_66
            skip
            refine lv_iconst (v := nI 0) C.1 C.2.1 d_FT_term_117 rfl ?_
            refine lv_iadd C.1 C.2.1 d_FT_term_118 ?_
            refine gm_eqi (y := nI 1) (by decide) ?_
            exact gr_i C hlk hret rfl hh (by exact ⟨tK_19, tV_20⟩) d_FT_term_119
          · -- 110 -> 113
            have b_68 := bI_t hr_63 c_66
            skip
            refine lv_iconst (v := nI 4) C.1 C.2.1 d_FT_term_113 rfl ?_
            refine lv_goto (tgt := 118) C.1 C.2.1 d_FT_term_114 (by decide) ?_
            refine lv_iadd C.1 C.2.1 d_FT_term_118 ?_
            refine gm_eqi (y := nI 5) (by decide) ?_
            exact gr_i C hlk hret rfl hh (by exact ⟨tK_19, tV_20⟩) d_FT_term_119
        · -- 88 -> 91
          have b_69 := bI_t hr_56 c_59
          skip
          refine lv_iconst (v := nI 2) C.1 C.2.1 d_FT_term_91 rfl ?_
          refine lv_goto (tgt := 96) C.1 C.2.1 d_FT_term_92 (by decide) ?_
          refine lv_iadd C.1 C.2.1 d_FT_term_96 ?_
          refine gm_eqi (y := nI 3) (by decide) ?_
          refine lv_aload C.1 C.2.1 d_FT_term_97 (lv_at hl 0 rfl) ?_
          refine lv_aload C.1 C.2.1 d_FT_term_99 (lv_at hl 1 rfl) ?_
          refine lv_iload_n C.1 C.2.1 d_FT_term_101 rfl (lv_at hl 5 rfl) ?_
          refine lv_iload C.1 C.2.1 d_FT_term_102 (lv_at hl 6 rfl) ?_
          refine lv_iload C.1 C.2.1 d_FT_term_104 (lv_at hl 7 rfl) ?_
          refine lv_iconst (v := nI 1) C.1 C.2.1 d_FT_term_106 rfl ?_
          obtain ⟨⟨l_70, hl_70, el_70⟩, ⟨n_71, hn_71, en_71⟩⟩ := (by have h_ := tV_20.2.2.2.2.1 (2 * k_7) (by omega); rw [show B + 180 + 6 * (2 * k_7) = r_16 by omega] at h_; exact h_ : inv_Sp I_17 r_16)
          refine gc_i hh (gc_runV (As := [.ref r_16, .int a, .int b, .int c, .int (nI 1)]) (rest := [.int (nI 3)]) (n := 5) C hml hh (c_Wy_lessens l D cs sh sz I_17 J_18 p_21 hp_21 r_16 h_r_16 l_70 el_70 hl_70 n_71 en_71 hn_71 a b c (nI 1)) (tg_V tw_406 tw_407 tw_408 tw_62 tw_409) (by decide +kernel) ⟨rfl, rfl, by decide, by decide, Nat.zero_le _, Nat.zero_le _⟩ hp_21.1 rfl rfl hl.1 rfl (Nat.le_of_ble_eq_true rfl) d_FT_term_107) (fun r_72 I_73 J_74 H locs hr_72 hh => ?_)
          obtain ⟨e_r_72, hr_72⟩ := hr_72
          rw [(Prod.mk.inj e_r_72).1, (Prod.mk.inj e_r_72).2] at hh
          obtain ⟨br_72, hr_72, ihr_72⟩ := hr_72
          refine lv_if_eq (tgt := 117) C.1 C.2.1 d_FT_term_110 (by decide) (fun c_75 => ?_) (fun c_75 => ?_)
          · -- 110 -> 117
            have b_76 := bI_f hr_72 c_75
            skip
            refine lv_iconst (v := nI 0) C.1 C.2.1 d_FT_term_117 rfl ?_
            refine lv_iadd C.1 C.2.1 d_FT_term_118 ?_
            refine gm_eqi (y := nI 3) (by decide) ?_
            exact gr_i C hlk hret rfl hh (by exact ⟨tK_19, tV_20⟩) d_FT_term_119
          · -- 110 -> 113
            have b_77 := bI_t hr_72 c_75
            skip
            refine lv_iconst (v := nI 4) C.1 C.2.1 d_FT_term_113 rfl ?_
            refine lv_goto (tgt := 118) C.1 C.2.1 d_FT_term_114 (by decide) ?_
            refine lv_iadd C.1 C.2.1 d_FT_term_118 ?_
            refine gm_eqi (y := nI 7) (by decide) ?_
            exact gr_i C hlk hret rfl hh (by exact ⟨tK_19, tV_20⟩) d_FT_term_119
    · -- 30 -> 33
      have b_78 := bI_f hr_11 c_14
      skip
      refine lv_bipush (v := (-3)) C.1 C.2.1 d_FT_term_33 rfl ?_
      exact gr_i C hlk hret rfl hh (by exact ⟨tK_0, tV_0⟩) d_FT_term_35
  · -- 6 -> 9
    have b_79 := bI_f hr_1 c_4
    skip
    refine lv_bipush (v := (-2)) C.1 C.2.1 d_FT_term_9 rfl ?_
    exact gr_i C hlk hret rfl hh (by exact ⟨tK_0, tV_0⟩) d_FT_term_11
