set_option maxHeartbeats 4000000 in
set_option maxRecDepth 100000 in
theorem c_Pf_takenBy (l : Launch) (D : va_G) (cs : Nat → ClassId) (sh : gm_H) (sz : Nat) (I : gm_I) (J : gm_J) (f : Nat) (hf : is_Pf sh f) (o : Nat) (ho : is_Lp cs sh o) (hVo : inv_Lp I o) (g h : Nat) (hg : is_Sa cs sh g h) (hSa : ∀ k, k < 3 → inv_Sp I (h + 12 * k)) (x y u3 : Int32) : CI l y_Pf_takenBy w_Pf_takenBy { frames := 3, cells := 0, slots := 0, locals := 73 } D cs sh sz I J [.ref f, .ref o, .ref g, .int x, .int y, .int u3] (fun _ u => u = (I, J)) := by
  refine gm_start (by decide) (Nat.le_of_ble_eq_true rfl) ?_
  intro p' e' s' m' be' me' co' ls C hml hlk hret hh hl
  have hl : lv_has ls 8 [(0, .ref f), (1, .ref o), (2, .ref g), (3, .int x), (4, .int y), (5, .int u3)] := hl
  refine lv_iconst (v := nI 0) C.1 C.2.1 d_Pf_takenBy_0 rfl ?_
  refine lv_istore (lv' := [(6, .int (nI 0)), (0, .ref f), (1, .ref o), (2, .ref g), (3, .int x), (4, .int y), (5, .int u3)]) C.1 C.2.1 d_Pf_takenBy_1 hl (by decide) rfl (fun ls hl => ?_)
  refine lv_iconst (v := nI 0) C.1 C.2.1 d_Pf_takenBy_3 rfl ?_
  refine lv_istore (lv' := [(7, .int (nI 0)), (6, .int (nI 0)), (0, .ref f), (1, .ref o), (2, .ref g), (3, .int x), (4, .int y), (5, .int u3)]) C.1 C.2.1 d_Pf_takenBy_4 hl (by decide) rfl (fun ls hl => ?_)
  have K6 : ∀ (n_6 : Nat) (k : Nat) (b : Int32) (hk : k ≤ 3) (hm_6 : 4 - k < n_6), ∀ (H : Heap) (locs : List Loc) (ls : Array Slot), gm_St D cs sh (gm_A sh) s'.heap sz I J H locs → lv_has ls 8 [(0, .ref f), (1, .ref o), (2, .ref g), (3, .int x), (4, .int y), (5, .int u3), (6, .int b), (7, .int (nI k))] → W p' l e' { frames := 3, cells := 0, slots := 0, locals := 73 } s' m' ([.ref f, .ref o, .ref g, .int x, .int y, .int u3] : List Value).toArray be' me' co' H locs 0 0 (MQ be' (va_Qi (fun _ u => u = (I, J)) (gm_B D cs sh sz) (gm_A sh)) ([.ref f, .ref o, .ref g, .int x, .int y, .int u3] : List Value).toArray s' 0 0 (gm_A sh)) (F0 m' 6 ls []) := by
    intro n_6
    induction n_6 with
    | zero => intro k b hk hm_6; exact absurd hm_6 (Nat.not_lt_zero _)
    | succ n_6 ih6 =>
      intro k b hk hm_6 H locs ls hh hl
      refine lv_iload C.1 C.2.1 d_Pf_takenBy_6 (lv_at hl 7 rfl) ?_
      refine lv_aload_n C.1 C.2.1 d_Pf_takenBy_8 rfl (lv_at hl 1 rfl) ?_
      refine gn_i C hh ho.1 rfl in_Lp 3 (by decide) rfl tw_162 rfl d_Pf_takenBy_9 ?_
      obtain ⟨g_1, hg_1, eg_1⟩ := hVo.2.2.1
      refine gm_eqi eg_1 ?_
      refine lv_icmp_ge (tgt := 108) C.1 C.2.1 d_Pf_takenBy_12 (by decide) (fun c_2 => ?_) (fun c_2 => ?_)
      · -- 12 -> 108
        have c_2 := gm_get (by omega) (by omega) c_2
        have c_2' := Nat.not_lt.mpr c_2
        refine lv_iload C.1 C.2.1 d_Pf_takenBy_108 (lv_at hl 6 rfl) ?_
        exact gr_i C hlk hret rfl hh (by rfl) d_Pf_takenBy_110
      · -- 12 -> 15
        have c_2 := gm_gef (by omega) (by omega) c_2
        have c_2' := Nat.not_le.mpr c_2
        refine lv_aload_n C.1 C.2.1 d_Pf_takenBy_15 rfl (lv_at hl 0 rfl) ?_
        refine gg_i C hh hf.1 rfl in_Pf 2 (by decide) rfl tw_87 rfl d_Pf_takenBy_16 ?_
        refine lv_iload C.1 C.2.1 d_Pf_takenBy_19 (lv_at hl 7 rfl) ?_
        refine lv_ishr C.1 C.2.1 d_Pf_takenBy_21 ?_
        refine lv_iconst (v := nI 1) C.1 C.2.1 d_Pf_takenBy_22 rfl ?_
        refine lv_iand C.1 C.2.1 d_Pf_takenBy_23 ?_
        refine lv_if_ne (tgt := 30) C.1 C.2.1 d_Pf_takenBy_24 (by decide) (fun c_3 => ?_) (fun c_3 => ?_)
        · -- 24 -> 30
          skip
          refine lv_aload_n C.1 C.2.1 d_Pf_takenBy_30 rfl (lv_at hl 1 rfl) ?_
          refine gn_r C hh ho.1 rfl in_Lp 2 (by decide) rfl tw_159 rfl d_Pf_takenBy_31 ?_
          refine lv_iload C.1 C.2.1 d_Pf_takenBy_34 (lv_at hl 7 rfl) ?_
          refine ga_q C hh 4 ho.2.2.1 (Cn := "FallingTerms$Way") rfl (k := k) (v := o + 6 + 5 * k) rfl (by omega) (by omega) (if_pos (by omega)) d_Pf_takenBy_36 ?_
          obtain ⟨p_4, ep_4⟩ : ∃ z : Nat, z = o + 6 + 5 * k := ⟨_, rfl⟩
          have hp_4 : is_Wy sh p_4 := by rw [ep_4]; exact ho.2.2.2.2.2 k (by omega)
          refine gm_eqr ep_4.symm ?_
          refine lv_aload_n C.1 C.2.1 d_Pf_takenBy_37 rfl (lv_at hl 2 rfl) ?_
          refine lv_iload C.1 C.2.1 d_Pf_takenBy_38 (lv_at hl 7 rfl) ?_
          refine ga_q C hh 3 hg.1 (Cn := "FallingTerms$Space") rfl (k := k) (v := h + 12 * k) rfl (by omega) (by omega) (if_pos (by omega)) d_Pf_takenBy_40 ?_
          obtain ⟨p_5, ep_5⟩ : ∃ z : Nat, z = h + 12 * k := ⟨_, rfl⟩
          have hp_5 : is_Sp sh p_5 := by rw [ep_5]; exact hg.2 k (by omega)
          refine gm_eqr ep_5.symm ?_
          refine lv_iload_n C.1 C.2.1 d_Pf_takenBy_41 rfl (lv_at hl 3 rfl) ?_
          refine lv_iload C.1 C.2.1 d_Pf_takenBy_42 (lv_at hl 4 rfl) ?_
          refine lv_iload C.1 C.2.1 d_Pf_takenBy_44 (lv_at hl 5 rfl) ?_
          refine lv_iconst (v := nI 0) C.1 C.2.1 d_Pf_takenBy_46 rfl ?_
          have il_6 := hSa k (by omega)
          rw [← ep_5] at il_6
          obtain ⟨l_6, hl_6, el_6⟩ := il_6.1
          obtain ⟨n_7, hn_7, en_7⟩ := il_6.2
          refine gc_i hh (gc_runV (As := [.ref p_5, .int x, .int y, .int u3, .int (nI 0)]) (rest := []) (n := 5) C hml hh (c_Wy_lessens l D cs sh sz I J p_4 hp_4 p_5 hp_5 l_6 el_6 hl_6 n_7 en_7 hn_7 x y u3 (nI 0)) (tg_V tw_443 tw_407 tw_408 tw_62 tw_409) (by decide +kernel) ⟨rfl, rfl, by decide, by decide, Nat.zero_le _, Nat.zero_le _⟩ hp_4.1 rfl rfl hl.1 rfl (Nat.le_of_ble_eq_true rfl) d_Pf_takenBy_47) (fun r_8 I_9 J_10 H locs hr_8 hh => ?_)
          obtain ⟨e_r_8, hr_8⟩ := hr_8
          rw [(Prod.mk.inj e_r_8).1, (Prod.mk.inj e_r_8).2] at hh
          obtain ⟨br_8, hr_8, ihr_8⟩ := hr_8
          refine lv_if_ne (tgt := 55) C.1 C.2.1 d_Pf_takenBy_50 (by decide) (fun c_11 => ?_) (fun c_11 => ?_)
          · -- 50 -> 55
            have b_12 := bI_t hr_8 c_11
            skip
            refine lv_aload_n C.1 C.2.1 d_Pf_takenBy_55 rfl (lv_at hl 2 rfl) ?_
            refine lv_iload C.1 C.2.1 d_Pf_takenBy_56 (lv_at hl 7 rfl) ?_
            refine ga_q C hh 3 hg.1 (Cn := "FallingTerms$Space") rfl (k := k) (v := h + 12 * k) rfl (by omega) (by omega) (if_pos (by omega)) d_Pf_takenBy_58 ?_
            refine gm_eqr ep_5.symm ?_
            refine lv_iload_n C.1 C.2.1 d_Pf_takenBy_59 rfl (lv_at hl 3 rfl) ?_
            refine lv_iload C.1 C.2.1 d_Pf_takenBy_60 (lv_at hl 4 rfl) ?_
            refine lv_iload C.1 C.2.1 d_Pf_takenBy_62 (lv_at hl 5 rfl) ?_
            have il_13 := hSa k (by omega)
            rw [← ep_5] at il_13
            obtain ⟨l_13, hl_13, el_13⟩ := il_13.1
            obtain ⟨n_14, hn_14, en_14⟩ := il_13.2
            refine gc_i hh (gc_runV (As := [.int x, .int y, .int u3]) (rest := []) (n := 3) C hml hh (c_Sp_bounds l D cs sh sz I J p_5 hp_5 l_13 el_13 hl_13 n_14 en_14 hn_14 x y u3) (tg_V tw_444 tw_403 tw_404 tw_63 tw_405) (by decide +kernel) ⟨rfl, rfl, by decide, by decide, Nat.zero_le _, Nat.zero_le _⟩ hp_5.1 rfl rfl hl.1 rfl (Nat.le_of_ble_eq_true rfl) d_Pf_takenBy_64) (fun r_15 I_16 J_17 H locs hr_15 hh => ?_)
            obtain ⟨e_r_15, hr_15⟩ := hr_15
            rw [(Prod.mk.inj e_r_15).1, (Prod.mk.inj e_r_15).2] at hh
            obtain ⟨br_15, hr_15, ihr_15⟩ := hr_15
            refine lv_if_eq (tgt := 102) C.1 C.2.1 d_Pf_takenBy_67 (by decide) (fun c_18 => ?_) (fun c_18 => ?_)
            · -- 67 -> 102
              have b_19 := bI_f hr_15 c_18
              skip
              refine lv_iinc (v := nI (k + 1)) (lv' := [(7, .int (nI (k + 1))), (0, .ref f), (1, .ref o), (2, .ref g), (3, .int x), (4, .int y), (5, .int u3), (6, .int b)]) C.1 C.2.1 d_Pf_takenBy_102 hl (k := 7) rfl (gm_inc k 1) (by decide) rfl (fun ls hl => ?_)
              refine lv_goto (tgt := 6) C.1 C.2.1 d_Pf_takenBy_105 (by decide) ?_
              exact ih6 (k + 1) b (by omega) (by omega) _ _ _ hh (lv_sub hl [1, 2, 3, 4, 5, 6, 7, 0] rfl)
            · -- 67 -> 70
              have b_20 := bI_t hr_15 c_18
              skip
              refine lv_aload_n C.1 C.2.1 d_Pf_takenBy_70 rfl (lv_at hl 1 rfl) ?_
              refine gn_r C hh ho.1 rfl in_Lp 2 (by decide) rfl tw_159 rfl d_Pf_takenBy_71 ?_
              refine lv_iload C.1 C.2.1 d_Pf_takenBy_74 (lv_at hl 7 rfl) ?_
              refine ga_q C hh 4 ho.2.2.1 (Cn := "FallingTerms$Way") rfl (k := k) (v := o + 6 + 5 * k) rfl (by omega) (by omega) (if_pos (by omega)) d_Pf_takenBy_76 ?_
              refine gm_eqr ep_4.symm ?_
              refine lv_aload_n C.1 C.2.1 d_Pf_takenBy_77 rfl (lv_at hl 2 rfl) ?_
              refine lv_iload C.1 C.2.1 d_Pf_takenBy_78 (lv_at hl 7 rfl) ?_
              refine ga_q C hh 3 hg.1 (Cn := "FallingTerms$Space") rfl (k := k) (v := h + 12 * k) rfl (by omega) (by omega) (if_pos (by omega)) d_Pf_takenBy_80 ?_
              refine gm_eqr ep_5.symm ?_
              refine lv_iload_n C.1 C.2.1 d_Pf_takenBy_81 rfl (lv_at hl 3 rfl) ?_
              refine lv_iload C.1 C.2.1 d_Pf_takenBy_82 (lv_at hl 4 rfl) ?_
              refine lv_iload C.1 C.2.1 d_Pf_takenBy_84 (lv_at hl 5 rfl) ?_
              refine lv_iconst (v := nI 1) C.1 C.2.1 d_Pf_takenBy_86 rfl ?_
              have il_21 := hSa k (by omega)
              rw [← ep_5] at il_21
              obtain ⟨l_21, hl_21, el_21⟩ := il_21.1
              obtain ⟨n_22, hn_22, en_22⟩ := il_21.2
              refine gc_i hh (gc_runV (As := [.ref p_5, .int x, .int y, .int u3, .int (nI 1)]) (rest := []) (n := 5) C hml hh (c_Wy_lessens l D cs sh sz I J p_4 hp_4 p_5 hp_5 l_21 el_21 hl_21 n_22 en_22 hn_22 x y u3 (nI 1)) (tg_V tw_443 tw_407 tw_408 tw_62 tw_409) (by decide +kernel) ⟨rfl, rfl, by decide, by decide, Nat.zero_le _, Nat.zero_le _⟩ hp_4.1 rfl rfl hl.1 rfl (Nat.le_of_ble_eq_true rfl) d_Pf_takenBy_87) (fun r_23 I_24 J_25 H locs hr_23 hh => ?_)
              obtain ⟨e_r_23, hr_23⟩ := hr_23
              rw [(Prod.mk.inj e_r_23).1, (Prod.mk.inj e_r_23).2] at hh
              obtain ⟨br_23, hr_23, ihr_23⟩ := hr_23
              refine lv_if_eq (tgt := 102) C.1 C.2.1 d_Pf_takenBy_90 (by decide) (fun c_26 => ?_) (fun c_26 => ?_)
              · -- 90 -> 102
                have b_27 := bI_f hr_23 c_26
                skip
                refine lv_iinc (v := nI (k + 1)) (lv' := [(7, .int (nI (k + 1))), (0, .ref f), (1, .ref o), (2, .ref g), (3, .int x), (4, .int y), (5, .int u3), (6, .int b)]) C.1 C.2.1 d_Pf_takenBy_102 hl (k := 7) rfl (gm_inc k 1) (by decide) rfl (fun ls hl => ?_)
                refine lv_goto (tgt := 6) C.1 C.2.1 d_Pf_takenBy_105 (by decide) ?_
                exact ih6 (k + 1) b (by omega) (by omega) _ _ _ hh (lv_sub hl [1, 2, 3, 4, 5, 6, 7, 0] rfl)
              · -- 90 -> 93
                have b_28 := bI_t hr_23 c_26
                skip
                refine lv_iload C.1 C.2.1 d_Pf_takenBy_93 (lv_at hl 6 rfl) ?_
                refine lv_iconst (v := nI 1) C.1 C.2.1 d_Pf_takenBy_95 rfl ?_
                refine lv_iload C.1 C.2.1 d_Pf_takenBy_96 (lv_at hl 7 rfl) ?_
                refine lv_ishl C.1 C.2.1 d_Pf_takenBy_98 ?_
                refine gm_eqi (gm_shl (by omega) (by omega)) ?_
                refine lv_ior C.1 C.2.1 d_Pf_takenBy_99 ?_
                refine lv_topi (fun x_29 ex_29 => ?_)
                refine lv_istore (lv' := [(6, .int x_29), (0, .ref f), (1, .ref o), (2, .ref g), (3, .int x), (4, .int y), (5, .int u3), (7, .int (nI k))]) C.1 C.2.1 d_Pf_takenBy_100 hl (by decide) rfl (fun ls hl => ?_)
                refine lv_iinc (v := nI (k + 1)) (lv' := [(7, .int (nI (k + 1))), (6, .int x_29), (0, .ref f), (1, .ref o), (2, .ref g), (3, .int x), (4, .int y), (5, .int u3)]) C.1 C.2.1 d_Pf_takenBy_102 hl (k := 7) rfl (gm_inc k 1) (by decide) rfl (fun ls hl => ?_)
                refine lv_goto (tgt := 6) C.1 C.2.1 d_Pf_takenBy_105 (by decide) ?_
                exact ih6 (k + 1) x_29 (by omega) (by omega) _ _ _ hh (lv_sub hl [2, 3, 4, 5, 6, 7, 1, 0] rfl)
          · -- 50 -> 53
            have b_30 := bI_f hr_8 c_11
            skip
            refine lv_iconst (v := nI 0) C.1 C.2.1 d_Pf_takenBy_53 rfl ?_
            exact gr_i C hlk hret rfl hh (by rfl) d_Pf_takenBy_54
        · -- 24 -> 27
          skip
          refine lv_goto (tgt := 102) C.1 C.2.1 d_Pf_takenBy_27 (by decide) ?_
          refine lv_iinc (v := nI (k + 1)) (lv' := [(7, .int (nI (k + 1))), (0, .ref f), (1, .ref o), (2, .ref g), (3, .int x), (4, .int y), (5, .int u3), (6, .int b)]) C.1 C.2.1 d_Pf_takenBy_102 hl (k := 7) rfl (gm_inc k 1) (by decide) rfl (fun ls hl => ?_)
          refine lv_goto (tgt := 6) C.1 C.2.1 d_Pf_takenBy_105 (by decide) ?_
          exact ih6 (k + 1) b (by omega) (by omega) _ _ _ hh (lv_sub hl [1, 2, 3, 4, 5, 6, 7, 0] rfl)
  exact K6 _ 0 (nI 0) (by omega) (Nat.lt_succ_self _) _ _ _ hh (lv_sub hl [2, 3, 4, 5, 6, 7, 1, 0] rfl)

set_option maxHeartbeats 4000000 in
set_option maxRecDepth 100000 in
theorem c_Pf_takeMore (l : Launch) (D : va_G) (cs : Nat → ClassId) (sh : gm_H) (sz : Nat) (I : gm_I) (J : gm_J) (f : Nat) (hf : is_Pf sh f) (hP : inv_Pf I f) (o : Nat) (ho : is_Lp cs sh o) (hVo : inv_Lp I o) (g h : Nat) (hg : is_Sa cs sh g h) (hSa : ∀ k, k < 3 → inv_Sp I (h + 12 * k))  : CI l y_Pf_takeMore w_Pf_takeMore { frames := 4, cells := 0, slots := 0, locals := 100 } D cs sh sz I J [.ref f, .ref o, .ref g] (fun x u => (x = 0 ∨ x = 1) ∧ pfP f I J u) := by
  refine gm_start (by decide) (Nat.le_of_ble_eq_true rfl) ?_
  intro p' e' s' m' be' me' co' ls C hml hlk hret hh hl
  have hl : lv_has ls 10 [(0, .ref f), (1, .ref o), (2, .ref g)] := hl
  refine lv_aload_n C.1 C.2.1 d_Pf_takeMore_0 rfl (lv_at hl 1 rfl) ?_
  refine lv_iconst (v := nI 1) C.1 C.2.1 d_Pf_takeMore_1 rfl ?_
  refine lv_iconst (v := nI 2) C.1 C.2.1 d_Pf_takeMore_2 rfl ?_
  obtain ⟨nm_1, hnm_1, enm_1⟩ := hVo.1
  refine gc_i hh (gc_runV (As := [.int (nI 1), .int (nI 2)]) (rest := []) (n := 2) C hml hh (c_Lp_reach l D cs sh sz I J o ho nm_1 1 enm_1 hnm_1 (by omega) (nI 2)) (tg_V tw_435 tw_436 tw_437 tw_59 tw_438) (by decide +kernel) ⟨rfl, rfl, by decide, by decide, Nat.zero_le _, Nat.zero_le _⟩ ho.1 rfl rfl hl.1 rfl (Nat.le_of_ble_eq_true rfl) d_Pf_takeMore_3) (fun r_2 I_3 J_4 H locs hr_2 hh => ?_)
  obtain ⟨e_r_2, hr_2⟩ := hr_2
  rw [(Prod.mk.inj e_r_2).1, (Prod.mk.inj e_r_2).2] at hh
  obtain ⟨g_5, hg_5, eg_5⟩ := reachN hr_2
  rw [eg_5]
  refine lv_istore_n (lv' := [(3, .int (nI g_5)), (0, .ref f), (1, .ref o), (2, .ref g)]) C.1 C.2.1 d_Pf_takeMore_6 rfl hl (by decide) rfl (fun ls hl => ?_)
  refine lv_aload_n C.1 C.2.1 d_Pf_takeMore_7 rfl (lv_at hl 2 rfl) ?_
  refine lv_iconst (v := nI 2) C.1 C.2.1 d_Pf_takeMore_8 rfl ?_
  refine lv_iconst (v := nI 2) C.1 C.2.1 d_Pf_takeMore_9 rfl ?_
  obtain ⟨nm_6, hnm_6, enm_6⟩ := hVo.1
  refine gc_i hh (gc_runV (As := [.int (nI 2), .int (nI 2)]) (rest := []) (n := 2) C hml hh (c_Lp_reach l D cs sh sz I J o ho nm_6 2 enm_6 hnm_6 (by omega) (nI 2)) (tg_V tw_435 tw_436 tw_437 tw_59 tw_438) (by decide +kernel) ⟨rfl, rfl, by decide, by decide, Nat.zero_le _, Nat.zero_le _⟩ ho.1 rfl rfl hl.1 rfl (Nat.le_of_ble_eq_true rfl) d_Pf_takeMore_10) (fun r_7 I_8 J_9 H locs hr_7 hh => ?_)
  obtain ⟨e_r_7, hr_7⟩ := hr_7
  rw [(Prod.mk.inj e_r_7).1, (Prod.mk.inj e_r_7).2] at hh
  obtain ⟨g_10, hg_10, eg_10⟩ := reachN hr_7
  rw [eg_10]
  refine lv_istore (lv' := [(4, .int (nI g_10)), (3, .int (nI g_5)), (0, .ref f), (1, .ref o), (2, .ref g)]) C.1 C.2.1 d_Pf_takeMore_13 hl (by decide) rfl (fun ls hl => ?_)
  refine lv_bipush (v := (-2)) C.1 C.2.1 d_Pf_takeMore_15 rfl ?_
  refine lv_topi (fun x_11 ex_11 => ?_)
  refine lv_istore (lv' := [(5, .int x_11), (4, .int (nI g_10)), (3, .int (nI g_5)), (0, .ref f), (1, .ref o), (2, .ref g)]) C.1 C.2.1 d_Pf_takeMore_17 hl (by decide) rfl (fun ls hl => ?_)
  have K19 : ∀ (n_19 : Nat) (a : Int32) (ha1 : -7 ≤ a.toInt) (ha2 : a.toInt ≤ 7) (hm_19 : (8 - a.toInt).toNat < n_19), ∀ (H : Heap) (locs : List Loc) (ls : Array Slot), gm_St D cs sh (gm_A sh) s'.heap sz I J H locs → lv_has ls 10 [(0, .ref f), (1, .ref o), (2, .ref g), (3, .int (nI g_5)), (4, .int (nI g_10)), (5, .int a)] → W p' l e' { frames := 4, cells := 0, slots := 0, locals := 100 } s' m' ([.ref f, .ref o, .ref g] : List Value).toArray be' me' co' H locs 0 0 (MQ be' (va_Qi (fun x u => (x = 0 ∨ x = 1) ∧ pfP f I J u) (gm_B D cs sh sz) (gm_A sh)) ([.ref f, .ref o, .ref g] : List Value).toArray s' 0 0 (gm_A sh)) (F0 m' 19 ls []) := by
    intro n_19
    induction n_19 with
    | zero => intro a ha1 ha2 hm_19; exact absurd hm_19 (Nat.not_lt_zero _)
    | succ n_19 ih19 =>
      intro a ha1 ha2 hm_19 H locs ls hh hl
      refine lv_iload C.1 C.2.1 d_Pf_takeMore_19 (lv_at hl 5 rfl) ?_
      refine lv_iconst (v := nI 2) C.1 C.2.1 d_Pf_takeMore_21 rfl ?_
      refine lv_icmp_gt (tgt := 129) C.1 C.2.1 d_Pf_takeMore_22 (by decide) (fun c_12 => ?_) (fun c_12 => ?_)
      · -- 22 -> 129
        skip
        refine lv_iconst (v := nI 0) C.1 C.2.1 d_Pf_takeMore_129 rfl ?_
        exact gr_i C hlk hret (gm_nb (Or.inl rfl)) hh (by exact ⟨Or.inl rfl, offR.nil, hP⟩) d_Pf_takeMore_130
      · -- 22 -> 25
        skip
        have lo_a := loI (by omega) (by assumption : ¬ nI 2 < a)
        refine lv_iload_n C.1 C.2.1 d_Pf_takeMore_25 rfl (lv_at hl 3 rfl) ?_
        refine lv_ineg C.1 C.2.1 d_Pf_takeMore_26 ?_
        refine lv_istore (lv' := [(6, .int (-(nI g_5))), (0, .ref f), (1, .ref o), (2, .ref g), (3, .int (nI g_5)), (4, .int (nI g_10)), (5, .int a)]) C.1 C.2.1 d_Pf_takeMore_27 hl (by decide) rfl (fun ls hl => ?_)
        have K29 : ∀ (n_29 : Nat) (b : Int32) (hb1 : -7 ≤ b.toInt) (hb2 : b.toInt ≤ 7) (hm_29 : (8 - b.toInt).toNat < n_29), ∀ (H : Heap) (locs : List Loc) (ls : Array Slot), gm_St D cs sh (gm_A sh) s'.heap sz I J H locs → lv_has ls 10 [(0, .ref f), (1, .ref o), (2, .ref g), (3, .int (nI g_5)), (4, .int (nI g_10)), (5, .int a), (6, .int b)] → W p' l e' { frames := 4, cells := 0, slots := 0, locals := 100 } s' m' ([.ref f, .ref o, .ref g] : List Value).toArray be' me' co' H locs 0 0 (MQ be' (va_Qi (fun x u => (x = 0 ∨ x = 1) ∧ pfP f I J u) (gm_B D cs sh sz) (gm_A sh)) ([.ref f, .ref o, .ref g] : List Value).toArray s' 0 0 (gm_A sh)) (F0 m' 29 ls []) := by
          intro n_29
          induction n_29 with
          | zero => intro b hb1 hb2 hm_29; exact absurd hm_29 (Nat.not_lt_zero _)
          | succ n_29 ih29 =>
            intro b hb1 hb2 hm_29 H locs ls hh hl
            refine lv_iload C.1 C.2.1 d_Pf_takeMore_29 (lv_at hl 6 rfl) ?_
            refine lv_iload_n C.1 C.2.1 d_Pf_takeMore_31 rfl (lv_at hl 3 rfl) ?_
            refine lv_icmp_gt (tgt := 123) C.1 C.2.1 d_Pf_takeMore_32 (by decide) (fun c_13 => ?_) (fun c_13 => ?_)
            · -- 32 -> 123
              skip
              obtain ⟨x_14, ex_14⟩ : ∃ z : Int32, z = a + Int32.ofInt 1 := ⟨_, rfl⟩
              refine lv_iinc (v := x_14) (lv' := [(5, .int x_14), (0, .ref f), (1, .ref o), (2, .ref g), (3, .int (nI g_5)), (4, .int (nI g_10)), (6, .int b)]) C.1 C.2.1 d_Pf_takeMore_123 hl (k := 5) rfl (ex_14.symm) (by decide) rfl (fun ls hl => ?_)
              refine lv_goto (tgt := 19) C.1 C.2.1 d_Pf_takeMore_126 (by decide) ?_
              have nx_a : x_14.toInt = a.toInt + 1 := by rw [ex_14]; exact incT (by omega) (by omega)
              exact ih19 x_14 (by omega) (by omega) (by omega) _ _ _ hh (lv_sub hl [1, 2, 3, 4, 5, 0] rfl)
            · -- 32 -> 35
              skip
              have lo_b := loI (by omega) (by assumption : ¬ nI g_5 < b)
              refine lv_iload C.1 C.2.1 d_Pf_takeMore_35 (lv_at hl 4 rfl) ?_
              refine lv_ineg C.1 C.2.1 d_Pf_takeMore_37 ?_
              refine lv_istore (lv' := [(7, .int (-(nI g_10))), (0, .ref f), (1, .ref o), (2, .ref g), (3, .int (nI g_5)), (4, .int (nI g_10)), (5, .int a), (6, .int b)]) C.1 C.2.1 d_Pf_takeMore_38 hl (by decide) rfl (fun ls hl => ?_)
              have K40 : ∀ (n_40 : Nat) (c : Int32) (hc1 : -7 ≤ c.toInt) (hc2 : c.toInt ≤ 7) (hm_40 : (8 - c.toInt).toNat < n_40), ∀ (H : Heap) (locs : List Loc) (ls : Array Slot), gm_St D cs sh (gm_A sh) s'.heap sz I J H locs → lv_has ls 10 [(0, .ref f), (1, .ref o), (2, .ref g), (3, .int (nI g_5)), (4, .int (nI g_10)), (5, .int a), (6, .int b), (7, .int c)] → W p' l e' { frames := 4, cells := 0, slots := 0, locals := 100 } s' m' ([.ref f, .ref o, .ref g] : List Value).toArray be' me' co' H locs 0 0 (MQ be' (va_Qi (fun x u => (x = 0 ∨ x = 1) ∧ pfP f I J u) (gm_B D cs sh sz) (gm_A sh)) ([.ref f, .ref o, .ref g] : List Value).toArray s' 0 0 (gm_A sh)) (F0 m' 40 ls []) := by
                intro n_40
                induction n_40 with
                | zero => intro c hc1 hc2 hm_40; exact absurd hm_40 (Nat.not_lt_zero _)
                | succ n_40 ih40 =>
                  intro c hc1 hc2 hm_40 H locs ls hh hl
                  refine lv_iload C.1 C.2.1 d_Pf_takeMore_40 (lv_at hl 7 rfl) ?_
                  refine lv_iload C.1 C.2.1 d_Pf_takeMore_42 (lv_at hl 4 rfl) ?_
                  refine lv_icmp_gt (tgt := 117) C.1 C.2.1 d_Pf_takeMore_44 (by decide) (fun c_15 => ?_) (fun c_15 => ?_)
                  · -- 44 -> 117
                    skip
                    obtain ⟨x_16, ex_16⟩ : ∃ z : Int32, z = b + Int32.ofInt 1 := ⟨_, rfl⟩
                    refine lv_iinc (v := x_16) (lv' := [(6, .int x_16), (0, .ref f), (1, .ref o), (2, .ref g), (3, .int (nI g_5)), (4, .int (nI g_10)), (5, .int a), (7, .int c)]) C.1 C.2.1 d_Pf_takeMore_117 hl (k := 6) rfl (ex_16.symm) (by decide) rfl (fun ls hl => ?_)
                    refine lv_goto (tgt := 29) C.1 C.2.1 d_Pf_takeMore_120 (by decide) ?_
                    have nx_b : x_16.toInt = b.toInt + 1 := by rw [ex_16]; exact incT (by omega) (by omega)
                    exact ih29 x_16 (by omega) (by omega) (by omega) _ _ _ hh (lv_sub hl [1, 2, 3, 4, 5, 6, 0] rfl)
                  · -- 44 -> 47
                    skip
                    have lo_c := loI (by omega) (by assumption : ¬ nI g_10 < c)
                    refine lv_iload C.1 C.2.1 d_Pf_takeMore_47 (lv_at hl 5 rfl) ?_
                    refine lv_if_ne (tgt := 62) C.1 C.2.1 d_Pf_takeMore_49 (by decide) (fun c_17 => ?_) (fun c_17 => ?_)
                    · -- 49 -> 62
                      skip
                      refine lv_iconst (v := nI 1) C.1 C.2.1 d_Pf_takeMore_62 rfl ?_
                      refine lv_goto (tgt := 67) C.1 C.2.1 d_Pf_takeMore_63 (by decide) ?_
                      refine lv_istore (lv' := [(8, .int (nI 1)), (0, .ref f), (1, .ref o), (2, .ref g), (3, .int (nI g_5)), (4, .int (nI g_10)), (5, .int a), (6, .int b), (7, .int c)]) C.1 C.2.1 d_Pf_takeMore_67 hl (by decide) rfl (fun ls hl => ?_)
                      refine lv_iload C.1 C.2.1 d_Pf_takeMore_69 (lv_at hl 0 rfl) ?_
                      refine lv_if_eq (tgt := 89) C.1 C.2.1 d_Pf_takeMore_71 (by decide) (fun c_ => absurd c_ (by decide)) (fun c_ => ?_)
                      refine lv_aload_n C.1 C.2.1 d_Pf_takeMore_74 rfl (lv_at hl 1 rfl) ?_
                      refine lv_aload_n C.1 C.2.1 d_Pf_takeMore_75 rfl (lv_at hl 2 rfl) ?_
                      refine lv_aload_n C.1 C.2.1 d_Pf_takeMore_76 rfl (lv_at hl 3 rfl) ?_
                      refine lv_iload C.1 C.2.1 d_Pf_takeMore_77 (lv_at hl 6 rfl) ?_
                      refine lv_iload C.1 C.2.1 d_Pf_takeMore_79 (lv_at hl 7 rfl) ?_
                      refine lv_iload C.1 C.2.1 d_Pf_takeMore_81 (lv_at hl 8 rfl) ?_
                      refine gc_i hh (gc_runV (As := [.ref o, .ref g, .int a, .int b, .int c]) (rest := []) (n := 5) C hml hh (c_Pf_takenBy l D cs sh sz I J f hf o ho hVo g h hg hSa a b c) (tg_V tw_439 tw_441 tw_19 tw_58 tw_442) (by decide +kernel) ⟨rfl, rfl, by decide, by decide, Nat.zero_le _, Nat.zero_le _⟩ hf.1 rfl rfl hl.1 rfl (Nat.le_of_ble_eq_true rfl) d_Pf_takeMore_83) (fun r_18 I_19 J_20 H locs hr_18 hh => ?_)
                      rw [(Prod.mk.inj hr_18).1, (Prod.mk.inj hr_18).2] at hh
                      refine lv_goto (tgt := 90) C.1 C.2.1 d_Pf_takeMore_86 (by decide) ?_
                      refine lv_istore (lv' := [(9, .int r_18), (8, .int (nI 1)), (0, .ref f), (1, .ref o), (2, .ref g), (3, .int (nI g_5)), (4, .int (nI g_10)), (5, .int a), (6, .int b), (7, .int c)]) C.1 C.2.1 d_Pf_takeMore_90 hl (by decide) rfl (fun ls hl => ?_)
                      refine lv_iload C.1 C.2.1 d_Pf_takeMore_92 (lv_at hl 0 rfl) ?_
                      refine lv_if_eq (tgt := 111) C.1 C.2.1 d_Pf_takeMore_94 (by decide) (fun c_21 => ?_) (fun c_21 => ?_)
                      · -- 94 -> 111
                        skip
                        obtain ⟨x_22, ex_22⟩ : ∃ z : Int32, z = c + Int32.ofInt 1 := ⟨_, rfl⟩
                        refine lv_iinc (v := x_22) (lv' := [(7, .int x_22), (9, .int r_18), (8, .int (nI 1)), (0, .ref f), (1, .ref o), (2, .ref g), (3, .int (nI g_5)), (4, .int (nI g_10)), (5, .int a), (6, .int b)]) C.1 C.2.1 d_Pf_takeMore_111 hl (k := 9) rfl (ex_22.symm) (by decide) rfl (fun ls hl => ?_)
                        refine lv_goto (tgt := 40) C.1 C.2.1 d_Pf_takeMore_114 (by decide) ?_
                        have nx_c : x_22.toInt = c.toInt + 1 := by rw [ex_22]; exact incT (by omega) (by omega)
                        exact ih40 x_22 (by omega) (by omega) (by omega) _ _ _ hh (lv_sub hl [3, 4, 5, 6, 7, 8, 9, 0] rfl)
                      · -- 94 -> 97
                        skip
                        refine lv_aload_n C.1 C.2.1 d_Pf_takeMore_97 rfl (lv_at hl 2 rfl) ?_
                        refine lv_iload C.1 C.2.1 d_Pf_takeMore_98 (lv_at hl 7 rfl) ?_
                        refine lv_iload C.1 C.2.1 d_Pf_takeMore_100 (lv_at hl 8 rfl) ?_
                        refine lv_iload C.1 C.2.1 d_Pf_takeMore_102 (lv_at hl 9 rfl) ?_
                        refine lv_iload C.1 C.2.1 d_Pf_takeMore_104 (lv_at hl 0 rfl) ?_
                        obtain ⟨n_23, hn_23, en_23⟩ := id hP
                        refine gc_v hh (gc_runV (As := [.int a, .int b, .int c, .int r_18]) (rest := []) (n := 4) C hml hh (c_Pf_append l D cs sh sz I J f hf n_23 en_23 hn_23 a b c r_18) (tg_V tw_445 tw_447 tw_20 tw_58 tw_448) (by decide +kernel) ⟨rfl, rfl, by decide, by decide, Nat.zero_le _, Nat.zero_le _⟩ hf.1 rfl rfl hl.1 rfl (Nat.le_of_ble_eq_true rfl) d_Pf_takeMore_106) (fun I_25 J_26 H locs hr_24 hh => ?_)
                        have hr_24 := apf_safe hP hr_24
                        refine lv_iconst (v := nI 1) C.1 C.2.1 d_Pf_takeMore_109 rfl ?_
                        exact gr_i C hlk hret (gm_nb (Or.inr rfl)) hh (by exact ⟨Or.inr rfl, hr_24⟩) d_Pf_takeMore_110
                    · -- 49 -> 52
                      skip
                      refine lv_iload C.1 C.2.1 d_Pf_takeMore_52 (lv_at hl 6 rfl) ?_
                      refine lv_if_ne (tgt := 62) C.1 C.2.1 d_Pf_takeMore_54 (by decide) (fun c_27 => ?_) (fun c_27 => ?_)
                      · -- 54 -> 62
                        skip
                        refine lv_iconst (v := nI 1) C.1 C.2.1 d_Pf_takeMore_62 rfl ?_
                        refine lv_goto (tgt := 67) C.1 C.2.1 d_Pf_takeMore_63 (by decide) ?_
                        refine lv_istore (lv' := [(8, .int (nI 1)), (0, .ref f), (1, .ref o), (2, .ref g), (3, .int (nI g_5)), (4, .int (nI g_10)), (5, .int a), (6, .int b), (7, .int c)]) C.1 C.2.1 d_Pf_takeMore_67 hl (by decide) rfl (fun ls hl => ?_)
                        refine lv_iload C.1 C.2.1 d_Pf_takeMore_69 (lv_at hl 0 rfl) ?_
                        refine lv_if_eq (tgt := 89) C.1 C.2.1 d_Pf_takeMore_71 (by decide) (fun c_ => absurd c_ (by decide)) (fun c_ => ?_)
                        refine lv_aload_n C.1 C.2.1 d_Pf_takeMore_74 rfl (lv_at hl 1 rfl) ?_
                        refine lv_aload_n C.1 C.2.1 d_Pf_takeMore_75 rfl (lv_at hl 2 rfl) ?_
                        refine lv_aload_n C.1 C.2.1 d_Pf_takeMore_76 rfl (lv_at hl 3 rfl) ?_
                        refine lv_iload C.1 C.2.1 d_Pf_takeMore_77 (lv_at hl 6 rfl) ?_
                        refine lv_iload C.1 C.2.1 d_Pf_takeMore_79 (lv_at hl 7 rfl) ?_
                        refine lv_iload C.1 C.2.1 d_Pf_takeMore_81 (lv_at hl 8 rfl) ?_
                        refine gc_i hh (gc_runV (As := [.ref o, .ref g, .int a, .int b, .int c]) (rest := []) (n := 5) C hml hh (c_Pf_takenBy l D cs sh sz I J f hf o ho hVo g h hg hSa a b c) (tg_V tw_439 tw_441 tw_19 tw_58 tw_442) (by decide +kernel) ⟨rfl, rfl, by decide, by decide, Nat.zero_le _, Nat.zero_le _⟩ hf.1 rfl rfl hl.1 rfl (Nat.le_of_ble_eq_true rfl) d_Pf_takeMore_83) (fun r_28 I_29 J_30 H locs hr_28 hh => ?_)
                        rw [(Prod.mk.inj hr_28).1, (Prod.mk.inj hr_28).2] at hh
                        refine lv_goto (tgt := 90) C.1 C.2.1 d_Pf_takeMore_86 (by decide) ?_
                        refine lv_istore (lv' := [(9, .int r_28), (8, .int (nI 1)), (0, .ref f), (1, .ref o), (2, .ref g), (3, .int (nI g_5)), (4, .int (nI g_10)), (5, .int a), (6, .int b), (7, .int c)]) C.1 C.2.1 d_Pf_takeMore_90 hl (by decide) rfl (fun ls hl => ?_)
                        refine lv_iload C.1 C.2.1 d_Pf_takeMore_92 (lv_at hl 0 rfl) ?_
                        refine lv_if_eq (tgt := 111) C.1 C.2.1 d_Pf_takeMore_94 (by decide) (fun c_31 => ?_) (fun c_31 => ?_)
                        · -- 94 -> 111
                          skip
                          obtain ⟨x_32, ex_32⟩ : ∃ z : Int32, z = c + Int32.ofInt 1 := ⟨_, rfl⟩
                          refine lv_iinc (v := x_32) (lv' := [(7, .int x_32), (9, .int r_28), (8, .int (nI 1)), (0, .ref f), (1, .ref o), (2, .ref g), (3, .int (nI g_5)), (4, .int (nI g_10)), (5, .int a), (6, .int b)]) C.1 C.2.1 d_Pf_takeMore_111 hl (k := 9) rfl (ex_32.symm) (by decide) rfl (fun ls hl => ?_)
                          refine lv_goto (tgt := 40) C.1 C.2.1 d_Pf_takeMore_114 (by decide) ?_
                          have nx_c : x_32.toInt = c.toInt + 1 := by rw [ex_32]; exact incT (by omega) (by omega)
                          exact ih40 x_32 (by omega) (by omega) (by omega) _ _ _ hh (lv_sub hl [3, 4, 5, 6, 7, 8, 9, 0] rfl)
                        · -- 94 -> 97
                          skip
                          refine lv_aload_n C.1 C.2.1 d_Pf_takeMore_97 rfl (lv_at hl 2 rfl) ?_
                          refine lv_iload C.1 C.2.1 d_Pf_takeMore_98 (lv_at hl 7 rfl) ?_
                          refine lv_iload C.1 C.2.1 d_Pf_takeMore_100 (lv_at hl 8 rfl) ?_
                          refine lv_iload C.1 C.2.1 d_Pf_takeMore_102 (lv_at hl 9 rfl) ?_
                          refine lv_iload C.1 C.2.1 d_Pf_takeMore_104 (lv_at hl 0 rfl) ?_
                          obtain ⟨n_33, hn_33, en_33⟩ := id hP
                          refine gc_v hh (gc_runV (As := [.int a, .int b, .int c, .int r_28]) (rest := []) (n := 4) C hml hh (c_Pf_append l D cs sh sz I J f hf n_33 en_33 hn_33 a b c r_28) (tg_V tw_445 tw_447 tw_20 tw_58 tw_448) (by decide +kernel) ⟨rfl, rfl, by decide, by decide, Nat.zero_le _, Nat.zero_le _⟩ hf.1 rfl rfl hl.1 rfl (Nat.le_of_ble_eq_true rfl) d_Pf_takeMore_106) (fun I_35 J_36 H locs hr_34 hh => ?_)
                          have hr_34 := apf_safe hP hr_34
                          refine lv_iconst (v := nI 1) C.1 C.2.1 d_Pf_takeMore_109 rfl ?_
                          exact gr_i C hlk hret (gm_nb (Or.inr rfl)) hh (by exact ⟨Or.inr rfl, hr_34⟩) d_Pf_takeMore_110
                      · -- 54 -> 57
                        skip
                        refine lv_iload C.1 C.2.1 d_Pf_takeMore_57 (lv_at hl 7 rfl) ?_
                        refine lv_if_eq (tgt := 66) C.1 C.2.1 d_Pf_takeMore_59 (by decide) (fun c_37 => ?_) (fun c_37 => ?_)
                        · -- 59 -> 66
                          skip
                          refine lv_iconst (v := nI 0) C.1 C.2.1 d_Pf_takeMore_66 rfl ?_
                          refine lv_istore (lv' := [(8, .int (nI 0)), (0, .ref f), (1, .ref o), (2, .ref g), (3, .int (nI g_5)), (4, .int (nI g_10)), (5, .int a), (6, .int b), (7, .int c)]) C.1 C.2.1 d_Pf_takeMore_67 hl (by decide) rfl (fun ls hl => ?_)
                          refine lv_iload C.1 C.2.1 d_Pf_takeMore_69 (lv_at hl 0 rfl) ?_
                          refine lv_if_eq (tgt := 89) C.1 C.2.1 d_Pf_takeMore_71 (by decide) (fun c_ => ?_) (fun c_ => absurd (by decide) c_)
                          refine lv_iconst (v := nI 0) C.1 C.2.1 d_Pf_takeMore_89 rfl ?_
                          refine lv_istore (lv' := [(9, .int (nI 0)), (8, .int (nI 0)), (0, .ref f), (1, .ref o), (2, .ref g), (3, .int (nI g_5)), (4, .int (nI g_10)), (5, .int a), (6, .int b), (7, .int c)]) C.1 C.2.1 d_Pf_takeMore_90 hl (by decide) rfl (fun ls hl => ?_)
                          refine lv_iload C.1 C.2.1 d_Pf_takeMore_92 (lv_at hl 0 rfl) ?_
                          refine lv_if_eq (tgt := 111) C.1 C.2.1 d_Pf_takeMore_94 (by decide) (fun c_ => ?_) (fun c_ => absurd (by decide) c_)
                          obtain ⟨x_38, ex_38⟩ : ∃ z : Int32, z = c + Int32.ofInt 1 := ⟨_, rfl⟩
                          refine lv_iinc (v := x_38) (lv' := [(7, .int x_38), (9, .int (nI 0)), (8, .int (nI 0)), (0, .ref f), (1, .ref o), (2, .ref g), (3, .int (nI g_5)), (4, .int (nI g_10)), (5, .int a), (6, .int b)]) C.1 C.2.1 d_Pf_takeMore_111 hl (k := 9) rfl (ex_38.symm) (by decide) rfl (fun ls hl => ?_)
                          refine lv_goto (tgt := 40) C.1 C.2.1 d_Pf_takeMore_114 (by decide) ?_
                          have nx_c : x_38.toInt = c.toInt + 1 := by rw [ex_38]; exact incT (by omega) (by omega)
                          exact ih40 x_38 (by omega) (by omega) (by omega) _ _ _ hh (lv_sub hl [3, 4, 5, 6, 7, 8, 9, 0] rfl)
                        · -- 59 -> 62
                          skip
                          refine lv_iconst (v := nI 1) C.1 C.2.1 d_Pf_takeMore_62 rfl ?_
                          refine lv_goto (tgt := 67) C.1 C.2.1 d_Pf_takeMore_63 (by decide) ?_
                          refine lv_istore (lv' := [(8, .int (nI 1)), (0, .ref f), (1, .ref o), (2, .ref g), (3, .int (nI g_5)), (4, .int (nI g_10)), (5, .int a), (6, .int b), (7, .int c)]) C.1 C.2.1 d_Pf_takeMore_67 hl (by decide) rfl (fun ls hl => ?_)
                          refine lv_iload C.1 C.2.1 d_Pf_takeMore_69 (lv_at hl 0 rfl) ?_
                          refine lv_if_eq (tgt := 89) C.1 C.2.1 d_Pf_takeMore_71 (by decide) (fun c_ => absurd c_ (by decide)) (fun c_ => ?_)
                          refine lv_aload_n C.1 C.2.1 d_Pf_takeMore_74 rfl (lv_at hl 1 rfl) ?_
                          refine lv_aload_n C.1 C.2.1 d_Pf_takeMore_75 rfl (lv_at hl 2 rfl) ?_
                          refine lv_aload_n C.1 C.2.1 d_Pf_takeMore_76 rfl (lv_at hl 3 rfl) ?_
                          refine lv_iload C.1 C.2.1 d_Pf_takeMore_77 (lv_at hl 6 rfl) ?_
                          refine lv_iload C.1 C.2.1 d_Pf_takeMore_79 (lv_at hl 7 rfl) ?_
                          refine lv_iload C.1 C.2.1 d_Pf_takeMore_81 (lv_at hl 8 rfl) ?_
                          refine gc_i hh (gc_runV (As := [.ref o, .ref g, .int a, .int b, .int c]) (rest := []) (n := 5) C hml hh (c_Pf_takenBy l D cs sh sz I J f hf o ho hVo g h hg hSa a b c) (tg_V tw_439 tw_441 tw_19 tw_58 tw_442) (by decide +kernel) ⟨rfl, rfl, by decide, by decide, Nat.zero_le _, Nat.zero_le _⟩ hf.1 rfl rfl hl.1 rfl (Nat.le_of_ble_eq_true rfl) d_Pf_takeMore_83) (fun r_39 I_40 J_41 H locs hr_39 hh => ?_)
                          rw [(Prod.mk.inj hr_39).1, (Prod.mk.inj hr_39).2] at hh
                          refine lv_goto (tgt := 90) C.1 C.2.1 d_Pf_takeMore_86 (by decide) ?_
                          refine lv_istore (lv' := [(9, .int r_39), (8, .int (nI 1)), (0, .ref f), (1, .ref o), (2, .ref g), (3, .int (nI g_5)), (4, .int (nI g_10)), (5, .int a), (6, .int b), (7, .int c)]) C.1 C.2.1 d_Pf_takeMore_90 hl (by decide) rfl (fun ls hl => ?_)
                          refine lv_iload C.1 C.2.1 d_Pf_takeMore_92 (lv_at hl 0 rfl) ?_
                          refine lv_if_eq (tgt := 111) C.1 C.2.1 d_Pf_takeMore_94 (by decide) (fun c_42 => ?_) (fun c_42 => ?_)
                          · -- 94 -> 111
                            skip
                            obtain ⟨x_43, ex_43⟩ : ∃ z : Int32, z = c + Int32.ofInt 1 := ⟨_, rfl⟩
                            refine lv_iinc (v := x_43) (lv' := [(7, .int x_43), (9, .int r_39), (8, .int (nI 1)), (0, .ref f), (1, .ref o), (2, .ref g), (3, .int (nI g_5)), (4, .int (nI g_10)), (5, .int a), (6, .int b)]) C.1 C.2.1 d_Pf_takeMore_111 hl (k := 9) rfl (ex_43.symm) (by decide) rfl (fun ls hl => ?_)
                            refine lv_goto (tgt := 40) C.1 C.2.1 d_Pf_takeMore_114 (by decide) ?_
                            have nx_c : x_43.toInt = c.toInt + 1 := by rw [ex_43]; exact incT (by omega) (by omega)
                            exact ih40 x_43 (by omega) (by omega) (by omega) _ _ _ hh (lv_sub hl [3, 4, 5, 6, 7, 8, 9, 0] rfl)
                          · -- 94 -> 97
                            skip
                            refine lv_aload_n C.1 C.2.1 d_Pf_takeMore_97 rfl (lv_at hl 2 rfl) ?_
                            refine lv_iload C.1 C.2.1 d_Pf_takeMore_98 (lv_at hl 7 rfl) ?_
                            refine lv_iload C.1 C.2.1 d_Pf_takeMore_100 (lv_at hl 8 rfl) ?_
                            refine lv_iload C.1 C.2.1 d_Pf_takeMore_102 (lv_at hl 9 rfl) ?_
                            refine lv_iload C.1 C.2.1 d_Pf_takeMore_104 (lv_at hl 0 rfl) ?_
                            obtain ⟨n_44, hn_44, en_44⟩ := id hP
                            refine gc_v hh (gc_runV (As := [.int a, .int b, .int c, .int r_39]) (rest := []) (n := 4) C hml hh (c_Pf_append l D cs sh sz I J f hf n_44 en_44 hn_44 a b c r_39) (tg_V tw_445 tw_447 tw_20 tw_58 tw_448) (by decide +kernel) ⟨rfl, rfl, by decide, by decide, Nat.zero_le _, Nat.zero_le _⟩ hf.1 rfl rfl hl.1 rfl (Nat.le_of_ble_eq_true rfl) d_Pf_takeMore_106) (fun I_46 J_47 H locs hr_45 hh => ?_)
                            have hr_45 := apf_safe hP hr_45
                            refine lv_iconst (v := nI 1) C.1 C.2.1 d_Pf_takeMore_109 rfl ?_
                            exact gr_i C hlk hret (gm_nb (Or.inr rfl)) hh (by exact ⟨Or.inr rfl, hr_45⟩) d_Pf_takeMore_110
              exact K40 _ (-(nI g_10)) (by first | decide | (rw [negN (by omega)]; omega)) (by first | decide | (rw [negN (by omega)]; omega)) (Nat.lt_succ_self _) _ _ _ hh (lv_sub hl [1, 2, 3, 4, 5, 6, 7, 0] rfl)
        exact K29 _ (-(nI g_5)) (by first | decide | (rw [negN (by omega)]; omega)) (by first | decide | (rw [negN (by omega)]; omega)) (Nat.lt_succ_self _) _ _ _ hh (lv_sub hl [1, 2, 3, 4, 5, 6, 0] rfl)
  exact K19 _ x_11 (by rw [ex_11]; decide) (by rw [ex_11]; decide) (Nat.lt_succ_self _) _ _ _ hh (lv_sub hl [3, 4, 5, 2, 1, 0] rfl)

set_option maxHeartbeats 4000000 in
set_option maxRecDepth 100000 in
theorem c_Pf_search (l : Launch) (D : va_G) (cs : Nat → ClassId) (sh : gm_H) (sz : Nat) (I : gm_I) (J : gm_J) (f : Nat) (hf : is_Pf sh f) (hP : inv_Pf I f) (o : Nat) (ho : is_Lp cs sh o) (hVo : inv_Lp I o) (g h : Nat) (hg : is_Sa cs sh g h) (hSa : ∀ k, k < 3 → inv_Sp I (h + 12 * k)) (hdo : o + 20 < f ∨ f + 1 < o) (hdh : h + 29 < f ∨ f + 1 < h) : CV l y_Pf_search w_Pf_search { frames := 5, cells := 0, slots := 0, locals := 129 } D cs sh sz I J [.ref f, .ref o, .ref g] (fun u => pfP f I J u) := by
  refine gm_start (by decide) (Nat.le_of_ble_eq_true rfl) ?_
  intro p' e' s' m' be' me' co' ls C hml hlk hret hh hl
  have hl : lv_has ls 4 [(0, .ref f), (1, .ref o), (2, .ref g)] := hl
  have tO_0 : offR f (f + 1) I I J J := offR.nil
  have tP_0 : inv_Pf I f := hP
  refine lv_aload_n C.1 C.2.1 d_Pf_search_0 rfl (lv_at hl 0 rfl) ?_
  refine lv_iconst (v := nI 0) C.1 C.2.1 d_Pf_search_1 rfl ?_
  refine gp_i (ty := .int) C hh hf.1 rfl in_Pf t_Pf t_Pf_ok n_Pf 1 (by decide) rfl tw_85 rfl rfl (by decide +kernel) rfl rfl d_Pf_search_2 (fun H locs hh => ?_)
  obtain ⟨I_1, eI_1⟩ : ∃ z : gm_I, z = gm_up I f 1 (nI 0) := ⟨_, rfl⟩
  rw [← eI_1] at hh
  have tO_2 : offR f (f + 1) I I_1 J J := by rw [eI_1]; exact offR.upI tO_0 (by omega)
  have tP_3 : inv_Pf I_1 f := by rw [eI_1]; exact nle.set (by omega)
  refine lv_aload_n C.1 C.2.1 d_Pf_search_5 rfl (lv_at hl 0 rfl) ?_
  refine lv_iconst (v := nI 1) C.1 C.2.1 d_Pf_search_6 rfl ?_
  refine lv_aload_n C.1 C.2.1 d_Pf_search_7 rfl (lv_at hl 1 rfl) ?_
  refine gn_i C hh ho.1 rfl in_Lp 3 (by decide) rfl tw_162 rfl d_Pf_search_8 ?_
  obtain ⟨g_4, hg_4, eg_4⟩ := (inv_Lp.off hVo tO_2 hdo).2.2.1
  refine gm_eqi eg_4 ?_
  refine lv_ishl C.1 C.2.1 d_Pf_search_11 ?_
  refine gm_eqi (gm_shl (by omega) (by omega)) ?_
  refine lv_iconst (v := nI 1) C.1 C.2.1 d_Pf_search_12 rfl ?_
  refine lv_isub C.1 C.2.1 d_Pf_search_13 ?_
  refine gp_i (ty := .int) C hh hf.1 rfl in_Pf t_Pf t_Pf_ok n_Pf 2 (by decide) rfl tw_87 rfl rfl (by decide +kernel) rfl rfl d_Pf_search_14 (fun H locs hh => ?_)
  obtain ⟨I_5, eI_5⟩ : ∃ z : gm_I, z = gm_up I_1 f 2 ((nI (1 * 2 ^ g_4)) - (nI 1)) := ⟨_, rfl⟩
  rw [← eI_5] at hh
  have tO_6 : offR f (f + 1) I I_5 J J := by rw [eI_5]; exact offR.upI tO_2 (by omega)
  have tP_7 : inv_Pf I_5 f := by rw [eI_5]; exact nle.up tP_3 (by omega)
  refine lv_iconst (v := nI 0) C.1 C.2.1 d_Pf_search_17 rfl ?_
  refine lv_istore_n (lv' := [(3, .int (nI 0)), (0, .ref f), (1, .ref o), (2, .ref g)]) C.1 C.2.1 d_Pf_search_18 rfl hl (by decide) rfl (fun ls hl => ?_)
  have K19 : ∀ (n_19 : Nat) (i : Nat) (I19 : gm_I) (J19 : gm_J) (hi : i ≤ 3) (tO19 : offR f (f + 1) I I19 J J19) (tP19 : inv_Pf I19 f) (hm_19 : 4 - i < n_19), ∀ (H : Heap) (locs : List Loc) (ls : Array Slot), gm_St D cs sh (gm_A sh) s'.heap sz I19 J19 H locs → lv_has ls 4 [(0, .ref f), (1, .ref o), (2, .ref g), (3, .int (nI i))] → W p' l e' { frames := 5, cells := 0, slots := 0, locals := 129 } s' m' ([.ref f, .ref o, .ref g] : List Value).toArray be' me' co' H locs 0 0 (MQ be' (va_Qv (fun u => pfP f I J u) (gm_B D cs sh sz) (gm_A sh)) ([.ref f, .ref o, .ref g] : List Value).toArray s' 0 0 (gm_A sh)) (F0 m' 19 ls []) := by
    intro n_19
    induction n_19 with
    | zero => intro i I19 J19 hi tO19 tP19 hm_19; exact absurd hm_19 (Nat.not_lt_zero _)
    | succ n_19 ih19 =>
      intro i I19 J19 hi tO19 tP19 hm_19 H locs ls hh hl
      refine lv_iload_n C.1 C.2.1 d_Pf_search_19 rfl (lv_at hl 3 rfl) ?_
      refine lv_iconst (v := nI 3) C.1 C.2.1 d_Pf_search_20 rfl ?_
      refine lv_icmp_ge (tgt := 47) C.1 C.2.1 d_Pf_search_21 (by decide) (fun c_8 => ?_) (fun c_8 => ?_)
      · -- 21 -> 47
        have c_8 := gm_get (by omega) (by omega) c_8
        have c_8' := Nat.not_lt.mpr c_8
        exact gr_v C hlk hret hh (by exact ⟨tO19, tP19⟩) d_Pf_search_47
      · -- 21 -> 24
        have c_8 := gm_gef (by omega) (by omega) c_8
        have c_8' := Nat.not_le.mpr c_8
        refine lv_aload_n C.1 C.2.1 d_Pf_search_24 rfl (lv_at hl 0 rfl) ?_
        refine gg_i C hh hf.1 rfl in_Pf 2 (by decide) rfl tw_87 rfl d_Pf_search_25 ?_
        refine lv_if_eq (tgt := 47) C.1 C.2.1 d_Pf_search_28 (by decide) (fun c_9 => ?_) (fun c_9 => ?_)
        · -- 28 -> 47
          skip
          exact gr_v C hlk hret hh (by exact ⟨tO19, tP19⟩) d_Pf_search_47
        · -- 28 -> 31
          skip
          refine lv_aload_n C.1 C.2.1 d_Pf_search_31 rfl (lv_at hl 0 rfl) ?_
          refine lv_aload_n C.1 C.2.1 d_Pf_search_32 rfl (lv_at hl 1 rfl) ?_
          refine lv_aload_n C.1 C.2.1 d_Pf_search_33 rfl (lv_at hl 2 rfl) ?_
          refine gc_i hh (gc_runV (As := [.ref o, .ref g]) (rest := []) (n := 2) C hml hh (c_Pf_takeMore l D cs sh sz I19 J19 f hf tP19 o ho (inv_Lp.off hVo tO19 hdo) g h hg (fun k hk => (hSa k hk).off tO19 (by omega))) (tg_V tw_431 tw_433 tw_18 tw_58 tw_434) (by decide +kernel) ⟨rfl, rfl, by decide, by decide, Nat.zero_le _, Nat.zero_le _⟩ hf.1 rfl rfl hl.1 rfl (Nat.le_of_ble_eq_true rfl) d_Pf_search_34) (fun r_10 I_11 J_12 H locs hr_10 hh => ?_)
          have tO_13 : offR f (f + 1) I I_11 J J_12 := offR.tr tO19 hr_10.2.1
          have tP_14 : inv_Pf I_11 f := hr_10.2.2
          refine lv_if_ne (tgt := 41) C.1 C.2.1 d_Pf_search_37 (by decide) (fun c_15 => ?_) (fun c_15 => ?_)
          · -- 37 -> 41
            skip
            refine lv_iinc (v := nI (i + 1)) (lv' := [(3, .int (nI (i + 1))), (0, .ref f), (1, .ref o), (2, .ref g)]) C.1 C.2.1 d_Pf_search_41 hl (k := 3) rfl (gm_inc i 1) (by decide) rfl (fun ls hl => ?_)
            refine lv_goto (tgt := 19) C.1 C.2.1 d_Pf_search_44 (by decide) ?_
            exact ih19 (i + 1) I_11 J_12 (by omega) (by exact tO_13) (by exact tP_14) (by omega) _ _ _ hh (lv_sub hl [1, 2, 3, 0] rfl)
          · -- 37 -> 40
            skip
            exact gr_v C hlk hret hh (by exact ⟨tO_13, tP_14⟩) d_Pf_search_40
  exact K19 _ 0 I_5 J (by omega) (by exact tO_6) (by exact tP_7) (Nat.lt_succ_self _) _ _ _ hh (lv_sub hl [1, 2, 3, 0] rfl)
