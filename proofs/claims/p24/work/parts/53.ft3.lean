set_option maxHeartbeats 4000000 in
set_option maxRecDepth 100000 in
theorem c_Sp_cut (l : Launch) (D : va_G) (cs : Nat → ClassId) (sh : gm_H) (sz : Nat) (I : gm_I) (J : gm_J) (q : Nat) (hs : is_Sp sh q) (hS : inv_Sp I q) (a b c d : Int32) : CV l y_Sp_cut w_Sp_cut { frames := 2, cells := 0, slots := 0, locals := 52 } D cs sh sz I J [.ref q, .int a, .int b, .int c, .int d] (fun u => sfP q I J u) := by
  refine gm_start (by decide) (Nat.le_of_ble_eq_true rfl) ?_
  intro p' e' s' m' be' me' co' ls C hml hlk hret hh hl
  have hl : lv_has ls 8 [(0, .ref q), (1, .int a), (2, .int b), (3, .int c), (4, .int d)] := hl
  have tO_0 : offR q (q + 5) I I J J := offR.nil
  have tS_0 : inv_Sp I q := hS
  refine lv_aload_n C.1 C.2.1 d_Sp_cut_0 rfl (lv_at hl 0 rfl) ?_
  refine gg_i C hh hs.1 rfl in_Sp 3 (by decide) rfl tw_188 rfl d_Sp_cut_1 ?_
  obtain ⟨g_1, hg_1, eg_1⟩ := tS_0.2
  refine gm_eqi eg_1 ?_
  refine lv_istore (lv' := [(5, .int (nI g_1)), (0, .ref q), (1, .int a), (2, .int b), (3, .int c), (4, .int d)]) C.1 C.2.1 d_Sp_cut_4 hl (by decide) rfl (fun ls hl => ?_)
  refine lv_iconst (v := nI 0) C.1 C.2.1 d_Sp_cut_6 rfl ?_
  refine lv_istore (lv' := [(6, .int (nI 0)), (5, .int (nI g_1)), (0, .ref q), (1, .int a), (2, .int b), (3, .int c), (4, .int d)]) C.1 C.2.1 d_Sp_cut_7 hl (by decide) rfl (fun ls hl => ?_)
  have K9 : ∀ (n_9 : Nat) (k : Nat) (I9 : gm_I) (J9 : gm_J) (hk : k ≤ g_1) (tO9 : offR q (q + 5) I I9 J J9) (tS9 : inv_Sp I9 q) (hm_9 : g_1 - k < n_9), ∀ (H : Heap) (locs : List Loc) (ls : Array Slot), gm_St D cs sh (gm_A sh) s'.heap sz I9 J9 H locs → lv_has ls 8 [(0, .ref q), (1, .int a), (2, .int b), (3, .int c), (4, .int d), (5, .int (nI g_1)), (6, .int (nI k))] → W p' l e' { frames := 2, cells := 0, slots := 0, locals := 52 } s' m' ([.ref q, .int a, .int b, .int c, .int d] : List Value).toArray be' me' co' H locs 0 0 (MQ be' (va_Qv (fun u => sfP q I J u) (gm_B D cs sh sz) (gm_A sh)) ([.ref q, .int a, .int b, .int c, .int d] : List Value).toArray s' 0 0 (gm_A sh)) (F0 m' 9 ls []) := by
    intro n_9
    induction n_9 with
    | zero => intro k I9 J9 hk tO9 tS9 hm_9; exact absurd hm_9 (Nat.not_lt_zero _)
    | succ n_9 ih9 =>
      intro k I9 J9 hk tO9 tS9 hm_9 H locs ls hh hl
      refine lv_iload C.1 C.2.1 d_Sp_cut_9 (lv_at hl 6 rfl) ?_
      refine lv_iload C.1 C.2.1 d_Sp_cut_11 (lv_at hl 5 rfl) ?_
      refine lv_icmp_ge (tgt := 40) C.1 C.2.1 d_Sp_cut_13 (by decide) (fun c_2 => ?_) (fun c_2 => ?_)
      · -- 13 -> 40
        have c_2 := gm_get (by omega) (by omega) c_2
        have c_2' := Nat.not_lt.mpr c_2
        refine lv_iconst (v := nI 0) C.1 C.2.1 d_Sp_cut_40 rfl ?_
        refine lv_istore (lv' := [(6, .int (nI 0)), (0, .ref q), (1, .int a), (2, .int b), (3, .int c), (4, .int d), (5, .int (nI g_1))]) C.1 C.2.1 d_Sp_cut_41 hl (by decide) rfl (fun ls hl => ?_)
        have K43 : ∀ (n_43 : Nat) (i : Nat) (I43 : gm_I) (J43 : gm_J) (hi : i ≤ g_1) (tO43 : offR q (q + 5) I I43 J J43) (tS43 : inv_Sp I43 q) (hm_43 : g_1 - i < n_43), ∀ (H : Heap) (locs : List Loc) (ls : Array Slot), gm_St D cs sh (gm_A sh) s'.heap sz I43 J43 H locs → lv_has ls 8 [(0, .ref q), (1, .int a), (2, .int b), (3, .int c), (4, .int d), (5, .int (nI g_1)), (6, .int (nI i))] → W p' l e' { frames := 2, cells := 0, slots := 0, locals := 52 } s' m' ([.ref q, .int a, .int b, .int c, .int d] : List Value).toArray be' me' co' H locs 0 0 (MQ be' (va_Qv (fun u => sfP q I J u) (gm_B D cs sh sz) (gm_A sh)) ([.ref q, .int a, .int b, .int c, .int d] : List Value).toArray s' 0 0 (gm_A sh)) (F0 m' 43 ls []) := by
          intro n_43
          induction n_43 with
          | zero => intro i I43 J43 hi tO43 tS43 hm_43; exact absurd hm_43 (Nat.not_lt_zero _)
          | succ n_43 ih43 =>
            intro i I43 J43 hi tO43 tS43 hm_43 H locs ls hh hl
            refine lv_iload C.1 C.2.1 d_Sp_cut_43 (lv_at hl 6 rfl) ?_
            refine lv_iload C.1 C.2.1 d_Sp_cut_45 (lv_at hl 5 rfl) ?_
            refine lv_icmp_ge (tgt := 117) C.1 C.2.1 d_Sp_cut_47 (by decide) (fun c_3 => ?_) (fun c_3 => ?_)
            · -- 47 -> 117
              have c_3 := gm_get (by omega) (by omega) c_3
              have c_3' := Nat.not_lt.mpr c_3
              refine lv_aload_n C.1 C.2.1 d_Sp_cut_117 rfl (lv_at hl 0 rfl) ?_
              refine lv_iload C.1 C.2.1 d_Sp_cut_118 (lv_at hl 5 rfl) ?_
              refine gc_v hh (gc_runV (As := [.int (nI g_1)]) (rest := []) (n := 1) C hml hh (c_Sp_dropBeyond l D cs sh sz I43 J43 q hs tS43 g_1 (by omega)) (tg_V tw_378 tw_380 tw_15 tw_63 tw_381) (by decide +kernel) ⟨rfl, rfl, by decide, by decide, Nat.zero_le _, Nat.zero_le _⟩ hs.1 rfl rfl hl.1 rfl (Nat.le_of_ble_eq_true rfl) d_Sp_cut_120) (fun I_5 J_6 H locs hr_4 hh => ?_)
              have tO_7 : offR q (q + 5) I I_5 J J_6 := offR.tr tO43 hr_4.1
              have tS_8 : inv_Sp I_5 q := hr_4.2
              exact gr_v C hlk hret hh (by exact ⟨tO_7, tS_8⟩) d_Sp_cut_123
            · -- 47 -> 50
              have c_3 := gm_gef (by omega) (by omega) c_3
              have c_3' := Nat.not_le.mpr c_3
              refine lv_iconst (v := nI 0) C.1 C.2.1 d_Sp_cut_50 rfl ?_
              refine lv_istore (lv' := [(7, .int (nI 0)), (0, .ref q), (1, .int a), (2, .int b), (3, .int c), (4, .int d), (5, .int (nI g_1)), (6, .int (nI i))]) C.1 C.2.1 d_Sp_cut_51 hl (by decide) rfl (fun ls hl => ?_)
              have K53 : ∀ (n_53 : Nat) (j : Nat) (I53 : gm_I) (J53 : gm_J) (hj : j ≤ g_1) (tO53 : offR q (q + 5) I I53 J J53) (tS53 : inv_Sp I53 q) (hm_53 : g_1 - j < n_53), ∀ (H : Heap) (locs : List Loc) (ls : Array Slot), gm_St D cs sh (gm_A sh) s'.heap sz I53 J53 H locs → lv_has ls 8 [(0, .ref q), (1, .int a), (2, .int b), (3, .int c), (4, .int d), (5, .int (nI g_1)), (6, .int (nI i)), (7, .int (nI j))] → W p' l e' { frames := 2, cells := 0, slots := 0, locals := 52 } s' m' ([.ref q, .int a, .int b, .int c, .int d] : List Value).toArray be' me' co' H locs 0 0 (MQ be' (va_Qv (fun u => sfP q I J u) (gm_B D cs sh sz) (gm_A sh)) ([.ref q, .int a, .int b, .int c, .int d] : List Value).toArray s' 0 0 (gm_A sh)) (F0 m' 53 ls []) := by
                intro n_53
                induction n_53 with
                | zero => intro j I53 J53 hj tO53 tS53 hm_53; exact absurd hm_53 (Nat.not_lt_zero _)
                | succ n_53 ih53 =>
                  intro j I53 J53 hj tO53 tS53 hm_53 H locs ls hh hl
                  refine lv_aload_n C.1 C.2.1 d_Sp_cut_53 rfl (lv_at hl 0 rfl) ?_
                  refine gg_r C hh hs.1 rfl in_Sp 5 (by decide) rfl tw_190 rfl d_Sp_cut_54 ?_
                  refine lv_iload C.1 C.2.1 d_Sp_cut_57 (lv_at hl 6 rfl) ?_
                  refine ga_l C hh hs.2.2.2.2.1 (k := i) rfl (by omega) (by omega) d_Sp_cut_59 ?_
                  refine lv_lconst (v := 0) C.1 C.2.1 d_Sp_cut_60 rfl ?_
                  refine W.lcmp C.1 C.2.1 d_Sp_cut_61 ?_
                  refine lv_if_le (tgt := 111) C.1 C.2.1 d_Sp_cut_62 (by decide) (fun c_9 => ?_) (fun c_9 => ?_)
                  · -- 62 -> 111
                    have c_9 := gm_llet c_9
                    refine lv_iinc (v := nI (i + 1)) (lv' := [(6, .int (nI (i + 1))), (0, .ref q), (1, .int a), (2, .int b), (3, .int c), (4, .int d), (5, .int (nI g_1)), (7, .int (nI j))]) C.1 C.2.1 d_Sp_cut_111 hl (k := 6) rfl (gm_inc i 1) (by decide) rfl (fun ls hl => ?_)
                    refine lv_goto (tgt := 43) C.1 C.2.1 d_Sp_cut_114 (by decide) ?_
                    exact ih43 (i + 1) I53 J53 (by omega) (by exact tO53) (by exact tS53) (by omega) _ _ _ hh (lv_sub hl [1, 2, 3, 4, 5, 6, 0] rfl)
                  · -- 62 -> 65
                    have c_9 := gm_llef c_9
                    refine lv_iload C.1 C.2.1 d_Sp_cut_65 (lv_at hl 7 rfl) ?_
                    refine lv_iload C.1 C.2.1 d_Sp_cut_67 (lv_at hl 5 rfl) ?_
                    refine lv_icmp_ge (tgt := 111) C.1 C.2.1 d_Sp_cut_69 (by decide) (fun c_10 => ?_) (fun c_10 => ?_)
                    · -- 69 -> 111
                      have c_10 := gm_get (by omega) (by omega) c_10
                      have c_10' := Nat.not_lt.mpr c_10
                      refine lv_iinc (v := nI (i + 1)) (lv' := [(6, .int (nI (i + 1))), (0, .ref q), (1, .int a), (2, .int b), (3, .int c), (4, .int d), (5, .int (nI g_1)), (7, .int (nI j))]) C.1 C.2.1 d_Sp_cut_111 hl (k := 6) rfl (gm_inc i 1) (by decide) rfl (fun ls hl => ?_)
                      refine lv_goto (tgt := 43) C.1 C.2.1 d_Sp_cut_114 (by decide) ?_
                      exact ih43 (i + 1) I53 J53 (by omega) (by exact tO53) (by exact tS53) (by omega) _ _ _ hh (lv_sub hl [1, 2, 3, 4, 5, 6, 0] rfl)
                    · -- 69 -> 72
                      have c_10 := gm_gef (by omega) (by omega) c_10
                      have c_10' := Nat.not_le.mpr c_10
                      refine lv_aload_n C.1 C.2.1 d_Sp_cut_72 rfl (lv_at hl 0 rfl) ?_
                      refine gg_r C hh hs.1 rfl in_Sp 5 (by decide) rfl tw_190 rfl d_Sp_cut_73 ?_
                      refine lv_iload C.1 C.2.1 d_Sp_cut_76 (lv_at hl 7 rfl) ?_
                      refine ga_l C hh hs.2.2.2.2.1 (k := j) rfl (by omega) (by omega) d_Sp_cut_78 ?_
                      refine lv_lconst (v := 0) C.1 C.2.1 d_Sp_cut_79 rfl ?_
                      refine W.lcmp C.1 C.2.1 d_Sp_cut_80 ?_
                      refine lv_if_ge (tgt := 105) C.1 C.2.1 d_Sp_cut_81 (by decide) (fun c_11 => ?_) (fun c_11 => ?_)
                      · -- 81 -> 105
                        have c_11 := gm_lget c_11
                        refine lv_iinc (v := nI (j + 1)) (lv' := [(7, .int (nI (j + 1))), (0, .ref q), (1, .int a), (2, .int b), (3, .int c), (4, .int d), (5, .int (nI g_1)), (6, .int (nI i))]) C.1 C.2.1 d_Sp_cut_105 hl (k := 7) rfl (gm_inc j 1) (by decide) rfl (fun ls hl => ?_)
                        refine lv_goto (tgt := 53) C.1 C.2.1 d_Sp_cut_108 (by decide) ?_
                        exact ih53 (j + 1) I53 J53 (by omega) (by exact tO53) (by exact tS53) (by omega) _ _ _ hh (lv_sub hl [1, 2, 3, 4, 5, 6, 7, 0] rfl)
                      · -- 81 -> 84
                        have c_11 := gm_lgef c_11
                        refine lv_aload_n C.1 C.2.1 d_Sp_cut_84 rfl (lv_at hl 0 rfl) ?_
                        refine lv_iload C.1 C.2.1 d_Sp_cut_85 (lv_at hl 6 rfl) ?_
                        refine lv_iload C.1 C.2.1 d_Sp_cut_87 (lv_at hl 7 rfl) ?_
                        refine lv_iload C.1 C.2.1 d_Sp_cut_89 (lv_at hl 5 rfl) ?_
                        refine gc_i hh (gc_runV (As := [.int (nI i), .int (nI j), .int (nI g_1)]) (rest := []) (n := 3) C hml hh (c_Sp_areNeighbours l D cs sh sz I53 J53 q hs i j g_1 (by omega) (by omega) (by omega)) (tg_V tw_370 tw_372 tw_13 tw_63 tw_373) (by decide +kernel) ⟨rfl, rfl, by decide, by decide, Nat.zero_le _, Nat.zero_le _⟩ hs.1 rfl rfl hl.1 rfl (Nat.le_of_ble_eq_true rfl) d_Sp_cut_91) (fun r_12 I_13 J_14 H locs hr_12 hh => ?_)
                        obtain ⟨e_r_12, hr_12⟩ := hr_12
                        rw [(Prod.mk.inj e_r_12).1, (Prod.mk.inj e_r_12).2] at hh
                        obtain ⟨br_12, hr_12, _⟩ := hr_12
                        refine lv_if_eq (tgt := 105) C.1 C.2.1 d_Sp_cut_94 (by decide) (fun c_15 => ?_) (fun c_15 => ?_)
                        · -- 94 -> 105
                          have b_16 := bI_f hr_12 c_15
                          skip
                          refine lv_iinc (v := nI (j + 1)) (lv' := [(7, .int (nI (j + 1))), (0, .ref q), (1, .int a), (2, .int b), (3, .int c), (4, .int d), (5, .int (nI g_1)), (6, .int (nI i))]) C.1 C.2.1 d_Sp_cut_105 hl (k := 7) rfl (gm_inc j 1) (by decide) rfl (fun ls hl => ?_)
                          refine lv_goto (tgt := 53) C.1 C.2.1 d_Sp_cut_108 (by decide) ?_
                          exact ih53 (j + 1) I53 J53 (by omega) (by exact tO53) (by exact tS53) (by omega) _ _ _ hh (lv_sub hl [1, 2, 3, 4, 5, 6, 7, 0] rfl)
                        · -- 94 -> 97
                          have b_17 := bI_t hr_12 c_15
                          skip
                          refine lv_aload_n C.1 C.2.1 d_Sp_cut_97 rfl (lv_at hl 0 rfl) ?_
                          refine lv_iload C.1 C.2.1 d_Sp_cut_98 (lv_at hl 6 rfl) ?_
                          refine lv_iload C.1 C.2.1 d_Sp_cut_100 (lv_at hl 7 rfl) ?_
                          refine gc_v hh (gc_runV (As := [.int (nI i), .int (nI j)]) (rest := []) (n := 2) C hml hh (c_Sp_appendBetween l D cs sh sz I53 J53 q hs tS53 i j (by omega) (by omega)) (tg_V tw_374 tw_376 tw_14 tw_63 tw_377) (by decide +kernel) ⟨rfl, rfl, by decide, by decide, Nat.zero_le _, Nat.zero_le _⟩ hs.1 rfl rfl hl.1 rfl (Nat.le_of_ble_eq_true rfl) d_Sp_cut_102) (fun I_19 J_20 H locs hr_18 hh => ?_)
                          have tO_21 : offR q (q + 5) I I_19 J J_20 := offR.tr tO53 hr_18.1
                          have tS_22 : inv_Sp I_19 q := hr_18.2
                          refine lv_iinc (v := nI (j + 1)) (lv' := [(7, .int (nI (j + 1))), (0, .ref q), (1, .int a), (2, .int b), (3, .int c), (4, .int d), (5, .int (nI g_1)), (6, .int (nI i))]) C.1 C.2.1 d_Sp_cut_105 hl (k := 7) rfl (gm_inc j 1) (by decide) rfl (fun ls hl => ?_)
                          refine lv_goto (tgt := 53) C.1 C.2.1 d_Sp_cut_108 (by decide) ?_
                          exact ih53 (j + 1) I_19 J_20 (by omega) (by exact tO_21) (by exact tS_22) (by omega) _ _ _ hh (lv_sub hl [1, 2, 3, 4, 5, 6, 7, 0] rfl)
              exact K53 _ 0 I43 J43 (by omega) (by exact tO43) (by exact tS43) (Nat.lt_succ_self _) _ _ _ hh (lv_sub hl [1, 2, 3, 4, 5, 6, 7, 0] rfl)
        exact K43 _ 0 I9 J9 (by omega) (by exact tO9) (by exact tS9) (Nat.lt_succ_self _) _ _ _ hh (lv_sub hl [1, 2, 3, 4, 5, 6, 0] rfl)
      · -- 13 -> 16
        have c_2 := gm_gef (by omega) (by omega) c_2
        have c_2' := Nat.not_le.mpr c_2
        refine lv_aload_n C.1 C.2.1 d_Sp_cut_16 rfl (lv_at hl 0 rfl) ?_
        refine gg_r C hh hs.1 rfl in_Sp 5 (by decide) rfl tw_190 rfl d_Sp_cut_17 ?_
        refine lv_iload C.1 C.2.1 d_Sp_cut_20 (lv_at hl 6 rfl) ?_
        refine lv_aload_n C.1 C.2.1 d_Sp_cut_22 rfl (lv_at hl 0 rfl) ?_
        refine lv_iload C.1 C.2.1 d_Sp_cut_23 (lv_at hl 6 rfl) ?_
        refine lv_iload_n C.1 C.2.1 d_Sp_cut_25 rfl (lv_at hl 1 rfl) ?_
        refine lv_iload_n C.1 C.2.1 d_Sp_cut_26 rfl (lv_at hl 2 rfl) ?_
        refine lv_iload_n C.1 C.2.1 d_Sp_cut_27 rfl (lv_at hl 3 rfl) ?_
        refine lv_iload C.1 C.2.1 d_Sp_cut_28 (lv_at hl 4 rfl) ?_
        refine gc_l hh (gc_runV (As := [.int (nI k), .int a, .int b, .int c, .int d]) (rest := [.int (nI k), .ref (q + 4)]) (n := 5) C hml hh (c_Sp_worth l D cs sh sz I9 J9 q hs k (by omega) a b c d) (tg_V tw_362 tw_364 tw_11 tw_63 tw_365) (by decide +kernel) ⟨rfl, rfl, by decide, by decide, Nat.zero_le _, Nat.zero_le _⟩ hs.1 rfl rfl hl.1 rfl (Nat.le_of_ble_eq_true rfl) d_Sp_cut_30) (fun r_23 I_24 J_25 H locs hr_23 hh => ?_)
        obtain ⟨e_r_23, hr_23⟩ := hr_23
        rw [(Prod.mk.inj e_r_23).1, (Prod.mk.inj e_r_23).2] at hh
        refine gs_l C hh hs.2.2.2.2.1 (k := k) rfl (by omega) (by omega) d_Sp_cut_33 (fun H locs hh => ?_)
        obtain ⟨J_26, eJ_26⟩ : ∃ z : gm_J, z = gm_up J9 (q + 4) k r_23 := ⟨_, rfl⟩
        rw [← eJ_26] at hh
        have tO_27 : offR q (q + 5) I I9 J J_26 := by rw [eJ_26]; exact offR.upJ tO9 (by omega)
        refine lv_iinc (v := nI (k + 1)) (lv' := [(6, .int (nI (k + 1))), (0, .ref q), (1, .int a), (2, .int b), (3, .int c), (4, .int d), (5, .int (nI g_1))]) C.1 C.2.1 d_Sp_cut_34 hl (k := 6) rfl (gm_inc k 1) (by decide) rfl (fun ls hl => ?_)
        refine lv_goto (tgt := 9) C.1 C.2.1 d_Sp_cut_37 (by decide) ?_
        exact ih9 (k + 1) I9 J_26 (by omega) (by exact tO_27) (by exact tS9) (by omega) _ _ _ hh (lv_sub hl [1, 2, 3, 4, 5, 6, 0] rfl)
  exact K9 _ 0 I J (by omega) (by exact tO_0) (by exact tS_0) (Nat.lt_succ_self _) _ _ _ hh (lv_sub hl [2, 3, 4, 5, 6, 1, 0] rfl)

set_option maxHeartbeats 4000000 in
set_option maxRecDepth 100000 in
theorem c_Sp_turn (l : Launch) (D : va_G) (cs : Nat → ClassId) (sh : gm_H) (sz : Nat) (I : gm_I) (J : gm_J) (q : Nat) (hs : is_Sp sh q) (hS : inv_Sp I q) (ln i : Nat) (eln : I q 1 = nI ln) (hln : ln ≤ 3) (hi : i < ln) (a b c d : Int32) : CV l y_Sp_turn w_Sp_turn { frames := 2, cells := 0, slots := 0, locals := 56 } D cs sh sz I J [.ref q, .int (nI i), .int a, .int b, .int c, .int d] (fun u => sfP q I J u) := by
  refine gm_start (by decide) (Nat.le_of_ble_eq_true rfl) ?_
  intro p' e' s' m' be' me' co' ls C hml hlk hret hh hl
  have hl : lv_has ls 11 [(0, .ref q), (1, .int (nI i)), (2, .int a), (3, .int b), (4, .int c), (5, .int d)] := hl
  have tO_0 : offR q (q + 5) I I J J := offR.nil
  have tS_0 : inv_Sp I q := hS
  have tL_0 : I q 1 = nI ln := eln
  refine lv_aload_n C.1 C.2.1 d_Sp_turn_0 rfl (lv_at hl 0 rfl) ?_
  refine lv_iload_n C.1 C.2.1 d_Sp_turn_1 rfl (lv_at hl 1 rfl) ?_
  refine lv_iload_n C.1 C.2.1 d_Sp_turn_2 rfl (lv_at hl 2 rfl) ?_
  refine lv_iload_n C.1 C.2.1 d_Sp_turn_3 rfl (lv_at hl 3 rfl) ?_
  refine lv_iload C.1 C.2.1 d_Sp_turn_4 (lv_at hl 4 rfl) ?_
  refine gc_l hh (gc_runV (As := [.int (nI i), .int a, .int b, .int c]) (rest := []) (n := 4) C hml hh (c_Sp_slope l D cs sh sz I J q hs i (by omega) a b c) (tg_V tw_346 tw_348 tw_8 tw_63 tw_349) (by decide +kernel) ⟨rfl, rfl, by decide, by decide, Nat.zero_le _, Nat.zero_le _⟩ hs.1 rfl rfl hl.1 rfl (Nat.le_of_ble_eq_true rfl) d_Sp_turn_6) (fun r_1 I_2 J_3 H locs hr_1 hh => ?_)
  obtain ⟨e_r_1, hr_1⟩ := hr_1
  rw [(Prod.mk.inj e_r_1).1, (Prod.mk.inj e_r_1).2] at hh
  refine lv_lstore (lv' := [(6, .long r_1), (0, .ref q), (1, .int (nI i)), (2, .int a), (3, .int b), (4, .int c), (5, .int d)]) C.1 C.2.1 d_Sp_turn_9 hl (by decide) rfl (fun ls hl => ?_)
  have K25 : ∀ (sg : Int64), ∀ (H : Heap) (locs : List Loc) (ls : Array Slot), gm_St D cs sh (gm_A sh) s'.heap sz I J H locs → lv_has ls 11 [(0, .ref q), (1, .int (nI i)), (2, .int a), (3, .int b), (4, .int c), (5, .int d), (6, .long r_1)] → W p' l e' { frames := 2, cells := 0, slots := 0, locals := 56 } s' m' ([.ref q, .int (nI i), .int a, .int b, .int c, .int d] : List Value).toArray be' me' co' H locs 0 0 (MQ be' (va_Qv (fun u => sfP q I J u) (gm_B D cs sh sz) (gm_A sh)) ([.ref q, .int (nI i), .int a, .int b, .int c, .int d] : List Value).toArray s' 0 0 (gm_A sh)) (F0 m' 25 ls [.long sg]) := by
    intro sg H locs ls hh hl
    refine lv_lstore (lv' := [(8, .long sg), (0, .ref q), (1, .int (nI i)), (2, .int a), (3, .int b), (4, .int c), (5, .int d), (6, .long r_1)]) C.1 C.2.1 d_Sp_turn_25 hl (by decide) rfl (fun ls hl => ?_)
    refine lv_lload C.1 C.2.1 d_Sp_turn_27 (lv_at hl 7 rfl) ?_
    refine lv_lload C.1 C.2.1 d_Sp_turn_29 (lv_at hl 0 rfl) ?_
    refine lv_lmul C.1 C.2.1 d_Sp_turn_31 ?_
    refine lv_topl (fun x_4 ex_4 => ?_)
    refine lv_lstore (lv' := [(6, .long x_4), (8, .long sg), (0, .ref q), (1, .int (nI i)), (2, .int a), (3, .int b), (4, .int c), (5, .int d)]) C.1 C.2.1 d_Sp_turn_32 hl (by decide) rfl (fun ls hl => ?_)
    refine lv_aload_n C.1 C.2.1 d_Sp_turn_34 rfl (lv_at hl 2 rfl) ?_
    refine lv_dup C.1 C.2.1 d_Sp_turn_35 rfl ?_
    refine gg_i C hh hs.1 rfl in_Sp 1 (by decide) rfl tw_186 rfl d_Sp_turn_36 ?_
    refine gm_eqi tL_0 ?_
    refine lv_iconst (v := nI 1) C.1 C.2.1 d_Sp_turn_39 rfl ?_
    refine lv_isub C.1 C.2.1 d_Sp_turn_40 ?_
    refine gm_eqi (pk_sub (by omega)) ?_
    refine gp_i (ty := .int) C hh hs.1 rfl in_Sp t_Sp t_Sp_ok n_Sp 1 (by decide) rfl tw_186 rfl rfl (by decide +kernel) rfl rfl d_Sp_turn_41 (fun H locs hh => ?_)
    obtain ⟨I_5, eI_5⟩ : ∃ z : gm_I, z = gm_up I q 1 (nI (ln - 1)) := ⟨_, rfl⟩
    rw [← eI_5] at hh
    have tO_6 : offR q (q + 5) I I_5 J J := by rw [eI_5]; exact offR.upI tO_0 (by omega)
    have tS_7 : inv_Sp I_5 q := by rw [eI_5]; exact ⟨nle.set (by omega), tS_0.2.up (by omega)⟩
    have tL_8 : I_5 q 1 = nI (ln - 1) := by rw [eI_5]; exact gm_up_same _ _ _ _
    refine lv_iconst (v := nI 0) C.1 C.2.1 d_Sp_turn_44 rfl ?_
    refine lv_istore (lv' := [(10, .int (nI 0)), (6, .long x_4), (8, .long sg), (0, .ref q), (1, .int (nI i)), (2, .int a), (3, .int b), (4, .int c), (5, .int d)]) C.1 C.2.1 d_Sp_turn_45 hl (by decide) rfl (fun ls hl => ?_)
    refine lv_iload C.1 C.2.1 d_Sp_turn_47 (lv_at hl 0 rfl) ?_
    refine lv_iconst (v := nI 4) C.1 C.2.1 d_Sp_turn_49 rfl ?_
    refine lv_icmp_ge (tgt := 105) C.1 C.2.1 d_Sp_turn_50 (by decide) (fun c_ => absurd c_ (by decide)) (fun c_ => ?_)
    refine lv_aload_n C.1 C.2.1 d_Sp_turn_53 rfl (lv_at hl 3 rfl) ?_
    refine gg_r C hh hs.1 rfl in_Sp 6 (by decide) rfl tw_191 rfl d_Sp_turn_54 ?_
    refine lv_iload C.1 C.2.1 d_Sp_turn_57 (lv_at hl 0 rfl) ?_
    refine lv_lload C.1 C.2.1 d_Sp_turn_59 (lv_at hl 2 rfl) ?_
    refine lv_aload_n C.1 C.2.1 d_Sp_turn_61 rfl (lv_at hl 3 rfl) ?_
    refine gg_r C hh hs.1 rfl in_Sp 0 (by decide) rfl tw_185 rfl d_Sp_turn_62 ?_
    refine lv_iconst (v := nI 4) C.1 C.2.1 d_Sp_turn_65 rfl ?_
    refine lv_iload_n C.1 C.2.1 d_Sp_turn_66 rfl (lv_at hl 4 rfl) ?_
    refine lv_imul C.1 C.2.1 d_Sp_turn_67 ?_
    refine gm_eqi (pk_mul _ _) ?_
    refine lv_iload C.1 C.2.1 d_Sp_turn_68 (lv_at hl 0 rfl) ?_
    refine lv_iadd C.1 C.2.1 d_Sp_turn_70 ?_
    refine gm_eqi (nI_add _ _) ?_
    refine ga_l C hh hs.2.1 (k := (4 * i) + 0) rfl (by omega) (by omega) d_Sp_turn_71 ?_
    refine lv_lmul C.1 C.2.1 d_Sp_turn_72 ?_
    refine gs_l C hh hs.2.2.2.2.2 (k := 0) rfl (by omega) (by omega) d_Sp_turn_73 (fun H locs hh => ?_)
    obtain ⟨J_9, eJ_9⟩ : ∃ z : gm_J, z = gm_up J (q + 5) 0 (sg * (J (q + 1) ((4 * i) + 0))) := ⟨_, rfl⟩
    rw [← eJ_9] at hh
    have tO_10 : offR q (q + 5) I I_5 J J_9 := by rw [eJ_9]; exact offR.upJ tO_6 (by omega)
    refine lv_aload_n C.1 C.2.1 d_Sp_turn_74 rfl (lv_at hl 3 rfl) ?_
    refine gg_r C hh hs.1 rfl in_Sp 0 (by decide) rfl tw_185 rfl d_Sp_turn_75 ?_
    refine lv_iconst (v := nI 4) C.1 C.2.1 d_Sp_turn_78 rfl ?_
    refine lv_iload_n C.1 C.2.1 d_Sp_turn_79 rfl (lv_at hl 4 rfl) ?_
    refine lv_imul C.1 C.2.1 d_Sp_turn_80 ?_
    refine gm_eqi (pk_mul _ _) ?_
    refine lv_iload C.1 C.2.1 d_Sp_turn_81 (lv_at hl 0 rfl) ?_
    refine lv_iadd C.1 C.2.1 d_Sp_turn_83 ?_
    refine gm_eqi (nI_add _ _) ?_
    refine lv_aload_n C.1 C.2.1 d_Sp_turn_84 rfl (lv_at hl 3 rfl) ?_
    refine gg_r C hh hs.1 rfl in_Sp 0 (by decide) rfl tw_185 rfl d_Sp_turn_85 ?_
    refine lv_iconst (v := nI 4) C.1 C.2.1 d_Sp_turn_88 rfl ?_
    refine lv_aload_n C.1 C.2.1 d_Sp_turn_89 rfl (lv_at hl 3 rfl) ?_
    refine gg_i C hh hs.1 rfl in_Sp 1 (by decide) rfl tw_186 rfl d_Sp_turn_90 ?_
    refine gm_eqi (y := nI (ln - 1)) (by rw [eI_5, gm_up_same]) ?_
    refine lv_imul C.1 C.2.1 d_Sp_turn_93 ?_
    refine gm_eqi (pk_mul _ _) ?_
    refine lv_iload C.1 C.2.1 d_Sp_turn_94 (lv_at hl 0 rfl) ?_
    refine lv_iadd C.1 C.2.1 d_Sp_turn_96 ?_
    refine gm_eqi (nI_add _ _) ?_
    refine ga_l C hh hs.2.1 (k := (4 * (ln - 1)) + 0) rfl (by omega) (by omega) d_Sp_turn_97 ?_
    refine gm_eql (y := J (q + 1) ((4 * (ln - 1)) + 0)) (by rw [eJ_9, gm_up_ne _ _ (Or.inl (by omega))]) ?_
    refine gs_l C hh hs.2.1 (k := (4 * i) + 0) rfl (by omega) (by omega) d_Sp_turn_98 (fun H locs hh => ?_)
    obtain ⟨J_11, eJ_11⟩ : ∃ z : gm_J, z = gm_up J_9 (q + 1) ((4 * i) + 0) (J (q + 1) ((4 * (ln - 1)) + 0)) := ⟨_, rfl⟩
    rw [← eJ_11] at hh
    have tO_12 : offR q (q + 5) I I_5 J J_11 := by rw [eJ_11]; exact offR.upJ tO_10 (by omega)
    refine lv_iinc (v := nI 1) (lv' := [(10, .int (nI 1)), (6, .long x_4), (8, .long sg), (0, .ref q), (1, .int (nI i)), (2, .int a), (3, .int b), (4, .int c), (5, .int d)]) C.1 C.2.1 d_Sp_turn_99 hl (k := 0) rfl (gm_inc 0 1) (by decide) rfl (fun ls hl => ?_)
    refine lv_goto (tgt := 47) C.1 C.2.1 d_Sp_turn_102 (by decide) ?_
    refine lv_iload C.1 C.2.1 d_Sp_turn_47 (lv_at hl 0 rfl) ?_
    refine lv_iconst (v := nI 4) C.1 C.2.1 d_Sp_turn_49 rfl ?_
    refine lv_icmp_ge (tgt := 105) C.1 C.2.1 d_Sp_turn_50 (by decide) (fun c_ => absurd c_ (by decide)) (fun c_ => ?_)
    refine lv_aload_n C.1 C.2.1 d_Sp_turn_53 rfl (lv_at hl 3 rfl) ?_
    refine gg_r C hh hs.1 rfl in_Sp 6 (by decide) rfl tw_191 rfl d_Sp_turn_54 ?_
    refine lv_iload C.1 C.2.1 d_Sp_turn_57 (lv_at hl 0 rfl) ?_
    refine lv_lload C.1 C.2.1 d_Sp_turn_59 (lv_at hl 2 rfl) ?_
    refine lv_aload_n C.1 C.2.1 d_Sp_turn_61 rfl (lv_at hl 3 rfl) ?_
    refine gg_r C hh hs.1 rfl in_Sp 0 (by decide) rfl tw_185 rfl d_Sp_turn_62 ?_
    refine lv_iconst (v := nI 4) C.1 C.2.1 d_Sp_turn_65 rfl ?_
    refine lv_iload_n C.1 C.2.1 d_Sp_turn_66 rfl (lv_at hl 4 rfl) ?_
    refine lv_imul C.1 C.2.1 d_Sp_turn_67 ?_
    refine gm_eqi (pk_mul _ _) ?_
    refine lv_iload C.1 C.2.1 d_Sp_turn_68 (lv_at hl 0 rfl) ?_
    refine lv_iadd C.1 C.2.1 d_Sp_turn_70 ?_
    refine gm_eqi (nI_add _ _) ?_
    refine ga_l C hh hs.2.1 (k := (4 * i) + 1) rfl (by omega) (by omega) d_Sp_turn_71 ?_
    refine lv_lmul C.1 C.2.1 d_Sp_turn_72 ?_
    refine gs_l C hh hs.2.2.2.2.2 (k := 1) rfl (by omega) (by omega) d_Sp_turn_73 (fun H locs hh => ?_)
    obtain ⟨J_13, eJ_13⟩ : ∃ z : gm_J, z = gm_up J_11 (q + 5) 1 (sg * (J_11 (q + 1) ((4 * i) + 1))) := ⟨_, rfl⟩
    rw [← eJ_13] at hh
    have tO_14 : offR q (q + 5) I I_5 J J_13 := by rw [eJ_13]; exact offR.upJ tO_12 (by omega)
    refine lv_aload_n C.1 C.2.1 d_Sp_turn_74 rfl (lv_at hl 3 rfl) ?_
    refine gg_r C hh hs.1 rfl in_Sp 0 (by decide) rfl tw_185 rfl d_Sp_turn_75 ?_
    refine lv_iconst (v := nI 4) C.1 C.2.1 d_Sp_turn_78 rfl ?_
    refine lv_iload_n C.1 C.2.1 d_Sp_turn_79 rfl (lv_at hl 4 rfl) ?_
    refine lv_imul C.1 C.2.1 d_Sp_turn_80 ?_
    refine gm_eqi (pk_mul _ _) ?_
    refine lv_iload C.1 C.2.1 d_Sp_turn_81 (lv_at hl 0 rfl) ?_
    refine lv_iadd C.1 C.2.1 d_Sp_turn_83 ?_
    refine gm_eqi (nI_add _ _) ?_
    refine lv_aload_n C.1 C.2.1 d_Sp_turn_84 rfl (lv_at hl 3 rfl) ?_
    refine gg_r C hh hs.1 rfl in_Sp 0 (by decide) rfl tw_185 rfl d_Sp_turn_85 ?_
    refine lv_iconst (v := nI 4) C.1 C.2.1 d_Sp_turn_88 rfl ?_
    refine lv_aload_n C.1 C.2.1 d_Sp_turn_89 rfl (lv_at hl 3 rfl) ?_
    refine gg_i C hh hs.1 rfl in_Sp 1 (by decide) rfl tw_186 rfl d_Sp_turn_90 ?_
    refine gm_eqi (y := nI (ln - 1)) (by rw [eI_5, gm_up_same]) ?_
    refine lv_imul C.1 C.2.1 d_Sp_turn_93 ?_
    refine gm_eqi (pk_mul _ _) ?_
    refine lv_iload C.1 C.2.1 d_Sp_turn_94 (lv_at hl 0 rfl) ?_
    refine lv_iadd C.1 C.2.1 d_Sp_turn_96 ?_
    refine gm_eqi (nI_add _ _) ?_
    refine ga_l C hh hs.2.1 (k := (4 * (ln - 1)) + 1) rfl (by omega) (by omega) d_Sp_turn_97 ?_
    refine gm_eql (y := J_11 (q + 1) ((4 * (ln - 1)) + 1)) (by rw [eJ_13, gm_up_ne _ _ (Or.inl (by omega))]) ?_
    refine gs_l C hh hs.2.1 (k := (4 * i) + 1) rfl (by omega) (by omega) d_Sp_turn_98 (fun H locs hh => ?_)
    obtain ⟨J_15, eJ_15⟩ : ∃ z : gm_J, z = gm_up J_13 (q + 1) ((4 * i) + 1) (J_11 (q + 1) ((4 * (ln - 1)) + 1)) := ⟨_, rfl⟩
    rw [← eJ_15] at hh
    have tO_16 : offR q (q + 5) I I_5 J J_15 := by rw [eJ_15]; exact offR.upJ tO_14 (by omega)
    refine lv_iinc (v := nI 2) (lv' := [(10, .int (nI 2)), (6, .long x_4), (8, .long sg), (0, .ref q), (1, .int (nI i)), (2, .int a), (3, .int b), (4, .int c), (5, .int d)]) C.1 C.2.1 d_Sp_turn_99 hl (k := 0) rfl (gm_inc 1 1) (by decide) rfl (fun ls hl => ?_)
    refine lv_goto (tgt := 47) C.1 C.2.1 d_Sp_turn_102 (by decide) ?_
    refine lv_iload C.1 C.2.1 d_Sp_turn_47 (lv_at hl 0 rfl) ?_
    refine lv_iconst (v := nI 4) C.1 C.2.1 d_Sp_turn_49 rfl ?_
    refine lv_icmp_ge (tgt := 105) C.1 C.2.1 d_Sp_turn_50 (by decide) (fun c_ => absurd c_ (by decide)) (fun c_ => ?_)
    refine lv_aload_n C.1 C.2.1 d_Sp_turn_53 rfl (lv_at hl 3 rfl) ?_
    refine gg_r C hh hs.1 rfl in_Sp 6 (by decide) rfl tw_191 rfl d_Sp_turn_54 ?_
    refine lv_iload C.1 C.2.1 d_Sp_turn_57 (lv_at hl 0 rfl) ?_
    refine lv_lload C.1 C.2.1 d_Sp_turn_59 (lv_at hl 2 rfl) ?_
    refine lv_aload_n C.1 C.2.1 d_Sp_turn_61 rfl (lv_at hl 3 rfl) ?_
    refine gg_r C hh hs.1 rfl in_Sp 0 (by decide) rfl tw_185 rfl d_Sp_turn_62 ?_
    refine lv_iconst (v := nI 4) C.1 C.2.1 d_Sp_turn_65 rfl ?_
    refine lv_iload_n C.1 C.2.1 d_Sp_turn_66 rfl (lv_at hl 4 rfl) ?_
    refine lv_imul C.1 C.2.1 d_Sp_turn_67 ?_
    refine gm_eqi (pk_mul _ _) ?_
    refine lv_iload C.1 C.2.1 d_Sp_turn_68 (lv_at hl 0 rfl) ?_
    refine lv_iadd C.1 C.2.1 d_Sp_turn_70 ?_
    refine gm_eqi (nI_add _ _) ?_
    refine ga_l C hh hs.2.1 (k := (4 * i) + 2) rfl (by omega) (by omega) d_Sp_turn_71 ?_
    refine lv_lmul C.1 C.2.1 d_Sp_turn_72 ?_
    refine gs_l C hh hs.2.2.2.2.2 (k := 2) rfl (by omega) (by omega) d_Sp_turn_73 (fun H locs hh => ?_)
    obtain ⟨J_17, eJ_17⟩ : ∃ z : gm_J, z = gm_up J_15 (q + 5) 2 (sg * (J_15 (q + 1) ((4 * i) + 2))) := ⟨_, rfl⟩
    rw [← eJ_17] at hh
    have tO_18 : offR q (q + 5) I I_5 J J_17 := by rw [eJ_17]; exact offR.upJ tO_16 (by omega)
    refine lv_aload_n C.1 C.2.1 d_Sp_turn_74 rfl (lv_at hl 3 rfl) ?_
    refine gg_r C hh hs.1 rfl in_Sp 0 (by decide) rfl tw_185 rfl d_Sp_turn_75 ?_
    refine lv_iconst (v := nI 4) C.1 C.2.1 d_Sp_turn_78 rfl ?_
    refine lv_iload_n C.1 C.2.1 d_Sp_turn_79 rfl (lv_at hl 4 rfl) ?_
    refine lv_imul C.1 C.2.1 d_Sp_turn_80 ?_
    refine gm_eqi (pk_mul _ _) ?_
    refine lv_iload C.1 C.2.1 d_Sp_turn_81 (lv_at hl 0 rfl) ?_
    refine lv_iadd C.1 C.2.1 d_Sp_turn_83 ?_
    refine gm_eqi (nI_add _ _) ?_
    refine lv_aload_n C.1 C.2.1 d_Sp_turn_84 rfl (lv_at hl 3 rfl) ?_
    refine gg_r C hh hs.1 rfl in_Sp 0 (by decide) rfl tw_185 rfl d_Sp_turn_85 ?_
    refine lv_iconst (v := nI 4) C.1 C.2.1 d_Sp_turn_88 rfl ?_
    refine lv_aload_n C.1 C.2.1 d_Sp_turn_89 rfl (lv_at hl 3 rfl) ?_
    refine gg_i C hh hs.1 rfl in_Sp 1 (by decide) rfl tw_186 rfl d_Sp_turn_90 ?_
    refine gm_eqi (y := nI (ln - 1)) (by rw [eI_5, gm_up_same]) ?_
    refine lv_imul C.1 C.2.1 d_Sp_turn_93 ?_
    refine gm_eqi (pk_mul _ _) ?_
    refine lv_iload C.1 C.2.1 d_Sp_turn_94 (lv_at hl 0 rfl) ?_
    refine lv_iadd C.1 C.2.1 d_Sp_turn_96 ?_
    refine gm_eqi (nI_add _ _) ?_
    refine ga_l C hh hs.2.1 (k := (4 * (ln - 1)) + 2) rfl (by omega) (by omega) d_Sp_turn_97 ?_
    refine gm_eql (y := J_15 (q + 1) ((4 * (ln - 1)) + 2)) (by rw [eJ_17, gm_up_ne _ _ (Or.inl (by omega))]) ?_
    refine gs_l C hh hs.2.1 (k := (4 * i) + 2) rfl (by omega) (by omega) d_Sp_turn_98 (fun H locs hh => ?_)
    obtain ⟨J_19, eJ_19⟩ : ∃ z : gm_J, z = gm_up J_17 (q + 1) ((4 * i) + 2) (J_15 (q + 1) ((4 * (ln - 1)) + 2)) := ⟨_, rfl⟩
    rw [← eJ_19] at hh
    have tO_20 : offR q (q + 5) I I_5 J J_19 := by rw [eJ_19]; exact offR.upJ tO_18 (by omega)
    refine lv_iinc (v := nI 3) (lv' := [(10, .int (nI 3)), (6, .long x_4), (8, .long sg), (0, .ref q), (1, .int (nI i)), (2, .int a), (3, .int b), (4, .int c), (5, .int d)]) C.1 C.2.1 d_Sp_turn_99 hl (k := 0) rfl (gm_inc 2 1) (by decide) rfl (fun ls hl => ?_)
    refine lv_goto (tgt := 47) C.1 C.2.1 d_Sp_turn_102 (by decide) ?_
    refine lv_iload C.1 C.2.1 d_Sp_turn_47 (lv_at hl 0 rfl) ?_
    refine lv_iconst (v := nI 4) C.1 C.2.1 d_Sp_turn_49 rfl ?_
    refine lv_icmp_ge (tgt := 105) C.1 C.2.1 d_Sp_turn_50 (by decide) (fun c_ => absurd c_ (by decide)) (fun c_ => ?_)
    refine lv_aload_n C.1 C.2.1 d_Sp_turn_53 rfl (lv_at hl 3 rfl) ?_
    refine gg_r C hh hs.1 rfl in_Sp 6 (by decide) rfl tw_191 rfl d_Sp_turn_54 ?_
    refine lv_iload C.1 C.2.1 d_Sp_turn_57 (lv_at hl 0 rfl) ?_
    refine lv_lload C.1 C.2.1 d_Sp_turn_59 (lv_at hl 2 rfl) ?_
    refine lv_aload_n C.1 C.2.1 d_Sp_turn_61 rfl (lv_at hl 3 rfl) ?_
    refine gg_r C hh hs.1 rfl in_Sp 0 (by decide) rfl tw_185 rfl d_Sp_turn_62 ?_
    refine lv_iconst (v := nI 4) C.1 C.2.1 d_Sp_turn_65 rfl ?_
    refine lv_iload_n C.1 C.2.1 d_Sp_turn_66 rfl (lv_at hl 4 rfl) ?_
    refine lv_imul C.1 C.2.1 d_Sp_turn_67 ?_
    refine gm_eqi (pk_mul _ _) ?_
    refine lv_iload C.1 C.2.1 d_Sp_turn_68 (lv_at hl 0 rfl) ?_
    refine lv_iadd C.1 C.2.1 d_Sp_turn_70 ?_
    refine gm_eqi (nI_add _ _) ?_
    refine ga_l C hh hs.2.1 (k := (4 * i) + 3) rfl (by omega) (by omega) d_Sp_turn_71 ?_
    refine lv_lmul C.1 C.2.1 d_Sp_turn_72 ?_
    refine gs_l C hh hs.2.2.2.2.2 (k := 3) rfl (by omega) (by omega) d_Sp_turn_73 (fun H locs hh => ?_)
    obtain ⟨J_21, eJ_21⟩ : ∃ z : gm_J, z = gm_up J_19 (q + 5) 3 (sg * (J_19 (q + 1) ((4 * i) + 3))) := ⟨_, rfl⟩
    rw [← eJ_21] at hh
    have tO_22 : offR q (q + 5) I I_5 J J_21 := by rw [eJ_21]; exact offR.upJ tO_20 (by omega)
    refine lv_aload_n C.1 C.2.1 d_Sp_turn_74 rfl (lv_at hl 3 rfl) ?_
    refine gg_r C hh hs.1 rfl in_Sp 0 (by decide) rfl tw_185 rfl d_Sp_turn_75 ?_
    refine lv_iconst (v := nI 4) C.1 C.2.1 d_Sp_turn_78 rfl ?_
    refine lv_iload_n C.1 C.2.1 d_Sp_turn_79 rfl (lv_at hl 4 rfl) ?_
    refine lv_imul C.1 C.2.1 d_Sp_turn_80 ?_
    refine gm_eqi (pk_mul _ _) ?_
    refine lv_iload C.1 C.2.1 d_Sp_turn_81 (lv_at hl 0 rfl) ?_
    refine lv_iadd C.1 C.2.1 d_Sp_turn_83 ?_
    refine gm_eqi (nI_add _ _) ?_
    refine lv_aload_n C.1 C.2.1 d_Sp_turn_84 rfl (lv_at hl 3 rfl) ?_
    refine gg_r C hh hs.1 rfl in_Sp 0 (by decide) rfl tw_185 rfl d_Sp_turn_85 ?_
    refine lv_iconst (v := nI 4) C.1 C.2.1 d_Sp_turn_88 rfl ?_
    refine lv_aload_n C.1 C.2.1 d_Sp_turn_89 rfl (lv_at hl 3 rfl) ?_
    refine gg_i C hh hs.1 rfl in_Sp 1 (by decide) rfl tw_186 rfl d_Sp_turn_90 ?_
    refine gm_eqi (y := nI (ln - 1)) (by rw [eI_5, gm_up_same]) ?_
    refine lv_imul C.1 C.2.1 d_Sp_turn_93 ?_
    refine gm_eqi (pk_mul _ _) ?_
    refine lv_iload C.1 C.2.1 d_Sp_turn_94 (lv_at hl 0 rfl) ?_
    refine lv_iadd C.1 C.2.1 d_Sp_turn_96 ?_
    refine gm_eqi (nI_add _ _) ?_
    refine ga_l C hh hs.2.1 (k := (4 * (ln - 1)) + 3) rfl (by omega) (by omega) d_Sp_turn_97 ?_
    refine gm_eql (y := J_19 (q + 1) ((4 * (ln - 1)) + 3)) (by rw [eJ_21, gm_up_ne _ _ (Or.inl (by omega))]) ?_
    refine gs_l C hh hs.2.1 (k := (4 * i) + 3) rfl (by omega) (by omega) d_Sp_turn_98 (fun H locs hh => ?_)
    obtain ⟨J_23, eJ_23⟩ : ∃ z : gm_J, z = gm_up J_21 (q + 1) ((4 * i) + 3) (J_19 (q + 1) ((4 * (ln - 1)) + 3)) := ⟨_, rfl⟩
    rw [← eJ_23] at hh
    have tO_24 : offR q (q + 5) I I_5 J J_23 := by rw [eJ_23]; exact offR.upJ tO_22 (by omega)
    refine lv_iinc (v := nI 4) (lv' := [(10, .int (nI 4)), (6, .long x_4), (8, .long sg), (0, .ref q), (1, .int (nI i)), (2, .int a), (3, .int b), (4, .int c), (5, .int d)]) C.1 C.2.1 d_Sp_turn_99 hl (k := 0) rfl (gm_inc 3 1) (by decide) rfl (fun ls hl => ?_)
    refine lv_goto (tgt := 47) C.1 C.2.1 d_Sp_turn_102 (by decide) ?_
    refine lv_iload C.1 C.2.1 d_Sp_turn_47 (lv_at hl 0 rfl) ?_
    refine lv_iconst (v := nI 4) C.1 C.2.1 d_Sp_turn_49 rfl ?_
    refine lv_icmp_ge (tgt := 105) C.1 C.2.1 d_Sp_turn_50 (by decide) (fun c_ => ?_) (fun c_ => absurd (by decide) c_)
    refine lv_iconst (v := nI 0) C.1 C.2.1 d_Sp_turn_105 rfl ?_
    refine lv_istore (lv' := [(10, .int (nI 0)), (6, .long x_4), (8, .long sg), (0, .ref q), (1, .int (nI i)), (2, .int a), (3, .int b), (4, .int c), (5, .int d)]) C.1 C.2.1 d_Sp_turn_106 hl (by decide) rfl (fun ls hl => ?_)
    have K108 : ∀ (n_108 : Nat) (k : Nat) (I108 : gm_I) (J108 : gm_J) (hk : k ≤ ln - 1) (tO108 : offR q (q + 5) I I108 J J108) (tS108 : inv_Sp I108 q) (tL108 : I108 q 1 = nI (ln - 1)) (hm_108 : ln - 1 - k < n_108), ∀ (H : Heap) (locs : List Loc) (ls : Array Slot), gm_St D cs sh (gm_A sh) s'.heap sz I108 J108 H locs → lv_has ls 11 [(0, .ref q), (1, .int (nI i)), (2, .int a), (3, .int b), (4, .int c), (5, .int d), (6, .long x_4), (8, .long sg), (10, .int (nI k))] → W p' l e' { frames := 2, cells := 0, slots := 0, locals := 56 } s' m' ([.ref q, .int (nI i), .int a, .int b, .int c, .int d] : List Value).toArray be' me' co' H locs 0 0 (MQ be' (va_Qv (fun u => sfP q I J u) (gm_B D cs sh sz) (gm_A sh)) ([.ref q, .int (nI i), .int a, .int b, .int c, .int d] : List Value).toArray s' 0 0 (gm_A sh)) (F0 m' 108 ls []) := by
      intro n_108
      induction n_108 with
      | zero => intro k I108 J108 hk tO108 tS108 tL108 hm_108; exact absurd hm_108 (Nat.not_lt_zero _)
      | succ n_108 ih108 =>
        intro k I108 J108 hk tO108 tS108 tL108 hm_108 H locs ls hh hl
        refine lv_iload C.1 C.2.1 d_Sp_turn_108 (lv_at hl 8 rfl) ?_
        refine lv_aload_n C.1 C.2.1 d_Sp_turn_110 rfl (lv_at hl 0 rfl) ?_
        refine gg_i C hh hs.1 rfl in_Sp 1 (by decide) rfl tw_186 rfl d_Sp_turn_111 ?_
        refine gm_eqi tL108 ?_
        refine lv_icmp_ge (tgt := 147) C.1 C.2.1 d_Sp_turn_114 (by decide) (fun c_25 => ?_) (fun c_25 => ?_)
        · -- 114 -> 147
          have c_25 := gm_get (by omega) (by omega) c_25
          have c_25' := Nat.not_lt.mpr c_25
          refine lv_iconst (v := nI 0) C.1 C.2.1 d_Sp_turn_147 rfl ?_
          refine lv_istore (lv' := [(10, .int (nI 0)), (0, .ref q), (1, .int (nI i)), (2, .int a), (3, .int b), (4, .int c), (5, .int d), (6, .long x_4), (8, .long sg)]) C.1 C.2.1 d_Sp_turn_148 hl (by decide) rfl (fun ls hl => ?_)
          have K150 : ∀ (n_150 : Nat) (k : Nat) (I150 : gm_I) (J150 : gm_J) (hk : k ≤ 32) (tO150 : offR q (q + 5) I I150 J J150) (tS150 : inv_Sp I150 q) (tL150 : I150 q 1 = nI (ln - 1)) (hm_150 : 33 - k < n_150), ∀ (H : Heap) (locs : List Loc) (ls : Array Slot), gm_St D cs sh (gm_A sh) s'.heap sz I150 J150 H locs → lv_has ls 11 [(0, .ref q), (1, .int (nI i)), (2, .int a), (3, .int b), (4, .int c), (5, .int d), (6, .long x_4), (8, .long sg), (10, .int (nI k))] → W p' l e' { frames := 2, cells := 0, slots := 0, locals := 56 } s' m' ([.ref q, .int (nI i), .int a, .int b, .int c, .int d] : List Value).toArray be' me' co' H locs 0 0 (MQ be' (va_Qv (fun u => sfP q I J u) (gm_B D cs sh sz) (gm_A sh)) ([.ref q, .int (nI i), .int a, .int b, .int c, .int d] : List Value).toArray s' 0 0 (gm_A sh)) (F0 m' 150 ls []) := by
            intro n_150
            induction n_150 with
            | zero => intro k I150 J150 hk tO150 tS150 tL150 hm_150; exact absurd hm_150 (Nat.not_lt_zero _)
            | succ n_150 ih150 =>
              intro k I150 J150 hk tO150 tS150 tL150 hm_150 H locs ls hh hl
              refine lv_iload C.1 C.2.1 d_Sp_turn_150 (lv_at hl 8 rfl) ?_
              refine lv_aload_n C.1 C.2.1 d_Sp_turn_152 rfl (lv_at hl 0 rfl) ?_
              refine gg_i C hh hs.1 rfl in_Sp 3 (by decide) rfl tw_188 rfl d_Sp_turn_153 ?_
              obtain ⟨g_26, hg_26, eg_26⟩ := tS150.2
              refine gm_eqi eg_26 ?_
              refine lv_icmp_ge (tgt := 205) C.1 C.2.1 d_Sp_turn_156 (by decide) (fun c_27 => ?_) (fun c_27 => ?_)
              · -- 156 -> 205
                have c_27 := gm_get (by omega) (by omega) c_27
                have c_27' := Nat.not_lt.mpr c_27
                refine lv_aload_n C.1 C.2.1 d_Sp_turn_205 rfl (lv_at hl 0 rfl) ?_
                refine lv_aload_n C.1 C.2.1 d_Sp_turn_206 rfl (lv_at hl 0 rfl) ?_
                refine gg_i C hh hs.1 rfl in_Sp 7 (by decide) rfl tw_192 rfl d_Sp_turn_207 ?_
                refine lv_iconst (v := nI 1) C.1 C.2.1 d_Sp_turn_210 rfl ?_
                refine lv_isub C.1 C.2.1 d_Sp_turn_211 ?_
                obtain ⟨g_28, hg_28, eg_28⟩ := tS150.2
                refine gc_v hh (gc_runV (As := [.int ((I150 q 7) - (nI 1))]) (rest := []) (n := 1) C hml hh (c_Sp_appendPivot l D cs sh sz I150 J150 q hs g_28 eg_28 (hg_28) ((I150 q 7) - (nI 1))) (tg_V tw_334 tw_336 tw_6 tw_63 tw_337) (by decide +kernel) ⟨rfl, rfl, by decide, by decide, Nat.zero_le _, Nat.zero_le _⟩ hs.1 rfl rfl hl.1 rfl (Nat.le_of_ble_eq_true rfl) d_Sp_turn_212) (fun I_30 J_31 H locs hr_29 hh => ?_)
                have hr_29 := ap_safe tS150 hr_29
                have tO_32 : offR q (q + 5) I I_30 J J_31 := offR.tr tO150 hr_29.1
                have tS_33 : inv_Sp I_30 q := hr_29.2
                exact gr_v C hlk hret hh (by exact ⟨tO_32, tS_33⟩) d_Sp_turn_215
              · -- 156 -> 159
                have c_27 := gm_gef (by omega) (by omega) c_27
                have c_27' := Nat.not_le.mpr c_27
                refine lv_aload_n C.1 C.2.1 d_Sp_turn_159 rfl (lv_at hl 0 rfl) ?_
                refine lv_aload_n C.1 C.2.1 d_Sp_turn_160 rfl (lv_at hl 0 rfl) ?_
                refine gg_r C hh hs.1 rfl in_Sp 2 (by decide) rfl tw_187 rfl d_Sp_turn_161 ?_
                refine lv_iconst (v := nI 4) C.1 C.2.1 d_Sp_turn_164 rfl ?_
                refine lv_iload C.1 C.2.1 d_Sp_turn_165 (lv_at hl 8 rfl) ?_
                refine lv_imul C.1 C.2.1 d_Sp_turn_167 ?_
                refine gm_eqi (pk_mul _ _) ?_
                refine lv_lload C.1 C.2.1 d_Sp_turn_168 (lv_at hl 6 rfl) ?_
                refine lv_aload_n C.1 C.2.1 d_Sp_turn_170 rfl (lv_at hl 0 rfl) ?_
                refine lv_iload C.1 C.2.1 d_Sp_turn_171 (lv_at hl 8 rfl) ?_
                refine lv_iload_n C.1 C.2.1 d_Sp_turn_173 rfl (lv_at hl 2 rfl) ?_
                refine lv_iload_n C.1 C.2.1 d_Sp_turn_174 rfl (lv_at hl 3 rfl) ?_
                refine lv_iload C.1 C.2.1 d_Sp_turn_175 (lv_at hl 4 rfl) ?_
                refine lv_iload C.1 C.2.1 d_Sp_turn_177 (lv_at hl 5 rfl) ?_
                refine gc_l hh (gc_runV (As := [.int (nI k), .int a, .int b, .int c, .int d]) (rest := [.long x_4, .int (nI (4 * k)), .ref (q + 2), .ref q]) (n := 5) C hml hh (c_Sp_worth l D cs sh sz I150 J150 q hs k (by omega) a b c d) (tg_V tw_362 tw_364 tw_11 tw_63 tw_365) (by decide +kernel) ⟨rfl, rfl, by decide, by decide, Nat.zero_le _, Nat.zero_le _⟩ hs.1 rfl rfl hl.1 rfl (Nat.le_of_ble_eq_true rfl) d_Sp_turn_179) (fun r_34 I_35 J_36 H locs hr_34 hh => ?_)
                obtain ⟨e_r_34, hr_34⟩ := hr_34
                rw [(Prod.mk.inj e_r_34).1, (Prod.mk.inj e_r_34).2] at hh
                refine gc_v hh (gc_runV (As := [.ref (q + 2), .int (nI (4 * k)), .long x_4, .long r_34]) (rest := []) (n := 4) C hml hh (c_Sp_shift l D cs sh sz I150 J150 q hs (q + 2) 128 (4 * k) hs.2.2.1 (by omega) (by omega) x_4 r_34) (tg_V tw_355 tw_357 tw_10 tw_63 tw_358) (by decide +kernel) ⟨rfl, rfl, by decide, by decide, Nat.zero_le _, Nat.zero_le _⟩ hs.1 rfl rfl hl.1 rfl (Nat.le_of_ble_eq_true rfl) d_Sp_turn_182) (fun I_38 J_39 H locs hr_37 hh => ?_)
                rw [show I_38 = I150 from hr_37.1] at hh
                have hr_37 : ∀ p, p ≠ q + 2 → J_39 p = J150 p := hr_37.2
                have tO_40 : offR q (q + 5) I I150 J J_39 := offR.one tO150 hr_37 (by omega)
                refine lv_aload_n C.1 C.2.1 d_Sp_turn_185 rfl (lv_at hl 0 rfl) ?_
                refine gg_r C hh hs.1 rfl in_Sp 4 (by decide) rfl tw_189 rfl d_Sp_turn_186 ?_
                refine lv_iload C.1 C.2.1 d_Sp_turn_189 (lv_at hl 8 rfl) ?_
                refine lv_dup2_11 C.1 C.2.1 d_Sp_turn_191 rfl rfl ?_
                refine ga_i C hh hs.2.2.2.1 (k := k) rfl (by omega) (by omega) d_Sp_turn_192 ?_
                refine lv_aload_n C.1 C.2.1 d_Sp_turn_193 rfl (lv_at hl 0 rfl) ?_
                refine gg_i C hh hs.1 rfl in_Sp 7 (by decide) rfl tw_192 rfl d_Sp_turn_194 ?_
                refine lv_ior C.1 C.2.1 d_Sp_turn_197 ?_
                refine gs_i C hh hs.2.2.2.1 (k := k) rfl (by omega) (by omega) d_Sp_turn_198 (fun H locs hh => ?_)
                obtain ⟨I_41, eI_41⟩ : ∃ z : gm_I, z = gm_up I150 (q + 3) k ((I150 (q + 3) k) ||| (I150 q 7)) := ⟨_, rfl⟩
                rw [← eI_41] at hh
                have tO_42 : offR q (q + 5) I I_41 J J_39 := by rw [eI_41]; exact offR.upI tO_40 (by omega)
                have tS_43 : inv_Sp I_41 q := by rw [eI_41]; exact ⟨tS150.1.up (by omega), tS150.2.up (by omega)⟩
                have tL_44 : I_41 q 1 = nI (ln - 1) := by rw [eI_41, gm_up_ne _ _ (by omega)]; exact tL150
                refine lv_iinc (v := nI (k + 1)) (lv' := [(10, .int (nI (k + 1))), (0, .ref q), (1, .int (nI i)), (2, .int a), (3, .int b), (4, .int c), (5, .int d), (6, .long x_4), (8, .long sg)]) C.1 C.2.1 d_Sp_turn_199 hl (k := 8) rfl (gm_inc k 1) (by decide) rfl (fun ls hl => ?_)
                refine lv_goto (tgt := 150) C.1 C.2.1 d_Sp_turn_202 (by decide) ?_
                exact ih150 (k + 1) I_41 J_39 (by omega) (by exact tO_42) (by exact tS_43) (by exact tL_44) (by omega) _ _ _ hh (lv_sub hl [1, 2, 3, 4, 5, 6, 7, 8, 0] rfl)
          exact K150 _ 0 I108 J108 (by omega) (by exact tO108) (by exact tS108) (by exact tL108) (Nat.lt_succ_self _) _ _ _ hh (lv_sub hl [1, 2, 3, 4, 5, 6, 7, 8, 0] rfl)
        · -- 114 -> 117
          have c_25 := gm_gef (by omega) (by omega) c_25
          have c_25' := Nat.not_le.mpr c_25
          refine lv_aload_n C.1 C.2.1 d_Sp_turn_117 rfl (lv_at hl 0 rfl) ?_
          refine lv_aload_n C.1 C.2.1 d_Sp_turn_118 rfl (lv_at hl 0 rfl) ?_
          refine gg_r C hh hs.1 rfl in_Sp 0 (by decide) rfl tw_185 rfl d_Sp_turn_119 ?_
          refine lv_iconst (v := nI 4) C.1 C.2.1 d_Sp_turn_122 rfl ?_
          refine lv_iload C.1 C.2.1 d_Sp_turn_123 (lv_at hl 8 rfl) ?_
          refine lv_imul C.1 C.2.1 d_Sp_turn_125 ?_
          refine gm_eqi (pk_mul _ _) ?_
          refine lv_lload C.1 C.2.1 d_Sp_turn_126 (lv_at hl 6 rfl) ?_
          refine lv_aload_n C.1 C.2.1 d_Sp_turn_128 rfl (lv_at hl 0 rfl) ?_
          refine lv_iload C.1 C.2.1 d_Sp_turn_129 (lv_at hl 8 rfl) ?_
          refine lv_iload_n C.1 C.2.1 d_Sp_turn_131 rfl (lv_at hl 2 rfl) ?_
          refine lv_iload_n C.1 C.2.1 d_Sp_turn_132 rfl (lv_at hl 3 rfl) ?_
          refine lv_iload C.1 C.2.1 d_Sp_turn_133 (lv_at hl 4 rfl) ?_
          refine gc_l hh (gc_runV (As := [.int (nI k), .int a, .int b, .int c]) (rest := [.long x_4, .int (nI (4 * k)), .ref (q + 1), .ref q]) (n := 4) C hml hh (c_Sp_slope l D cs sh sz I108 J108 q hs k (by omega) a b c) (tg_V tw_346 tw_348 tw_8 tw_63 tw_349) (by decide +kernel) ⟨rfl, rfl, by decide, by decide, Nat.zero_le _, Nat.zero_le _⟩ hs.1 rfl rfl hl.1 rfl (Nat.le_of_ble_eq_true rfl) d_Sp_turn_135) (fun r_45 I_46 J_47 H locs hr_45 hh => ?_)
          obtain ⟨e_r_45, hr_45⟩ := hr_45
          rw [(Prod.mk.inj e_r_45).1, (Prod.mk.inj e_r_45).2] at hh
          refine gc_v hh (gc_runV (As := [.ref (q + 1), .int (nI (4 * k)), .long x_4, .long r_45]) (rest := []) (n := 4) C hml hh (c_Sp_shift l D cs sh sz I108 J108 q hs (q + 1) 12 (4 * k) hs.2.1 (by omega) (by omega) x_4 r_45) (tg_V tw_355 tw_357 tw_10 tw_63 tw_358) (by decide +kernel) ⟨rfl, rfl, by decide, by decide, Nat.zero_le _, Nat.zero_le _⟩ hs.1 rfl rfl hl.1 rfl (Nat.le_of_ble_eq_true rfl) d_Sp_turn_138) (fun I_49 J_50 H locs hr_48 hh => ?_)
          rw [show I_49 = I108 from hr_48.1] at hh
          have hr_48 : ∀ p, p ≠ q + 1 → J_50 p = J108 p := hr_48.2
          have tO_51 : offR q (q + 5) I I108 J J_50 := offR.one tO108 hr_48 (by omega)
          refine lv_iinc (v := nI (k + 1)) (lv' := [(10, .int (nI (k + 1))), (0, .ref q), (1, .int (nI i)), (2, .int a), (3, .int b), (4, .int c), (5, .int d), (6, .long x_4), (8, .long sg)]) C.1 C.2.1 d_Sp_turn_141 hl (k := 8) rfl (gm_inc k 1) (by decide) rfl (fun ls hl => ?_)
          refine lv_goto (tgt := 108) C.1 C.2.1 d_Sp_turn_144 (by decide) ?_
          exact ih108 (k + 1) I108 J_50 (by omega) (by exact tO_51) (by exact tS108) (by exact tL108) (by omega) _ _ _ hh (lv_sub hl [1, 2, 3, 4, 5, 6, 7, 8, 0] rfl)
    exact K108 _ 0 I_5 J_23 (by omega) (by exact tO_24) (by exact tS_7) (by exact tL_8) (Nat.lt_succ_self _) _ _ _ hh (lv_sub hl [3, 4, 5, 6, 7, 8, 1, 2, 0] rfl)
  refine lv_lload C.1 C.2.1 d_Sp_turn_11 (lv_at hl 0 rfl) ?_
  refine lv_lconst (v := 0) C.1 C.2.1 d_Sp_turn_13 rfl ?_
  refine W.lcmp C.1 C.2.1 d_Sp_turn_14 ?_
  refine lv_if_ge (tgt := 24) C.1 C.2.1 d_Sp_turn_15 (by decide) (fun c_52 => ?_) (fun c_52 => ?_)
  · -- 15 -> 24
    have c_52 := gm_lget c_52
    refine lv_lconst (v := 1) C.1 C.2.1 d_Sp_turn_24 rfl ?_
    exact K25 (1 : Int64)  _ _ _ hh (lv_sub hl [1, 2, 3, 4, 5, 6, 0] rfl)
  · -- 15 -> 18
    have c_52 := gm_lgef c_52
    refine lv_ldc2 C.1 C.2.1 C.2.2.2.1 (C.2.2.1 _ tw_354) d_Sp_turn_18 ?_
    refine lv_goto (tgt := 25) C.1 C.2.1 d_Sp_turn_21 (by decide) ?_
    exact K25 (-1 : Int64)  _ _ _ hh (lv_sub hl [1, 2, 3, 4, 5, 6, 0] rfl)
