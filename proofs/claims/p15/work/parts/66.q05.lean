set_option maxHeartbeats 4000000 in
set_option maxRecDepth 100000 in
theorem c_Sp_cutQ (l : Launch) (D : va_G) (cs : Nat → ClassId) (sh : gm_H) (sz : Nat) (I : gm_I) (J : gm_J) (q : Nat) (hs : is_Sp sh q) (rows L R : List dd_V) (hM : sp_M I J q rows L R) (a b c d : Int32) (hsm : dd_sm (rV a b c d)) (hC : dd_Ct rows R (rV a b c d)) : CV l y_Sp_cut w_Sp_cut { frames := 2, cells := 0, slots := 0, locals := 52 } D cs sh sz I J [.ref q, .int a, .int b, .int c, .int d] (fun u => cuP I J q rows R (rV a b c d) u) := by
  refine gm_start (by decide) (Nat.le_of_ble_eq_true rfl) ?_
  intro p' e' s' m' be' me' co' ls C hml hlk hret hh hl
  have hl : lv_has ls 8 [(0, .ref q), (1, .int a), (2, .int b), (3, .int c), (4, .int d)] := hl
  have hn32 : R.length ≤ 32 := by have h_ := hC.2.2.2.1; omega
  have tN_0 : I q 3 = nI R.length := hM.2.1
  refine lv_aload_n C.1 C.2.1 d_Sp_cut_0 rfl (lv_at hl 0 rfl) ?_
  refine gg_i C hh hs.1 rfl in_Sp 3 (by decide) rfl tw_188 rfl d_Sp_cut_1 ?_
  refine gm_eqi tN_0 ?_
  refine lv_istore (lv' := [(5, .int (nI R.length)), (0, .ref q), (1, .int a), (2, .int b), (3, .int c), (4, .int d)]) C.1 C.2.1 d_Sp_cut_4 hl (by decide) rfl (fun ls hl => ?_)
  refine lv_iconst (v := nI 0) C.1 C.2.1 d_Sp_cut_6 rfl ?_
  refine lv_istore (lv' := [(6, .int (nI 0)), (5, .int (nI R.length)), (0, .ref q), (1, .int a), (2, .int b), (3, .int c), (4, .int d)]) C.1 C.2.1 d_Sp_cut_7 hl (by decide) rfl (fun ls hl => ?_)
  have K9 : ∀ (n_9 : Nat) (k : Nat) (J9 : gm_J) (hk : k ≤ R.length) (hA : cA J J9 q R (rV a b c d) k) (hm_9 : R.length - k < n_9), ∀ (H : Heap) (locs : List Loc) (ls : Array Slot), gm_St D cs sh (gm_A sh) s'.heap sz I J9 H locs → lv_has ls 8 [(0, .ref q), (1, .int a), (2, .int b), (3, .int c), (4, .int d), (5, .int (nI R.length)), (6, .int (nI k))] → W p' l e' { frames := 2, cells := 0, slots := 0, locals := 52 } s' m' ([.ref q, .int a, .int b, .int c, .int d] : List Value).toArray be' me' co' H locs 0 0 (MQ be' (va_Qv (fun u => cuP I J q rows R (rV a b c d) u) (gm_B D cs sh sz) (gm_A sh)) ([.ref q, .int a, .int b, .int c, .int d] : List Value).toArray s' 0 0 (gm_A sh)) (F0 m' 9 ls []) := by
    intro n_9
    induction n_9 with
    | zero => intro k J9 hk hA hm_9; exact absurd hm_9 (Nat.not_lt_zero _)
    | succ n_9 ih9 =>
      intro k J9 hk hA hm_9 H locs ls hh hl
      refine lv_iload C.1 C.2.1 d_Sp_cut_9 (lv_at hl 6 rfl) ?_
      refine lv_iload C.1 C.2.1 d_Sp_cut_11 (lv_at hl 5 rfl) ?_
      refine lv_icmp_ge (tgt := 40) C.1 C.2.1 d_Sp_cut_13 (by decide) (fun c_1 => ?_) (fun c_1 => ?_)
      · -- 13 -> 40
        have c_1 := gm_get (by omega) (by omega) c_1
        have c_1' := Nat.not_lt.mpr c_1
        refine lv_iconst (v := nI 0) C.1 C.2.1 d_Sp_cut_40 rfl ?_
        refine lv_istore (lv' := [(6, .int (nI 0)), (0, .ref q), (1, .int a), (2, .int b), (3, .int c), (4, .int d), (5, .int (nI R.length))]) C.1 C.2.1 d_Sp_cut_41 hl (by decide) rfl (fun ls hl => ?_)
        have K43 : ∀ (n_43 : Nat) (i : Nat) (I43 : gm_I) (J43 : gm_J) (hi : i ≤ R.length) (hB : cB I I43 J J43 q rows R (rV a b c d) (dd_cutX rows R (rV a b c d) i)) (hm_43 : R.length - i < n_43), ∀ (H : Heap) (locs : List Loc) (ls : Array Slot), gm_St D cs sh (gm_A sh) s'.heap sz I43 J43 H locs → lv_has ls 8 [(0, .ref q), (1, .int a), (2, .int b), (3, .int c), (4, .int d), (5, .int (nI R.length)), (6, .int (nI i))] → W p' l e' { frames := 2, cells := 0, slots := 0, locals := 52 } s' m' ([.ref q, .int a, .int b, .int c, .int d] : List Value).toArray be' me' co' H locs 0 0 (MQ be' (va_Qv (fun u => cuP I J q rows R (rV a b c d) u) (gm_B D cs sh sz) (gm_A sh)) ([.ref q, .int a, .int b, .int c, .int d] : List Value).toArray s' 0 0 (gm_A sh)) (F0 m' 43 ls []) := by
          intro n_43
          induction n_43 with
          | zero => intro i I43 J43 hi hB hm_43; exact absurd hm_43 (Nat.not_lt_zero _)
          | succ n_43 ih43 =>
            intro i I43 J43 hi hB hm_43 H locs ls hh hl
            refine lv_iload C.1 C.2.1 d_Sp_cut_43 (lv_at hl 6 rfl) ?_
            refine lv_iload C.1 C.2.1 d_Sp_cut_45 (lv_at hl 5 rfl) ?_
            refine lv_icmp_ge (tgt := 117) C.1 C.2.1 d_Sp_cut_47 (by decide) (fun c_2 => ?_) (fun c_2 => ?_)
            · -- 47 -> 117
              have c_2 := gm_get (by omega) (by omega) c_2
              have c_2' := Nat.not_lt.mpr c_2
              refine lv_aload_n C.1 C.2.1 d_Sp_cut_117 rfl (lv_at hl 0 rfl) ?_
              refine lv_iload C.1 C.2.1 d_Sp_cut_118 (lv_at hl 5 rfl) ?_
              have hBn : cB I I43 J J43 q rows R (rV a b c d) (dd_cutN rows R (rV a b c d)) := by have h_ := hB; rw [dd_cutX_n (by omega)] at h_; exact h_
              refine gc_v hh (gc_runV (As := [.int (nI R.length)]) (rest := []) (n := 1) C hml hh (c_Sp_dropBeyondQ l D cs sh sz I43 J43 q hs (R.length + (dd_cutN rows R (rV a b c d)).length) R.length hBn.2.2.2.2.1 hC.2.2.2.1 (Nat.le_add_right _ _) (R ++ dd_cutN rows R (rV a b c d)) rows (rV a b c d) List.length_append hBn.2.2.2.2.2.2.1 (fun i_ v_ hi_ hv_ => hBn.2.2.2.2.2.1 i_ v_ (by rw [List.getElem?_append_left hi_] at hv_; exact hv_)) hBn.tz (hBn.2.2.1.trans hM.2.2.1)) (tg_V tw_378 tw_380 tw_15 tw_63 tw_381) (by decide +kernel) ⟨rfl, rfl, by decide, by decide, Nat.zero_le _, Nat.zero_le _⟩ hs.1 rfl rfl hl.1 rfl (Nat.le_of_ble_eq_true rfl) d_Sp_cut_120) (fun I_4 J_5 H locs hr_3 hh => ?_)
              exact gr_v C hlk hret hh (by exact cB.fin hBn hr_3 rfl rfl) d_Sp_cut_123
            · -- 47 -> 50
              have c_2 := gm_gef (by omega) (by omega) c_2
              have c_2' := Nat.not_le.mpr c_2
              refine lv_iconst (v := nI 0) C.1 C.2.1 d_Sp_cut_50 rfl ?_
              refine lv_istore (lv' := [(7, .int (nI 0)), (0, .ref q), (1, .int a), (2, .int b), (3, .int c), (4, .int d), (5, .int (nI R.length)), (6, .int (nI i))]) C.1 C.2.1 d_Sp_cut_51 hl (by decide) rfl (fun ls hl => ?_)
              obtain ⟨ai, hai⟩ := sq_get (X := R) (i := i) (by omega)
              have K53 : ∀ (n_53 : Nat) (j : Nat) (I53 : gm_I) (J53 : gm_J) (hj : j ≤ R.length) (hBj : cB I I53 J J53 q rows R (rV a b c d) (dd_cutX rows R (rV a b c d) i ++ dd_cutP rows R (rV a b c d) ai j)) (hm_53 : R.length - j < n_53), ∀ (H : Heap) (locs : List Loc) (ls : Array Slot), gm_St D cs sh (gm_A sh) s'.heap sz I53 J53 H locs → lv_has ls 8 [(0, .ref q), (1, .int a), (2, .int b), (3, .int c), (4, .int d), (5, .int (nI R.length)), (6, .int (nI i)), (7, .int (nI j))] → W p' l e' { frames := 2, cells := 0, slots := 0, locals := 52 } s' m' ([.ref q, .int a, .int b, .int c, .int d] : List Value).toArray be' me' co' H locs 0 0 (MQ be' (va_Qv (fun u => cuP I J q rows R (rV a b c d) u) (gm_B D cs sh sz) (gm_A sh)) ([.ref q, .int a, .int b, .int c, .int d] : List Value).toArray s' 0 0 (gm_A sh)) (F0 m' 53 ls []) := by
                intro n_53
                induction n_53 with
                | zero => intro j I53 J53 hj hBj hm_53; exact absurd hm_53 (Nat.not_lt_zero _)
                | succ n_53 ih53 =>
                  intro j I53 J53 hj hBj hm_53 H locs ls hh hl
                  refine lv_aload_n C.1 C.2.1 d_Sp_cut_53 rfl (lv_at hl 0 rfl) ?_
                  refine gg_r C hh hs.1 rfl in_Sp 5 (by decide) rfl tw_190 rfl d_Sp_cut_54 ?_
                  refine lv_iload C.1 C.2.1 d_Sp_cut_57 (lv_at hl 6 rfl) ?_
                  refine ga_l C hh hs.2.2.2.2.1 (k := i) rfl (by omega) (by omega) d_Sp_cut_59 ?_
                  refine lv_lconst (v := 0) C.1 C.2.1 d_Sp_cut_60 rfl ?_
                  refine W.lcmp C.1 C.2.1 d_Sp_cut_61 ?_
                  refine lv_if_le (tgt := 111) C.1 C.2.1 d_Sp_cut_62 (by decide) (fun c_6 => ?_) (fun c_6 => ?_)
                  · -- 62 -> 111
                    have c_6 := gm_llet c_6
                    refine lv_iinc (v := nI (i + 1)) (lv' := [(6, .int (nI (i + 1))), (0, .ref q), (1, .int a), (2, .int b), (3, .int c), (4, .int d), (5, .int (nI R.length)), (7, .int (nI j))]) C.1 C.2.1 d_Sp_cut_111 hl (k := 6) rfl (gm_inc i 1) (by decide) rfl (fun ls hl => ?_)
                    refine lv_goto (tgt := 43) C.1 C.2.1 d_Sp_cut_114 (by decide) ?_
                    exact ih43 (i + 1) I53 J53 (by omega) (by first | exact cB.next hBj hai (Or.inl (by assumption)) | exact cB.next hBj hai (Or.inr (by omega))) (by omega) _ _ _ hh (lv_sub hl [1, 2, 3, 4, 5, 6, 0] rfl)
                  · -- 62 -> 65
                    have c_6 := gm_llef c_6
                    refine lv_iload C.1 C.2.1 d_Sp_cut_65 (lv_at hl 7 rfl) ?_
                    refine lv_iload C.1 C.2.1 d_Sp_cut_67 (lv_at hl 5 rfl) ?_
                    refine lv_icmp_ge (tgt := 111) C.1 C.2.1 d_Sp_cut_69 (by decide) (fun c_7 => ?_) (fun c_7 => ?_)
                    · -- 69 -> 111
                      have c_7 := gm_get (by omega) (by omega) c_7
                      have c_7' := Nat.not_lt.mpr c_7
                      refine lv_iinc (v := nI (i + 1)) (lv' := [(6, .int (nI (i + 1))), (0, .ref q), (1, .int a), (2, .int b), (3, .int c), (4, .int d), (5, .int (nI R.length)), (7, .int (nI j))]) C.1 C.2.1 d_Sp_cut_111 hl (k := 6) rfl (gm_inc i 1) (by decide) rfl (fun ls hl => ?_)
                      refine lv_goto (tgt := 43) C.1 C.2.1 d_Sp_cut_114 (by decide) ?_
                      exact ih43 (i + 1) I53 J53 (by omega) (by first | exact cB.next hBj hai (Or.inl (by assumption)) | exact cB.next hBj hai (Or.inr (by omega))) (by omega) _ _ _ hh (lv_sub hl [1, 2, 3, 4, 5, 6, 0] rfl)
                    · -- 69 -> 72
                      have c_7 := gm_gef (by omega) (by omega) c_7
                      have c_7' := Nat.not_le.mpr c_7
                      refine lv_aload_n C.1 C.2.1 d_Sp_cut_72 rfl (lv_at hl 0 rfl) ?_
                      refine gg_r C hh hs.1 rfl in_Sp 5 (by decide) rfl tw_190 rfl d_Sp_cut_73 ?_
                      refine lv_iload C.1 C.2.1 d_Sp_cut_76 (lv_at hl 7 rfl) ?_
                      refine ga_l C hh hs.2.2.2.2.1 (k := j) rfl (by omega) (by omega) d_Sp_cut_78 ?_
                      refine lv_lconst (v := 0) C.1 C.2.1 d_Sp_cut_79 rfl ?_
                      refine W.lcmp C.1 C.2.1 d_Sp_cut_80 ?_
                      refine lv_if_ge (tgt := 105) C.1 C.2.1 d_Sp_cut_81 (by decide) (fun c_8 => ?_) (fun c_8 => ?_)
                      · -- 81 -> 105
                        have c_8 := gm_lget c_8
                        refine lv_iinc (v := nI (j + 1)) (lv' := [(7, .int (nI (j + 1))), (0, .ref q), (1, .int a), (2, .int b), (3, .int c), (4, .int d), (5, .int (nI R.length)), (6, .int (nI i))]) C.1 C.2.1 d_Sp_cut_105 hl (k := 7) rfl (gm_inc j 1) (by decide) rfl (fun ls hl => ?_)
                        refine lv_goto (tgt := 53) C.1 C.2.1 d_Sp_cut_108 (by decide) ?_
                        exact ih53 (j + 1) I53 J53 (by omega) (by first | exact cB.put hBj hC hM.2.2.1 hai hbj pa_ pb_ nb_ hNone_ | exact cB.skip hBj hC hai (by omega) (Or.inl (Int64.not_lt.mpr (by assumption))) | exact cB.skip hBj hC hai (by omega) (Or.inr (bz_f hF (by assumption)))) (by omega) _ _ _ hh (lv_sub hl [1, 2, 3, 4, 5, 6, 7, 0] rfl)
                      · -- 81 -> 84
                        have c_8 := gm_lgef c_8
                        refine lv_aload_n C.1 C.2.1 d_Sp_cut_84 rfl (lv_at hl 0 rfl) ?_
                        refine lv_iload C.1 C.2.1 d_Sp_cut_85 (lv_at hl 6 rfl) ?_
                        refine lv_iload C.1 C.2.1 d_Sp_cut_87 (lv_at hl 7 rfl) ?_
                        refine lv_iload C.1 C.2.1 d_Sp_cut_89 (lv_at hl 5 rfl) ?_
                        refine gc_i hh (gc_runV (As := [.int (nI i), .int (nI j), .int (nI R.length)]) (rest := []) (n := 3) C hml hh (c_Sp_areNeighbours l D cs sh sz I53 J53 q hs i j R.length (by omega) (by omega) (by omega)) (tg_V tw_370 tw_372 tw_13 tw_63 tw_373) (by decide +kernel) ⟨rfl, rfl, by decide, by decide, Nat.zero_le _, Nat.zero_le _⟩ hs.1 rfl rfl hl.1 rfl (Nat.le_of_ble_eq_true rfl) d_Sp_cut_91) (fun r_9 I_10 J_11 H locs hr_9 hh => ?_)
                        obtain ⟨e_r_9, hr_9⟩ := hr_9
                        rw [(Prod.mk.inj e_r_9).1, (Prod.mk.inj e_r_9).2] at hh
                        obtain ⟨br_9, hr_9, ihr_9⟩ := hr_9
                        refine lv_if_eq (tgt := 105) C.1 C.2.1 d_Sp_cut_94 (by decide) (fun c_12 => ?_) (fun c_12 => ?_)
                        · -- 94 -> 105
                          have b_13 := bI_f hr_9 c_12
                          skip
                          refine lv_iinc (v := nI (j + 1)) (lv' := [(7, .int (nI (j + 1))), (0, .ref q), (1, .int a), (2, .int b), (3, .int c), (4, .int d), (5, .int (nI R.length)), (6, .int (nI i))]) C.1 C.2.1 d_Sp_cut_105 hl (k := 7) rfl (gm_inc j 1) (by decide) rfl (fun ls hl => ?_)
                          refine lv_goto (tgt := 53) C.1 C.2.1 d_Sp_cut_108 (by decide) ?_
                          exact ih53 (j + 1) I53 J53 (by omega) (by first | exact cB.put hBj hC hM.2.2.1 hai hbj pa_ pb_ nb_ hNone_ | exact cB.skip hBj hC hai (by omega) (Or.inl (Int64.not_lt.mpr (by assumption))) | exact cB.skip hBj hC hai (by omega) (Or.inr (bz_f ihr_9 (by assumption)))) (by omega) _ _ _ hh (lv_sub hl [1, 2, 3, 4, 5, 6, 7, 0] rfl)
                        · -- 94 -> 97
                          have b_14 := bI_t hr_9 c_12
                          skip
                          refine lv_aload_n C.1 C.2.1 d_Sp_cut_97 rfl (lv_at hl 0 rfl) ?_
                          refine lv_iload C.1 C.2.1 d_Sp_cut_98 (lv_at hl 6 rfl) ?_
                          refine lv_iload C.1 C.2.1 d_Sp_cut_100 (lv_at hl 7 rfl) ?_
                          obtain ⟨bj, hbj⟩ := sq_get (X := R) (i := j) (by omega)
                          have sa_ := hBj.2.2.2.2.2.1 i ai hai
                          have sb_ := hBj.2.2.2.2.2.1 j bj hbj
                          have pa_ := sa_.pos.mp (by assumption)
                          have pb_ := sb_.neg'.mp (by assumption)
                          have nb_ := (hBj.nbr hC.2.1 hC.2.2.2.2 hai hbj).mp (ihr_9.mp (by assumption))
                          have rm_ := cB.room hC hai hbj pa_ pb_ nb_
                          refine gc_v hh (gc_runV (As := [.int (nI i), .int (nI j)]) (rest := []) (n := 2) C hml hh (c_Sp_appendBetweenQ l D cs sh sz I53 J53 q hs _ hBj.2.2.2.2.1 (Nat.le_of_lt rm_) i j (by omega) (by omega) _ _ sa_ sb_ (by rw [hBj.ray hbj]; exact hC.1 bj (List.mem_of_getElem? hbj)) (by rw [hBj.ray hai]; exact hC.1 ai (List.mem_of_getElem? hai))) (tg_V tw_374 tw_376 tw_14 tw_63 tw_377) (by decide +kernel) ⟨rfl, rfl, by decide, by decide, Nat.zero_le _, Nat.zero_le _⟩ hs.1 rfl rfl hl.1 rfl (Nat.le_of_ble_eq_true rfl) d_Sp_cut_102) (fun I_16 J_17 H locs hr_15 hh => ?_)
                          refine lv_iinc (v := nI (j + 1)) (lv' := [(7, .int (nI (j + 1))), (0, .ref q), (1, .int a), (2, .int b), (3, .int c), (4, .int d), (5, .int (nI R.length)), (6, .int (nI i))]) C.1 C.2.1 d_Sp_cut_105 hl (k := 7) rfl (gm_inc j 1) (by decide) rfl (fun ls hl => ?_)
                          refine lv_goto (tgt := 53) C.1 C.2.1 d_Sp_cut_108 (by decide) ?_
                          exact ih53 (j + 1) I_16 J_17 (by omega) (by first | exact cB.put hBj hC hM.2.2.1 hai hbj pa_ pb_ nb_ hr_15 | exact cB.skip hBj hC hai (by omega) (Or.inl (Int64.not_lt.mpr (by assumption))) | exact cB.skip hBj hC hai (by omega) (Or.inr (bz_f ihr_9 (by assumption)))) (by omega) _ _ _ hh (lv_sub hl [1, 2, 3, 4, 5, 6, 7, 0] rfl)
              exact K53 _ 0 I43 J43 (by omega) (by rw [dd_cutP_0, List.append_nil]; exact hB) (Nat.lt_succ_self _) _ _ _ hh (lv_sub hl [1, 2, 3, 4, 5, 6, 7, 0] rfl)
        exact K43 _ 0 I J9 (by omega) (by rw [dd_cutX_0]; exact cB.start hM hA (by omega)) (Nat.lt_succ_self _) _ _ _ hh (lv_sub hl [1, 2, 3, 4, 5, 6, 0] rfl)
      · -- 13 -> 16
        have c_1 := gm_gef (by omega) (by omega) c_1
        have c_1' := Nat.not_le.mpr c_1
        refine lv_aload_n C.1 C.2.1 d_Sp_cut_16 rfl (lv_at hl 0 rfl) ?_
        refine gg_r C hh hs.1 rfl in_Sp 5 (by decide) rfl tw_190 rfl d_Sp_cut_17 ?_
        refine lv_iload C.1 C.2.1 d_Sp_cut_20 (lv_at hl 6 rfl) ?_
        refine lv_aload_n C.1 C.2.1 d_Sp_cut_22 rfl (lv_at hl 0 rfl) ?_
        refine lv_iload C.1 C.2.1 d_Sp_cut_23 (lv_at hl 6 rfl) ?_
        refine lv_iload_n C.1 C.2.1 d_Sp_cut_25 rfl (lv_at hl 1 rfl) ?_
        refine lv_iload_n C.1 C.2.1 d_Sp_cut_26 rfl (lv_at hl 2 rfl) ?_
        refine lv_iload_n C.1 C.2.1 d_Sp_cut_27 rfl (lv_at hl 3 rfl) ?_
        refine lv_iload C.1 C.2.1 d_Sp_cut_28 (lv_at hl 4 rfl) ?_
        refine gc_l hh (gc_runV (As := [.int (nI k), .int a, .int b, .int c, .int d]) (rest := [.int (nI k), .ref (q + 4)]) (n := 5) C hml hh (c_Sp_worth l D cs sh sz I J9 q hs k (by omega) a b c d) (tg_V tw_362 tw_364 tw_11 tw_63 tw_365) (by decide +kernel) ⟨rfl, rfl, by decide, by decide, Nat.zero_le _, Nat.zero_le _⟩ hs.1 rfl rfl hl.1 rfl (Nat.le_of_ble_eq_true rfl) d_Sp_cut_30) (fun r_18 I_19 J_20 H locs hr_18 hh => ?_)
        obtain ⟨e_r_18, hr_18⟩ := hr_18
        rw [(Prod.mk.inj e_r_18).1, (Prod.mk.inj e_r_18).2] at hh
        refine gs_l C hh hs.2.2.2.2.1 (k := k) rfl (by omega) (by omega) d_Sp_cut_33 (fun H locs hh => ?_)
        obtain ⟨J_21, eJ_21⟩ : ∃ z : gm_J, z = gm_up J9 (q + 4) k r_18 := ⟨_, rfl⟩
        rw [← eJ_21] at hh
        refine lv_iinc (v := nI (k + 1)) (lv' := [(6, .int (nI (k + 1))), (0, .ref q), (1, .int a), (2, .int b), (3, .int c), (4, .int d), (5, .int (nI R.length))]) C.1 C.2.1 d_Sp_cut_34 hl (k := 6) rfl (gm_inc k 1) (by decide) rfl (fun ls hl => ?_)
        refine lv_goto (tgt := 9) C.1 C.2.1 d_Sp_cut_37 (by decide) ?_
        exact ih9 (k + 1) J_21 (by omega) (by subst hr_18 eJ_21; exact cA.step hA hM.2.2.2.2.1 hC.1 hsm) (by omega) _ _ _ hh (lv_sub hl [1, 2, 3, 4, 5, 6, 0] rfl)
  exact K9 _ 0 J (by omega) (by exact cA.nil) (Nat.lt_succ_self _) _ _ _ hh (lv_sub hl [2, 3, 4, 5, 6, 1, 0] rfl)
