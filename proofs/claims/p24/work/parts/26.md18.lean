set_option maxHeartbeats 4000000 in
set_option maxRecDepth 100000 in
theorem c_Md_least (l : Launch) (D : va_G) (cs : Nat → ClassId) (sh : gm_H) (sz : Nat) (I : gm_I) (J : gm_J) (r : Nat) (hM : is_Md sh r) (n : Nat) (hn8 : n ≤ 8) : CV l y_Md_least w_Md_least { frames := 2, cells := 0, slots := 0, locals := 57 } D cs sh sz I J [.ref r, .int (nI n)] (fun u => ∃ w2 : V3, u = (lsI I r (lst J r n).1, lsJ J r (lst J r n).2.1 (lst J r n).2.2 w2)) := by
  refine gm_start (by decide) (Nat.le_of_ble_eq_true rfl) ?_
  intro p' e' s' m' be' me' co' ls C hml hlk hret hh hl
  have hl : lv_has ls 5 [(0, .ref r), (1, .int (nI n))] := hl
  refine lv_aload_n C.1 C.2.1 d_Md_least_0 rfl (lv_at hl 0 rfl) ?_
  refine lv_iconst (v := nI 0) C.1 C.2.1 d_Md_least_1 rfl ?_
  refine gp_i (ty := .boolean) C hh (Md_0 hM) rfl in_Md t_Md t_Md_ok n_Md 20 (by decide) rfl tw_585 rfl rfl (by decide +kernel) (gm_nb (Or.inl rfl)) (gm_fb (Or.inl rfl)) d_Md_least_2 (fun H locs hh => ?_)
  obtain ⟨I_1, eI_1⟩ : ∃ z : gm_I, z = gm_up I r 20 (nI 0) := ⟨_, rfl⟩
  rw [← eI_1] at hh
  have hh : gm_St D cs sh (gm_A sh) s'.heap sz (lsI I r (false, J r 21, J r 22).1) (lsJ J r (false, J r 21, J r 22).2.1 (false, J r 21, J r 22).2.2 (J r 26, J r 27, J r 28)) H locs := by rw [lsJ_id]; rw [eI_1] at hh; exact hh
  refine lv_aload_n C.1 C.2.1 d_Md_least_5 rfl (lv_at hl 0 rfl) ?_
  refine gg_l C hh (Md_0 hM) rfl in_Md 23 (by decide) rfl tw_588 rfl d_Md_least_6 ?_
  refine gm_eql (y := J r 23) (by exact lsJ_o J (by omega)) ?_
  refine lv_lconst (v := 0) C.1 C.2.1 d_Md_least_9 rfl ?_
  refine W.lcmp C.1 C.2.1 d_Md_least_10 ?_
  refine lv_if_ne (tgt := 39) C.1 C.2.1 d_Md_least_11 (by decide) (fun c_2 => ?_) (fun c_2 => ?_)
  · -- 11 -> 39
    have c_2 := gm_lnet c_2
    refine lv_iconst (v := nI 0) C.1 C.2.1 d_Md_least_39 rfl ?_
    refine lv_istore_n (lv' := [(2, .int (nI 0)), (0, .ref r), (1, .int (nI n))]) C.1 C.2.1 d_Md_least_40 rfl hl (by decide) rfl (fun ls hl => ?_)
    have K41 : ∀ (n_41 : Nat) (i : Nat) (ti : LSt) (wa : V3) (hi : i ≤ n) (ei_ : ti = lsA J r i (false, J r 21, J r 22)) (hm_41 : n - i < n_41), ∀ (H : Heap) (locs : List Loc) (ls : Array Slot), gm_St D cs sh (gm_A sh) s'.heap sz (lsI I r ti.1) (lsJ J r ti.2.1 ti.2.2 wa) H locs → lv_has ls 5 [(0, .ref r), (1, .int (nI n)), (2, .int (nI i))] → W p' l e' { frames := 2, cells := 0, slots := 0, locals := 57 } s' m' ([.ref r, .int (nI n)] : List Value).toArray be' me' co' H locs 0 0 (MQ be' (va_Qv (fun u => ∃ w2 : V3, u = (lsI I r (lst J r n).1, lsJ J r (lst J r n).2.1 (lst J r n).2.2 w2)) (gm_B D cs sh sz) (gm_A sh)) ([.ref r, .int (nI n)] : List Value).toArray s' 0 0 (gm_A sh)) (F0 m' 41 ls []) := by
      intro n_41
      induction n_41 with
      | zero => intro i ti wa hi ei_ hm_41; exact absurd hm_41 (Nat.not_lt_zero _)
      | succ n_41 ih41 =>
        intro i ti wa hi ei_ hm_41 H locs ls hh hl
        refine lv_iload_n C.1 C.2.1 d_Md_least_41 rfl (lv_at hl 2 rfl) ?_
        refine lv_iload_n C.1 C.2.1 d_Md_least_42 rfl (lv_at hl 1 rfl) ?_
        refine lv_icmp_ge (tgt := 99) C.1 C.2.1 d_Md_least_43 (by decide) (fun c_3 => ?_) (fun c_3 => ?_)
        · -- 43 -> 99
          have c_3 := gm_get (by omega) (by omega) c_3
          have c_3' := Nat.not_lt.mpr c_3
          exact gr_v C hlk hret hh (by refine ⟨wa, ?_⟩; rw [lst, if_neg (by rintro ⟨q1, q2, q3⟩; contradiction), ei_, show i = n by omega]) d_Md_least_99
        · -- 43 -> 46
          have c_3 := gm_gef (by omega) (by omega) c_3
          have c_3' := Nat.not_le.mpr c_3
          refine lv_aload_n C.1 C.2.1 d_Md_least_46 rfl (lv_at hl 0 rfl) ?_
          refine lv_iload_n C.1 C.2.1 d_Md_least_47 rfl (lv_at hl 2 rfl) ?_
          refine gc_v hh (gc_runV (As := [.int (nI i)]) (rest := []) (n := 1) C hml hh (c_Md_byOne l D cs sh sz I J r hM ti wa i (by omega)) (tg_V tw_766 tw_768 tw_37 tw_64 tw_769) (by decide +kernel) ⟨rfl, rfl, by decide, by decide, Nat.zero_le _, Nat.zero_le _⟩ (Md_0 hM) rfl rfl hl.1 rfl (Nat.le_of_ble_eq_true rfl) d_Md_least_48) (fun I_5 J_6 H locs hr_4 hh => ?_)
          obtain ⟨w_7, hr_4⟩ := hr_4
          rw [(Prod.mk.inj hr_4).1, (Prod.mk.inj hr_4).2] at hh
          refine lv_iconst (v := nI 0) C.1 C.2.1 d_Md_least_51 rfl ?_
          refine lv_istore_n (lv' := [(3, .int (nI 0)), (0, .ref r), (1, .int (nI n)), (2, .int (nI i))]) C.1 C.2.1 d_Md_least_52 rfl hl (by decide) rfl (fun ls hl => ?_)
          have K53 : ∀ (n_53 : Nat) (j : Nat) (tj : LSt) (wb : V3) (hj : j ≤ i) (ej_ : tj = lsB J r i j (one J r i ti)) (hm_53 : i - j < n_53), ∀ (H : Heap) (locs : List Loc) (ls : Array Slot), gm_St D cs sh (gm_A sh) s'.heap sz (lsI I r tj.1) (lsJ J r tj.2.1 tj.2.2 wb) H locs → lv_has ls 5 [(0, .ref r), (1, .int (nI n)), (2, .int (nI i)), (3, .int (nI j))] → W p' l e' { frames := 2, cells := 0, slots := 0, locals := 57 } s' m' ([.ref r, .int (nI n)] : List Value).toArray be' me' co' H locs 0 0 (MQ be' (va_Qv (fun u => ∃ w2 : V3, u = (lsI I r (lst J r n).1, lsJ J r (lst J r n).2.1 (lst J r n).2.2 w2)) (gm_B D cs sh sz) (gm_A sh)) ([.ref r, .int (nI n)] : List Value).toArray s' 0 0 (gm_A sh)) (F0 m' 53 ls []) := by
            intro n_53
            induction n_53 with
            | zero => intro j tj wb hj ej_ hm_53; exact absurd hm_53 (Nat.not_lt_zero _)
            | succ n_53 ih53 =>
              intro j tj wb hj ej_ hm_53 H locs ls hh hl
              refine lv_iload_n C.1 C.2.1 d_Md_least_53 rfl (lv_at hl 3 rfl) ?_
              refine lv_iload_n C.1 C.2.1 d_Md_least_54 rfl (lv_at hl 2 rfl) ?_
              refine lv_icmp_ge (tgt := 93) C.1 C.2.1 d_Md_least_55 (by decide) (fun c_8 => ?_) (fun c_8 => ?_)
              · -- 55 -> 93
                have c_8 := gm_get (by omega) (by omega) c_8
                have c_8' := Nat.not_lt.mpr c_8
                refine lv_iinc (v := nI (i + 1)) (lv' := [(2, .int (nI (i + 1))), (0, .ref r), (1, .int (nI n)), (3, .int (nI j))]) C.1 C.2.1 d_Md_least_93 hl (k := 2) rfl (gm_inc i 1) (by decide) rfl (fun ls hl => ?_)
                refine lv_goto (tgt := 41) C.1 C.2.1 d_Md_least_96 (by decide) ?_
                exact ih41 (i + 1) tj wb (by omega) (by rw [ej_, ei_, show j = i by omega]; rfl) (by omega) _ _ _ hh (lv_sub hl [1, 2, 0] rfl)
              · -- 55 -> 58
                have c_8 := gm_gef (by omega) (by omega) c_8
                have c_8' := Nat.not_le.mpr c_8
                refine lv_aload_n C.1 C.2.1 d_Md_least_58 rfl (lv_at hl 0 rfl) ?_
                refine lv_iload_n C.1 C.2.1 d_Md_least_59 rfl (lv_at hl 2 rfl) ?_
                refine lv_iload_n C.1 C.2.1 d_Md_least_60 rfl (lv_at hl 3 rfl) ?_
                refine gc_v hh (gc_runV (As := [.int (nI i), .int (nI j)]) (rest := []) (n := 2) C hml hh (c_Md_byTwo l D cs sh sz I J r hM tj wb i j (by omega) (by omega)) (tg_V tw_770 tw_772 tw_38 tw_64 tw_773) (by decide +kernel) ⟨rfl, rfl, by decide, by decide, Nat.zero_le _, Nat.zero_le _⟩ (Md_0 hM) rfl rfl hl.1 rfl (Nat.le_of_ble_eq_true rfl) d_Md_least_61) (fun I_10 J_11 H locs hr_9 hh => ?_)
                obtain ⟨w_12, hr_9⟩ := hr_9
                rw [(Prod.mk.inj hr_9).1, (Prod.mk.inj hr_9).2] at hh
                refine lv_iconst (v := nI 0) C.1 C.2.1 d_Md_least_64 rfl ?_
                refine lv_istore (lv' := [(4, .int (nI 0)), (0, .ref r), (1, .int (nI n)), (2, .int (nI i)), (3, .int (nI j))]) C.1 C.2.1 d_Md_least_65 hl (by decide) rfl (fun ls hl => ?_)
                have K67 : ∀ (n_67 : Nat) (k : Nat) (tk : LSt) (wc : V3) (hk : k ≤ j) (ek_ : tk = lsC J r i j k (two J r i j tj)) (hm_67 : j - k < n_67), ∀ (H : Heap) (locs : List Loc) (ls : Array Slot), gm_St D cs sh (gm_A sh) s'.heap sz (lsI I r tk.1) (lsJ J r tk.2.1 tk.2.2 wc) H locs → lv_has ls 5 [(0, .ref r), (1, .int (nI n)), (2, .int (nI i)), (3, .int (nI j)), (4, .int (nI k))] → W p' l e' { frames := 2, cells := 0, slots := 0, locals := 57 } s' m' ([.ref r, .int (nI n)] : List Value).toArray be' me' co' H locs 0 0 (MQ be' (va_Qv (fun u => ∃ w2 : V3, u = (lsI I r (lst J r n).1, lsJ J r (lst J r n).2.1 (lst J r n).2.2 w2)) (gm_B D cs sh sz) (gm_A sh)) ([.ref r, .int (nI n)] : List Value).toArray s' 0 0 (gm_A sh)) (F0 m' 67 ls []) := by
                  intro n_67
                  induction n_67 with
                  | zero => intro k tk wc hk ek_ hm_67; exact absurd hm_67 (Nat.not_lt_zero _)
                  | succ n_67 ih67 =>
                    intro k tk wc hk ek_ hm_67 H locs ls hh hl
                    refine lv_iload C.1 C.2.1 d_Md_least_67 (lv_at hl 4 rfl) ?_
                    refine lv_iload_n C.1 C.2.1 d_Md_least_69 rfl (lv_at hl 3 rfl) ?_
                    refine lv_icmp_ge (tgt := 87) C.1 C.2.1 d_Md_least_70 (by decide) (fun c_13 => ?_) (fun c_13 => ?_)
                    · -- 70 -> 87
                      have c_13 := gm_get (by omega) (by omega) c_13
                      have c_13' := Nat.not_lt.mpr c_13
                      refine lv_iinc (v := nI (j + 1)) (lv' := [(3, .int (nI (j + 1))), (0, .ref r), (1, .int (nI n)), (2, .int (nI i)), (4, .int (nI k))]) C.1 C.2.1 d_Md_least_87 hl (k := 3) rfl (gm_inc j 1) (by decide) rfl (fun ls hl => ?_)
                      refine lv_goto (tgt := 53) C.1 C.2.1 d_Md_least_90 (by decide) ?_
                      exact ih53 (j + 1) tk wc (by omega) (by rw [ek_, ej_, show k = j by omega]; rfl) (by omega) _ _ _ hh (lv_sub hl [1, 2, 3, 0] rfl)
                    · -- 70 -> 73
                      have c_13 := gm_gef (by omega) (by omega) c_13
                      have c_13' := Nat.not_le.mpr c_13
                      refine lv_aload_n C.1 C.2.1 d_Md_least_73 rfl (lv_at hl 0 rfl) ?_
                      refine lv_iload_n C.1 C.2.1 d_Md_least_74 rfl (lv_at hl 2 rfl) ?_
                      refine lv_iload_n C.1 C.2.1 d_Md_least_75 rfl (lv_at hl 3 rfl) ?_
                      refine lv_iload C.1 C.2.1 d_Md_least_76 (lv_at hl 4 rfl) ?_
                      refine gc_v hh (gc_runV (As := [.int (nI i), .int (nI j), .int (nI k)]) (rest := []) (n := 3) C hml hh (c_Md_byThree l D cs sh sz I J r hM tk wc i j k (by omega) (by omega) (by omega)) (tg_V tw_778 tw_780 tw_40 tw_64 tw_781) (by decide +kernel) ⟨rfl, rfl, by decide, by decide, Nat.zero_le _, Nat.zero_le _⟩ (Md_0 hM) rfl rfl hl.1 rfl (Nat.le_of_ble_eq_true rfl) d_Md_least_78) (fun I_15 J_16 H locs hr_14 hh => ?_)
                      obtain ⟨w_17, hr_14⟩ := hr_14
                      rw [(Prod.mk.inj hr_14).1, (Prod.mk.inj hr_14).2] at hh
                      refine lv_iinc (v := nI (k + 1)) (lv' := [(4, .int (nI (k + 1))), (0, .ref r), (1, .int (nI n)), (2, .int (nI i)), (3, .int (nI j))]) C.1 C.2.1 d_Md_least_81 hl (k := 4) rfl (gm_inc k 1) (by decide) rfl (fun ls hl => ?_)
                      refine lv_goto (tgt := 67) C.1 C.2.1 d_Md_least_84 (by decide) ?_
                      exact ih67 (k + 1) (three J r i j k tk) w_17 (by omega) (by rw [ek_]; rfl) (by omega) _ _ _ hh (lv_sub hl [1, 2, 3, 4, 0] rfl)
                exact K67 _ 0 (two J r i j tj) w_12 (by omega) (by rfl) (Nat.lt_succ_self _) _ _ _ hh (lv_sub hl [1, 2, 3, 4, 0] rfl)
          exact K53 _ 0 (one J r i ti) w_7 (by omega) (by rfl) (Nat.lt_succ_self _) _ _ _ hh (lv_sub hl [1, 2, 3, 0] rfl)
    exact K41 _ 0 (false, J r 21, J r 22) (J r 26, J r 27, J r 28) (by omega) (by rfl) (Nat.lt_succ_self _) _ _ _ hh (lv_sub hl [1, 2, 0] rfl)
  · -- 11 -> 14
    have c_2 := gm_lnef c_2
    refine lv_aload_n C.1 C.2.1 d_Md_least_14 rfl (lv_at hl 0 rfl) ?_
    refine gg_l C hh (Md_0 hM) rfl in_Md 24 (by decide) rfl tw_589 rfl d_Md_least_15 ?_
    refine gm_eql (y := J r 24) (by exact lsJ_o J (by omega)) ?_
    refine lv_lconst (v := 0) C.1 C.2.1 d_Md_least_18 rfl ?_
    refine W.lcmp C.1 C.2.1 d_Md_least_19 ?_
    refine lv_if_ne (tgt := 39) C.1 C.2.1 d_Md_least_20 (by decide) (fun c_18 => ?_) (fun c_18 => ?_)
    · -- 20 -> 39
      have c_18 := gm_lnet c_18
      refine lv_iconst (v := nI 0) C.1 C.2.1 d_Md_least_39 rfl ?_
      refine lv_istore_n (lv' := [(2, .int (nI 0)), (0, .ref r), (1, .int (nI n))]) C.1 C.2.1 d_Md_least_40 rfl hl (by decide) rfl (fun ls hl => ?_)
      have K41 : ∀ (n_41 : Nat) (i : Nat) (ti : LSt) (wa : V3) (hi : i ≤ n) (ei_ : ti = lsA J r i (false, J r 21, J r 22)) (hm_41 : n - i < n_41), ∀ (H : Heap) (locs : List Loc) (ls : Array Slot), gm_St D cs sh (gm_A sh) s'.heap sz (lsI I r ti.1) (lsJ J r ti.2.1 ti.2.2 wa) H locs → lv_has ls 5 [(0, .ref r), (1, .int (nI n)), (2, .int (nI i))] → W p' l e' { frames := 2, cells := 0, slots := 0, locals := 57 } s' m' ([.ref r, .int (nI n)] : List Value).toArray be' me' co' H locs 0 0 (MQ be' (va_Qv (fun u => ∃ w2 : V3, u = (lsI I r (lst J r n).1, lsJ J r (lst J r n).2.1 (lst J r n).2.2 w2)) (gm_B D cs sh sz) (gm_A sh)) ([.ref r, .int (nI n)] : List Value).toArray s' 0 0 (gm_A sh)) (F0 m' 41 ls []) := by
        intro n_41
        induction n_41 with
        | zero => intro i ti wa hi ei_ hm_41; exact absurd hm_41 (Nat.not_lt_zero _)
        | succ n_41 ih41 =>
          intro i ti wa hi ei_ hm_41 H locs ls hh hl
          refine lv_iload_n C.1 C.2.1 d_Md_least_41 rfl (lv_at hl 2 rfl) ?_
          refine lv_iload_n C.1 C.2.1 d_Md_least_42 rfl (lv_at hl 1 rfl) ?_
          refine lv_icmp_ge (tgt := 99) C.1 C.2.1 d_Md_least_43 (by decide) (fun c_19 => ?_) (fun c_19 => ?_)
          · -- 43 -> 99
            have c_19 := gm_get (by omega) (by omega) c_19
            have c_19' := Nat.not_lt.mpr c_19
            exact gr_v C hlk hret hh (by refine ⟨wa, ?_⟩; rw [lst, if_neg (by rintro ⟨q1, q2, q3⟩; contradiction), ei_, show i = n by omega]) d_Md_least_99
          · -- 43 -> 46
            have c_19 := gm_gef (by omega) (by omega) c_19
            have c_19' := Nat.not_le.mpr c_19
            refine lv_aload_n C.1 C.2.1 d_Md_least_46 rfl (lv_at hl 0 rfl) ?_
            refine lv_iload_n C.1 C.2.1 d_Md_least_47 rfl (lv_at hl 2 rfl) ?_
            refine gc_v hh (gc_runV (As := [.int (nI i)]) (rest := []) (n := 1) C hml hh (c_Md_byOne l D cs sh sz I J r hM ti wa i (by omega)) (tg_V tw_766 tw_768 tw_37 tw_64 tw_769) (by decide +kernel) ⟨rfl, rfl, by decide, by decide, Nat.zero_le _, Nat.zero_le _⟩ (Md_0 hM) rfl rfl hl.1 rfl (Nat.le_of_ble_eq_true rfl) d_Md_least_48) (fun I_21 J_22 H locs hr_20 hh => ?_)
            obtain ⟨w_23, hr_20⟩ := hr_20
            rw [(Prod.mk.inj hr_20).1, (Prod.mk.inj hr_20).2] at hh
            refine lv_iconst (v := nI 0) C.1 C.2.1 d_Md_least_51 rfl ?_
            refine lv_istore_n (lv' := [(3, .int (nI 0)), (0, .ref r), (1, .int (nI n)), (2, .int (nI i))]) C.1 C.2.1 d_Md_least_52 rfl hl (by decide) rfl (fun ls hl => ?_)
            have K53 : ∀ (n_53 : Nat) (j : Nat) (tj : LSt) (wb : V3) (hj : j ≤ i) (ej_ : tj = lsB J r i j (one J r i ti)) (hm_53 : i - j < n_53), ∀ (H : Heap) (locs : List Loc) (ls : Array Slot), gm_St D cs sh (gm_A sh) s'.heap sz (lsI I r tj.1) (lsJ J r tj.2.1 tj.2.2 wb) H locs → lv_has ls 5 [(0, .ref r), (1, .int (nI n)), (2, .int (nI i)), (3, .int (nI j))] → W p' l e' { frames := 2, cells := 0, slots := 0, locals := 57 } s' m' ([.ref r, .int (nI n)] : List Value).toArray be' me' co' H locs 0 0 (MQ be' (va_Qv (fun u => ∃ w2 : V3, u = (lsI I r (lst J r n).1, lsJ J r (lst J r n).2.1 (lst J r n).2.2 w2)) (gm_B D cs sh sz) (gm_A sh)) ([.ref r, .int (nI n)] : List Value).toArray s' 0 0 (gm_A sh)) (F0 m' 53 ls []) := by
              intro n_53
              induction n_53 with
              | zero => intro j tj wb hj ej_ hm_53; exact absurd hm_53 (Nat.not_lt_zero _)
              | succ n_53 ih53 =>
                intro j tj wb hj ej_ hm_53 H locs ls hh hl
                refine lv_iload_n C.1 C.2.1 d_Md_least_53 rfl (lv_at hl 3 rfl) ?_
                refine lv_iload_n C.1 C.2.1 d_Md_least_54 rfl (lv_at hl 2 rfl) ?_
                refine lv_icmp_ge (tgt := 93) C.1 C.2.1 d_Md_least_55 (by decide) (fun c_24 => ?_) (fun c_24 => ?_)
                · -- 55 -> 93
                  have c_24 := gm_get (by omega) (by omega) c_24
                  have c_24' := Nat.not_lt.mpr c_24
                  refine lv_iinc (v := nI (i + 1)) (lv' := [(2, .int (nI (i + 1))), (0, .ref r), (1, .int (nI n)), (3, .int (nI j))]) C.1 C.2.1 d_Md_least_93 hl (k := 2) rfl (gm_inc i 1) (by decide) rfl (fun ls hl => ?_)
                  refine lv_goto (tgt := 41) C.1 C.2.1 d_Md_least_96 (by decide) ?_
                  exact ih41 (i + 1) tj wb (by omega) (by rw [ej_, ei_, show j = i by omega]; rfl) (by omega) _ _ _ hh (lv_sub hl [1, 2, 0] rfl)
                · -- 55 -> 58
                  have c_24 := gm_gef (by omega) (by omega) c_24
                  have c_24' := Nat.not_le.mpr c_24
                  refine lv_aload_n C.1 C.2.1 d_Md_least_58 rfl (lv_at hl 0 rfl) ?_
                  refine lv_iload_n C.1 C.2.1 d_Md_least_59 rfl (lv_at hl 2 rfl) ?_
                  refine lv_iload_n C.1 C.2.1 d_Md_least_60 rfl (lv_at hl 3 rfl) ?_
                  refine gc_v hh (gc_runV (As := [.int (nI i), .int (nI j)]) (rest := []) (n := 2) C hml hh (c_Md_byTwo l D cs sh sz I J r hM tj wb i j (by omega) (by omega)) (tg_V tw_770 tw_772 tw_38 tw_64 tw_773) (by decide +kernel) ⟨rfl, rfl, by decide, by decide, Nat.zero_le _, Nat.zero_le _⟩ (Md_0 hM) rfl rfl hl.1 rfl (Nat.le_of_ble_eq_true rfl) d_Md_least_61) (fun I_26 J_27 H locs hr_25 hh => ?_)
                  obtain ⟨w_28, hr_25⟩ := hr_25
                  rw [(Prod.mk.inj hr_25).1, (Prod.mk.inj hr_25).2] at hh
                  refine lv_iconst (v := nI 0) C.1 C.2.1 d_Md_least_64 rfl ?_
                  refine lv_istore (lv' := [(4, .int (nI 0)), (0, .ref r), (1, .int (nI n)), (2, .int (nI i)), (3, .int (nI j))]) C.1 C.2.1 d_Md_least_65 hl (by decide) rfl (fun ls hl => ?_)
                  have K67 : ∀ (n_67 : Nat) (k : Nat) (tk : LSt) (wc : V3) (hk : k ≤ j) (ek_ : tk = lsC J r i j k (two J r i j tj)) (hm_67 : j - k < n_67), ∀ (H : Heap) (locs : List Loc) (ls : Array Slot), gm_St D cs sh (gm_A sh) s'.heap sz (lsI I r tk.1) (lsJ J r tk.2.1 tk.2.2 wc) H locs → lv_has ls 5 [(0, .ref r), (1, .int (nI n)), (2, .int (nI i)), (3, .int (nI j)), (4, .int (nI k))] → W p' l e' { frames := 2, cells := 0, slots := 0, locals := 57 } s' m' ([.ref r, .int (nI n)] : List Value).toArray be' me' co' H locs 0 0 (MQ be' (va_Qv (fun u => ∃ w2 : V3, u = (lsI I r (lst J r n).1, lsJ J r (lst J r n).2.1 (lst J r n).2.2 w2)) (gm_B D cs sh sz) (gm_A sh)) ([.ref r, .int (nI n)] : List Value).toArray s' 0 0 (gm_A sh)) (F0 m' 67 ls []) := by
                    intro n_67
                    induction n_67 with
                    | zero => intro k tk wc hk ek_ hm_67; exact absurd hm_67 (Nat.not_lt_zero _)
                    | succ n_67 ih67 =>
                      intro k tk wc hk ek_ hm_67 H locs ls hh hl
                      refine lv_iload C.1 C.2.1 d_Md_least_67 (lv_at hl 4 rfl) ?_
                      refine lv_iload_n C.1 C.2.1 d_Md_least_69 rfl (lv_at hl 3 rfl) ?_
                      refine lv_icmp_ge (tgt := 87) C.1 C.2.1 d_Md_least_70 (by decide) (fun c_29 => ?_) (fun c_29 => ?_)
                      · -- 70 -> 87
                        have c_29 := gm_get (by omega) (by omega) c_29
                        have c_29' := Nat.not_lt.mpr c_29
                        refine lv_iinc (v := nI (j + 1)) (lv' := [(3, .int (nI (j + 1))), (0, .ref r), (1, .int (nI n)), (2, .int (nI i)), (4, .int (nI k))]) C.1 C.2.1 d_Md_least_87 hl (k := 3) rfl (gm_inc j 1) (by decide) rfl (fun ls hl => ?_)
                        refine lv_goto (tgt := 53) C.1 C.2.1 d_Md_least_90 (by decide) ?_
                        exact ih53 (j + 1) tk wc (by omega) (by rw [ek_, ej_, show k = j by omega]; rfl) (by omega) _ _ _ hh (lv_sub hl [1, 2, 3, 0] rfl)
                      · -- 70 -> 73
                        have c_29 := gm_gef (by omega) (by omega) c_29
                        have c_29' := Nat.not_le.mpr c_29
                        refine lv_aload_n C.1 C.2.1 d_Md_least_73 rfl (lv_at hl 0 rfl) ?_
                        refine lv_iload_n C.1 C.2.1 d_Md_least_74 rfl (lv_at hl 2 rfl) ?_
                        refine lv_iload_n C.1 C.2.1 d_Md_least_75 rfl (lv_at hl 3 rfl) ?_
                        refine lv_iload C.1 C.2.1 d_Md_least_76 (lv_at hl 4 rfl) ?_
                        refine gc_v hh (gc_runV (As := [.int (nI i), .int (nI j), .int (nI k)]) (rest := []) (n := 3) C hml hh (c_Md_byThree l D cs sh sz I J r hM tk wc i j k (by omega) (by omega) (by omega)) (tg_V tw_778 tw_780 tw_40 tw_64 tw_781) (by decide +kernel) ⟨rfl, rfl, by decide, by decide, Nat.zero_le _, Nat.zero_le _⟩ (Md_0 hM) rfl rfl hl.1 rfl (Nat.le_of_ble_eq_true rfl) d_Md_least_78) (fun I_31 J_32 H locs hr_30 hh => ?_)
                        obtain ⟨w_33, hr_30⟩ := hr_30
                        rw [(Prod.mk.inj hr_30).1, (Prod.mk.inj hr_30).2] at hh
                        refine lv_iinc (v := nI (k + 1)) (lv' := [(4, .int (nI (k + 1))), (0, .ref r), (1, .int (nI n)), (2, .int (nI i)), (3, .int (nI j))]) C.1 C.2.1 d_Md_least_81 hl (k := 4) rfl (gm_inc k 1) (by decide) rfl (fun ls hl => ?_)
                        refine lv_goto (tgt := 67) C.1 C.2.1 d_Md_least_84 (by decide) ?_
                        exact ih67 (k + 1) (three J r i j k tk) w_33 (by omega) (by rw [ek_]; rfl) (by omega) _ _ _ hh (lv_sub hl [1, 2, 3, 4, 0] rfl)
                  exact K67 _ 0 (two J r i j tj) w_28 (by omega) (by rfl) (Nat.lt_succ_self _) _ _ _ hh (lv_sub hl [1, 2, 3, 4, 0] rfl)
            exact K53 _ 0 (one J r i ti) w_23 (by omega) (by rfl) (Nat.lt_succ_self _) _ _ _ hh (lv_sub hl [1, 2, 3, 0] rfl)
      exact K41 _ 0 (false, J r 21, J r 22) (J r 26, J r 27, J r 28) (by omega) (by rfl) (Nat.lt_succ_self _) _ _ _ hh (lv_sub hl [1, 2, 0] rfl)
    · -- 20 -> 23
      have c_18 := gm_lnef c_18
      refine lv_aload_n C.1 C.2.1 d_Md_least_23 rfl (lv_at hl 0 rfl) ?_
      refine gg_l C hh (Md_0 hM) rfl in_Md 25 (by decide) rfl tw_590 rfl d_Md_least_24 ?_
      refine gm_eql (y := J r 25) (by exact lsJ_o J (by omega)) ?_
      refine lv_lconst (v := 0) C.1 C.2.1 d_Md_least_27 rfl ?_
      refine W.lcmp C.1 C.2.1 d_Md_least_28 ?_
      refine lv_if_ne (tgt := 39) C.1 C.2.1 d_Md_least_29 (by decide) (fun c_34 => ?_) (fun c_34 => ?_)
      · -- 29 -> 39
        have c_34 := gm_lnet c_34
        refine lv_iconst (v := nI 0) C.1 C.2.1 d_Md_least_39 rfl ?_
        refine lv_istore_n (lv' := [(2, .int (nI 0)), (0, .ref r), (1, .int (nI n))]) C.1 C.2.1 d_Md_least_40 rfl hl (by decide) rfl (fun ls hl => ?_)
        have K41 : ∀ (n_41 : Nat) (i : Nat) (ti : LSt) (wa : V3) (hi : i ≤ n) (ei_ : ti = lsA J r i (false, J r 21, J r 22)) (hm_41 : n - i < n_41), ∀ (H : Heap) (locs : List Loc) (ls : Array Slot), gm_St D cs sh (gm_A sh) s'.heap sz (lsI I r ti.1) (lsJ J r ti.2.1 ti.2.2 wa) H locs → lv_has ls 5 [(0, .ref r), (1, .int (nI n)), (2, .int (nI i))] → W p' l e' { frames := 2, cells := 0, slots := 0, locals := 57 } s' m' ([.ref r, .int (nI n)] : List Value).toArray be' me' co' H locs 0 0 (MQ be' (va_Qv (fun u => ∃ w2 : V3, u = (lsI I r (lst J r n).1, lsJ J r (lst J r n).2.1 (lst J r n).2.2 w2)) (gm_B D cs sh sz) (gm_A sh)) ([.ref r, .int (nI n)] : List Value).toArray s' 0 0 (gm_A sh)) (F0 m' 41 ls []) := by
          intro n_41
          induction n_41 with
          | zero => intro i ti wa hi ei_ hm_41; exact absurd hm_41 (Nat.not_lt_zero _)
          | succ n_41 ih41 =>
            intro i ti wa hi ei_ hm_41 H locs ls hh hl
            refine lv_iload_n C.1 C.2.1 d_Md_least_41 rfl (lv_at hl 2 rfl) ?_
            refine lv_iload_n C.1 C.2.1 d_Md_least_42 rfl (lv_at hl 1 rfl) ?_
            refine lv_icmp_ge (tgt := 99) C.1 C.2.1 d_Md_least_43 (by decide) (fun c_35 => ?_) (fun c_35 => ?_)
            · -- 43 -> 99
              have c_35 := gm_get (by omega) (by omega) c_35
              have c_35' := Nat.not_lt.mpr c_35
              exact gr_v C hlk hret hh (by refine ⟨wa, ?_⟩; rw [lst, if_neg (by rintro ⟨q1, q2, q3⟩; contradiction), ei_, show i = n by omega]) d_Md_least_99
            · -- 43 -> 46
              have c_35 := gm_gef (by omega) (by omega) c_35
              have c_35' := Nat.not_le.mpr c_35
              refine lv_aload_n C.1 C.2.1 d_Md_least_46 rfl (lv_at hl 0 rfl) ?_
              refine lv_iload_n C.1 C.2.1 d_Md_least_47 rfl (lv_at hl 2 rfl) ?_
              refine gc_v hh (gc_runV (As := [.int (nI i)]) (rest := []) (n := 1) C hml hh (c_Md_byOne l D cs sh sz I J r hM ti wa i (by omega)) (tg_V tw_766 tw_768 tw_37 tw_64 tw_769) (by decide +kernel) ⟨rfl, rfl, by decide, by decide, Nat.zero_le _, Nat.zero_le _⟩ (Md_0 hM) rfl rfl hl.1 rfl (Nat.le_of_ble_eq_true rfl) d_Md_least_48) (fun I_37 J_38 H locs hr_36 hh => ?_)
              obtain ⟨w_39, hr_36⟩ := hr_36
              rw [(Prod.mk.inj hr_36).1, (Prod.mk.inj hr_36).2] at hh
              refine lv_iconst (v := nI 0) C.1 C.2.1 d_Md_least_51 rfl ?_
              refine lv_istore_n (lv' := [(3, .int (nI 0)), (0, .ref r), (1, .int (nI n)), (2, .int (nI i))]) C.1 C.2.1 d_Md_least_52 rfl hl (by decide) rfl (fun ls hl => ?_)
              have K53 : ∀ (n_53 : Nat) (j : Nat) (tj : LSt) (wb : V3) (hj : j ≤ i) (ej_ : tj = lsB J r i j (one J r i ti)) (hm_53 : i - j < n_53), ∀ (H : Heap) (locs : List Loc) (ls : Array Slot), gm_St D cs sh (gm_A sh) s'.heap sz (lsI I r tj.1) (lsJ J r tj.2.1 tj.2.2 wb) H locs → lv_has ls 5 [(0, .ref r), (1, .int (nI n)), (2, .int (nI i)), (3, .int (nI j))] → W p' l e' { frames := 2, cells := 0, slots := 0, locals := 57 } s' m' ([.ref r, .int (nI n)] : List Value).toArray be' me' co' H locs 0 0 (MQ be' (va_Qv (fun u => ∃ w2 : V3, u = (lsI I r (lst J r n).1, lsJ J r (lst J r n).2.1 (lst J r n).2.2 w2)) (gm_B D cs sh sz) (gm_A sh)) ([.ref r, .int (nI n)] : List Value).toArray s' 0 0 (gm_A sh)) (F0 m' 53 ls []) := by
                intro n_53
                induction n_53 with
                | zero => intro j tj wb hj ej_ hm_53; exact absurd hm_53 (Nat.not_lt_zero _)
                | succ n_53 ih53 =>
                  intro j tj wb hj ej_ hm_53 H locs ls hh hl
                  refine lv_iload_n C.1 C.2.1 d_Md_least_53 rfl (lv_at hl 3 rfl) ?_
                  refine lv_iload_n C.1 C.2.1 d_Md_least_54 rfl (lv_at hl 2 rfl) ?_
                  refine lv_icmp_ge (tgt := 93) C.1 C.2.1 d_Md_least_55 (by decide) (fun c_40 => ?_) (fun c_40 => ?_)
                  · -- 55 -> 93
                    have c_40 := gm_get (by omega) (by omega) c_40
                    have c_40' := Nat.not_lt.mpr c_40
                    refine lv_iinc (v := nI (i + 1)) (lv' := [(2, .int (nI (i + 1))), (0, .ref r), (1, .int (nI n)), (3, .int (nI j))]) C.1 C.2.1 d_Md_least_93 hl (k := 2) rfl (gm_inc i 1) (by decide) rfl (fun ls hl => ?_)
                    refine lv_goto (tgt := 41) C.1 C.2.1 d_Md_least_96 (by decide) ?_
                    exact ih41 (i + 1) tj wb (by omega) (by rw [ej_, ei_, show j = i by omega]; rfl) (by omega) _ _ _ hh (lv_sub hl [1, 2, 0] rfl)
                  · -- 55 -> 58
                    have c_40 := gm_gef (by omega) (by omega) c_40
                    have c_40' := Nat.not_le.mpr c_40
                    refine lv_aload_n C.1 C.2.1 d_Md_least_58 rfl (lv_at hl 0 rfl) ?_
                    refine lv_iload_n C.1 C.2.1 d_Md_least_59 rfl (lv_at hl 2 rfl) ?_
                    refine lv_iload_n C.1 C.2.1 d_Md_least_60 rfl (lv_at hl 3 rfl) ?_
                    refine gc_v hh (gc_runV (As := [.int (nI i), .int (nI j)]) (rest := []) (n := 2) C hml hh (c_Md_byTwo l D cs sh sz I J r hM tj wb i j (by omega) (by omega)) (tg_V tw_770 tw_772 tw_38 tw_64 tw_773) (by decide +kernel) ⟨rfl, rfl, by decide, by decide, Nat.zero_le _, Nat.zero_le _⟩ (Md_0 hM) rfl rfl hl.1 rfl (Nat.le_of_ble_eq_true rfl) d_Md_least_61) (fun I_42 J_43 H locs hr_41 hh => ?_)
                    obtain ⟨w_44, hr_41⟩ := hr_41
                    rw [(Prod.mk.inj hr_41).1, (Prod.mk.inj hr_41).2] at hh
                    refine lv_iconst (v := nI 0) C.1 C.2.1 d_Md_least_64 rfl ?_
                    refine lv_istore (lv' := [(4, .int (nI 0)), (0, .ref r), (1, .int (nI n)), (2, .int (nI i)), (3, .int (nI j))]) C.1 C.2.1 d_Md_least_65 hl (by decide) rfl (fun ls hl => ?_)
                    have K67 : ∀ (n_67 : Nat) (k : Nat) (tk : LSt) (wc : V3) (hk : k ≤ j) (ek_ : tk = lsC J r i j k (two J r i j tj)) (hm_67 : j - k < n_67), ∀ (H : Heap) (locs : List Loc) (ls : Array Slot), gm_St D cs sh (gm_A sh) s'.heap sz (lsI I r tk.1) (lsJ J r tk.2.1 tk.2.2 wc) H locs → lv_has ls 5 [(0, .ref r), (1, .int (nI n)), (2, .int (nI i)), (3, .int (nI j)), (4, .int (nI k))] → W p' l e' { frames := 2, cells := 0, slots := 0, locals := 57 } s' m' ([.ref r, .int (nI n)] : List Value).toArray be' me' co' H locs 0 0 (MQ be' (va_Qv (fun u => ∃ w2 : V3, u = (lsI I r (lst J r n).1, lsJ J r (lst J r n).2.1 (lst J r n).2.2 w2)) (gm_B D cs sh sz) (gm_A sh)) ([.ref r, .int (nI n)] : List Value).toArray s' 0 0 (gm_A sh)) (F0 m' 67 ls []) := by
                      intro n_67
                      induction n_67 with
                      | zero => intro k tk wc hk ek_ hm_67; exact absurd hm_67 (Nat.not_lt_zero _)
                      | succ n_67 ih67 =>
                        intro k tk wc hk ek_ hm_67 H locs ls hh hl
                        refine lv_iload C.1 C.2.1 d_Md_least_67 (lv_at hl 4 rfl) ?_
                        refine lv_iload_n C.1 C.2.1 d_Md_least_69 rfl (lv_at hl 3 rfl) ?_
                        refine lv_icmp_ge (tgt := 87) C.1 C.2.1 d_Md_least_70 (by decide) (fun c_45 => ?_) (fun c_45 => ?_)
                        · -- 70 -> 87
                          have c_45 := gm_get (by omega) (by omega) c_45
                          have c_45' := Nat.not_lt.mpr c_45
                          refine lv_iinc (v := nI (j + 1)) (lv' := [(3, .int (nI (j + 1))), (0, .ref r), (1, .int (nI n)), (2, .int (nI i)), (4, .int (nI k))]) C.1 C.2.1 d_Md_least_87 hl (k := 3) rfl (gm_inc j 1) (by decide) rfl (fun ls hl => ?_)
                          refine lv_goto (tgt := 53) C.1 C.2.1 d_Md_least_90 (by decide) ?_
                          exact ih53 (j + 1) tk wc (by omega) (by rw [ek_, ej_, show k = j by omega]; rfl) (by omega) _ _ _ hh (lv_sub hl [1, 2, 3, 0] rfl)
                        · -- 70 -> 73
                          have c_45 := gm_gef (by omega) (by omega) c_45
                          have c_45' := Nat.not_le.mpr c_45
                          refine lv_aload_n C.1 C.2.1 d_Md_least_73 rfl (lv_at hl 0 rfl) ?_
                          refine lv_iload_n C.1 C.2.1 d_Md_least_74 rfl (lv_at hl 2 rfl) ?_
                          refine lv_iload_n C.1 C.2.1 d_Md_least_75 rfl (lv_at hl 3 rfl) ?_
                          refine lv_iload C.1 C.2.1 d_Md_least_76 (lv_at hl 4 rfl) ?_
                          refine gc_v hh (gc_runV (As := [.int (nI i), .int (nI j), .int (nI k)]) (rest := []) (n := 3) C hml hh (c_Md_byThree l D cs sh sz I J r hM tk wc i j k (by omega) (by omega) (by omega)) (tg_V tw_778 tw_780 tw_40 tw_64 tw_781) (by decide +kernel) ⟨rfl, rfl, by decide, by decide, Nat.zero_le _, Nat.zero_le _⟩ (Md_0 hM) rfl rfl hl.1 rfl (Nat.le_of_ble_eq_true rfl) d_Md_least_78) (fun I_47 J_48 H locs hr_46 hh => ?_)
                          obtain ⟨w_49, hr_46⟩ := hr_46
                          rw [(Prod.mk.inj hr_46).1, (Prod.mk.inj hr_46).2] at hh
                          refine lv_iinc (v := nI (k + 1)) (lv' := [(4, .int (nI (k + 1))), (0, .ref r), (1, .int (nI n)), (2, .int (nI i)), (3, .int (nI j))]) C.1 C.2.1 d_Md_least_81 hl (k := 4) rfl (gm_inc k 1) (by decide) rfl (fun ls hl => ?_)
                          refine lv_goto (tgt := 67) C.1 C.2.1 d_Md_least_84 (by decide) ?_
                          exact ih67 (k + 1) (three J r i j k tk) w_49 (by omega) (by rw [ek_]; rfl) (by omega) _ _ _ hh (lv_sub hl [1, 2, 3, 4, 0] rfl)
                    exact K67 _ 0 (two J r i j tj) w_44 (by omega) (by rfl) (Nat.lt_succ_self _) _ _ _ hh (lv_sub hl [1, 2, 3, 4, 0] rfl)
              exact K53 _ 0 (one J r i ti) w_39 (by omega) (by rfl) (Nat.lt_succ_self _) _ _ _ hh (lv_sub hl [1, 2, 3, 0] rfl)
        exact K41 _ 0 (false, J r 21, J r 22) (J r 26, J r 27, J r 28) (by omega) (by rfl) (Nat.lt_succ_self _) _ _ _ hh (lv_sub hl [1, 2, 0] rfl)
      · -- 29 -> 32
        have c_34 := gm_lnef c_34
        refine lv_aload_n C.1 C.2.1 d_Md_least_32 rfl (lv_at hl 0 rfl) ?_
        refine lv_lconst (v := 0) C.1 C.2.1 d_Md_least_33 rfl ?_
        refine lv_lconst (v := 1) C.1 C.2.1 d_Md_least_34 rfl ?_
        refine gc_v hh (gc_runV (As := [.long (0 : Int64), .long (1 : Int64)]) (rest := []) (n := 2) C hml hh (c_Md_bears l D cs sh sz (lsI I r (false, J r 21, J r 22).1) (lsJ J r (false, J r 21, J r 22).2.1 (false, J r 21, J r 22).2.2 (J r 26, J r 27, J r 28)) r hM (0 : Int64) (1 : Int64)) (tg_V tw_762 tw_764 tw_36 tw_64 tw_765) (by decide +kernel) ⟨rfl, rfl, by decide, by decide, Nat.zero_le _, Nat.zero_le _⟩ (Md_0 hM) rfl rfl hl.1 rfl (Nat.le_of_ble_eq_true rfl) d_Md_least_35) (fun I_51 J_52 H locs hr_50 hh => ?_)
        rw [bears_ls] at hr_50
        rw [(Prod.mk.inj hr_50).1, (Prod.mk.inj hr_50).2] at hh
        exact gr_v C hlk hret hh (by refine ⟨(J r 26, J r 27, J r 28), ?_⟩; rw [lst, if_pos ⟨by assumption, by assumption, by assumption⟩]; rfl) d_Md_least_38
