set_option maxHeartbeats 4000000 in
set_option maxRecDepth 100000 in
theorem c_Md_isNothing (l : Launch) (D : va_G) (cs : Nat → ClassId) (sh : gm_H) (sz : Nat) (I : gm_I) (J : gm_J) (r : Nat) (hM : is_Md sh r) (c : Sc) (n : Nat) (hn : I r 15 = nI n) (hn8 : n ≤ 8) : CI l y_Md_isNothing w_Md_isNothing { frames := 3, cells := 0, slots := 0, locals := 81 } D cs sh sz (scI I r c) (scJ J r c) [.ref r] (fun x u => x = bI (nothB (rwF J r) n) ∧ ∃ c2 : Sc, u = (scI I r c2, scJ J r c2)) := by
  refine gm_start (by decide) (Nat.le_of_ble_eq_true rfl) ?_
  intro p' e' s' m' be' me' co' ls C hml hlk hret hh hl
  have hl : lv_has ls 2 [(0, .ref r)] := hl
  refine lv_iconst (v := nI 0) C.1 C.2.1 d_Md_isNothing_0 rfl ?_
  refine lv_istore_n (lv' := [(1, .int (nI 0)), (0, .ref r)]) C.1 C.2.1 d_Md_isNothing_1 rfl hl (by decide) rfl (fun ls hl => ?_)
  have K2 : ∀ (n_2 : Nat) (k : Nat) (d : Sc) (hk : k ≤ n) (hno : nothB (rwF J r) k = false) (hm_2 : n - k < n_2), ∀ (H : Heap) (locs : List Loc) (ls : Array Slot), gm_St D cs sh (gm_A sh) s'.heap sz (scI I r d) (scJ J r d) H locs → lv_has ls 2 [(0, .ref r), (1, .int (nI k))] → W p' l e' { frames := 3, cells := 0, slots := 0, locals := 81 } s' m' ([.ref r] : List Value).toArray be' me' co' H locs 0 0 (MQ be' (va_Qi (fun x u => x = bI (nothB (rwF J r) n) ∧ ∃ c2 : Sc, u = (scI I r c2, scJ J r c2)) (gm_B D cs sh sz) (gm_A sh)) ([.ref r] : List Value).toArray s' 0 0 (gm_A sh)) (F0 m' 2 ls []) := by
    intro n_2
    induction n_2 with
    | zero => intro k d hk hno hm_2; exact absurd hm_2 (Nat.not_lt_zero _)
    | succ n_2 ih2 =>
      intro k d hk hno hm_2 H locs ls hh hl
      refine lv_iload_n C.1 C.2.1 d_Md_isNothing_2 rfl (lv_at hl 1 rfl) ?_
      refine lv_aload_n C.1 C.2.1 d_Md_isNothing_3 rfl (lv_at hl 0 rfl) ?_
      refine gg_i C hh (Md_0 hM) rfl in_Md 15 (by decide) rfl tw_580 rfl d_Md_isNothing_4 ?_
      refine gm_eqi (y := I r 15) (by exact scI_o _ _ (by omega)) ?_
      refine gm_eqi hn ?_
      refine lv_icmp_ge (tgt := 75) C.1 C.2.1 d_Md_isNothing_7 (by decide) (fun c_1 => ?_) (fun c_1 => ?_)
      · -- 7 -> 75
        have c_1 := gm_get (by omega) (by omega) c_1
        have c_1' := Nat.not_lt.mpr c_1
        refine lv_iconst (v := nI 0) C.1 C.2.1 d_Md_isNothing_75 rfl ?_
        exact gr_i C hlk hret (gm_nb (Or.inl rfl)) hh (by refine ⟨?_, _, rfl⟩; rw [← show k = n by omega, hno]; rfl) d_Md_isNothing_76
      · -- 7 -> 10
        have c_1 := gm_gef (by omega) (by omega) c_1
        have c_1' := Nat.not_le.mpr c_1
        refine lv_aload_n C.1 C.2.1 d_Md_isNothing_10 rfl (lv_at hl 0 rfl) ?_
        refine lv_aload_n C.1 C.2.1 d_Md_isNothing_11 rfl (lv_at hl 0 rfl) ?_
        refine gg_r C hh (Md_0 hM) rfl in_Md 16 (by decide) rfl tw_581 rfl d_Md_isNothing_12 ?_
        refine lv_iload_n C.1 C.2.1 d_Md_isNothing_15 rfl (lv_at hl 1 rfl) ?_
        refine ga_l C hh (Md_12 hM) (k := k) rfl (by omega) (by omega) d_Md_isNothing_16 ?_
        refine gm_eql (y := J (r + 12) k) (by exact scJ_o _ (by omega)) ?_
        refine lv_lneg C.1 C.2.1 d_Md_isNothing_17 ?_
        refine lv_aload_n C.1 C.2.1 d_Md_isNothing_18 rfl (lv_at hl 0 rfl) ?_
        refine gg_r C hh (Md_0 hM) rfl in_Md 17 (by decide) rfl tw_582 rfl d_Md_isNothing_19 ?_
        refine lv_iload_n C.1 C.2.1 d_Md_isNothing_22 rfl (lv_at hl 1 rfl) ?_
        refine ga_l C hh (Md_13 hM) (k := k) rfl (by omega) (by omega) d_Md_isNothing_23 ?_
        refine gm_eql (y := J (r + 13) k) (by exact scJ_o _ (by omega)) ?_
        refine lv_lneg C.1 C.2.1 d_Md_isNothing_24 ?_
        refine lv_aload_n C.1 C.2.1 d_Md_isNothing_25 rfl (lv_at hl 0 rfl) ?_
        refine gg_r C hh (Md_0 hM) rfl in_Md 18 (by decide) rfl tw_583 rfl d_Md_isNothing_26 ?_
        refine lv_iload_n C.1 C.2.1 d_Md_isNothing_29 rfl (lv_at hl 1 rfl) ?_
        refine ga_l C hh (Md_14 hM) (k := k) rfl (by omega) (by omega) d_Md_isNothing_30 ?_
        refine gm_eql (y := J (r + 14) k) (by exact scJ_o _ (by omega)) ?_
        refine lv_lneg C.1 C.2.1 d_Md_isNothing_31 ?_
        refine gc_v hh (gc_runV (As := [.long (-(J (r + 12) k)), .long (-(J (r + 13) k)), .long (-(J (r + 14) k))]) (rest := []) (n := 3) C hml hh (c_Md_goal l D cs sh sz (scI I r d) (scJ J r d) r hM (-(J (r + 12) k)) (-(J (r + 13) k)) (-(J (r + 14) k))) (tg_V tw_754 tw_756 tw_34 tw_64 tw_757) (by decide +kernel) ⟨rfl, rfl, by decide, by decide, Nat.zero_le _, Nat.zero_le _⟩ (Md_0 hM) rfl rfl hl.1 rfl (Nat.le_of_ble_eq_true rfl) d_Md_isNothing_32) (fun I_3 J_4 H locs hr_2 hh => ?_)
        rw [goal_sc] at hr_2
        rw [(Prod.mk.inj hr_2).1, (Prod.mk.inj hr_2).2] at hh
        have hh : gm_St D cs sh (gm_A sh) s'.heap sz (scI I r (d.1, d.2.1, d.2.2.1, (-(J (r + 12) k), -(J (r + 13) k), -(J (r + 14) k)), d.2.2.2.2)) (scJ J r (d.1, d.2.1, d.2.2.1, (-(J (r + 12) k), -(J (r + 13) k), -(J (r + 14) k)), d.2.2.2.2)) H locs := hh
        refine lv_aload_n C.1 C.2.1 d_Md_isNothing_35 rfl (lv_at hl 0 rfl) ?_
        refine lv_iload_n C.1 C.2.1 d_Md_isNothing_36 rfl (lv_at hl 1 rfl) ?_
        refine gc_v hh (gc_runV (As := [.int (nI k)]) (rest := []) (n := 1) C hml hh (c_Md_least l D cs sh sz (scI I r (d.1, d.2.1, d.2.2.1, (-(J (r + 12) k), -(J (r + 13) k), -(J (r + 14) k)), d.2.2.2.2)) (scJ J r (d.1, d.2.1, d.2.2.1, (-(J (r + 12) k), -(J (r + 13) k), -(J (r + 14) k)), d.2.2.2.2)) r hM k (by omega)) (tg_V tw_758 tw_760 tw_35 tw_64 tw_761) (by decide +kernel) ⟨rfl, rfl, by decide, by decide, Nat.zero_le _, Nat.zero_le _⟩ (Md_0 hM) rfl rfl hl.1 rfl (Nat.le_of_ble_eq_true rfl) d_Md_isNothing_37) (fun I_6 J_7 H locs hr_5 hh => ?_)
        obtain ⟨w_8, hr_5⟩ := hr_5
        have fs_9 := lst_LQ (J := scJ J r (d.1, d.2.1, d.2.2.1, (-(J (r + 12) k), -(J (r + 13) k), -(J (r + 14) k)), d.2.2.2.2)) (r := r) (n := k) (f := rwF J r) (fun c_ hc_ i_ hi_ => scJ_o _ (by omega)) (scJ_g _ r _)
        obtain ⟨s_9, es_9⟩ : ∃ z : LSt, z = lst (scJ J r (d.1, d.2.1, d.2.2.1, (-(J (r + 12) k), -(J (r + 13) k), -(J (r + 14) k)), d.2.2.2.2)) r k := ⟨_, rfl⟩
        rw [← es_9] at hr_5 fs_9
        rw [least_scJ, least_scI] at hr_5
        rw [(Prod.mk.inj hr_5).1, (Prod.mk.inj hr_5).2] at hh
        have hh : gm_St D cs sh (gm_A sh) s'.heap sz (scI I r (s_9.1, s_9.2.1, s_9.2.2, (-(J (r + 12) k), -(J (r + 13) k), -(J (r + 14) k)), w_8)) (scJ J r (s_9.1, s_9.2.1, s_9.2.2, (-(J (r + 12) k), -(J (r + 13) k), -(J (r + 14) k)), w_8)) H locs := hh
        refine lv_aload_n C.1 C.2.1 d_Md_isNothing_40 rfl (lv_at hl 0 rfl) ?_
        refine gg_i C hh (Md_0 hM) rfl in_Md 20 (by decide) rfl tw_585 rfl d_Md_isNothing_41 ?_
        refine gm_eqi (y := bI s_9.1) (by exact scI_20 _ _ _) ?_
        refine lv_if_eq (tgt := 69) C.1 C.2.1 d_Md_isNothing_44 (by decide) (fun c_10 => ?_) (fun c_10 => ?_)
        · -- 44 -> 69
          have b_11 := bI_f (rfl : bI s_9.1 = bI s_9.1) c_10
          skip
          refine lv_iinc (v := nI (k + 1)) (lv' := [(1, .int (nI (k + 1))), (0, .ref r)]) C.1 C.2.1 d_Md_isNothing_69 hl (k := 1) rfl (gm_inc k 1) (by decide) rfl (fun ls hl => ?_)
          refine lv_goto (tgt := 2) C.1 C.2.1 d_Md_isNothing_72 (by decide) ?_
          exact ih2 (k + 1) (s_9.1, s_9.2.1, s_9.2.2, (-(J (r + 12) k), -(J (r + 13) k), -(J (r + 14) k)), w_8) (by omega) (by first | exact noth_f (f := rwF J r) fs_9 hno (Or.inl (by assumption)) | exact noth_f (f := rwF J r) fs_9 hno (Or.inr (by assumption))) (by omega) _ _ _ hh (lv_sub hl [1, 0] rfl)
        · -- 44 -> 47
          have b_12 := bI_t (rfl : bI s_9.1 = bI s_9.1) c_10
          skip
          refine lv_aload_n C.1 C.2.1 d_Md_isNothing_47 rfl (lv_at hl 0 rfl) ?_
          refine gg_l C hh (Md_0 hM) rfl in_Md 21 (by decide) rfl tw_586 rfl d_Md_isNothing_48 ?_
          refine gm_eql (y := s_9.2.1) (by exact (scJ_a _ r _).1) ?_
          refine lv_aload_n C.1 C.2.1 d_Md_isNothing_51 rfl (lv_at hl 0 rfl) ?_
          refine gg_r C hh (Md_0 hM) rfl in_Md 19 (by decide) rfl tw_584 rfl d_Md_isNothing_52 ?_
          refine lv_iload_n C.1 C.2.1 d_Md_isNothing_55 rfl (lv_at hl 1 rfl) ?_
          refine ga_l C hh (Md_15 hM) (k := k) rfl (by omega) (by omega) d_Md_isNothing_56 ?_
          refine gm_eql (y := J (r + 15) k) (by exact scJ_o _ (by omega)) ?_
          refine lv_lneg C.1 C.2.1 d_Md_isNothing_57 ?_
          refine lv_aload_n C.1 C.2.1 d_Md_isNothing_58 rfl (lv_at hl 0 rfl) ?_
          refine gg_l C hh (Md_0 hM) rfl in_Md 22 (by decide) rfl tw_587 rfl d_Md_isNothing_59 ?_
          refine gm_eql (y := s_9.2.2) (by exact (scJ_a _ r _).2) ?_
          refine lv_lmul C.1 C.2.1 d_Md_isNothing_62 ?_
          refine W.lcmp C.1 C.2.1 d_Md_isNothing_63 ?_
          refine lv_if_le (tgt := 69) C.1 C.2.1 d_Md_isNothing_64 (by decide) (fun c_13 => ?_) (fun c_13 => ?_)
          · -- 64 -> 69
            have c_13 := gm_llet c_13
            refine lv_iinc (v := nI (k + 1)) (lv' := [(1, .int (nI (k + 1))), (0, .ref r)]) C.1 C.2.1 d_Md_isNothing_69 hl (k := 1) rfl (gm_inc k 1) (by decide) rfl (fun ls hl => ?_)
            refine lv_goto (tgt := 2) C.1 C.2.1 d_Md_isNothing_72 (by decide) ?_
            exact ih2 (k + 1) (s_9.1, s_9.2.1, s_9.2.2, (-(J (r + 12) k), -(J (r + 13) k), -(J (r + 14) k)), w_8) (by omega) (by first | exact noth_f (f := rwF J r) fs_9 hno (Or.inl (by assumption)) | exact noth_f (f := rwF J r) fs_9 hno (Or.inr (by assumption))) (by omega) _ _ _ hh (lv_sub hl [1, 0] rfl)
          · -- 64 -> 67
            have c_13 := gm_llef c_13
            refine lv_iconst (v := nI 1) C.1 C.2.1 d_Md_isNothing_67 rfl ?_
            exact gr_i C hlk hret (gm_nb (Or.inr rfl)) hh (by refine ⟨?_, _, rfl⟩; rw [noth_t (f := rwF J r) fs_9 (by omega) (by assumption) (by assumption)]; rfl) d_Md_isNothing_68
  exact K2 _ 0 c (by omega) (by rfl) (Nat.lt_succ_self _) _ _ _ hh (lv_sub hl [1, 0] rfl)

set_option maxHeartbeats 4000000 in
set_option maxRecDepth 100000 in
theorem c_Md_isLeast (l : Launch) (D : va_G) (cs : Nat → ClassId) (sh : gm_H) (sz : Nat) (I : gm_I) (J : gm_J) (r : Nat) (hM : is_Md sh r) (c : Sc) (n : Nat) (hn : I r 15 = nI n) (hn8 : n ≤ 8) (d : Int64) : CI l y_Md_isLeast w_Md_isLeast { frames := 3, cells := 0, slots := 0, locals := 81 } D cs sh sz (scI I r c) (scJ J r c) [.ref r, .long d] (fun x u => x = bI (leastT (rwF J r) c.2.2.2.1 n d) ∧ ∃ c2 : Sc, u = (scI I r c2, scJ J r c2)) := by
  refine gm_start (by decide) (Nat.le_of_ble_eq_true rfl) ?_
  intro p' e' s' m' be' me' co' ls C hml hlk hret hh hl
  have hl : lv_has ls 3 [(0, .ref r), (1, .long d)] := hl
  refine lv_aload_n C.1 C.2.1 d_Md_isLeast_0 rfl (lv_at hl 0 rfl) ?_
  refine lv_aload_n C.1 C.2.1 d_Md_isLeast_1 rfl (lv_at hl 0 rfl) ?_
  refine gg_i C hh (Md_0 hM) rfl in_Md 15 (by decide) rfl tw_580 rfl d_Md_isLeast_2 ?_
  refine gm_eqi (y := I r 15) (by exact scI_o _ _ (by omega)) ?_
  refine gm_eqi hn ?_
  refine gc_v hh (gc_runV (As := [.int (nI n)]) (rest := []) (n := 1) C hml hh (c_Md_least l D cs sh sz (scI I r c) (scJ J r c) r hM n (by omega)) (tg_V tw_758 tw_760 tw_35 tw_64 tw_761) (by decide +kernel) ⟨rfl, rfl, by decide, by decide, Nat.zero_le _, Nat.zero_le _⟩ (Md_0 hM) rfl rfl hl.1 rfl (Nat.le_of_ble_eq_true rfl) d_Md_isLeast_5) (fun I_2 J_3 H locs hr_1 hh => ?_)
  obtain ⟨w_4, hr_1⟩ := hr_1
  have fs_5 := lst_LQ (J := scJ J r c) (r := r) (n := n) (f := rwF J r) (fun c_ hc_ i_ hi_ => scJ_o _ (by omega)) (scJ_g _ r _)
  obtain ⟨s_5, es_5⟩ : ∃ z : LSt, z = lst (scJ J r c) r n := ⟨_, rfl⟩
  rw [← es_5] at hr_1 fs_5
  rw [least_scJ, least_scI] at hr_1
  rw [(Prod.mk.inj hr_1).1, (Prod.mk.inj hr_1).2] at hh
  have hh : gm_St D cs sh (gm_A sh) s'.heap sz (scI I r (s_5.1, s_5.2.1, s_5.2.2, c.2.2.2.1, w_4)) (scJ J r (s_5.1, s_5.2.1, s_5.2.2, c.2.2.2.1, w_4)) H locs := hh
  refine lv_aload_n C.1 C.2.1 d_Md_isLeast_8 rfl (lv_at hl 0 rfl) ?_
  refine gg_i C hh (Md_0 hM) rfl in_Md 20 (by decide) rfl tw_585 rfl d_Md_isLeast_9 ?_
  refine gm_eqi (y := bI s_5.1) (by exact scI_20 _ _ _) ?_
  refine lv_if_eq (tgt := 33) C.1 C.2.1 d_Md_isLeast_12 (by decide) (fun c_6 => ?_) (fun c_6 => ?_)
  · -- 12 -> 33
    have b_7 := bI_f (rfl : bI s_5.1 = bI s_5.1) c_6
    skip
    refine lv_iconst (v := nI 0) C.1 C.2.1 d_Md_isLeast_33 rfl ?_
    exact gr_i C hlk hret (gm_nb (Or.inl rfl)) hh (by refine ⟨?_, _, rfl⟩; rw [leastT_of fs_5]; first | (rw [show s_5.1 = false by assumption]; rfl) | (rw [show s_5.1 = true by assumption, decide_eq_true (by assumption)]; rfl) | (rw [show s_5.1 = true by assumption, decide_eq_false (Int64.not_le.mpr (by assumption))]; rfl)) d_Md_isLeast_34
  · -- 12 -> 15
    have b_8 := bI_t (rfl : bI s_5.1 = bI s_5.1) c_6
    skip
    refine lv_aload_n C.1 C.2.1 d_Md_isLeast_15 rfl (lv_at hl 0 rfl) ?_
    refine gg_l C hh (Md_0 hM) rfl in_Md 21 (by decide) rfl tw_586 rfl d_Md_isLeast_16 ?_
    refine gm_eql (y := s_5.2.1) (by exact (scJ_a _ r _).1) ?_
    refine lv_lload_n C.1 C.2.1 d_Md_isLeast_19 rfl (lv_at hl 1 rfl) ?_
    refine lv_aload_n C.1 C.2.1 d_Md_isLeast_20 rfl (lv_at hl 0 rfl) ?_
    refine gg_l C hh (Md_0 hM) rfl in_Md 22 (by decide) rfl tw_587 rfl d_Md_isLeast_21 ?_
    refine gm_eql (y := s_5.2.2) (by exact (scJ_a _ r _).2) ?_
    refine lv_lmul C.1 C.2.1 d_Md_isLeast_24 ?_
    refine W.lcmp C.1 C.2.1 d_Md_isLeast_25 ?_
    refine lv_if_lt (tgt := 33) C.1 C.2.1 d_Md_isLeast_26 (by decide) (fun c_9 => ?_) (fun c_9 => ?_)
    · -- 26 -> 33
      have c_9 := gm_lltt c_9
      refine lv_iconst (v := nI 0) C.1 C.2.1 d_Md_isLeast_33 rfl ?_
      exact gr_i C hlk hret (gm_nb (Or.inl rfl)) hh (by refine ⟨?_, _, rfl⟩; rw [leastT_of fs_5]; first | (rw [show s_5.1 = false by assumption]; rfl) | (rw [show s_5.1 = true by assumption, decide_eq_true (by assumption)]; rfl) | (rw [show s_5.1 = true by assumption, decide_eq_false (Int64.not_le.mpr (by assumption))]; rfl)) d_Md_isLeast_34
    · -- 26 -> 29
      have c_9 := gm_lltf c_9
      refine lv_iconst (v := nI 1) C.1 C.2.1 d_Md_isLeast_29 rfl ?_
      refine lv_goto (tgt := 34) C.1 C.2.1 d_Md_isLeast_30 (by decide) ?_
      exact gr_i C hlk hret (gm_nb (Or.inr rfl)) hh (by refine ⟨?_, _, rfl⟩; rw [leastT_of fs_5]; first | (rw [show s_5.1 = false by assumption]; rfl) | (rw [show s_5.1 = true by assumption, decide_eq_true (by assumption)]; rfl) | (rw [show s_5.1 = true by assumption, decide_eq_false (Int64.not_le.mpr (by assumption))]; rfl)) d_Md_isLeast_34

set_option maxHeartbeats 4000000 in
set_option maxRecDepth 100000 in
theorem c_Md_isBounded (l : Launch) (D : va_G) (cs : Nat → ClassId) (sh : gm_H) (sz : Nat) (I : gm_I) (J : gm_J) (r : Nat) (hM : is_Md sh r) (c : Sc) (n : Nat) (hn : I r 15 = nI n) (hn8 : n ≤ 8) (t u v : Int32) : CI l y_Md_isBounded w_Md_isBounded { frames := 3, cells := 0, slots := 0, locals := 81 } D cs sh sz (scI I r c) (scJ J r c) [.ref r, .int t, .int u, .int v] (fun x z => x = bI (LQ (rwF J r) (t.toInt64, u.toInt64, v.toInt64) n).1 ∧ ∃ c2 : Sc, z = (scI I r c2, scJ J r c2)) := by
  refine gm_start (by decide) (Nat.le_of_ble_eq_true rfl) ?_
  intro p' e' s' m' be' me' co' ls C hml hlk hret hh hl
  have hl : lv_has ls 4 [(0, .ref r), (1, .int t), (2, .int u), (3, .int v)] := hl
  refine lv_aload_n C.1 C.2.1 d_Md_isBounded_0 rfl (lv_at hl 0 rfl) ?_
  refine lv_iload_n C.1 C.2.1 d_Md_isBounded_1 rfl (lv_at hl 1 rfl) ?_
  refine lv_i2l (v := t.toInt64) C.1 C.2.1 d_Md_isBounded_2 rfl ?_
  refine lv_iload_n C.1 C.2.1 d_Md_isBounded_3 rfl (lv_at hl 2 rfl) ?_
  refine lv_i2l (v := u.toInt64) C.1 C.2.1 d_Md_isBounded_4 rfl ?_
  refine lv_iload_n C.1 C.2.1 d_Md_isBounded_5 rfl (lv_at hl 3 rfl) ?_
  refine lv_i2l (v := v.toInt64) C.1 C.2.1 d_Md_isBounded_6 rfl ?_
  refine gc_v hh (gc_runV (As := [.long t.toInt64, .long u.toInt64, .long v.toInt64]) (rest := []) (n := 3) C hml hh (c_Md_goal l D cs sh sz (scI I r c) (scJ J r c) r hM t.toInt64 u.toInt64 v.toInt64) (tg_V tw_754 tw_756 tw_34 tw_64 tw_757) (by decide +kernel) ⟨rfl, rfl, by decide, by decide, Nat.zero_le _, Nat.zero_le _⟩ (Md_0 hM) rfl rfl hl.1 rfl (Nat.le_of_ble_eq_true rfl) d_Md_isBounded_7) (fun I_2 J_3 H locs hr_1 hh => ?_)
  rw [goal_sc] at hr_1
  rw [(Prod.mk.inj hr_1).1, (Prod.mk.inj hr_1).2] at hh
  have hh : gm_St D cs sh (gm_A sh) s'.heap sz (scI I r (c.1, c.2.1, c.2.2.1, (t.toInt64, u.toInt64, v.toInt64), c.2.2.2.2)) (scJ J r (c.1, c.2.1, c.2.2.1, (t.toInt64, u.toInt64, v.toInt64), c.2.2.2.2)) H locs := hh
  refine lv_aload_n C.1 C.2.1 d_Md_isBounded_10 rfl (lv_at hl 0 rfl) ?_
  refine lv_aload_n C.1 C.2.1 d_Md_isBounded_11 rfl (lv_at hl 0 rfl) ?_
  refine gg_i C hh (Md_0 hM) rfl in_Md 15 (by decide) rfl tw_580 rfl d_Md_isBounded_12 ?_
  refine gm_eqi (y := I r 15) (by exact scI_o _ _ (by omega)) ?_
  refine gm_eqi hn ?_
  refine gc_v hh (gc_runV (As := [.int (nI n)]) (rest := []) (n := 1) C hml hh (c_Md_least l D cs sh sz (scI I r (c.1, c.2.1, c.2.2.1, (t.toInt64, u.toInt64, v.toInt64), c.2.2.2.2)) (scJ J r (c.1, c.2.1, c.2.2.1, (t.toInt64, u.toInt64, v.toInt64), c.2.2.2.2)) r hM n (by omega)) (tg_V tw_758 tw_760 tw_35 tw_64 tw_761) (by decide +kernel) ⟨rfl, rfl, by decide, by decide, Nat.zero_le _, Nat.zero_le _⟩ (Md_0 hM) rfl rfl hl.1 rfl (Nat.le_of_ble_eq_true rfl) d_Md_isBounded_15) (fun I_5 J_6 H locs hr_4 hh => ?_)
  obtain ⟨w_7, hr_4⟩ := hr_4
  have fs_8 := lst_LQ (J := scJ J r (c.1, c.2.1, c.2.2.1, (t.toInt64, u.toInt64, v.toInt64), c.2.2.2.2)) (r := r) (n := n) (f := rwF J r) (fun c_ hc_ i_ hi_ => scJ_o _ (by omega)) (scJ_g _ r _)
  obtain ⟨s_8, es_8⟩ : ∃ z : LSt, z = lst (scJ J r (c.1, c.2.1, c.2.2.1, (t.toInt64, u.toInt64, v.toInt64), c.2.2.2.2)) r n := ⟨_, rfl⟩
  rw [← es_8] at hr_4 fs_8
  rw [least_scJ, least_scI] at hr_4
  rw [(Prod.mk.inj hr_4).1, (Prod.mk.inj hr_4).2] at hh
  have hh : gm_St D cs sh (gm_A sh) s'.heap sz (scI I r (s_8.1, s_8.2.1, s_8.2.2, (t.toInt64, u.toInt64, v.toInt64), w_7)) (scJ J r (s_8.1, s_8.2.1, s_8.2.2, (t.toInt64, u.toInt64, v.toInt64), w_7)) H locs := hh
  refine lv_aload_n C.1 C.2.1 d_Md_isBounded_18 rfl (lv_at hl 0 rfl) ?_
  refine gg_i C hh (Md_0 hM) rfl in_Md 20 (by decide) rfl tw_585 rfl d_Md_isBounded_19 ?_
  refine gm_eqi (y := bI s_8.1) (by exact scI_20 _ _ _) ?_
  exact gr_i C hlk hret (gm_nb (bI_01 (rfl : bI s_8.1 = bI s_8.1))) hh (by refine ⟨?_, _, rfl⟩; rw [← fs_8.1]) d_Md_isBounded_22
