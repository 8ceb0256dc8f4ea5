set_option maxHeartbeats 4000000 in
set_option maxRecDepth 100000 in
theorem c_Md_walks (l : Launch) (D : va_G) (cs : Nat → ClassId) (sh : gm_H) (sz : Nat) (I : gm_I) (J : gm_J) (r : Nat) (hM : is_Md sh r) (hV : inv_Md I r) (j : Nat) (hj : j < 8)  : CI l y_Md_walks w_Md_walks { frames := 2, cells := 0, slots := 0, locals := 53 } D cs sh sz I J [.ref r, .int (nI j)] (fun z u => z = (wk1 I r j (T3 J r)).1 ∧ u = (I, xyz J r (wk1 I r j (T3 J r)).2)) := by
  refine gm_start (by decide) (Nat.le_of_ble_eq_true rfl) ?_
  intro p' e' s' m' be' me' co' ls C hml hlk hret hh hl
  have hl : lv_has ls 4 [(0, .ref r), (1, .int (nI j))] := hl
  refine lv_aload_n C.1 C.2.1 d_Md_walks_0 rfl (lv_at hl 0 rfl) ?_
  refine lv_iload_n C.1 C.2.1 d_Md_walks_1 rfl (lv_at hl 1 rfl) ?_
  obtain ⟨ga, hga, ega⟩ := hV.2.2.2.1 j (by omega)
  obtain ⟨wa, hwa, ewa⟩ := hV.2.2.1 j (by omega)
  refine gc_i hh (gc_runV (As := [.int (nI j)]) (rest := []) (n := 1) C hml hh (c_Md_openAt l D cs sh sz I J r hM hV j (by omega) ga wa hga hwa ega ewa) (tg_V tw_858 tw_860 tw_49 tw_64 tw_861) (by decide +kernel) ⟨rfl, rfl, by decide, by decide, Nat.zero_le _, Nat.zero_le _⟩ (Md_0 hM) rfl rfl hl.1 rfl (Nat.le_of_ble_eq_true rfl) d_Md_walks_2) (fun r_1 I_2 J_3 H locs hr_1 hh => ?_)
  obtain ⟨e_r_1, hr_1⟩ := hr_1
  rw [(Prod.mk.inj e_r_1).1, (Prod.mk.inj e_r_1).2] at hh
  obtain ⟨o_4, eo_4⟩ : ∃ z : Nat, z = openN I r j (J r 35) (J r 36) (J r 37) := ⟨_, rfl⟩
  have lo_4 : o_4 < 8 := by rw [eo_4]; exact openN_lt (by rw [ewa, nN_nI (by omega)]; exact hwa)
  rw [← eo_4] at hr_1
  rw [hr_1]
  refine lv_istore_n (lv' := [(2, .int (nI o_4)), (0, .ref r), (1, .int (nI j))]) C.1 C.2.1 d_Md_walks_5 rfl hl (by decide) rfl (fun ls hl => ?_)
  refine lv_iload_n C.1 C.2.1 d_Md_walks_6 rfl (lv_at hl 0 rfl) ?_
  refine lv_if_ne (tgt := 12) C.1 C.2.1 d_Md_walks_7 (by decide) (fun c_5 => ?_) (fun c_5 => ?_)
  · -- 7 -> 12
    have c_5 := gm_net (b := 0) (by omega) (by omega) c_5
    have hno : ¬ o_4 = 0 := by assumption
    have K35 : ∀ (k : Nat) (hk : k = fw o_4) (hk3 : k < 3) (ho : ¬ o_4 = 0), ∀ (H : Heap) (locs : List Loc) (ls : Array Slot), gm_St D cs sh (gm_A sh) s'.heap sz I J H locs → lv_has ls 4 [(0, .ref r), (1, .int (nI j)), (2, .int (nI o_4))] → W p' l e' { frames := 2, cells := 0, slots := 0, locals := 53 } s' m' ([.ref r, .int (nI j)] : List Value).toArray be' me' co' H locs 0 0 (MQ be' (va_Qi (fun z u => z = (wk1 I r j (T3 J r)).1 ∧ u = (I, xyz J r (wk1 I r j (T3 J r)).2)) (gm_B D cs sh sz) (gm_A sh)) ([.ref r, .int (nI j)] : List Value).toArray s' 0 0 (gm_A sh)) (F0 m' 35 ls [.int (nI k)]) := by
      intro k hk hk3 ho H locs ls hh hl
      refine lv_istore_n (lv' := [(3, .int (nI k)), (0, .ref r), (1, .int (nI j)), (2, .int (nI o_4))]) C.1 C.2.1 d_Md_walks_35 rfl hl (by decide) rfl (fun ls hl => ?_)
      refine lv_aload_n C.1 C.2.1 d_Md_walks_36 rfl (lv_at hl 1 rfl) ?_
      refine lv_iload_n C.1 C.2.1 d_Md_walks_37 rfl (lv_at hl 2 rfl) ?_
      refine lv_iload_n C.1 C.2.1 d_Md_walks_38 rfl (lv_at hl 0 rfl) ?_
      refine gc_i hh (gc_runV (As := [.int (nI j), .int (nI k)]) (rest := []) (n := 2) C hml hh (c_Md_goes l D cs sh sz I J r hM hV j (by omega) k (by omega)) (tg_V tw_874 tw_876 tw_52 tw_64 tw_877) (by decide +kernel) ⟨rfl, rfl, by decide, by decide, Nat.zero_le _, Nat.zero_le _⟩ (Md_0 hM) rfl rfl hl.1 rfl (Nat.le_of_ble_eq_true rfl) d_Md_walks_39) (fun r_6 I_7 J_8 H locs hr_6 hh => ?_)
      have hr_6 := hr_6
      rw [sp_goes] at hr_6
      refine lv_if_eq (tgt := 49) C.1 C.2.1 d_Md_walks_42 (by decide) (fun c_9 => ?_) (fun c_9 => ?_)
      · -- 42 -> 49
        skip
        refine lv_bipush (v := (-5)) C.1 C.2.1 d_Md_walks_49 rfl ?_
        exact gr_i C hlk hret rfl hh (by first | exact (wk1_of hr_6 hk ho eo_4).1 (by assumption) | exact (wk1_of hr_6 hk ho eo_4).2 (by assumption)) d_Md_walks_51
      · -- 42 -> 45
        skip
        refine lv_iload_n C.1 C.2.1 d_Md_walks_45 rfl (lv_at hl 0 rfl) ?_
        refine lv_goto (tgt := 51) C.1 C.2.1 d_Md_walks_46 (by decide) ?_
        exact gr_i C hlk hret rfl hh (by first | exact (wk1_of hr_6 hk ho eo_4).1 (by assumption) | exact (wk1_of hr_6 hk ho eo_4).2 (by assumption)) d_Md_walks_51
    refine lv_iload_n C.1 C.2.1 d_Md_walks_12 rfl (lv_at hl 0 rfl) ?_
    refine lv_iconst (v := nI 2) C.1 C.2.1 d_Md_walks_13 rfl ?_
    refine lv_irem C.1 C.2.1 d_Md_walks_14 (by decide) ?_
    refine gm_eqi (pk_rem (by omega) (by omega) (by omega)) ?_
    refine lv_iconst (v := nI 1) C.1 C.2.1 d_Md_walks_15 rfl ?_
    refine lv_icmp_ne (tgt := 23) C.1 C.2.1 d_Md_walks_16 (by decide) (fun c_10 => ?_) (fun c_10 => ?_)
    · -- 16 -> 23
      have c_10 := gm_net (by omega) (by omega) c_10
      refine lv_iload_n C.1 C.2.1 d_Md_walks_23 rfl (lv_at hl 0 rfl) ?_
      refine lv_iconst (v := nI 4) C.1 C.2.1 d_Md_walks_24 rfl ?_
      refine lv_irem C.1 C.2.1 d_Md_walks_25 (by decide) ?_
      refine gm_eqi (pk_rem (by omega) (by omega) (by omega)) ?_
      refine lv_iconst (v := nI 2) C.1 C.2.1 d_Md_walks_26 rfl ?_
      refine lv_icmp_ne (tgt := 34) C.1 C.2.1 d_Md_walks_27 (by decide) (fun c_11 => ?_) (fun c_11 => ?_)
      · -- 27 -> 34
        have c_11 := gm_net (by omega) (by omega) c_11
        refine lv_iconst (v := nI 2) C.1 C.2.1 d_Md_walks_34 rfl ?_
        exact K35 2 (by unfold fw; first | rw [if_pos (by assumption)] | rw [if_neg (by assumption), if_pos (by assumption)] | rw [if_neg (by assumption), if_neg (by assumption)]) (by omega) (by assumption) _ _ _ hh (lv_sub hl [1, 2, 0] rfl)
      · -- 27 -> 30
        have c_11 := gm_nef (by omega) (by omega) c_11
        refine lv_iconst (v := nI 1) C.1 C.2.1 d_Md_walks_30 rfl ?_
        refine lv_goto (tgt := 35) C.1 C.2.1 d_Md_walks_31 (by decide) ?_
        exact K35 1 (by unfold fw; first | rw [if_pos (by assumption)] | rw [if_neg (by assumption), if_pos (by assumption)] | rw [if_neg (by assumption), if_neg (by assumption)]) (by omega) (by assumption) _ _ _ hh (lv_sub hl [1, 2, 0] rfl)
    · -- 16 -> 19
      have c_10 := gm_nef (by omega) (by omega) c_10
      refine lv_iconst (v := nI 0) C.1 C.2.1 d_Md_walks_19 rfl ?_
      refine lv_goto (tgt := 35) C.1 C.2.1 d_Md_walks_20 (by decide) ?_
      exact K35 0 (by unfold fw; first | rw [if_pos (by assumption)] | rw [if_neg (by assumption), if_pos (by assumption)] | rw [if_neg (by assumption), if_neg (by assumption)]) (by omega) (by assumption) _ _ _ hh (lv_sub hl [1, 2, 0] rfl)
  · -- 7 -> 10
    have c_5 := gm_nef (b := 0) (by omega) (by omega) c_5
    refine lv_iconst (v := (-1)) C.1 C.2.1 d_Md_walks_10 rfl ?_
    exact gr_i C hlk hret rfl hh (by exact wk1_none (by rw [← eo_4]; assumption)) d_Md_walks_11

set_option maxHeartbeats 4000000 in
set_option maxRecDepth 100000 in
theorem c_Md_open (l : Launch) (D : va_G) (cs : Nat → ClassId) (sh : gm_H) (sz : Nat) (I : gm_I) (J : gm_J) (r : Nat) (hM : is_Md sh r) (hV : inv_Md I r) (v : Int32) : CI l y_Md_open w_Md_open { frames := 2, cells := 0, slots := 0, locals := 48 } D cs sh sz I J [.ref r, .int v] (fun z u => (lpB I r v = false ∧ z = -2 ∧ u = (I, J)) ∨ (lpB I r v = true ∧ z = nI (openN I r (nN v) (st3 J r (nN v)).1 (st3 J r (nN v)).2.1 (st3 J r (nN v)).2.2) ∧ u = (I, xyz J r (st3 J r (nN v))))) := by
  refine gm_start (by decide) (Nat.le_of_ble_eq_true rfl) ?_
  intro p' e' s' m' be' me' co' ls C hml hlk hret hh hl
  have hl : lv_has ls 2 [(0, .ref r), (1, .int v)] := hl
  refine lv_aload_n C.1 C.2.1 d_Md_open_0 rfl (lv_at hl 0 rfl) ?_
  refine lv_iload_n C.1 C.2.1 d_Md_open_1 rfl (lv_at hl 1 rfl) ?_
  refine gc_i hh (gc_runV (As := [.int v]) (rest := []) (n := 1) C hml hh (c_Md_isLoop l D cs sh sz I J r hM hV v) (tg_V tw_695 tw_697 tw_26 tw_64 tw_698) (by decide +kernel) ⟨rfl, rfl, by decide, by decide, Nat.zero_le _, Nat.zero_le _⟩ (Md_0 hM) rfl rfl hl.1 rfl (Nat.le_of_ble_eq_true rfl) d_Md_open_2) (fun r_1 I_2 J_3 H locs hr_1 hh => ?_)
  obtain ⟨e_r_1, hr_1⟩ := hr_1
  rw [(Prod.mk.inj e_r_1).1, (Prod.mk.inj e_r_1).2] at hh
  refine lv_if_ne (tgt := 11) C.1 C.2.1 d_Md_open_5 (by decide) (fun c_4 => ?_) (fun c_4 => ?_)
  · -- 5 -> 11
    have b_5 := bI_t hr_1 c_4
    obtain ⟨n_7, hn_7, en_7⟩ := hV.1
    obtain ⟨j_6, hj_6, ej_6⟩ := lpB_j en_7 hn_7 b_5
    subst ej_6
    skip
    refine lv_aload_n C.1 C.2.1 d_Md_open_11 rfl (lv_at hl 0 rfl) ?_
    refine lv_iload_n C.1 C.2.1 d_Md_open_12 rfl (lv_at hl 1 rfl) ?_
    refine gc_v hh (gc_runV (As := [.int (nI j_6)]) (rest := []) (n := 1) C hml hh (c_Md_stand l D cs sh sz I J r hM j_6 (by omega)) (tg_V tw_854 tw_856 tw_48 tw_64 tw_857) (by decide +kernel) ⟨rfl, rfl, by decide, by decide, Nat.zero_le _, Nat.zero_le _⟩ (Md_0 hM) rfl rfl hl.1 rfl (Nat.le_of_ble_eq_true rfl) d_Md_open_13) (fun I_9 J_10 H locs hr_8 hh => ?_)
    have hr_8 : (I_9, J_10) = (I, xyz J r (st3 J r j_6)) := hr_8
    rw [(Prod.mk.inj hr_8).1, (Prod.mk.inj hr_8).2] at hh
    refine lv_aload_n C.1 C.2.1 d_Md_open_16 rfl (lv_at hl 0 rfl) ?_
    refine lv_iload_n C.1 C.2.1 d_Md_open_17 rfl (lv_at hl 1 rfl) ?_
    obtain ⟨ga, hga, ega⟩ := hV.2.2.2.1 j_6 (by omega)
    obtain ⟨wa, hwa, ewa⟩ := hV.2.2.1 j_6 (by omega)
    refine gc_i hh (gc_runV (As := [.int (nI j_6)]) (rest := []) (n := 1) C hml hh (c_Md_openAt l D cs sh sz I (xyz J r (st3 J r j_6)) r hM hV j_6 (by omega) ga wa hga hwa ega ewa) (tg_V tw_858 tw_860 tw_49 tw_64 tw_861) (by decide +kernel) ⟨rfl, rfl, by decide, by decide, Nat.zero_le _, Nat.zero_le _⟩ (Md_0 hM) rfl rfl hl.1 rfl (Nat.le_of_ble_eq_true rfl) d_Md_open_18) (fun r_11 I_12 J_13 H locs hr_11 hh => ?_)
    obtain ⟨e_r_11, hr_11⟩ := hr_11
    rw [(Prod.mk.inj e_r_11).1, (Prod.mk.inj e_r_11).2] at hh
    exact gr_i C hlk hret rfl hh (by refine Or.inr ⟨by assumption, ?_, ?_⟩; (all_goals rw [nN_nI (by omega)]); rw [hr_11, (xyz_at J r _).1, (xyz_at J r _).2.1, (xyz_at J r _).2.2]) d_Md_open_21
  · -- 5 -> 8
    have b_14 := bI_f hr_1 c_4
    skip
    refine lv_bipush (v := (-2)) C.1 C.2.1 d_Md_open_8 rfl ?_
    exact gr_i C hlk hret rfl hh (by exact Or.inl ⟨by assumption, rfl, rfl⟩) d_Md_open_10

set_option maxHeartbeats 4000000 in
set_option maxRecDepth 100000 in
theorem c_Md_step (l : Launch) (D : va_G) (cs : Nat → ClassId) (sh : gm_H) (sz : Nat) (I : gm_I) (J : gm_J) (r : Nat) (hM : is_Md sh r) (hV : inv_Md I r) (v : Int32) : CI l y_Md_step w_Md_step { frames := 3, cells := 0, slots := 0, locals := 76 } D cs sh sz I J [.ref r, .int v] (fun z u => (lpB I r v = false ∧ z = -2 ∧ u = (I, J)) ∨ (lpB I r v = true ∧ z = (wk1 I r (nN v) (st3 J r (nN v))).1 ∧ u = (I, put3 (xyz J r (wk1 I r (nN v) (st3 J r (nN v))).2) r (nN v) (wk1 I r (nN v) (st3 J r (nN v))).2))) := by
  refine gm_start (by decide) (Nat.le_of_ble_eq_true rfl) ?_
  intro p' e' s' m' be' me' co' ls C hml hlk hret hh hl
  have hl : lv_has ls 3 [(0, .ref r), (1, .int v)] := hl
  refine lv_aload_n C.1 C.2.1 d_Md_step_0 rfl (lv_at hl 0 rfl) ?_
  refine lv_iload_n C.1 C.2.1 d_Md_step_1 rfl (lv_at hl 1 rfl) ?_
  refine gc_i hh (gc_runV (As := [.int v]) (rest := []) (n := 1) C hml hh (c_Md_isLoop l D cs sh sz I J r hM hV v) (tg_V tw_695 tw_697 tw_26 tw_64 tw_698) (by decide +kernel) ⟨rfl, rfl, by decide, by decide, Nat.zero_le _, Nat.zero_le _⟩ (Md_0 hM) rfl rfl hl.1 rfl (Nat.le_of_ble_eq_true rfl) d_Md_step_2) (fun r_1 I_2 J_3 H locs hr_1 hh => ?_)
  obtain ⟨e_r_1, hr_1⟩ := hr_1
  rw [(Prod.mk.inj e_r_1).1, (Prod.mk.inj e_r_1).2] at hh
  refine lv_if_ne (tgt := 11) C.1 C.2.1 d_Md_step_5 (by decide) (fun c_4 => ?_) (fun c_4 => ?_)
  · -- 5 -> 11
    have b_5 := bI_t hr_1 c_4
    obtain ⟨n_7, hn_7, en_7⟩ := hV.1
    obtain ⟨j_6, hj_6, ej_6⟩ := lpB_j en_7 hn_7 b_5
    subst ej_6
    skip
    refine lv_aload_n C.1 C.2.1 d_Md_step_11 rfl (lv_at hl 0 rfl) ?_
    refine lv_iload_n C.1 C.2.1 d_Md_step_12 rfl (lv_at hl 1 rfl) ?_
    refine gc_v hh (gc_runV (As := [.int (nI j_6)]) (rest := []) (n := 1) C hml hh (c_Md_stand l D cs sh sz I J r hM j_6 (by omega)) (tg_V tw_854 tw_856 tw_48 tw_64 tw_857) (by decide +kernel) ⟨rfl, rfl, by decide, by decide, Nat.zero_le _, Nat.zero_le _⟩ (Md_0 hM) rfl rfl hl.1 rfl (Nat.le_of_ble_eq_true rfl) d_Md_step_13) (fun I_9 J_10 H locs hr_8 hh => ?_)
    have hr_8 : (I_9, J_10) = (I, xyz J r (st3 J r j_6)) := hr_8
    rw [(Prod.mk.inj hr_8).1, (Prod.mk.inj hr_8).2] at hh
    refine lv_aload_n C.1 C.2.1 d_Md_step_16 rfl (lv_at hl 0 rfl) ?_
    refine lv_iload_n C.1 C.2.1 d_Md_step_17 rfl (lv_at hl 1 rfl) ?_
    refine gc_i hh (gc_runV (As := [.int (nI j_6)]) (rest := []) (n := 1) C hml hh (c_Md_walks l D cs sh sz I (xyz J r (st3 J r j_6)) r hM hV j_6 (by omega)) (tg_V tw_870 tw_872 tw_51 tw_64 tw_873) (by decide +kernel) ⟨rfl, rfl, by decide, by decide, Nat.zero_le _, Nat.zero_le _⟩ (Md_0 hM) rfl rfl hl.1 rfl (Nat.le_of_ble_eq_true rfl) d_Md_step_18) (fun r_11 I_12 J_13 H locs hr_11 hh => ?_)
    rw [T3_xyz, xyz_xyz] at hr_11
    obtain ⟨hr_11, qhr_11⟩ := hr_11
    rw [(Prod.mk.inj qhr_11).1, (Prod.mk.inj qhr_11).2] at hh
    refine lv_istore_n (lv' := [(2, .int r_11), (0, .ref r), (1, .int (nI j_6))]) C.1 C.2.1 d_Md_step_21 rfl hl (by decide) rfl (fun ls hl => ?_)
    refine lv_aload_n C.1 C.2.1 d_Md_step_22 rfl (lv_at hl 1 rfl) ?_
    refine lv_iload_n C.1 C.2.1 d_Md_step_23 rfl (lv_at hl 2 rfl) ?_
    refine gc_v hh (gc_runV (As := [.int (nI j_6)]) (rest := []) (n := 1) C hml hh (c_Md_stay l D cs sh sz I (xyz J r (wk1 I r j_6 (st3 J r j_6)).2) r hM j_6 (by omega)) (tg_V tw_887 tw_889 tw_54 tw_64 tw_890) (by decide +kernel) ⟨rfl, rfl, by decide, by decide, Nat.zero_le _, Nat.zero_le _⟩ (Md_0 hM) rfl rfl hl.1 rfl (Nat.le_of_ble_eq_true rfl) d_Md_step_24) (fun I_15 J_16 H locs hr_14 hh => ?_)
    rw [stay_is J r j_6 (wk1 I r j_6 (st3 J r j_6)).2 rfl] at hr_14
    rw [(Prod.mk.inj hr_14).1, (Prod.mk.inj hr_14).2] at hh
    refine lv_iload_n C.1 C.2.1 d_Md_step_27 rfl (lv_at hl 0 rfl) ?_
    exact gr_i C hlk hret rfl hh (by refine Or.inr ⟨by assumption, ?_, ?_⟩; (all_goals rw [nN_nI (by omega)]); first | assumption | rfl) d_Md_step_28
  · -- 5 -> 8
    have b_17 := bI_f hr_1 c_4
    skip
    refine lv_bipush (v := (-2)) C.1 C.2.1 d_Md_step_8 rfl ?_
    exact gr_i C hlk hret rfl hh (by exact Or.inl ⟨by assumption, rfl, rfl⟩) d_Md_step_10

set_option maxHeartbeats 4000000 in
set_option maxRecDepth 100000 in
theorem c_Md_walk (l : Launch) (D : va_G) (cs : Nat → ClassId) (sh : gm_H) (sz : Nat) (I : gm_I) (J : gm_J) (r : Nat) (hM : is_Md sh r) (hV : inv_Md I r) (v x : Int32) : CI l y_Md_walk w_Md_walk { frames := 3, cells := 0, slots := 0, locals := 76 } D cs sh sz I J [.ref r, .int v, .int x] (fun z u => (lpB I r v = false ∧ z = -2 ∧ u = (I, J)) ∨ (lpB I r v = true ∧ inI x (nI 0) (nI 1000) = false ∧ z = -3 ∧ u = (I, J)) ∨ (lpB I r v = true ∧ inI x (nI 0) (nI 1000) = true ∧ z = nI (wkN I r (nN v) (nN x) (st3 J r (nN v))).1 ∧ u = (I, put3 (xyz J r (wkN I r (nN v) (nN x) (st3 J r (nN v))).2) r (nN v) (wkN I r (nN v) (nN x) (st3 J r (nN v))).2))) := by
  refine gm_start (by decide) (Nat.le_of_ble_eq_true rfl) ?_
  intro p' e' s' m' be' me' co' ls C hml hlk hret hh hl
  have hl : lv_has ls 4 [(0, .ref r), (1, .int v), (2, .int x)] := hl
  refine lv_aload_n C.1 C.2.1 d_Md_walk_0 rfl (lv_at hl 0 rfl) ?_
  refine lv_iload_n C.1 C.2.1 d_Md_walk_1 rfl (lv_at hl 1 rfl) ?_
  refine gc_i hh (gc_runV (As := [.int v]) (rest := []) (n := 1) C hml hh (c_Md_isLoop l D cs sh sz I J r hM hV v) (tg_V tw_695 tw_697 tw_26 tw_64 tw_698) (by decide +kernel) ⟨rfl, rfl, by decide, by decide, Nat.zero_le _, Nat.zero_le _⟩ (Md_0 hM) rfl rfl hl.1 rfl (Nat.le_of_ble_eq_true rfl) d_Md_walk_2) (fun r_1 I_2 J_3 H locs hr_1 hh => ?_)
  obtain ⟨e_r_1, hr_1⟩ := hr_1
  rw [(Prod.mk.inj e_r_1).1, (Prod.mk.inj e_r_1).2] at hh
  refine lv_if_ne (tgt := 11) C.1 C.2.1 d_Md_walk_5 (by decide) (fun c_4 => ?_) (fun c_4 => ?_)
  · -- 5 -> 11
    have b_5 := bI_t hr_1 c_4
    obtain ⟨n_7, hn_7, en_7⟩ := hV.1
    obtain ⟨j_6, hj_6, ej_6⟩ := lpB_j en_7 hn_7 b_5
    subst ej_6
    skip
    refine lv_iload_n C.1 C.2.1 d_Md_walk_11 rfl (lv_at hl 2 rfl) ?_
    refine lv_iconst (v := nI 0) C.1 C.2.1 d_Md_walk_12 rfl ?_
    refine lv_sipush (v := nI 1000) C.1 C.2.1 d_Md_walk_13 rfl ?_
    refine gc_i hh (gc_runS (As := [.int x, .int (nI 0), .int (nI 1000)]) (rest := []) (n := 3) C hml hh (c_Md_isIn l D cs sh sz I J x (nI 0) (nI 1000)) (tg_S tw_684 tw_685 tw_64 tw_686) (by decide +kernel) ⟨rfl, rfl, by decide, by decide, Nat.zero_le _, Nat.zero_le _⟩ rfl hl.1 rfl (Nat.le_of_ble_eq_true rfl) d_Md_walk_16) (fun r_8 I_9 J_10 H locs hr_8 hh => ?_)
    obtain ⟨e_r_8, hr_8⟩ := hr_8
    rw [(Prod.mk.inj e_r_8).1, (Prod.mk.inj e_r_8).2] at hh
    refine lv_if_ne (tgt := 25) C.1 C.2.1 d_Md_walk_19 (by decide) (fun c_11 => ?_) (fun c_11 => ?_)
    · -- 19 -> 25
      have b_12 := bI_t hr_8 c_11
      obtain ⟨k_13, hk_13, ek_13⟩ := inI_k (by omega) b_12
      subst ek_13
      skip
      refine lv_aload_n C.1 C.2.1 d_Md_walk_25 rfl (lv_at hl 0 rfl) ?_
      refine lv_iload_n C.1 C.2.1 d_Md_walk_26 rfl (lv_at hl 1 rfl) ?_
      refine gc_v hh (gc_runV (As := [.int (nI j_6)]) (rest := []) (n := 1) C hml hh (c_Md_stand l D cs sh sz I J r hM j_6 (by omega)) (tg_V tw_854 tw_856 tw_48 tw_64 tw_857) (by decide +kernel) ⟨rfl, rfl, by decide, by decide, Nat.zero_le _, Nat.zero_le _⟩ (Md_0 hM) rfl rfl hl.1 rfl (Nat.le_of_ble_eq_true rfl) d_Md_walk_27) (fun I_15 J_16 H locs hr_14 hh => ?_)
      have hr_14 : (I_15, J_16) = (I, xyz J r (st3 J r j_6)) := hr_14
      rw [(Prod.mk.inj hr_14).1, (Prod.mk.inj hr_14).2] at hh
      refine lv_iconst (v := nI 0) C.1 C.2.1 d_Md_walk_30 rfl ?_
      refine lv_istore_n (lv' := [(3, .int (nI 0)), (0, .ref r), (1, .int (nI j_6)), (2, .int (nI k_13))]) C.1 C.2.1 d_Md_walk_31 rfl hl (by decide) rfl (fun ls hl => ?_)
      have K32 : ∀ (n_32 : Nat) (d : Nat) (t : V3) (hd : d ≤ k_13) (ht : wkN I r j_6 k_13 (st3 J r j_6) = (d + (wkN I r j_6 (k_13 - d) t).1, (wkN I r j_6 (k_13 - d) t).2)) (hm_32 : k_13 - d < n_32), ∀ (H : Heap) (locs : List Loc) (ls : Array Slot), gm_St D cs sh (gm_A sh) s'.heap sz I (xyz J r t) H locs → lv_has ls 4 [(0, .ref r), (1, .int (nI j_6)), (2, .int (nI k_13)), (3, .int (nI d))] → W p' l e' { frames := 3, cells := 0, slots := 0, locals := 76 } s' m' ([.ref r, .int (nI j_6), .int (nI k_13)] : List Value).toArray be' me' co' H locs 0 0 (MQ be' (va_Qi (fun z u => (lpB I r (nI j_6) = false ∧ z = -2 ∧ u = (I, J)) ∨ (lpB I r (nI j_6) = true ∧ inI (nI k_13) (nI 0) (nI 1000) = false ∧ z = -3 ∧ u = (I, J)) ∨ (lpB I r (nI j_6) = true ∧ inI (nI k_13) (nI 0) (nI 1000) = true ∧ z = nI (wkN I r (nN (nI j_6)) (nN (nI k_13)) (st3 J r (nN (nI j_6)))).1 ∧ u = (I, put3 (xyz J r (wkN I r (nN (nI j_6)) (nN (nI k_13)) (st3 J r (nN (nI j_6)))).2) r (nN (nI j_6)) (wkN I r (nN (nI j_6)) (nN (nI k_13)) (st3 J r (nN (nI j_6)))).2))) (gm_B D cs sh sz) (gm_A sh)) ([.ref r, .int (nI j_6), .int (nI k_13)] : List Value).toArray s' 0 0 (gm_A sh)) (F0 m' 32 ls []) := by
        intro n_32
        induction n_32 with
        | zero => intro d t hd ht hm_32; exact absurd hm_32 (Nat.not_lt_zero _)
        | succ n_32 ih32 =>
          intro d t hd ht hm_32 H locs ls hh hl
          refine lv_iload_n C.1 C.2.1 d_Md_walk_32 rfl (lv_at hl 3 rfl) ?_
          refine lv_iload_n C.1 C.2.1 d_Md_walk_33 rfl (lv_at hl 2 rfl) ?_
          refine lv_icmp_ge (tgt := 51) C.1 C.2.1 d_Md_walk_34 (by decide) (fun c_17 => ?_) (fun c_17 => ?_)
          · -- 34 -> 51
            have c_17 := gm_get (by omega) (by omega) c_17
            have c_17' := Nat.not_lt.mpr c_17
            refine lv_aload_n C.1 C.2.1 d_Md_walk_51 rfl (lv_at hl 0 rfl) ?_
            refine lv_iload_n C.1 C.2.1 d_Md_walk_52 rfl (lv_at hl 1 rfl) ?_
            refine gc_v hh (gc_runV (As := [.int (nI j_6)]) (rest := []) (n := 1) C hml hh (c_Md_stay l D cs sh sz I (xyz J r t) r hM j_6 (by omega)) (tg_V tw_887 tw_889 tw_54 tw_64 tw_890) (by decide +kernel) ⟨rfl, rfl, by decide, by decide, Nat.zero_le _, Nat.zero_le _⟩ (Md_0 hM) rfl rfl hl.1 rfl (Nat.le_of_ble_eq_true rfl) d_Md_walk_53) (fun I_19 J_20 H locs hr_18 hh => ?_)
            rw [stay_is J r j_6 t rfl] at hr_18
            rw [(Prod.mk.inj hr_18).1, (Prod.mk.inj hr_18).2] at hh
            refine lv_iload_n C.1 C.2.1 d_Md_walk_56 rfl (lv_at hl 3 rfl) ?_
            exact gr_i C hlk hret rfl hh (by refine Or.inr (Or.inr ⟨by assumption, by assumption, ?_⟩); rw [nN_nI (by omega), nN_nI (by omega)]; first | (rw [wkN_end ht (by omega)]; exact ⟨rfl, rfl⟩) | (rw [wkN_stop ht (by rw [← hr_8]; assumption), wk1_stay (by rw [← hr_8]; assumption)]; exact ⟨rfl, rfl⟩)) d_Md_walk_57
          · -- 34 -> 37
            have c_17 := gm_gef (by omega) (by omega) c_17
            have c_17' := Nat.not_le.mpr c_17
            refine lv_aload_n C.1 C.2.1 d_Md_walk_37 rfl (lv_at hl 0 rfl) ?_
            refine lv_iload_n C.1 C.2.1 d_Md_walk_38 rfl (lv_at hl 1 rfl) ?_
            refine gc_i hh (gc_runV (As := [.int (nI j_6)]) (rest := []) (n := 1) C hml hh (c_Md_walks l D cs sh sz I (xyz J r t) r hM hV j_6 (by omega)) (tg_V tw_870 tw_872 tw_51 tw_64 tw_873) (by decide +kernel) ⟨rfl, rfl, by decide, by decide, Nat.zero_le _, Nat.zero_le _⟩ (Md_0 hM) rfl rfl hl.1 rfl (Nat.le_of_ble_eq_true rfl) d_Md_walk_39) (fun r_21 I_22 J_23 H locs hr_21 hh => ?_)
            rw [T3_xyz, xyz_xyz] at hr_21
            obtain ⟨hr_21, qhr_21⟩ := hr_21
            rw [(Prod.mk.inj qhr_21).1, (Prod.mk.inj qhr_21).2] at hh
            refine lv_if_lt (tgt := 51) C.1 C.2.1 d_Md_walk_42 (by decide) (fun c_24 => ?_) (fun c_24 => ?_)
            · -- 42 -> 51
              skip
              refine lv_aload_n C.1 C.2.1 d_Md_walk_51 rfl (lv_at hl 0 rfl) ?_
              refine lv_iload_n C.1 C.2.1 d_Md_walk_52 rfl (lv_at hl 1 rfl) ?_
              refine gc_v hh (gc_runV (As := [.int (nI j_6)]) (rest := []) (n := 1) C hml hh (c_Md_stay l D cs sh sz I (xyz J r (wk1 I r j_6 t).2) r hM j_6 (by omega)) (tg_V tw_887 tw_889 tw_54 tw_64 tw_890) (by decide +kernel) ⟨rfl, rfl, by decide, by decide, Nat.zero_le _, Nat.zero_le _⟩ (Md_0 hM) rfl rfl hl.1 rfl (Nat.le_of_ble_eq_true rfl) d_Md_walk_53) (fun I_26 J_27 H locs hr_25 hh => ?_)
              rw [stay_is J r j_6 (wk1 I r j_6 t).2 rfl] at hr_25
              rw [(Prod.mk.inj hr_25).1, (Prod.mk.inj hr_25).2] at hh
              refine lv_iload_n C.1 C.2.1 d_Md_walk_56 rfl (lv_at hl 3 rfl) ?_
              exact gr_i C hlk hret rfl hh (by refine Or.inr (Or.inr ⟨by assumption, by assumption, ?_⟩); rw [nN_nI (by omega), nN_nI (by omega)]; first | (rw [wkN_end ht (by omega)]; exact ⟨rfl, rfl⟩) | (rw [wkN_stop ht (by rw [← hr_21]; assumption), wk1_stay (by rw [← hr_21]; assumption)]; exact ⟨rfl, rfl⟩)) d_Md_walk_57
            · -- 42 -> 45
              skip
              refine lv_iinc (v := nI (d + 1)) (lv' := [(3, .int (nI (d + 1))), (0, .ref r), (1, .int (nI j_6)), (2, .int (nI k_13))]) C.1 C.2.1 d_Md_walk_45 hl (k := 3) rfl (gm_inc d 1) (by decide) rfl (fun ls hl => ?_)
              refine lv_goto (tgt := 32) C.1 C.2.1 d_Md_walk_48 (by decide) ?_
              exact ih32 (d + 1) ((wk1 I r j_6 t).2) (by omega) (by exact wkN_step ht (by omega) (by rw [← hr_21]; assumption)) (by omega) _ _ _ hh (lv_sub hl [1, 2, 3, 0] rfl)
      exact K32 _ 0 (st3 J r j_6) (by omega) (by simp) (Nat.lt_succ_self _) _ _ _ hh (lv_sub hl [1, 2, 3, 0] rfl)
    · -- 19 -> 22
      have b_28 := bI_f hr_8 c_11
      skip
      refine lv_bipush (v := (-3)) C.1 C.2.1 d_Md_walk_22 rfl ?_
      exact gr_i C hlk hret rfl hh (by exact Or.inr (Or.inl ⟨by assumption, by assumption, rfl, rfl⟩)) d_Md_walk_24
  · -- 5 -> 8
    have b_29 := bI_f hr_1 c_4
    skip
    refine lv_bipush (v := (-2)) C.1 C.2.1 d_Md_walk_8 rfl ?_
    exact gr_i C hlk hret rfl hh (by exact Or.inl ⟨by assumption, rfl, rfl⟩) d_Md_walk_10
