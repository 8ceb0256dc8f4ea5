set_option maxHeartbeats 4000000 in
set_option maxRecDepth 100000 in
theorem c_Md_go (l : Launch) (D : va_G) (cs : Nat → ClassId) (sh : gm_H) (sz : Nat) (I : gm_I) (J : gm_J) (r : Nat) (hM : is_Md sh r) (hV : inv_Md I r) (v w : Int32) : CI l y_Md_go w_Md_go { frames := 3, cells := 0, slots := 0, locals := 65 } D cs sh sz I J [.ref r, .int v, .int w] (fun z u => (z, u) = sp_go I J r v w) := by
  refine gm_start (by decide) (Nat.le_of_ble_eq_true rfl) ?_
  intro p' e' s' m' be' me' co' ls C hml hlk hret hh hl
  have hl : lv_has ls 4 [(0, .ref r), (1, .int v), (2, .int w)] := hl
  refine lv_aload_n C.1 C.2.1 d_Md_go_0 rfl (lv_at hl 0 rfl) ?_
  refine lv_iload_n C.1 C.2.1 d_Md_go_1 rfl (lv_at hl 1 rfl) ?_
  refine lv_iload_n C.1 C.2.1 d_Md_go_2 rfl (lv_at hl 2 rfl) ?_
  refine gc_i hh (gc_runV (As := [.int v, .int w]) (rest := []) (n := 2) C hml hh (c_Md_isWay l D cs sh sz I J r hM hV v w) (tg_V tw_718 tw_720 tw_29 tw_64 tw_721) (by decide +kernel) ⟨rfl, rfl, by decide, by decide, Nat.zero_le _, Nat.zero_le _⟩ (Md_0 hM) rfl rfl hl.1 rfl (Nat.le_of_ble_eq_true rfl) d_Md_go_3) (fun r_1 I_2 J_3 H locs hr_1 hh => ?_)
  obtain ⟨e_r_1, hr_1⟩ := hr_1
  rw [(Prod.mk.inj e_r_1).1, (Prod.mk.inj e_r_1).2] at hh
  refine lv_if_ne (tgt := 12) C.1 C.2.1 d_Md_go_6 (by decide) (fun c_4 => ?_) (fun c_4 => ?_)
  · -- 6 -> 12
    have b_5 := bI_t hr_1 c_4
    obtain ⟨j_6, k_7, hj_6, hk_7, ej_6, ek_7, lp_k_7, lt_k_7⟩ := wyB_j hV b_5
    subst ej_6
    subst ek_7
    skip
    refine lv_aload_n C.1 C.2.1 d_Md_go_12 rfl (lv_at hl 0 rfl) ?_
    refine lv_iload_n C.1 C.2.1 d_Md_go_13 rfl (lv_at hl 1 rfl) ?_
    refine gc_v hh (gc_runV (As := [.int (nI j_6)]) (rest := []) (n := 1) C hml hh (c_Md_stand l D cs sh sz I J r hM j_6 (by omega)) (tg_V tw_854 tw_856 tw_48 tw_64 tw_857) (by decide +kernel) ⟨rfl, rfl, by decide, by decide, Nat.zero_le _, Nat.zero_le _⟩ (Md_0 hM) rfl rfl hl.1 rfl (Nat.le_of_ble_eq_true rfl) d_Md_go_14) (fun I_9 J_10 H locs hr_8 hh => ?_)
    have hr_8 : (I_9, J_10) = (I, xyz J r (st3 J r j_6)) := hr_8
    rw [(Prod.mk.inj hr_8).1, (Prod.mk.inj hr_8).2] at hh
    refine lv_aload_n C.1 C.2.1 d_Md_go_17 rfl (lv_at hl 0 rfl) ?_
    refine lv_iload_n C.1 C.2.1 d_Md_go_18 rfl (lv_at hl 1 rfl) ?_
    obtain ⟨ga, hga, ega⟩ := hV.2.2.2.1 j_6 (by omega)
    obtain ⟨wa, hwa, ewa⟩ := hV.2.2.1 j_6 (by omega)
    refine gc_i hh (gc_runV (As := [.int (nI j_6)]) (rest := []) (n := 1) C hml hh (c_Md_openAt l D cs sh sz I (xyz J r (st3 J r j_6)) r hM hV j_6 (by omega) ga wa hga hwa ega ewa) (tg_V tw_858 tw_860 tw_49 tw_64 tw_861) (by decide +kernel) ⟨rfl, rfl, by decide, by decide, Nat.zero_le _, Nat.zero_le _⟩ (Md_0 hM) rfl rfl hl.1 rfl (Nat.le_of_ble_eq_true rfl) d_Md_go_19) (fun r_11 I_12 J_13 H locs hr_11 hh => ?_)
    obtain ⟨e_r_11, hr_11⟩ := hr_11
    rw [(Prod.mk.inj e_r_11).1, (Prod.mk.inj e_r_11).2] at hh
    rw [(xyz_at J r _).1, (xyz_at J r _).2.1, (xyz_at J r _).2.2] at hr_11
    obtain ⟨o_14, eo_14⟩ : ∃ z : Nat, z = openN I r j_6 (st3 J r j_6).1 (st3 J r j_6).2.1 (st3 J r j_6).2.2 := ⟨_, rfl⟩
    have lo_14 : o_14 < 8 := by rw [eo_14]; exact openN_lt (by rw [ewa, nN_nI (by omega)]; exact hwa)
    rw [← eo_14] at hr_11
    rw [hr_11]
    refine lv_iload_n C.1 C.2.1 d_Md_go_22 rfl (lv_at hl 2 rfl) ?_
    refine lv_ishr C.1 C.2.1 d_Md_go_23 ?_
    refine gm_eqi (gm_shr (by first | omega | exact gm_dv (by omega)) (by first | omega | exact gm_dv (by omega))) ?_
    refine lv_iconst (v := nI 1) C.1 C.2.1 d_Md_go_24 rfl ?_
    refine lv_iand C.1 C.2.1 d_Md_go_25 ?_
    refine gm_eqi (gm_and1 (by first | omega | exact gm_dv (by omega))) ?_
    refine lv_if_ne (tgt := 31) C.1 C.2.1 d_Md_go_26 (by decide) (fun c_15 => ?_) (fun c_15 => ?_)
    · -- 26 -> 31
      have c_15 := gm_net (b := 0) (by first | omega | exact gm_dv (by omega)) (by omega) c_15
      refine lv_aload_n C.1 C.2.1 d_Md_go_31 rfl (lv_at hl 0 rfl) ?_
      refine lv_iload_n C.1 C.2.1 d_Md_go_32 rfl (lv_at hl 1 rfl) ?_
      refine lv_iload_n C.1 C.2.1 d_Md_go_33 rfl (lv_at hl 2 rfl) ?_
      refine gc_i hh (gc_runV (As := [.int (nI j_6), .int (nI k_7)]) (rest := []) (n := 2) C hml hh (c_Md_goes l D cs sh sz I (xyz J r (st3 J r j_6)) r hM hV j_6 (by omega) k_7 (by omega)) (tg_V tw_874 tw_876 tw_52 tw_64 tw_877) (by decide +kernel) ⟨rfl, rfl, by decide, by decide, Nat.zero_le _, Nat.zero_le _⟩ (Md_0 hM) rfl rfl hl.1 rfl (Nat.le_of_ble_eq_true rfl) d_Md_go_34) (fun r_16 I_17 J_18 H locs hr_16 hh => ?_)
      rw [sp_goes, gV_at, xyz_xyz] at hr_16
      obtain ⟨v_19, fv_19, ev_19⟩ : ∃ z : V3, (z = (goV I r j_6 k_7 (st3 J r j_6).1 (st3 J r j_6).2.1 (st3 J r j_6).2.2) ∧ goB (goV I r j_6 k_7 (st3 J r j_6).1 (st3 J r j_6).2.1 (st3 J r j_6).2.2) = true ∧ r_16 = 1 ∨ z = (st3 J r j_6) ∧ goB (goV I r j_6 k_7 (st3 J r j_6).1 (st3 J r j_6).2.1 (st3 J r j_6).2.2) = false ∧ r_16 = 0) ∧ (I_17, J_18) = (I, xyz J r z) := by
        by_cases hg : goB (goV I r j_6 k_7 (st3 J r j_6).1 (st3 J r j_6).2.1 (st3 J r j_6).2.2) = true
        · rw [if_pos hg] at hr_16; exact ⟨_, Or.inl ⟨rfl, hg, (Prod.mk.inj hr_16).1⟩, (Prod.mk.inj hr_16).2⟩
        · rw [if_neg hg] at hr_16; exact ⟨_, Or.inr ⟨rfl, Bool.eq_false_iff.mpr hg, (Prod.mk.inj hr_16).1⟩, (Prod.mk.inj hr_16).2⟩
      rw [(Prod.mk.inj ev_19).1, (Prod.mk.inj ev_19).2] at hh
      refine lv_istore_n (lv' := [(3, .int r_16), (0, .ref r), (1, .int (nI j_6)), (2, .int (nI k_7))]) C.1 C.2.1 d_Md_go_37 rfl hl (by decide) rfl (fun ls hl => ?_)
      refine lv_aload_n C.1 C.2.1 d_Md_go_38 rfl (lv_at hl 1 rfl) ?_
      refine lv_iload_n C.1 C.2.1 d_Md_go_39 rfl (lv_at hl 2 rfl) ?_
      refine gc_v hh (gc_runV (As := [.int (nI j_6)]) (rest := []) (n := 1) C hml hh (c_Md_stay l D cs sh sz I (xyz J r v_19) r hM j_6 (by omega)) (tg_V tw_887 tw_889 tw_54 tw_64 tw_890) (by decide +kernel) ⟨rfl, rfl, by decide, by decide, Nat.zero_le _, Nat.zero_le _⟩ (Md_0 hM) rfl rfl hl.1 rfl (Nat.le_of_ble_eq_true rfl) d_Md_go_40) (fun I_21 J_22 H locs hr_20 hh => ?_)
      rw [stay_is J r j_6 v_19 rfl] at hr_20
      rw [(Prod.mk.inj hr_20).1, (Prod.mk.inj hr_20).2] at hh
      refine lv_iload_n C.1 C.2.1 d_Md_go_43 rfl (lv_at hl 0 rfl) ?_
      refine lv_if_eq (tgt := 51) C.1 C.2.1 d_Md_go_44 (by decide) (fun c_23 => ?_) (fun c_23 => ?_)
      · -- 44 -> 51
        skip
        refine lv_bipush (v := (-5)) C.1 C.2.1 d_Md_go_51 rfl ?_
        exact gr_i C hlk hret rfl hh (by rcases fv_19 with ⟨e1, e2, e3⟩ | ⟨e1, e2, e3⟩; all_goals (first | (exfalso; simp_all; done) | (subst e1; rw [sp_go, if_pos (by assumption), nN_nI (by omega), nN_nI (by omega), ← eo_14, if_neg (by assumption), if_pos e2]; rfl) | (subst e1; rw [sp_go, if_pos (by assumption), nN_nI (by omega), nN_nI (by omega), ← eo_14, if_neg (by assumption), if_neg (by rw [e2]; decide)]))) d_Md_go_53
      · -- 44 -> 47
        skip
        refine lv_iconst (v := nI 1) C.1 C.2.1 d_Md_go_47 rfl ?_
        refine lv_goto (tgt := 53) C.1 C.2.1 d_Md_go_48 (by decide) ?_
        exact gr_i C hlk hret rfl hh (by rcases fv_19 with ⟨e1, e2, e3⟩ | ⟨e1, e2, e3⟩; all_goals (first | (exfalso; simp_all; done) | (subst e1; rw [sp_go, if_pos (by assumption), nN_nI (by omega), nN_nI (by omega), ← eo_14, if_neg (by assumption), if_pos e2]; rfl) | (subst e1; rw [sp_go, if_pos (by assumption), nN_nI (by omega), nN_nI (by omega), ← eo_14, if_neg (by assumption), if_neg (by rw [e2]; decide)]))) d_Md_go_53
    · -- 26 -> 29
      have c_15 := gm_nef (b := 0) (by first | omega | exact gm_dv (by omega)) (by omega) c_15
      refine lv_iconst (v := nI 0) C.1 C.2.1 d_Md_go_29 rfl ?_
      exact gr_i C hlk hret rfl hh (by rw [sp_go, if_pos (by assumption), nN_nI (by omega), nN_nI (by omega), ← eo_14, if_pos (by assumption)]; rfl) d_Md_go_30
  · -- 6 -> 9
    have b_24 := bI_f hr_1 c_4
    skip
    refine lv_bipush (v := (-2)) C.1 C.2.1 d_Md_go_9 rfl ?_
    exact gr_i C hlk hret rfl hh (by simp [sp_go, b_24]) d_Md_go_11

set_option maxHeartbeats 4000000 in
set_option maxRecDepth 100000 in
theorem c_Md_comesBack (l : Launch) (D : va_G) (cs : Nat → ClassId) (sh : gm_H) (sz : Nat) (I : gm_I) (J : gm_J) (r : Nat) (hM : is_Md sh r) (hV : inv_Md I r) (j : Nat) (hj : j < 8) (a b c : Int32) : CI l y_Md_comesBack w_Md_comesBack { frames := 3, cells := 0, slots := 0, locals := 76 } D cs sh sz I J [.ref r, .int (nI j), .int a, .int b, .int c] (fun z u => z = nI (cb I r j (a.toInt64, b.toInt64, c.toInt64) 200 1 (a.toInt64, b.toInt64, c.toInt64)) ∧ ∃ t : V3, u = (I, xyz J r t)) := by
  refine gm_start (by decide) (Nat.le_of_ble_eq_true rfl) ?_
  intro p' e' s' m' be' me' co' ls C hml hlk hret hh hl
  have hl : lv_has ls 6 [(0, .ref r), (1, .int (nI j)), (2, .int a), (3, .int b), (4, .int c)] := hl
  refine lv_aload_n C.1 C.2.1 d_Md_comesBack_0 rfl (lv_at hl 0 rfl) ?_
  refine lv_iload_n C.1 C.2.1 d_Md_comesBack_1 rfl (lv_at hl 2 rfl) ?_
  refine lv_i2l (v := a.toInt64) C.1 C.2.1 d_Md_comesBack_2 rfl ?_
  refine gp_l C hh (Md_0 hM) rfl in_Md t_Md t_Md_ok n_Md 35 (by decide) rfl tw_600 rfl rfl (by decide +kernel) d_Md_comesBack_3 (fun H locs hh => ?_)
  obtain ⟨J_1, eJ_1⟩ : ∃ z : gm_J, z = gm_up J r 35 a.toInt64 := ⟨_, rfl⟩
  rw [← eJ_1] at hh
  refine lv_aload_n C.1 C.2.1 d_Md_comesBack_6 rfl (lv_at hl 0 rfl) ?_
  refine lv_iload_n C.1 C.2.1 d_Md_comesBack_7 rfl (lv_at hl 3 rfl) ?_
  refine lv_i2l (v := b.toInt64) C.1 C.2.1 d_Md_comesBack_8 rfl ?_
  refine gp_l C hh (Md_0 hM) rfl in_Md t_Md t_Md_ok n_Md 36 (by decide) rfl tw_601 rfl rfl (by decide +kernel) d_Md_comesBack_9 (fun H locs hh => ?_)
  obtain ⟨J_2, eJ_2⟩ : ∃ z : gm_J, z = gm_up J_1 r 36 b.toInt64 := ⟨_, rfl⟩
  rw [← eJ_2] at hh
  refine lv_aload_n C.1 C.2.1 d_Md_comesBack_12 rfl (lv_at hl 0 rfl) ?_
  refine lv_iload C.1 C.2.1 d_Md_comesBack_13 (lv_at hl 4 rfl) ?_
  refine lv_i2l (v := c.toInt64) C.1 C.2.1 d_Md_comesBack_15 rfl ?_
  refine gp_l C hh (Md_0 hM) rfl in_Md t_Md t_Md_ok n_Md 37 (by decide) rfl tw_602 rfl rfl (by decide +kernel) d_Md_comesBack_16 (fun H locs hh => ?_)
  obtain ⟨J_3, eJ_3⟩ : ∃ z : gm_J, z = gm_up J_2 r 37 c.toInt64 := ⟨_, rfl⟩
  rw [← eJ_3] at hh
  refine lv_iconst (v := nI 1) C.1 C.2.1 d_Md_comesBack_19 rfl ?_
  refine lv_istore (lv' := [(5, .int (nI 1)), (0, .ref r), (1, .int (nI j)), (2, .int a), (3, .int b), (4, .int c)]) C.1 C.2.1 d_Md_comesBack_20 hl (by decide) rfl (fun ls hl => ?_)
  have hh : gm_St D cs sh (gm_A sh) s'.heap sz I (xyz J r (a.toInt64, b.toInt64, c.toInt64)) H locs := by simp only [eJ_1, eJ_2, eJ_3] at hh; exact hh
  have K22 : ∀ (n_22 : Nat) (k : Nat) (t : V3) (hk : 1 ≤ k) (hk2 : k ≤ 201) (ht : cb I r j (a.toInt64, b.toInt64, c.toInt64) 200 1 (a.toInt64, b.toInt64, c.toInt64) = cb I r j (a.toInt64, b.toInt64, c.toInt64) (201 - k) k t) (hm_22 : 201 - k < n_22), ∀ (H : Heap) (locs : List Loc) (ls : Array Slot), gm_St D cs sh (gm_A sh) s'.heap sz I (xyz J r t) H locs → lv_has ls 6 [(0, .ref r), (1, .int (nI j)), (2, .int a), (3, .int b), (4, .int c), (5, .int (nI k))] → W p' l e' { frames := 3, cells := 0, slots := 0, locals := 76 } s' m' ([.ref r, .int (nI j), .int a, .int b, .int c] : List Value).toArray be' me' co' H locs 0 0 (MQ be' (va_Qi (fun z u => z = nI (cb I r j (a.toInt64, b.toInt64, c.toInt64) 200 1 (a.toInt64, b.toInt64, c.toInt64)) ∧ ∃ t : V3, u = (I, xyz J r t)) (gm_B D cs sh sz) (gm_A sh)) ([.ref r, .int (nI j), .int a, .int b, .int c] : List Value).toArray s' 0 0 (gm_A sh)) (F0 m' 22 ls []) := by
    intro n_22
    induction n_22 with
    | zero => intro k t hk hk2 ht hm_22; exact absurd hm_22 (Nat.not_lt_zero _)
    | succ n_22 ih22 =>
      intro k t hk hk2 ht hm_22 H locs ls hh hl
      refine lv_iload C.1 C.2.1 d_Md_comesBack_22 (lv_at hl 5 rfl) ?_
      refine lv_sipush (v := nI 200) C.1 C.2.1 d_Md_comesBack_24 rfl ?_
      refine lv_icmp_gt (tgt := 80) C.1 C.2.1 d_Md_comesBack_27 (by decide) (fun c_4 => ?_) (fun c_4 => ?_)
      · -- 27 -> 80
        have c_4 := gm_gtt (by omega) (by omega) c_4
        have c_4' := Nat.not_le.mpr c_4
        refine lv_iconst (v := nI 0) C.1 C.2.1 d_Md_comesBack_80 rfl ?_
        exact gr_i C hlk hret rfl hh (by refine ⟨?_, _, rfl⟩; rw [ht, show 201 - k = 0 by omega]; rfl) d_Md_comesBack_81
      · -- 27 -> 30
        have c_4 := gm_gtf (by omega) (by omega) c_4
        have c_4' := Nat.not_lt.mpr c_4
        refine lv_aload_n C.1 C.2.1 d_Md_comesBack_30 rfl (lv_at hl 0 rfl) ?_
        refine lv_iload_n C.1 C.2.1 d_Md_comesBack_31 rfl (lv_at hl 1 rfl) ?_
        refine gc_i hh (gc_runV (As := [.int (nI j)]) (rest := []) (n := 1) C hml hh (c_Md_walks l D cs sh sz I (xyz J r t) r hM hV j (by omega)) (tg_V tw_870 tw_872 tw_51 tw_64 tw_873) (by decide +kernel) ⟨rfl, rfl, by decide, by decide, Nat.zero_le _, Nat.zero_le _⟩ (Md_0 hM) rfl rfl hl.1 rfl (Nat.le_of_ble_eq_true rfl) d_Md_comesBack_32) (fun r_5 I_6 J_7 H locs hr_5 hh => ?_)
        rw [T3_xyz, xyz_xyz] at hr_5
        obtain ⟨hr_5, qhr_5⟩ := hr_5
        rw [(Prod.mk.inj qhr_5).1, (Prod.mk.inj qhr_5).2] at hh
        refine lv_if_ge (tgt := 40) C.1 C.2.1 d_Md_comesBack_35 (by decide) (fun c_8 => ?_) (fun c_8 => ?_)
        · -- 35 -> 40
          skip
          refine lv_aload_n C.1 C.2.1 d_Md_comesBack_40 rfl (lv_at hl 0 rfl) ?_
          refine gg_l C hh (Md_0 hM) rfl in_Md 35 (by decide) rfl tw_600 rfl d_Md_comesBack_41 ?_
          refine lv_iload_n C.1 C.2.1 d_Md_comesBack_44 rfl (lv_at hl 2 rfl) ?_
          refine lv_i2l (v := a.toInt64) C.1 C.2.1 d_Md_comesBack_45 rfl ?_
          refine W.lcmp C.1 C.2.1 d_Md_comesBack_46 ?_
          refine lv_if_ne (tgt := 74) C.1 C.2.1 d_Md_comesBack_47 (by decide) (fun c_9 => ?_) (fun c_9 => ?_)
          · -- 47 -> 74
            have c_9 := gm_lnet c_9
            refine lv_iinc (v := nI (k + 1)) (lv' := [(5, .int (nI (k + 1))), (0, .ref r), (1, .int (nI j)), (2, .int a), (3, .int b), (4, .int c)]) C.1 C.2.1 d_Md_comesBack_74 hl (k := 5) rfl (gm_inc k 1) (by decide) rfl (fun ls hl => ?_)
            refine lv_goto (tgt := 22) C.1 C.2.1 d_Md_comesBack_77 (by decide) ?_
            exact ih22 (k + 1) ((wk1 I r j t).2) (by omega) (by omega) (by rw [ht, show 201 - k = (201 - (k + 1)) + 1 by omega]; exact cb_in (by rw [← hr_5]; exact Int32.not_lt.mpr (by assumption)) (by first | exact ne3a (by assumption) | exact ne3b (by assumption) | exact ne3c (by assumption))) (by omega) _ _ _ hh (lv_sub hl [1, 2, 3, 4, 5, 0] rfl)
          · -- 47 -> 50
            have c_9 := gm_lnef c_9
            refine lv_aload_n C.1 C.2.1 d_Md_comesBack_50 rfl (lv_at hl 0 rfl) ?_
            refine gg_l C hh (Md_0 hM) rfl in_Md 36 (by decide) rfl tw_601 rfl d_Md_comesBack_51 ?_
            refine lv_iload_n C.1 C.2.1 d_Md_comesBack_54 rfl (lv_at hl 3 rfl) ?_
            refine lv_i2l (v := b.toInt64) C.1 C.2.1 d_Md_comesBack_55 rfl ?_
            refine W.lcmp C.1 C.2.1 d_Md_comesBack_56 ?_
            refine lv_if_ne (tgt := 74) C.1 C.2.1 d_Md_comesBack_57 (by decide) (fun c_10 => ?_) (fun c_10 => ?_)
            · -- 57 -> 74
              have c_10 := gm_lnet c_10
              refine lv_iinc (v := nI (k + 1)) (lv' := [(5, .int (nI (k + 1))), (0, .ref r), (1, .int (nI j)), (2, .int a), (3, .int b), (4, .int c)]) C.1 C.2.1 d_Md_comesBack_74 hl (k := 5) rfl (gm_inc k 1) (by decide) rfl (fun ls hl => ?_)
              refine lv_goto (tgt := 22) C.1 C.2.1 d_Md_comesBack_77 (by decide) ?_
              exact ih22 (k + 1) ((wk1 I r j t).2) (by omega) (by omega) (by rw [ht, show 201 - k = (201 - (k + 1)) + 1 by omega]; exact cb_in (by rw [← hr_5]; exact Int32.not_lt.mpr (by assumption)) (by first | exact ne3a (by assumption) | exact ne3b (by assumption) | exact ne3c (by assumption))) (by omega) _ _ _ hh (lv_sub hl [1, 2, 3, 4, 5, 0] rfl)
            · -- 57 -> 60
              have c_10 := gm_lnef c_10
              refine lv_aload_n C.1 C.2.1 d_Md_comesBack_60 rfl (lv_at hl 0 rfl) ?_
              refine gg_l C hh (Md_0 hM) rfl in_Md 37 (by decide) rfl tw_602 rfl d_Md_comesBack_61 ?_
              refine lv_iload C.1 C.2.1 d_Md_comesBack_64 (lv_at hl 4 rfl) ?_
              refine lv_i2l (v := c.toInt64) C.1 C.2.1 d_Md_comesBack_66 rfl ?_
              refine W.lcmp C.1 C.2.1 d_Md_comesBack_67 ?_
              refine lv_if_ne (tgt := 74) C.1 C.2.1 d_Md_comesBack_68 (by decide) (fun c_11 => ?_) (fun c_11 => ?_)
              · -- 68 -> 74
                have c_11 := gm_lnet c_11
                refine lv_iinc (v := nI (k + 1)) (lv' := [(5, .int (nI (k + 1))), (0, .ref r), (1, .int (nI j)), (2, .int a), (3, .int b), (4, .int c)]) C.1 C.2.1 d_Md_comesBack_74 hl (k := 5) rfl (gm_inc k 1) (by decide) rfl (fun ls hl => ?_)
                refine lv_goto (tgt := 22) C.1 C.2.1 d_Md_comesBack_77 (by decide) ?_
                exact ih22 (k + 1) ((wk1 I r j t).2) (by omega) (by omega) (by rw [ht, show 201 - k = (201 - (k + 1)) + 1 by omega]; exact cb_in (by rw [← hr_5]; exact Int32.not_lt.mpr (by assumption)) (by first | exact ne3a (by assumption) | exact ne3b (by assumption) | exact ne3c (by assumption))) (by omega) _ _ _ hh (lv_sub hl [1, 2, 3, 4, 5, 0] rfl)
              · -- 68 -> 71
                have c_11 := gm_lnef c_11
                refine lv_iload C.1 C.2.1 d_Md_comesBack_71 (lv_at hl 5 rfl) ?_
                exact gr_i C hlk hret rfl hh (by refine ⟨?_, _, rfl⟩; rw [ht, show 201 - k = (200 - k) + 1 by omega, cb_yes (by rw [← hr_5]; exact Int32.not_lt.mpr (by assumption)) (eq3 (by assumption) (by assumption) (by assumption))]) d_Md_comesBack_73
        · -- 35 -> 38
          skip
          refine lv_iconst (v := nI 0) C.1 C.2.1 d_Md_comesBack_38 rfl ?_
          exact gr_i C hlk hret rfl hh (by refine ⟨?_, _, rfl⟩; rw [ht, show 201 - k = (200 - k) + 1 by omega, cb_no (by rw [← hr_5]; exact Int32.not_le.mp (by assumption))]) d_Md_comesBack_39
  exact K22 _ 1 (a.toInt64, b.toInt64, c.toInt64) (by omega) (by omega) (by rfl) (Nat.lt_succ_self _) _ _ _ hh (lv_sub hl [1, 2, 3, 4, 5, 0] rfl)
