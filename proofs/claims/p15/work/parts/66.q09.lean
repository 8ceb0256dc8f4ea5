set_option maxHeartbeats 4000000 in
set_option maxRecDepth 100000 in
theorem c_Sp_narrowQ (l : Launch) (D : va_G) (cs : Nat → ClassId) (sh : gm_H) (sz : Nat) (I : gm_I) (J : gm_J) (q : Nat) (hs : is_Sp sh q) (A rows : List dd_V) (h4 : dd_e4 ∈ rows) (h7 : rows.length ≤ 7) (hK : sp_K I J q A rows) (a b c d : Int32) (hsm : dd_sm (rV a b c d)) (hab : rV a b c d ≠ dd_0) : CV l y_Sp_narrow w_Sp_narrow { frames := 3, cells := 0, slots := 0, locals := 86 } D cs sh sz I J [.ref q, .int a, .int b, .int c, .int d] (fun u => skP q A (rows ++ [(rV a b c d)]) I J u) := by
  refine gm_start (by decide) (Nat.le_of_ble_eq_true rfl) ?_
  intro p' e' s' m' be' me' co' ls C hml hlk hret hh hl
  have hl : lv_has ls 6 [(0, .ref q), (1, .int a), (2, .int b), (3, .int c), (4, .int d)] := hl
  obtain ⟨LU, R, hM, hOk⟩ := hK
  have hbt_ : 2 ^ rows.length < 1024 := by have h_ := Nat.pow_le_pow_right (show 0 < 2 by omega) h7; omega
  refine lv_aload_n C.1 C.2.1 d_Sp_narrow_0 rfl (lv_at hl 0 rfl) ?_
  refine lv_iload_n C.1 C.2.1 d_Sp_narrow_1 rfl (lv_at hl 1 rfl) ?_
  refine lv_iload_n C.1 C.2.1 d_Sp_narrow_2 rfl (lv_at hl 2 rfl) ?_
  refine lv_iload_n C.1 C.2.1 d_Sp_narrow_3 rfl (lv_at hl 3 rfl) ?_
  refine gc_i hh (gc_runV (As := [.int a, .int b, .int c]) (rest := []) (n := 3) C hml hh (c_Sp_lineAcross l D cs sh sz I J q hs (LU.map Prod.fst).length hM.1 (ok_len hOk) a b c) (tg_V tw_342 tw_344 tw_7 tw_63 tw_345) (by decide +kernel) ⟨rfl, rfl, by decide, by decide, Nat.zero_le _, Nat.zero_le _⟩ hs.1 rfl rfl hl.1 rfl (Nat.le_of_ble_eq_true rfl) d_Sp_narrow_4) (fun r_1 I_2 J_3 H locs hr_1 hh => ?_)
  obtain ⟨e_r_1, hr_1⟩ := hr_1
  rw [(Prod.mk.inj e_r_1).1, (Prod.mk.inj e_r_1).2] at hh
  refine lv_istore (lv' := [(5, .int r_1), (0, .ref q), (1, .int a), (2, .int b), (3, .int c), (4, .int d)]) C.1 C.2.1 d_Sp_narrow_7 hl (by decide) rfl (fun ls hl => ?_)
  refine lv_iload C.1 C.2.1 d_Sp_narrow_9 (lv_at hl 0 rfl) ?_
  refine lv_if_lt (tgt := 28) C.1 C.2.1 d_Sp_narrow_11 (by decide) (fun c_4 => ?_) (fun c_4 => ?_)
  · -- 11 -> 28
    skip
    refine lv_aload_n C.1 C.2.1 d_Sp_narrow_28 rfl (lv_at hl 1 rfl) ?_
    refine lv_iload_n C.1 C.2.1 d_Sp_narrow_29 rfl (lv_at hl 2 rfl) ?_
    refine lv_iload_n C.1 C.2.1 d_Sp_narrow_30 rfl (lv_at hl 3 rfl) ?_
    refine lv_iload_n C.1 C.2.1 d_Sp_narrow_31 rfl (lv_at hl 4 rfl) ?_
    refine lv_iload C.1 C.2.1 d_Sp_narrow_32 (lv_at hl 5 rfl) ?_
    have hz0_ : ∀ j, j < (LU.map Prod.fst).length → slo J q j a b c = 0 := by
      rcases hr_1 with ⟨_, h⟩ | ⟨i, hi_, e, _⟩
      · exact h
      · exfalso; rw [e] at c_4; exact nI_pos (by have := ok_len hOk; omega) c_4
    have hL0_ := nw_zero hM (ok_bdL hOk h4) hsm hz0_
    have hC_ := nw_ct hOk h7 hsm hab hL0_
    refine gc_v hh (gc_runV (As := [.int a, .int b, .int c, .int d]) (rest := []) (n := 4) C hml hh (c_Sp_cutQ l D cs sh sz I J q hs rows (LU.map Prod.fst) R hM a b c d hsm hC_) (tg_V tw_366 tw_368 tw_12 tw_63 tw_369) (by decide +kernel) ⟨rfl, rfl, by decide, by decide, Nat.zero_le _, Nat.zero_le _⟩ hs.1 rfl rfl hl.1 rfl (Nat.le_of_ble_eq_true rfl) d_Sp_narrow_34) (fun I_6 J_7 H locs hr_5 hh => ?_)
    obtain ⟨LU1, eLU1⟩ : ∃ z, z = LU := ⟨_, rfl⟩
    obtain ⟨R1, eR1⟩ : ∃ z, z = dd_cutR rows R (rV a b c d) := ⟨_, rfl⟩
    have hM1 := nw_cut hM hr_5
    have hO1 := hr_5.1
    have hb1 : I_6 q 7 = nI (2 ^ rows.length) := hr_5.2.2.1.trans hM.2.2.1
    have hk1 := nw_kcut hOk h4 hsm hab hL0_
    have h32_ := nw_clen hC_
    rw [← eR1] at hM1 hk1 h32_
    rw [← eLU1] at hM1 hk1
    have tB_8 : I_6 q 7 = nI (2 ^ rows.length) := hb1
    refine lv_aload_n C.1 C.2.1 d_Sp_narrow_37 rfl (lv_at hl 1 rfl) ?_
    refine lv_dup C.1 C.2.1 d_Sp_narrow_38 rfl ?_
    refine gg_i C hh hs.1 rfl in_Sp 7 (by decide) rfl tw_192 rfl d_Sp_narrow_39 ?_
    refine gm_eqi tB_8 ?_
    refine lv_iconst (v := nI 1) C.1 C.2.1 d_Sp_narrow_42 rfl ?_
    refine lv_ishl C.1 C.2.1 d_Sp_narrow_43 ?_
    refine gm_eqi (gm_shl (by omega) (by omega)) ?_
    refine gp_i (ty := .int) C hh hs.1 rfl in_Sp t_Sp t_Sp_ok n_Sp 7 (by decide) rfl tw_192 rfl rfl (by decide +kernel) rfl rfl d_Sp_narrow_44 (fun H locs hh => ?_)
    obtain ⟨I_9, eI_9⟩ : ∃ z : gm_I, z = gm_up I_6 q 7 (nI ((2 ^ rows.length) * 2 ^ 1)) := ⟨_, rfl⟩
    rw [← eI_9] at hh
    have tB_10 : I_9 q 7 = nI ((2 ^ rows.length) * 2 ^ 1) := by rw [eI_9]; exact gm_up_same _ _ _ _
    refine lv_aload_n C.1 C.2.1 d_Sp_narrow_47 rfl (lv_at hl 1 rfl) ?_
    have hM2_ : I_9 q 3 = nI R1.length := by rw [eI_9, gm_up_ne _ _ (Or.inr (by omega))]; exact hM1.2.1
    refine gc_v hh (gc_runV (As := []) (rest := []) (n := 0) C hml hh (c_Sp_dropIfNoPointQ l D cs sh sz I_9 J_7 q hs R1 hM2_ h32_ hM1.2.2.2.1) (tg_V tw_382 tw_384 tw_16 tw_63 tw_385) (by decide +kernel) ⟨rfl, rfl, by decide, by decide, Nat.zero_le _, Nat.zero_le _⟩ hs.1 rfl rfl hl.1 rfl (Nat.le_of_ble_eq_true rfl) d_Sp_narrow_48) (fun I_12 J_13 H locs hr_11 hh => ?_)
    rw [eI_9] at hr_11
    exact gr_v C hlk hret hh (by exact nw_fin hO1 hM1 hb1 hr_11 hk1) d_Sp_narrow_51
  · -- 11 -> 14
    skip
    obtain ⟨i, hi, ei, hsl_⟩ : ∃ i, i < (LU.map Prod.fst).length ∧ r_1 = nI i ∧ ¬ slo J q i a b c = 0 := by
      rcases hr_1 with ⟨e, _⟩ | ⟨i, hi, e, hz, _⟩
      · exfalso; rw [e] at c_4; exact absurd (by decide) c_4
      · exact ⟨i, hi, e, hz⟩
    subst ei
    obtain ⟨v0, hv0⟩ := sq_get hi
    refine lv_aload_n C.1 C.2.1 d_Sp_narrow_14 rfl (lv_at hl 1 rfl) ?_
    refine lv_iload C.1 C.2.1 d_Sp_narrow_15 (lv_at hl 0 rfl) ?_
    refine lv_iload_n C.1 C.2.1 d_Sp_narrow_17 rfl (lv_at hl 2 rfl) ?_
    refine lv_iload_n C.1 C.2.1 d_Sp_narrow_18 rfl (lv_at hl 3 rfl) ?_
    refine lv_iload_n C.1 C.2.1 d_Sp_narrow_19 rfl (lv_at hl 4 rfl) ?_
    refine lv_iload C.1 C.2.1 d_Sp_narrow_20 (lv_at hl 5 rfl) ?_
    have hS_ := ok_sp hOk hi
    have hlr_ := ok_lenR hOk (by omega)
    refine gc_v hh (gc_runV (As := [.int (nI i), .int a, .int b, .int c, .int d]) (rest := []) (n := 5) C hml hh (c_Sp_turnQ l D cs sh sz I J q hs rows (LU.map Prod.fst) R hM i hi v0 hv0 a b c d hsm (ok_len hOk) (by omega) (ok_bdL hOk h4) (ok_bdR hOk) (nw_ne hM (ok_bdL hOk h4) hsm hv0 hsl_)) (tg_V tw_350 tw_352 tw_9 tw_63 tw_353) (by decide +kernel) ⟨rfl, rfl, by decide, by decide, Nat.zero_le _, Nat.zero_le _⟩ hs.1 rfl rfl hl.1 rfl (Nat.le_of_ble_eq_true rfl) d_Sp_narrow_22) (fun I_15 J_16 H locs hr_14 hh => ?_)
    obtain ⟨z_, hz_, hp_, hu_⟩ := hr_14
    obtain ⟨LU1, R1, hM1, hS1⟩ := nw_turn hS_ hsm hz_ hv0 hp_ hu_
    have hO1 := hu_.1
    have hb1 : I_15 q 7 = nI (2 ^ rows.length) := hu_.2.2.1.trans hM.2.2.1
    have hk1 : dd_Sp A (rows ++ [(rV a b c d)]) LU1 R1 ∧ dd_e4 ∈ rows ∨ (LU1 = [] ∧ R1 = [] ∧ ∀ x, ¬ dd_pt A rows x) := Or.inl ⟨hS1, h4⟩
    have h32_ : R1.length ≤ 32 := nw_tlen hu_ hM1 hlr_ hS1 (by rw [List.length_append, List.length_singleton]; omega)
    have tB_17 : I_15 q 7 = nI (2 ^ rows.length) := hb1
    refine lv_goto (tgt := 37) C.1 C.2.1 d_Sp_narrow_25 (by decide) ?_
    refine lv_aload_n C.1 C.2.1 d_Sp_narrow_37 rfl (lv_at hl 1 rfl) ?_
    refine lv_dup C.1 C.2.1 d_Sp_narrow_38 rfl ?_
    refine gg_i C hh hs.1 rfl in_Sp 7 (by decide) rfl tw_192 rfl d_Sp_narrow_39 ?_
    refine gm_eqi tB_17 ?_
    refine lv_iconst (v := nI 1) C.1 C.2.1 d_Sp_narrow_42 rfl ?_
    refine lv_ishl C.1 C.2.1 d_Sp_narrow_43 ?_
    refine gm_eqi (gm_shl (by omega) (by omega)) ?_
    refine gp_i (ty := .int) C hh hs.1 rfl in_Sp t_Sp t_Sp_ok n_Sp 7 (by decide) rfl tw_192 rfl rfl (by decide +kernel) rfl rfl d_Sp_narrow_44 (fun H locs hh => ?_)
    obtain ⟨I_18, eI_18⟩ : ∃ z : gm_I, z = gm_up I_15 q 7 (nI ((2 ^ rows.length) * 2 ^ 1)) := ⟨_, rfl⟩
    rw [← eI_18] at hh
    have tB_19 : I_18 q 7 = nI ((2 ^ rows.length) * 2 ^ 1) := by rw [eI_18]; exact gm_up_same _ _ _ _
    refine lv_aload_n C.1 C.2.1 d_Sp_narrow_47 rfl (lv_at hl 1 rfl) ?_
    have hM2_ : I_18 q 3 = nI R1.length := by rw [eI_18, gm_up_ne _ _ (Or.inr (by omega))]; exact hM1.2.1
    refine gc_v hh (gc_runV (As := []) (rest := []) (n := 0) C hml hh (c_Sp_dropIfNoPointQ l D cs sh sz I_18 J_16 q hs R1 hM2_ h32_ hM1.2.2.2.1) (tg_V tw_382 tw_384 tw_16 tw_63 tw_385) (by decide +kernel) ⟨rfl, rfl, by decide, by decide, Nat.zero_le _, Nat.zero_le _⟩ hs.1 rfl rfl hl.1 rfl (Nat.le_of_ble_eq_true rfl) d_Sp_narrow_48) (fun I_21 J_22 H locs hr_20 hh => ?_)
    rw [eI_18] at hr_20
    exact gr_v C hlk hret hh (by exact nw_fin hO1 hM1 hb1 hr_20 hk1) d_Sp_narrow_51
