set_option maxHeartbeats 4000000 in
set_option maxRecDepth 100000 in
theorem c_Sp_turnQ (l : Launch) (D : va_G) (cs : Nat → ClassId) (sh : gm_H) (sz : Nat) (I : gm_I) (J : gm_J) (q : Nat) (hs : is_Sp sh q) (rows L R : List dd_V) (hM : sp_M I J q rows L R) (i : Nat) (hi : i < L.length) (v0 : dd_V) (hv0 : L[i]? = some v0) (a b c d : Int32) (hsm : dd_sm (rV a b c d)) (hL3 : L.length ≤ 3) (hn : R.length < 32) (hbL : ∀ l ∈ L, dd_bd l ∧ l.2.2.2 = 0) (hbR : ∀ r ∈ R, dd_bd r) (hne : dd_ev (rV a b c d) v0 ≠ 0) : CV l y_Sp_turn w_Sp_turn { frames := 2, cells := 0, slots := 0, locals := 56 } D cs sh sz I J [.ref q, .int (nI i), .int a, .int b, .int c, .int d] (fun u => ∃ z : Int, (z = 1 ∨ z = -1) ∧ 0 < dd_ev (rV a b c d) (dd_mul z v0) ∧ tuP I J q i rows L R (dd_mul z v0) (rV a b c d) u) := by
  refine gm_start (by decide) (Nat.le_of_ble_eq_true rfl) ?_
  intro p' e' s' m' be' me' co' ls C hml hlk hret hh hl
  have hl : lv_has ls 11 [(0, .ref q), (1, .int (nI i)), (2, .int a), (3, .int b), (4, .int c), (5, .int d)] := hl
  have hb1_ : 1 ≤ 2 ^ rows.length := Nat.one_le_two_pow
  have tL_0 : I q 1 = nI L.length := hM.1
  have tN_0 : I q 3 = nI R.length := hM.2.1
  have tB_0 : I q 7 = nI (2 ^ rows.length) := hM.2.2.1
  refine lv_aload_n C.1 C.2.1 d_Sp_turn_0 rfl (lv_at hl 0 rfl) ?_
  refine lv_iload_n C.1 C.2.1 d_Sp_turn_1 rfl (lv_at hl 1 rfl) ?_
  refine lv_iload_n C.1 C.2.1 d_Sp_turn_2 rfl (lv_at hl 2 rfl) ?_
  refine lv_iload_n C.1 C.2.1 d_Sp_turn_3 rfl (lv_at hl 3 rfl) ?_
  refine lv_iload C.1 C.2.1 d_Sp_turn_4 (lv_at hl 4 rfl) ?_
  refine gc_l hh (gc_runV (As := [.int (nI i), .int a, .int b, .int c]) (rest := []) (n := 4) C hml hh (c_Sp_slope l D cs sh sz I J q hs i (by omega) a b c) (tg_V tw_346 tw_348 tw_8 tw_63 tw_349) (by decide +kernel) ⟨rfl, rfl, by decide, by decide, Nat.zero_le _, Nat.zero_le _⟩ hs.1 rfl rfl hl.1 rfl (Nat.le_of_ble_eq_true rfl) d_Sp_turn_6) (fun r_1 I_2 J_3 H locs hr_1 hh => ?_)
  obtain ⟨e_r_1, hr_1⟩ := hr_1
  rw [(Prod.mk.inj e_r_1).1, (Prod.mk.inj e_r_1).2] at hh
  refine lv_lstore (lv' := [(6, .long r_1), (0, .ref q), (1, .int (nI i)), (2, .int a), (3, .int b), (4, .int c), (5, .int d)]) C.1 C.2.1 d_Sp_turn_9 hl (by decide) rfl (fun ls hl => ?_)
  have hst : dd_R r_1 (dd_ev (rV a b c d) v0) 17496000 := by subst hr_1; exact (sp_slo (rV_sm hsm).1 (rV_sm hsm).2.1 (rV_sm hsm).2.2.1 (by decide) (hM.2.2.2.1 i v0 hv0) (hbL v0 (List.mem_of_getElem? hv0)).1 (hbL v0 (List.mem_of_getElem? hv0)).2 d).le (by decide)
  have K25 : ∀ (sg : Int64) (hsg : (r_1 < 0 ∧ sg = -1) ∨ (¬ r_1 < 0 ∧ sg = 1)), ∀ (H : Heap) (locs : List Loc) (ls : Array Slot), gm_St D cs sh (gm_A sh) s'.heap sz I J H locs → lv_has ls 11 [(0, .ref q), (1, .int (nI i)), (2, .int a), (3, .int b), (4, .int c), (5, .int d), (6, .long r_1)] → W p' l e' { frames := 2, cells := 0, slots := 0, locals := 56 } s' m' ([.ref q, .int (nI i), .int a, .int b, .int c, .int d] : List Value).toArray be' me' co' H locs 0 0 (MQ be' (va_Qv (fun u => ∃ z : Int, (z = 1 ∨ z = -1) ∧ 0 < dd_ev (rV a b c d) (dd_mul z v0) ∧ tuP I J q i rows L R (dd_mul z v0) (rV a b c d) u) (gm_B D cs sh sz) (gm_A sh)) ([.ref q, .int (nI i), .int a, .int b, .int c, .int d] : List Value).toArray s' 0 0 (gm_A sh)) (F0 m' 25 ls [.long sg]) := by
    intro sg hsg H locs ls hh hl
    refine lv_lstore (lv' := [(8, .long sg), (0, .ref q), (1, .int (nI i)), (2, .int a), (3, .int b), (4, .int c), (5, .int d), (6, .long r_1)]) C.1 C.2.1 d_Sp_turn_25 hl (by decide) rfl (fun ls hl => ?_)
    refine lv_lload C.1 C.2.1 d_Sp_turn_27 (lv_at hl 7 rfl) ?_
    refine lv_lload C.1 C.2.1 d_Sp_turn_29 (lv_at hl 0 rfl) ?_
    refine lv_lmul C.1 C.2.1 d_Sp_turn_31 ?_
    refine lv_topl (fun x_4 ex_4 => ?_)
    refine lv_lstore (lv' := [(6, .long x_4), (8, .long sg), (0, .ref q), (1, .int (nI i)), (2, .int a), (3, .int b), (4, .int c), (5, .int d)]) C.1 C.2.1 d_Sp_turn_32 hl (by decide) rfl (fun ls hl => ?_)
    refine lv_aload_n C.1 C.2.1 d_Sp_turn_34 rfl (lv_at hl 2 rfl) ?_
    refine lv_dup C.1 C.2.1 d_Sp_turn_35 rfl ?_
    refine gg_i C hh hs.1 rfl in_Sp 1 (by decide) rfl tw_186 rfl d_Sp_turn_36 ?_
    refine gm_eqi tL_0 ?_
    refine lv_iconst (v := nI 1) C.1 C.2.1 d_Sp_turn_39 rfl ?_
    refine lv_isub C.1 C.2.1 d_Sp_turn_40 ?_
    refine gm_eqi (pk_sub (by omega)) ?_
    refine gp_i (ty := .int) C hh hs.1 rfl in_Sp t_Sp t_Sp_ok n_Sp 1 (by decide) rfl tw_186 rfl rfl (by decide +kernel) rfl rfl d_Sp_turn_41 (fun H locs hh => ?_)
    obtain ⟨I_5, eI_5⟩ : ∃ z : gm_I, z = gm_up I q 1 (nI (L.length - 1)) := ⟨_, rfl⟩
    rw [← eI_5] at hh
    have tL_6 : I_5 q 1 = nI (L.length - 1) := by rw [eI_5]; exact gm_up_same _ _ _ _
    have tN_7 : I_5 q 3 = nI R.length := by rw [eI_5, gm_up_ne _ _ (by omega)]; exact tN_0
    have tB_8 : I_5 q 7 = nI (2 ^ rows.length) := by rw [eI_5, gm_up_ne _ _ (by omega)]; exact tB_0
    refine lv_iconst (v := nI 0) C.1 C.2.1 d_Sp_turn_44 rfl ?_
    refine lv_istore (lv' := [(10, .int (nI 0)), (6, .long x_4), (8, .long sg), (0, .ref q), (1, .int (nI i)), (2, .int a), (3, .int b), (4, .int c), (5, .int d)]) C.1 C.2.1 d_Sp_turn_45 hl (by decide) rfl (fun ls hl => ?_)
    refine lv_iload C.1 C.2.1 d_Sp_turn_47 (lv_at hl 0 rfl) ?_
    refine lv_iconst (v := nI 4) C.1 C.2.1 d_Sp_turn_49 rfl ?_
    refine lv_icmp_ge (tgt := 105) C.1 C.2.1 d_Sp_turn_50 (by decide) (fun c_ => absurd c_ (by decide)) (fun c_ => ?_)
    refine lv_aload_n C.1 C.2.1 d_Sp_turn_53 rfl (lv_at hl 3 rfl) ?_
    refine gg_r C hh hs.1 rfl in_Sp 6 (by decide) rfl tw_191 rfl d_Sp_turn_54 ?_
    refine lv_iload C.1 C.2.1 d_Sp_turn_57 (lv_at hl 0 rfl) ?_
    refine lv_lload C.1 C.2.1 d_Sp_turn_59 (lv_at hl 2 rfl) ?_
    refine lv_aload_n C.1 C.2.1 d_Sp_turn_61 rfl (lv_at hl 3 rfl) ?_
    refine gg_r C hh hs.1 rfl in_Sp 0 (by decide) rfl tw_185 rfl d_Sp_turn_62 ?_
    refine lv_iconst (v := nI 4) C.1 C.2.1 d_Sp_turn_65 rfl ?_
    refine lv_iload_n C.1 C.2.1 d_Sp_turn_66 rfl (lv_at hl 4 rfl) ?_
    refine lv_imul C.1 C.2.1 d_Sp_turn_67 ?_
    refine gm_eqi (pk_mul _ _) ?_
    refine lv_iload C.1 C.2.1 d_Sp_turn_68 (lv_at hl 0 rfl) ?_
    refine lv_iadd C.1 C.2.1 d_Sp_turn_70 ?_
    refine gm_eqi (nI_add _ _) ?_
    refine ga_l C hh hs.2.1 (k := (4 * i) + 0) rfl (by omega) (by omega) d_Sp_turn_71 ?_
    refine lv_lmul C.1 C.2.1 d_Sp_turn_72 ?_
    refine gs_l C hh hs.2.2.2.2.2 (k := 0) rfl (by omega) (by omega) d_Sp_turn_73 (fun H locs hh => ?_)
    obtain ⟨J_9, eJ_9⟩ : ∃ z : gm_J, z = gm_up J (q + 5) 0 (sg * (J (q + 1) ((4 * i) + 0))) := ⟨_, rfl⟩
    rw [← eJ_9] at hh
    refine lv_aload_n C.1 C.2.1 d_Sp_turn_74 rfl (lv_at hl 3 rfl) ?_
    refine gg_r C hh hs.1 rfl in_Sp 0 (by decide) rfl tw_185 rfl d_Sp_turn_75 ?_
    refine lv_iconst (v := nI 4) C.1 C.2.1 d_Sp_turn_78 rfl ?_
    refine lv_iload_n C.1 C.2.1 d_Sp_turn_79 rfl (lv_at hl 4 rfl) ?_
    refine lv_imul C.1 C.2.1 d_Sp_turn_80 ?_
    refine gm_eqi (pk_mul _ _) ?_
    refine lv_iload C.1 C.2.1 d_Sp_turn_81 (lv_at hl 0 rfl) ?_
    refine lv_iadd C.1 C.2.1 d_Sp_turn_83 ?_
    refine gm_eqi (nI_add _ _) ?_
    refine lv_aload_n C.1 C.2.1 d_Sp_turn_84 rfl (lv_at hl 3 rfl) ?_
    refine gg_r C hh hs.1 rfl in_Sp 0 (by decide) rfl tw_185 rfl d_Sp_turn_85 ?_
    refine lv_iconst (v := nI 4) C.1 C.2.1 d_Sp_turn_88 rfl ?_
    refine lv_aload_n C.1 C.2.1 d_Sp_turn_89 rfl (lv_at hl 3 rfl) ?_
    refine gg_i C hh hs.1 rfl in_Sp 1 (by decide) rfl tw_186 rfl d_Sp_turn_90 ?_
    refine gm_eqi (y := nI (L.length - 1)) (by rw [eI_5, gm_up_same]) ?_
    refine lv_imul C.1 C.2.1 d_Sp_turn_93 ?_
    refine gm_eqi (pk_mul _ _) ?_
    refine lv_iload C.1 C.2.1 d_Sp_turn_94 (lv_at hl 0 rfl) ?_
    refine lv_iadd C.1 C.2.1 d_Sp_turn_96 ?_
    refine gm_eqi (nI_add _ _) ?_
    refine ga_l C hh hs.2.1 (k := (4 * (L.length - 1)) + 0) rfl (by omega) (by omega) d_Sp_turn_97 ?_
    refine gm_eql (y := J (q + 1) ((4 * (L.length - 1)) + 0)) (by rw [eJ_9, gm_up_ne _ _ (Or.inl (by omega))]) ?_
    refine gs_l C hh hs.2.1 (k := (4 * i) + 0) rfl (by omega) (by omega) d_Sp_turn_98 (fun H locs hh => ?_)
    obtain ⟨J_10, eJ_10⟩ : ∃ z : gm_J, z = gm_up J_9 (q + 1) ((4 * i) + 0) (J (q + 1) ((4 * (L.length - 1)) + 0)) := ⟨_, rfl⟩
    rw [← eJ_10] at hh
    refine lv_iinc (v := nI 1) (lv' := [(10, .int (nI 1)), (6, .long x_4), (8, .long sg), (0, .ref q), (1, .int (nI i)), (2, .int a), (3, .int b), (4, .int c), (5, .int d)]) C.1 C.2.1 d_Sp_turn_99 hl (k := 0) rfl (gm_inc 0 1) (by decide) rfl (fun ls hl => ?_)
    refine lv_goto (tgt := 47) C.1 C.2.1 d_Sp_turn_102 (by decide) ?_
    refine lv_iload C.1 C.2.1 d_Sp_turn_47 (lv_at hl 0 rfl) ?_
    refine lv_iconst (v := nI 4) C.1 C.2.1 d_Sp_turn_49 rfl ?_
    refine lv_icmp_ge (tgt := 105) C.1 C.2.1 d_Sp_turn_50 (by decide) (fun c_ => absurd c_ (by decide)) (fun c_ => ?_)
    refine lv_aload_n C.1 C.2.1 d_Sp_turn_53 rfl (lv_at hl 3 rfl) ?_
    refine gg_r C hh hs.1 rfl in_Sp 6 (by decide) rfl tw_191 rfl d_Sp_turn_54 ?_
    refine lv_iload C.1 C.2.1 d_Sp_turn_57 (lv_at hl 0 rfl) ?_
    refine lv_lload C.1 C.2.1 d_Sp_turn_59 (lv_at hl 2 rfl) ?_
    refine lv_aload_n C.1 C.2.1 d_Sp_turn_61 rfl (lv_at hl 3 rfl) ?_
    refine gg_r C hh hs.1 rfl in_Sp 0 (by decide) rfl tw_185 rfl d_Sp_turn_62 ?_
    refine lv_iconst (v := nI 4) C.1 C.2.1 d_Sp_turn_65 rfl ?_
    refine lv_iload_n C.1 C.2.1 d_Sp_turn_66 rfl (lv_at hl 4 rfl) ?_
    refine lv_imul C.1 C.2.1 d_Sp_turn_67 ?_
    refine gm_eqi (pk_mul _ _) ?_
    refine lv_iload C.1 C.2.1 d_Sp_turn_68 (lv_at hl 0 rfl) ?_
    refine lv_iadd C.1 C.2.1 d_Sp_turn_70 ?_
    refine gm_eqi (nI_add _ _) ?_
    refine ga_l C hh hs.2.1 (k := (4 * i) + 1) rfl (by omega) (by omega) d_Sp_turn_71 ?_
    refine gm_eql (y := J (q + 1) ((4 * i) + 1)) (by rw [eJ_10, gm_up_ne _ _ (Or.inr (by omega)), eJ_9, gm_up_ne _ _ (Or.inl (by omega))]) ?_
    refine lv_lmul C.1 C.2.1 d_Sp_turn_72 ?_
    refine gs_l C hh hs.2.2.2.2.2 (k := 1) rfl (by omega) (by omega) d_Sp_turn_73 (fun H locs hh => ?_)
    obtain ⟨J_11, eJ_11⟩ : ∃ z : gm_J, z = gm_up J_10 (q + 5) 1 (sg * (J (q + 1) ((4 * i) + 1))) := ⟨_, rfl⟩
    rw [← eJ_11] at hh
    refine lv_aload_n C.1 C.2.1 d_Sp_turn_74 rfl (lv_at hl 3 rfl) ?_
    refine gg_r C hh hs.1 rfl in_Sp 0 (by decide) rfl tw_185 rfl d_Sp_turn_75 ?_
    refine lv_iconst (v := nI 4) C.1 C.2.1 d_Sp_turn_78 rfl ?_
    refine lv_iload_n C.1 C.2.1 d_Sp_turn_79 rfl (lv_at hl 4 rfl) ?_
    refine lv_imul C.1 C.2.1 d_Sp_turn_80 ?_
    refine gm_eqi (pk_mul _ _) ?_
    refine lv_iload C.1 C.2.1 d_Sp_turn_81 (lv_at hl 0 rfl) ?_
    refine lv_iadd C.1 C.2.1 d_Sp_turn_83 ?_
    refine gm_eqi (nI_add _ _) ?_
    refine lv_aload_n C.1 C.2.1 d_Sp_turn_84 rfl (lv_at hl 3 rfl) ?_
    refine gg_r C hh hs.1 rfl in_Sp 0 (by decide) rfl tw_185 rfl d_Sp_turn_85 ?_
    refine lv_iconst (v := nI 4) C.1 C.2.1 d_Sp_turn_88 rfl ?_
    refine lv_aload_n C.1 C.2.1 d_Sp_turn_89 rfl (lv_at hl 3 rfl) ?_
    refine gg_i C hh hs.1 rfl in_Sp 1 (by decide) rfl tw_186 rfl d_Sp_turn_90 ?_
    refine gm_eqi (y := nI (L.length - 1)) (by rw [eI_5, gm_up_same]) ?_
    refine lv_imul C.1 C.2.1 d_Sp_turn_93 ?_
    refine gm_eqi (pk_mul _ _) ?_
    refine lv_iload C.1 C.2.1 d_Sp_turn_94 (lv_at hl 0 rfl) ?_
    refine lv_iadd C.1 C.2.1 d_Sp_turn_96 ?_
    refine gm_eqi (nI_add _ _) ?_
    refine ga_l C hh hs.2.1 (k := (4 * (L.length - 1)) + 1) rfl (by omega) (by omega) d_Sp_turn_97 ?_
    refine gm_eql (y := J (q + 1) ((4 * (L.length - 1)) + 1)) (by rw [eJ_11, gm_up_ne _ _ (Or.inl (by omega)), eJ_10, gm_up_ne _ _ (Or.inr (by omega)), eJ_9, gm_up_ne _ _ (Or.inl (by omega))]) ?_
    refine gs_l C hh hs.2.1 (k := (4 * i) + 1) rfl (by omega) (by omega) d_Sp_turn_98 (fun H locs hh => ?_)
    obtain ⟨J_12, eJ_12⟩ : ∃ z : gm_J, z = gm_up J_11 (q + 1) ((4 * i) + 1) (J (q + 1) ((4 * (L.length - 1)) + 1)) := ⟨_, rfl⟩
    rw [← eJ_12] at hh
    refine lv_iinc (v := nI 2) (lv' := [(10, .int (nI 2)), (6, .long x_4), (8, .long sg), (0, .ref q), (1, .int (nI i)), (2, .int a), (3, .int b), (4, .int c), (5, .int d)]) C.1 C.2.1 d_Sp_turn_99 hl (k := 0) rfl (gm_inc 1 1) (by decide) rfl (fun ls hl => ?_)
    refine lv_goto (tgt := 47) C.1 C.2.1 d_Sp_turn_102 (by decide) ?_
    refine lv_iload C.1 C.2.1 d_Sp_turn_47 (lv_at hl 0 rfl) ?_
    refine lv_iconst (v := nI 4) C.1 C.2.1 d_Sp_turn_49 rfl ?_
    refine lv_icmp_ge (tgt := 105) C.1 C.2.1 d_Sp_turn_50 (by decide) (fun c_ => absurd c_ (by decide)) (fun c_ => ?_)
    refine lv_aload_n C.1 C.2.1 d_Sp_turn_53 rfl (lv_at hl 3 rfl) ?_
    refine gg_r C hh hs.1 rfl in_Sp 6 (by decide) rfl tw_191 rfl d_Sp_turn_54 ?_
    refine lv_iload C.1 C.2.1 d_Sp_turn_57 (lv_at hl 0 rfl) ?_
    refine lv_lload C.1 C.2.1 d_Sp_turn_59 (lv_at hl 2 rfl) ?_
    refine lv_aload_n C.1 C.2.1 d_Sp_turn_61 rfl (lv_at hl 3 rfl) ?_
    refine gg_r C hh hs.1 rfl in_Sp 0 (by decide) rfl tw_185 rfl d_Sp_turn_62 ?_
    refine lv_iconst (v := nI 4) C.1 C.2.1 d_Sp_turn_65 rfl ?_
    refine lv_iload_n C.1 C.2.1 d_Sp_turn_66 rfl (lv_at hl 4 rfl) ?_
    refine lv_imul C.1 C.2.1 d_Sp_turn_67 ?_
    refine gm_eqi (pk_mul _ _) ?_
    refine lv_iload C.1 C.2.1 d_Sp_turn_68 (lv_at hl 0 rfl) ?_
    refine lv_iadd C.1 C.2.1 d_Sp_turn_70 ?_
    refine gm_eqi (nI_add _ _) ?_
    refine ga_l C hh hs.2.1 (k := (4 * i) + 2) rfl (by omega) (by omega) d_Sp_turn_71 ?_
    refine gm_eql (y := J (q + 1) ((4 * i) + 2)) (by rw [eJ_12, gm_up_ne _ _ (Or.inr (by omega)), eJ_11, gm_up_ne _ _ (Or.inl (by omega)), eJ_10, gm_up_ne _ _ (Or.inr (by omega)), eJ_9, gm_up_ne _ _ (Or.inl (by omega))]) ?_
    refine lv_lmul C.1 C.2.1 d_Sp_turn_72 ?_
    refine gs_l C hh hs.2.2.2.2.2 (k := 2) rfl (by omega) (by omega) d_Sp_turn_73 (fun H locs hh => ?_)
    obtain ⟨J_13, eJ_13⟩ : ∃ z : gm_J, z = gm_up J_12 (q + 5) 2 (sg * (J (q + 1) ((4 * i) + 2))) := ⟨_, rfl⟩
    rw [← eJ_13] at hh
    refine lv_aload_n C.1 C.2.1 d_Sp_turn_74 rfl (lv_at hl 3 rfl) ?_
    refine gg_r C hh hs.1 rfl in_Sp 0 (by decide) rfl tw_185 rfl d_Sp_turn_75 ?_
    refine lv_iconst (v := nI 4) C.1 C.2.1 d_Sp_turn_78 rfl ?_
    refine lv_iload_n C.1 C.2.1 d_Sp_turn_79 rfl (lv_at hl 4 rfl) ?_
    refine lv_imul C.1 C.2.1 d_Sp_turn_80 ?_
    refine gm_eqi (pk_mul _ _) ?_
    refine lv_iload C.1 C.2.1 d_Sp_turn_81 (lv_at hl 0 rfl) ?_
    refine lv_iadd C.1 C.2.1 d_Sp_turn_83 ?_
    refine gm_eqi (nI_add _ _) ?_
    refine lv_aload_n C.1 C.2.1 d_Sp_turn_84 rfl (lv_at hl 3 rfl) ?_
    refine gg_r C hh hs.1 rfl in_Sp 0 (by decide) rfl tw_185 rfl d_Sp_turn_85 ?_
    refine lv_iconst (v := nI 4) C.1 C.2.1 d_Sp_turn_88 rfl ?_
    refine lv_aload_n C.1 C.2.1 d_Sp_turn_89 rfl (lv_at hl 3 rfl) ?_
    refine gg_i C hh hs.1 rfl in_Sp 1 (by decide) rfl tw_186 rfl d_Sp_turn_90 ?_
    refine gm_eqi (y := nI (L.length - 1)) (by rw [eI_5, gm_up_same]) ?_
    refine lv_imul C.1 C.2.1 d_Sp_turn_93 ?_
    refine gm_eqi (pk_mul _ _) ?_
    refine lv_iload C.1 C.2.1 d_Sp_turn_94 (lv_at hl 0 rfl) ?_
    refine lv_iadd C.1 C.2.1 d_Sp_turn_96 ?_
    refine gm_eqi (nI_add _ _) ?_
    refine ga_l C hh hs.2.1 (k := (4 * (L.length - 1)) + 2) rfl (by omega) (by omega) d_Sp_turn_97 ?_
    refine gm_eql (y := J (q + 1) ((4 * (L.length - 1)) + 2)) (by rw [eJ_13, gm_up_ne _ _ (Or.inl (by omega)), eJ_12, gm_up_ne _ _ (Or.inr (by omega)), eJ_11, gm_up_ne _ _ (Or.inl (by omega)), eJ_10, gm_up_ne _ _ (Or.inr (by omega)), eJ_9, gm_up_ne _ _ (Or.inl (by omega))]) ?_
    refine gs_l C hh hs.2.1 (k := (4 * i) + 2) rfl (by omega) (by omega) d_Sp_turn_98 (fun H locs hh => ?_)
    obtain ⟨J_14, eJ_14⟩ : ∃ z : gm_J, z = gm_up J_13 (q + 1) ((4 * i) + 2) (J (q + 1) ((4 * (L.length - 1)) + 2)) := ⟨_, rfl⟩
    rw [← eJ_14] at hh
    refine lv_iinc (v := nI 3) (lv' := [(10, .int (nI 3)), (6, .long x_4), (8, .long sg), (0, .ref q), (1, .int (nI i)), (2, .int a), (3, .int b), (4, .int c), (5, .int d)]) C.1 C.2.1 d_Sp_turn_99 hl (k := 0) rfl (gm_inc 2 1) (by decide) rfl (fun ls hl => ?_)
    refine lv_goto (tgt := 47) C.1 C.2.1 d_Sp_turn_102 (by decide) ?_
    refine lv_iload C.1 C.2.1 d_Sp_turn_47 (lv_at hl 0 rfl) ?_
    refine lv_iconst (v := nI 4) C.1 C.2.1 d_Sp_turn_49 rfl ?_
    refine lv_icmp_ge (tgt := 105) C.1 C.2.1 d_Sp_turn_50 (by decide) (fun c_ => absurd c_ (by decide)) (fun c_ => ?_)
    refine lv_aload_n C.1 C.2.1 d_Sp_turn_53 rfl (lv_at hl 3 rfl) ?_
    refine gg_r C hh hs.1 rfl in_Sp 6 (by decide) rfl tw_191 rfl d_Sp_turn_54 ?_
    refine lv_iload C.1 C.2.1 d_Sp_turn_57 (lv_at hl 0 rfl) ?_
    refine lv_lload C.1 C.2.1 d_Sp_turn_59 (lv_at hl 2 rfl) ?_
    refine lv_aload_n C.1 C.2.1 d_Sp_turn_61 rfl (lv_at hl 3 rfl) ?_
    refine gg_r C hh hs.1 rfl in_Sp 0 (by decide) rfl tw_185 rfl d_Sp_turn_62 ?_
    refine lv_iconst (v := nI 4) C.1 C.2.1 d_Sp_turn_65 rfl ?_
    refine lv_iload_n C.1 C.2.1 d_Sp_turn_66 rfl (lv_at hl 4 rfl) ?_
    refine lv_imul C.1 C.2.1 d_Sp_turn_67 ?_
    refine gm_eqi (pk_mul _ _) ?_
    refine lv_iload C.1 C.2.1 d_Sp_turn_68 (lv_at hl 0 rfl) ?_
    refine lv_iadd C.1 C.2.1 d_Sp_turn_70 ?_
    refine gm_eqi (nI_add _ _) ?_
    refine ga_l C hh hs.2.1 (k := (4 * i) + 3) rfl (by omega) (by omega) d_Sp_turn_71 ?_
    refine gm_eql (y := J (q + 1) ((4 * i) + 3)) (by rw [eJ_14, gm_up_ne _ _ (Or.inr (by omega)), eJ_13, gm_up_ne _ _ (Or.inl (by omega)), eJ_12, gm_up_ne _ _ (Or.inr (by omega)), eJ_11, gm_up_ne _ _ (Or.inl (by omega)), eJ_10, gm_up_ne _ _ (Or.inr (by omega)), eJ_9, gm_up_ne _ _ (Or.inl (by omega))]) ?_
    refine lv_lmul C.1 C.2.1 d_Sp_turn_72 ?_
    refine gs_l C hh hs.2.2.2.2.2 (k := 3) rfl (by omega) (by omega) d_Sp_turn_73 (fun H locs hh => ?_)
    obtain ⟨J_15, eJ_15⟩ : ∃ z : gm_J, z = gm_up J_14 (q + 5) 3 (sg * (J (q + 1) ((4 * i) + 3))) := ⟨_, rfl⟩
    rw [← eJ_15] at hh
    refine lv_aload_n C.1 C.2.1 d_Sp_turn_74 rfl (lv_at hl 3 rfl) ?_
    refine gg_r C hh hs.1 rfl in_Sp 0 (by decide) rfl tw_185 rfl d_Sp_turn_75 ?_
    refine lv_iconst (v := nI 4) C.1 C.2.1 d_Sp_turn_78 rfl ?_
    refine lv_iload_n C.1 C.2.1 d_Sp_turn_79 rfl (lv_at hl 4 rfl) ?_
    refine lv_imul C.1 C.2.1 d_Sp_turn_80 ?_
    refine gm_eqi (pk_mul _ _) ?_
    refine lv_iload C.1 C.2.1 d_Sp_turn_81 (lv_at hl 0 rfl) ?_
    refine lv_iadd C.1 C.2.1 d_Sp_turn_83 ?_
    refine gm_eqi (nI_add _ _) ?_
    refine lv_aload_n C.1 C.2.1 d_Sp_turn_84 rfl (lv_at hl 3 rfl) ?_
    refine gg_r C hh hs.1 rfl in_Sp 0 (by decide) rfl tw_185 rfl d_Sp_turn_85 ?_
    refine lv_iconst (v := nI 4) C.1 C.2.1 d_Sp_turn_88 rfl ?_
    refine lv_aload_n C.1 C.2.1 d_Sp_turn_89 rfl (lv_at hl 3 rfl) ?_
    refine gg_i C hh hs.1 rfl in_Sp 1 (by decide) rfl tw_186 rfl d_Sp_turn_90 ?_
    refine gm_eqi (y := nI (L.length - 1)) (by rw [eI_5, gm_up_same]) ?_
    refine lv_imul C.1 C.2.1 d_Sp_turn_93 ?_
    refine gm_eqi (pk_mul _ _) ?_
    refine lv_iload C.1 C.2.1 d_Sp_turn_94 (lv_at hl 0 rfl) ?_
    refine lv_iadd C.1 C.2.1 d_Sp_turn_96 ?_
    refine gm_eqi (nI_add _ _) ?_
    refine ga_l C hh hs.2.1 (k := (4 * (L.length - 1)) + 3) rfl (by omega) (by omega) d_Sp_turn_97 ?_
    refine gm_eql (y := J (q + 1) ((4 * (L.length - 1)) + 3)) (by rw [eJ_15, gm_up_ne _ _ (Or.inl (by omega)), eJ_14, gm_up_ne _ _ (Or.inr (by omega)), eJ_13, gm_up_ne _ _ (Or.inl (by omega)), eJ_12, gm_up_ne _ _ (Or.inr (by omega)), eJ_11, gm_up_ne _ _ (Or.inl (by omega)), eJ_10, gm_up_ne _ _ (Or.inr (by omega)), eJ_9, gm_up_ne _ _ (Or.inl (by omega))]) ?_
    refine gs_l C hh hs.2.1 (k := (4 * i) + 3) rfl (by omega) (by omega) d_Sp_turn_98 (fun H locs hh => ?_)
    obtain ⟨J_16, eJ_16⟩ : ∃ z : gm_J, z = gm_up J_15 (q + 1) ((4 * i) + 3) (J (q + 1) ((4 * (L.length - 1)) + 3)) := ⟨_, rfl⟩
    rw [← eJ_16] at hh
    refine lv_iinc (v := nI 4) (lv' := [(10, .int (nI 4)), (6, .long x_4), (8, .long sg), (0, .ref q), (1, .int (nI i)), (2, .int a), (3, .int b), (4, .int c), (5, .int d)]) C.1 C.2.1 d_Sp_turn_99 hl (k := 0) rfl (gm_inc 3 1) (by decide) rfl (fun ls hl => ?_)
    refine lv_goto (tgt := 47) C.1 C.2.1 d_Sp_turn_102 (by decide) ?_
    refine lv_iload C.1 C.2.1 d_Sp_turn_47 (lv_at hl 0 rfl) ?_
    refine lv_iconst (v := nI 4) C.1 C.2.1 d_Sp_turn_49 rfl ?_
    refine lv_icmp_ge (tgt := 105) C.1 C.2.1 d_Sp_turn_50 (by decide) (fun c_ => ?_) (fun c_ => absurd (by decide) c_)
    refine lv_iconst (v := nI 0) C.1 C.2.1 d_Sp_turn_105 rfl ?_
    refine lv_istore (lv' := [(10, .int (nI 0)), (6, .long x_4), (8, .long sg), (0, .ref q), (1, .int (nI i)), (2, .int a), (3, .int b), (4, .int c), (5, .int d)]) C.1 C.2.1 d_Sp_turn_106 hl (by decide) rfl (fun ls hl => ?_)
    obtain ⟨z_, hz_, hsz_, hxz_, hpz_⟩ := sp_sign hst (by decide) hne hsg
    have hx_ : dd_R x_4 (dd_ev (rV a b c d) (dd_mul z_ v0)) 17496000 := by subst hr_1 ex_4 eI_5 eJ_9 eJ_10 eJ_11 eJ_12 eJ_13 eJ_14 eJ_15 eJ_16; exact hxz_
    have h8_ : t8 J J_16 q i L (dd_mul z_ v0) := t8.of hM.2.2.2.1 hv0 (hbL v0 (List.mem_of_getElem? hv0)).1 hsz_ (by subst hr_1 ex_4 eI_5 eJ_9 eJ_10 eJ_11 eJ_12 eJ_13 eJ_14 eJ_15 eJ_16; exact sp_turn8 _ _ _ _ _ _ _ _ _ _ _)
    have hpb_ : dd_bd (dd_mul z_ v0) := sp_mul_bd hz_ (hbL v0 (List.mem_of_getElem? hv0)).1
    have hrl_ := sp_rem_len L i
    have K108 : ∀ (n_108 : Nat) (k : Nat) (J108 : gm_J) (hk : k ≤ L.length - 1) (hT : tL J_16 J108 q (sp_rem L i) (dd_mul z_ v0) (rV a b c d) k) (hm_108 : L.length - 1 - k < n_108), ∀ (H : Heap) (locs : List Loc) (ls : Array Slot), gm_St D cs sh (gm_A sh) s'.heap sz I_5 J108 H locs → lv_has ls 11 [(0, .ref q), (1, .int (nI i)), (2, .int a), (3, .int b), (4, .int c), (5, .int d), (6, .long x_4), (8, .long sg), (10, .int (nI k))] → W p' l e' { frames := 2, cells := 0, slots := 0, locals := 56 } s' m' ([.ref q, .int (nI i), .int a, .int b, .int c, .int d] : List Value).toArray be' me' co' H locs 0 0 (MQ be' (va_Qv (fun u => ∃ z : Int, (z = 1 ∨ z = -1) ∧ 0 < dd_ev (rV a b c d) (dd_mul z v0) ∧ tuP I J q i rows L R (dd_mul z v0) (rV a b c d) u) (gm_B D cs sh sz) (gm_A sh)) ([.ref q, .int (nI i), .int a, .int b, .int c, .int d] : List Value).toArray s' 0 0 (gm_A sh)) (F0 m' 108 ls []) := by
      intro n_108
      induction n_108 with
      | zero => intro k J108 hk hT hm_108; exact absurd hm_108 (Nat.not_lt_zero _)
      | succ n_108 ih108 =>
        intro k J108 hk hT hm_108 H locs ls hh hl
        refine lv_iload C.1 C.2.1 d_Sp_turn_108 (lv_at hl 8 rfl) ?_
        refine lv_aload_n C.1 C.2.1 d_Sp_turn_110 rfl (lv_at hl 0 rfl) ?_
        refine gg_i C hh hs.1 rfl in_Sp 1 (by decide) rfl tw_186 rfl d_Sp_turn_111 ?_
        refine gm_eqi (y := nI (L.length - 1)) (by rw [eI_5, gm_up_same]) ?_
        refine lv_icmp_ge (tgt := 147) C.1 C.2.1 d_Sp_turn_114 (by decide) (fun c_17 => ?_) (fun c_17 => ?_)
        · -- 114 -> 147
          have c_17 := gm_get (by omega) (by omega) c_17
          have c_17' := Nat.not_lt.mpr c_17
          refine lv_iconst (v := nI 0) C.1 C.2.1 d_Sp_turn_147 rfl ?_
          refine lv_istore (lv' := [(10, .int (nI 0)), (0, .ref q), (1, .int (nI i)), (2, .int a), (3, .int b), (4, .int c), (5, .int d), (6, .long x_4), (8, .long sg)]) C.1 C.2.1 d_Sp_turn_148 hl (by decide) rfl (fun ls hl => ?_)
          have hkl_ : L.length - 1 ≤ k := by omega
          have K150 : ∀ (n_150 : Nat) (k2 : Nat) (I150 : gm_I) (J150 : gm_J) (hk2 : k2 ≤ R.length) (hR2 : tR I_5 I150 J108 J150 q rows R (dd_mul z_ v0) (rV a b c d) k2) (tL150 : I150 q 1 = nI (L.length - 1)) (tN150 : I150 q 3 = nI R.length) (tB150 : I150 q 7 = nI (2 ^ rows.length)) (hm_150 : R.length - k2 < n_150), ∀ (H : Heap) (locs : List Loc) (ls : Array Slot), gm_St D cs sh (gm_A sh) s'.heap sz I150 J150 H locs → lv_has ls 11 [(0, .ref q), (1, .int (nI i)), (2, .int a), (3, .int b), (4, .int c), (5, .int d), (6, .long x_4), (8, .long sg), (10, .int (nI k2))] → W p' l e' { frames := 2, cells := 0, slots := 0, locals := 56 } s' m' ([.ref q, .int (nI i), .int a, .int b, .int c, .int d] : List Value).toArray be' me' co' H locs 0 0 (MQ be' (va_Qv (fun u => ∃ z : Int, (z = 1 ∨ z = -1) ∧ 0 < dd_ev (rV a b c d) (dd_mul z v0) ∧ tuP I J q i rows L R (dd_mul z v0) (rV a b c d) u) (gm_B D cs sh sz) (gm_A sh)) ([.ref q, .int (nI i), .int a, .int b, .int c, .int d] : List Value).toArray s' 0 0 (gm_A sh)) (F0 m' 150 ls []) := by
            intro n_150
            induction n_150 with
            | zero => intro k2 I150 J150 hk2 hR2 tL150 tN150 tB150 hm_150; exact absurd hm_150 (Nat.not_lt_zero _)
            | succ n_150 ih150 =>
              intro k2 I150 J150 hk2 hR2 tL150 tN150 tB150 hm_150 H locs ls hh hl
              refine lv_iload C.1 C.2.1 d_Sp_turn_150 (lv_at hl 8 rfl) ?_
              refine lv_aload_n C.1 C.2.1 d_Sp_turn_152 rfl (lv_at hl 0 rfl) ?_
              refine gg_i C hh hs.1 rfl in_Sp 3 (by decide) rfl tw_188 rfl d_Sp_turn_153 ?_
              refine gm_eqi tN150 ?_
              refine lv_icmp_ge (tgt := 205) C.1 C.2.1 d_Sp_turn_156 (by decide) (fun c_18 => ?_) (fun c_18 => ?_)
              · -- 156 -> 205
                have c_18 := gm_get (by omega) (by omega) c_18
                have c_18' := Nat.not_lt.mpr c_18
                refine lv_aload_n C.1 C.2.1 d_Sp_turn_205 rfl (lv_at hl 0 rfl) ?_
                refine lv_aload_n C.1 C.2.1 d_Sp_turn_206 rfl (lv_at hl 0 rfl) ?_
                refine gg_i C hh hs.1 rfl in_Sp 7 (by decide) rfl tw_192 rfl d_Sp_turn_207 ?_
                refine gm_eqi tB150 ?_
                refine lv_iconst (v := nI 1) C.1 C.2.1 d_Sp_turn_210 rfl ?_
                refine lv_isub C.1 C.2.1 d_Sp_turn_211 ?_
                refine gm_eqi (pk_sub (by omega)) ?_
                refine gc_v hh (gc_runV (As := [.int (nI ((2 ^ rows.length) - 1))]) (rest := []) (n := 1) C hml hh (c_Sp_appendPivot l D cs sh sz I150 J150 q hs R.length tN150 (Nat.le_of_lt hn) (nI ((2 ^ rows.length) - 1))) (tg_V tw_334 tw_336 tw_6 tw_63 tw_337) (by decide +kernel) ⟨rfl, rfl, by decide, by decide, Nat.zero_le _, Nat.zero_le _⟩ hs.1 rfl rfl hl.1 rfl (Nat.le_of_ble_eq_true rfl) d_Sp_turn_212) (fun I_20 J_21 H locs hr_19 hh => ?_)
                exact gr_v C hlk hret hh (by exact ⟨z_, hz_, hpz_, tu_fin (by subst hr_1 ex_4 eI_5 eJ_9 eJ_10 eJ_11 eJ_12 eJ_13 eJ_14 eJ_15 eJ_16; rfl) h8_ hkl_ hT (by omega) hR2 hn hr_19⟩) d_Sp_turn_215
              · -- 156 -> 159
                have c_18 := gm_gef (by omega) (by omega) c_18
                have c_18' := Nat.not_le.mpr c_18
                refine lv_aload_n C.1 C.2.1 d_Sp_turn_159 rfl (lv_at hl 0 rfl) ?_
                refine lv_aload_n C.1 C.2.1 d_Sp_turn_160 rfl (lv_at hl 0 rfl) ?_
                refine gg_r C hh hs.1 rfl in_Sp 2 (by decide) rfl tw_187 rfl d_Sp_turn_161 ?_
                refine lv_iconst (v := nI 4) C.1 C.2.1 d_Sp_turn_164 rfl ?_
                refine lv_iload C.1 C.2.1 d_Sp_turn_165 (lv_at hl 8 rfl) ?_
                refine lv_imul C.1 C.2.1 d_Sp_turn_167 ?_
                refine gm_eqi (pk_mul _ _) ?_
                refine lv_lload C.1 C.2.1 d_Sp_turn_168 (lv_at hl 6 rfl) ?_
                refine lv_aload_n C.1 C.2.1 d_Sp_turn_170 rfl (lv_at hl 0 rfl) ?_
                refine lv_iload C.1 C.2.1 d_Sp_turn_171 (lv_at hl 8 rfl) ?_
                refine lv_iload_n C.1 C.2.1 d_Sp_turn_173 rfl (lv_at hl 2 rfl) ?_
                refine lv_iload_n C.1 C.2.1 d_Sp_turn_174 rfl (lv_at hl 3 rfl) ?_
                refine lv_iload C.1 C.2.1 d_Sp_turn_175 (lv_at hl 4 rfl) ?_
                refine lv_iload C.1 C.2.1 d_Sp_turn_177 (lv_at hl 5 rfl) ?_
                refine gc_l hh (gc_runV (As := [.int (nI k2), .int a, .int b, .int c, .int d]) (rest := [.long x_4, .int (nI (4 * k2)), .ref (q + 2), .ref q]) (n := 5) C hml hh (c_Sp_worth l D cs sh sz I150 J150 q hs k2 (by omega) a b c d) (tg_V tw_362 tw_364 tw_11 tw_63 tw_365) (by decide +kernel) ⟨rfl, rfl, by decide, by decide, Nat.zero_le _, Nat.zero_le _⟩ hs.1 rfl rfl hl.1 rfl (Nat.le_of_ble_eq_true rfl) d_Sp_turn_179) (fun r_22 I_23 J_24 H locs hr_22 hh => ?_)
                obtain ⟨e_r_22, hr_22⟩ := hr_22
                rw [(Prod.mk.inj e_r_22).1, (Prod.mk.inj e_r_22).2] at hh
                obtain ⟨vk, hvk⟩ := sq_get (X := R) (i := k2) (by omega)
                have mk_ := hbR vk (List.mem_of_getElem? hvk)
                have ek_ : sp_vec J150 (q + 2) (4 * k2) = vk := by rw [(hR2.2.2 k2 vk hvk).1, if_neg (by omega)]
                have hw_ : dd_R r_22 (dd_ev (rV a b c d) vk) 17496000 := by subst hr_1 ex_4 eI_5 eJ_9 eJ_10 eJ_11 eJ_12 eJ_13 eJ_14 eJ_15 eJ_16 hr_22; exact sp_wor hsm ek_ mk_
                have ep_ : sp_vec J150 (q + 5) 0 = dd_mul z_ v0 := by rw [sp_vec_off (hR2.2.1 (q + 5) (by omega)), sp_vec_off (hT.1 (q + 5) (by omega))]; exact h8_.2.1
                refine gc_v hh (gc_runV (As := [.ref (q + 2), .int (nI (4 * k2)), .long x_4, .long r_22]) (rest := []) (n := 4) C hml hh (c_Sp_shiftQ l D cs sh sz I150 J150 q hs (q + 2) 128 (4 * k2) hs.2.2.1 (by omega) (by omega) (by omega) x_4 r_22 _ _ hx_ hw_ (by rw [ek_]; exact mk_) (by rw [ep_]; exact hpb_)) (tg_V tw_355 tw_357 tw_10 tw_63 tw_358) (by decide +kernel) ⟨rfl, rfl, by decide, by decide, Nat.zero_le _, Nat.zero_le _⟩ hs.1 rfl rfl hl.1 rfl (Nat.le_of_ble_eq_true rfl) d_Sp_turn_182) (fun I_26 J_27 H locs hr_25 hh => ?_)
                have ehr_25 : I_26 = I150 := hr_25.1
                rw [ehr_25] at hh hr_25
                refine lv_aload_n C.1 C.2.1 d_Sp_turn_185 rfl (lv_at hl 0 rfl) ?_
                refine gg_r C hh hs.1 rfl in_Sp 4 (by decide) rfl tw_189 rfl d_Sp_turn_186 ?_
                refine lv_iload C.1 C.2.1 d_Sp_turn_189 (lv_at hl 8 rfl) ?_
                refine lv_dup2_11 C.1 C.2.1 d_Sp_turn_191 rfl rfl ?_
                refine ga_i C hh hs.2.2.2.1 (k := k2) rfl (by omega) (by omega) d_Sp_turn_192 ?_
                refine lv_aload_n C.1 C.2.1 d_Sp_turn_193 rfl (lv_at hl 0 rfl) ?_
                refine gg_i C hh hs.1 rfl in_Sp 7 (by decide) rfl tw_192 rfl d_Sp_turn_194 ?_
                refine gm_eqi tB150 ?_
                refine lv_ior C.1 C.2.1 d_Sp_turn_197 ?_
                refine gs_i C hh hs.2.2.2.1 (k := k2) rfl (by omega) (by omega) d_Sp_turn_198 (fun H locs hh => ?_)
                obtain ⟨I_28, eI_28⟩ : ∃ z : gm_I, z = gm_up I150 (q + 3) k2 ((I150 (q + 3) k2) ||| (nI (2 ^ rows.length))) := ⟨_, rfl⟩
                rw [← eI_28] at hh
                have tL_29 : I_28 q 1 = nI (L.length - 1) := by rw [eI_28, gm_up_ne _ _ (by omega)]; exact tL150
                have tN_30 : I_28 q 3 = nI R.length := by rw [eI_28, gm_up_ne _ _ (by omega)]; exact tN150
                have tB_31 : I_28 q 7 = nI (2 ^ rows.length) := by rw [eI_28, gm_up_ne _ _ (by omega)]; exact tB150
                refine lv_iinc (v := nI (k2 + 1)) (lv' := [(10, .int (nI (k2 + 1))), (0, .ref q), (1, .int (nI i)), (2, .int a), (3, .int b), (4, .int c), (5, .int d), (6, .long x_4), (8, .long sg)]) C.1 C.2.1 d_Sp_turn_199 hl (k := 8) rfl (gm_inc k2 1) (by decide) rfl (fun ls hl => ?_)
                refine lv_goto (tgt := 150) C.1 C.2.1 d_Sp_turn_202 (by decide) ?_
                exact ih150 (k2 + 1) I_28 J_27 (by omega) (by subst hr_1 ex_4 eI_5 eJ_9 eJ_10 eJ_11 eJ_12 eJ_13 eJ_14 eJ_15 eJ_16 hr_22 eI_28; exact tR.step hR2 hvk (by rw [sp_vec_off (hT.1 (q + 5) (by omega))]; exact h8_.2.1) hr_25) (by exact tL_29) (by exact tN_30) (by exact tB_31) (by omega) _ _ _ hh (lv_sub hl [1, 2, 3, 4, 5, 6, 7, 8, 0] rfl)
          exact K150 _ 0 I_5 J108 (by omega) (by exact tR.nil (fun m_ v_ hm_ => by rw [sp_vec_off (hT.1 (q + 2) (by omega)), sp_vec_off (h8_.1 (q + 2) (by omega) (by omega))]; exact hM.2.2.2.2.1 m_ v_ hm_) (fun m_ t_ hm_ => by subst hr_1 ex_4 eI_5 eJ_9 eJ_10 eJ_11 eJ_12 eJ_13 eJ_14 eJ_15 eJ_16; rw [gm_up_ne _ _ (Or.inl (by omega))]; exact hM.2.2.2.2.2 m_ t_ hm_)) (by exact tL_6) (by exact tN_7) (by exact tB_8) (Nat.lt_succ_self _) _ _ _ hh (lv_sub hl [1, 2, 3, 4, 5, 6, 7, 8, 0] rfl)
        · -- 114 -> 117
          have c_17 := gm_gef (by omega) (by omega) c_17
          have c_17' := Nat.not_le.mpr c_17
          refine lv_aload_n C.1 C.2.1 d_Sp_turn_117 rfl (lv_at hl 0 rfl) ?_
          refine lv_aload_n C.1 C.2.1 d_Sp_turn_118 rfl (lv_at hl 0 rfl) ?_
          refine gg_r C hh hs.1 rfl in_Sp 0 (by decide) rfl tw_185 rfl d_Sp_turn_119 ?_
          refine lv_iconst (v := nI 4) C.1 C.2.1 d_Sp_turn_122 rfl ?_
          refine lv_iload C.1 C.2.1 d_Sp_turn_123 (lv_at hl 8 rfl) ?_
          refine lv_imul C.1 C.2.1 d_Sp_turn_125 ?_
          refine gm_eqi (pk_mul _ _) ?_
          refine lv_lload C.1 C.2.1 d_Sp_turn_126 (lv_at hl 6 rfl) ?_
          refine lv_aload_n C.1 C.2.1 d_Sp_turn_128 rfl (lv_at hl 0 rfl) ?_
          refine lv_iload C.1 C.2.1 d_Sp_turn_129 (lv_at hl 8 rfl) ?_
          refine lv_iload_n C.1 C.2.1 d_Sp_turn_131 rfl (lv_at hl 2 rfl) ?_
          refine lv_iload_n C.1 C.2.1 d_Sp_turn_132 rfl (lv_at hl 3 rfl) ?_
          refine lv_iload C.1 C.2.1 d_Sp_turn_133 (lv_at hl 4 rfl) ?_
          refine gc_l hh (gc_runV (As := [.int (nI k), .int a, .int b, .int c]) (rest := [.long x_4, .int (nI (4 * k)), .ref (q + 1), .ref q]) (n := 4) C hml hh (c_Sp_slope l D cs sh sz I_5 J108 q hs k (by omega) a b c) (tg_V tw_346 tw_348 tw_8 tw_63 tw_349) (by decide +kernel) ⟨rfl, rfl, by decide, by decide, Nat.zero_le _, Nat.zero_le _⟩ hs.1 rfl rfl hl.1 rfl (Nat.le_of_ble_eq_true rfl) d_Sp_turn_135) (fun r_32 I_33 J_34 H locs hr_32 hh => ?_)
          obtain ⟨e_r_32, hr_32⟩ := hr_32
          rw [(Prod.mk.inj e_r_32).1, (Prod.mk.inj e_r_32).2] at hh
          obtain ⟨vk, hvk⟩ := sq_get (X := sp_rem L i) (i := k) (by omega)
          have mk_ := hbL vk (sp_rem_mem hi (List.mem_of_getElem? hvk))
          have ek_ : sp_vec J108 (q + 1) (4 * k) = vk := by rw [hT.2 k vk hvk, if_neg (by omega)]
          have hw_ : dd_R r_32 (dd_ev (rV a b c d) vk) 17496000 := by subst hr_1 ex_4 eI_5 eJ_9 eJ_10 eJ_11 eJ_12 eJ_13 eJ_14 eJ_15 eJ_16 hr_32; exact (sp_slo (rV_sm hsm).1 (rV_sm hsm).2.1 (rV_sm hsm).2.2.1 (by decide) ek_ mk_.1 mk_.2 d).le (by decide)
          have ep_ : sp_vec J108 (q + 5) 0 = dd_mul z_ v0 := by rw [sp_vec_off (hT.1 (q + 5) (by omega))]; exact h8_.2.1
          refine gc_v hh (gc_runV (As := [.ref (q + 1), .int (nI (4 * k)), .long x_4, .long r_32]) (rest := []) (n := 4) C hml hh (c_Sp_shiftQ l D cs sh sz I_5 J108 q hs (q + 1) 12 (4 * k) hs.2.1 (by omega) (by omega) (by omega) x_4 r_32 _ _ hx_ hw_ (by rw [ek_]; exact mk_.1) (by rw [ep_]; exact hpb_)) (tg_V tw_355 tw_357 tw_10 tw_63 tw_358) (by decide +kernel) ⟨rfl, rfl, by decide, by decide, Nat.zero_le _, Nat.zero_le _⟩ hs.1 rfl rfl hl.1 rfl (Nat.le_of_ble_eq_true rfl) d_Sp_turn_138) (fun I_36 J_37 H locs hr_35 hh => ?_)
          have ehr_35 : I_36 = I_5 := hr_35.1
          rw [ehr_35] at hh hr_35
          refine lv_iinc (v := nI (k + 1)) (lv' := [(10, .int (nI (k + 1))), (0, .ref q), (1, .int (nI i)), (2, .int a), (3, .int b), (4, .int c), (5, .int d), (6, .long x_4), (8, .long sg)]) C.1 C.2.1 d_Sp_turn_141 hl (k := 8) rfl (gm_inc k 1) (by decide) rfl (fun ls hl => ?_)
          refine lv_goto (tgt := 108) C.1 C.2.1 d_Sp_turn_144 (by decide) ?_
          exact ih108 (k + 1) J_37 (by omega) (by exact tL.step hT hvk h8_.2.1 hr_35) (by omega) _ _ _ hh (lv_sub hl [1, 2, 3, 4, 5, 6, 7, 8, 0] rfl)
    exact K108 _ 0 J_16 (by omega) (by exact tL.nil h8_.2.2) (Nat.lt_succ_self _) _ _ _ hh (lv_sub hl [3, 4, 5, 6, 7, 8, 1, 2, 0] rfl)
  refine lv_lload C.1 C.2.1 d_Sp_turn_11 (lv_at hl 0 rfl) ?_
  refine lv_lconst (v := 0) C.1 C.2.1 d_Sp_turn_13 rfl ?_
  refine W.lcmp C.1 C.2.1 d_Sp_turn_14 ?_
  refine lv_if_ge (tgt := 24) C.1 C.2.1 d_Sp_turn_15 (by decide) (fun c_38 => ?_) (fun c_38 => ?_)
  · -- 15 -> 24
    have c_38 := gm_lget c_38
    refine lv_lconst (v := 1) C.1 C.2.1 d_Sp_turn_24 rfl ?_
    exact K25 (1 : Int64) (by first | exact Or.inl ⟨by assumption, rfl⟩ | exact Or.inr ⟨Int64.not_lt.mpr (by assumption), rfl⟩) _ _ _ hh (lv_sub hl [1, 2, 3, 4, 5, 6, 0] rfl)
  · -- 15 -> 18
    have c_38 := gm_lgef c_38
    refine lv_ldc2 C.1 C.2.1 C.2.2.2.1 (C.2.2.1 _ tw_354) d_Sp_turn_18 ?_
    refine lv_goto (tgt := 25) C.1 C.2.1 d_Sp_turn_21 (by decide) ?_
    exact K25 (-1 : Int64) (by first | exact Or.inl ⟨by assumption, rfl⟩ | exact Or.inr ⟨Int64.not_lt.mpr (by assumption), rfl⟩) _ _ _ hh (lv_sub hl [1, 2, 3, 4, 5, 6, 0] rfl)
