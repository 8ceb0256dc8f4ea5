set_option maxHeartbeats 4000000 in
set_option maxRecDepth 100000 in
theorem c_Lp_advance (l : Launch) (D : va_G) (cs : Nat → ClassId) (sh : gm_H) (sz : Nat) (I : gm_I) (J : gm_J) (o : Nat) (ho : is_Lp cs sh o) (hVo : inv_Lp I o) (t : Nat) (ht : sh t = some (.inr (.inr (.inl 3)))) (hne : t ≠ o + 5) : CI l y_Lp_advance w_Lp_advance { frames := 2, cells := 0, slots := 0, locals := 48 } D cs sh sz I J [.ref o, .ref t] (fun x u => adP I J o t x u) := by
  refine gm_start (by decide) (Nat.le_of_ble_eq_true rfl) ?_
  intro p' e' s' m' be' me' co' ls C hml hlk hret hh hl
  have hl : lv_has ls 3 [(0, .ref o), (1, .ref t)] := hl
  obtain ⟨m_, hm_, em_⟩ := hVo.2.2.1
  refine lv_aload_n C.1 C.2.1 d_Lp_advance_0 rfl (lv_at hl 0 rfl) ?_
  refine gg_r C hh ho.1 rfl in_Lp 1 (by decide) rfl tw_154 rfl d_Lp_advance_1 ?_
  refine lv_aload_n C.1 C.2.1 d_Lp_advance_4 rfl (lv_at hl 1 rfl) ?_
  obtain ⟨g_1, hg_1, eg_1⟩ := hVo.2.1.2
  refine gc_i hh (gc_runV (As := [.ref t]) (rest := []) (n := 1) C hml hh (c_Rw_holdIn l D cs sh sz I J (o + 1) 4 g_1 ho.2.1 hVo.2.1.1 (by omega) eg_1 hg_1 t ht) (tg_V tw_509 tw_510 tw_511 tw_60 tw_512) (by decide +kernel) ⟨rfl, rfl, by decide, by decide, Nat.zero_le _, Nat.zero_le _⟩ ho.2.1.1 rfl rfl hl.1 rfl (Nat.le_of_ble_eq_true rfl) d_Lp_advance_5) (fun r_2 I_3 J_4 H locs hr_2 hh => ?_)
  obtain ⟨e_r_2, hr_2⟩ := hr_2
  rw [(Prod.mk.inj e_r_2).1, (Prod.mk.inj e_r_2).2] at hh
  refine lv_if_ne (tgt := 13) C.1 C.2.1 d_Lp_advance_8 (by decide) (fun c_5 => ?_) (fun c_5 => ?_)
  · -- 8 -> 13
    have b_6 := bI_t hr_2 c_5
    skip
    refine lv_iconst (v := nI 0) C.1 C.2.1 d_Lp_advance_13 rfl ?_
    refine lv_istore_n (lv' := [(2, .int (nI 0)), (0, .ref o), (1, .ref t)]) C.1 C.2.1 d_Lp_advance_14 rfl hl (by decide) rfl (fun ls hl => ?_)
    have K15 : ∀ (n_15 : Nat) (k : Nat) (hk : k ≤ m_) (hf : cw1 I o (get3 J t) = cwf I o (get3 J t) (m_ - k) k) (hm_15 : m_ - k < n_15), ∀ (H : Heap) (locs : List Loc) (ls : Array Slot), gm_St D cs sh (gm_A sh) s'.heap sz I J H locs → lv_has ls 3 [(0, .ref o), (1, .ref t), (2, .int (nI k))] → W p' l e' { frames := 2, cells := 0, slots := 0, locals := 48 } s' m' ([.ref o, .ref t] : List Value).toArray be' me' co' H locs 0 0 (MQ be' (va_Qi (fun x u => adP I J o t x u) (gm_B D cs sh sz) (gm_A sh)) ([.ref o, .ref t] : List Value).toArray s' 0 0 (gm_A sh)) (F0 m' 15 ls []) := by
      intro n_15
      induction n_15 with
      | zero => intro k hk hf hm_15; exact absurd hm_15 (Nat.not_lt_zero _)
      | succ n_15 ih15 =>
        intro k hk hf hm_15 H locs ls hh hl
        refine lv_iload_n C.1 C.2.1 d_Lp_advance_15 rfl (lv_at hl 2 rfl) ?_
        refine lv_aload_n C.1 C.2.1 d_Lp_advance_16 rfl (lv_at hl 0 rfl) ?_
        refine gg_i C hh ho.1 rfl in_Lp 3 (by decide) rfl tw_161 rfl d_Lp_advance_17 ?_
        refine gm_eqi em_ ?_
        refine lv_icmp_ge (tgt := 61) C.1 C.2.1 d_Lp_advance_20 (by decide) (fun c_7 => ?_) (fun c_7 => ?_)
        · -- 20 -> 61
          have c_7 := gm_get (by omega) (by omega) c_7
          have c_7' := Nat.not_lt.mpr c_7
          refine lv_iconst (v := (-1)) C.1 C.2.1 d_Lp_advance_61 rfl ?_
          exact gr_i C hlk hret rfl hh (by exact ad_no (by rw [hf, show m_ - k = 0 by omega]; rfl)) d_Lp_advance_62
        · -- 20 -> 23
          have c_7 := gm_gef (by omega) (by omega) c_7
          have c_7' := Nat.not_le.mpr c_7
          refine lv_aload_n C.1 C.2.1 d_Lp_advance_23 rfl (lv_at hl 0 rfl) ?_
          refine gg_r C hh ho.1 rfl in_Lp 2 (by decide) rfl tw_157 rfl d_Lp_advance_24 ?_
          refine lv_iload_n C.1 C.2.1 d_Lp_advance_27 rfl (lv_at hl 2 rfl) ?_
          refine ga_q C hh 4 ho.2.2.1 (Cn := "FallingTerms$Way") rfl (k := k) (v := o + 6 + 5 * k) rfl (by omega) (by omega) (if_pos (by omega)) d_Lp_advance_28 ?_
          obtain ⟨p_8, ep_8⟩ : ∃ z : Nat, z = o + 6 + 5 * k := ⟨_, rfl⟩
          have hp_8 : is_Wy sh p_8 := by rw [ep_8]; exact ho.2.2.2.2.2 k (by omega)
          refine gm_eqr ep_8.symm ?_
          refine gn_r C hh hp_8.1 rfl in_Wy 0 (by decide) rfl tw_138 rfl d_Lp_advance_29 ?_
          refine lv_aload_n C.1 C.2.1 d_Lp_advance_32 rfl (lv_at hl 1 rfl) ?_
          have ig_9 := hVo.2.2.2 k (by omega)
          rw [← ep_8] at ig_9
          obtain ⟨g_9, hg_9, eg_9⟩ := ig_9.2
          refine gc_i hh (gc_runV (As := [.ref t]) (rest := []) (n := 1) C hml hh (c_Rw_holdIn l D cs sh sz I J (p_8 + 1) 2 g_9 hp_8.2.1 ig_9.1 (by omega) eg_9 hg_9 t ht) (tg_V tw_509 tw_510 tw_511 tw_60 tw_512) (by decide +kernel) ⟨rfl, rfl, by decide, by decide, Nat.zero_le _, Nat.zero_le _⟩ hp_8.2.1.1 rfl rfl hl.1 rfl (Nat.le_of_ble_eq_true rfl) d_Lp_advance_33) (fun r_10 I_11 J_12 H locs hr_10 hh => ?_)
          obtain ⟨e_r_10, hr_10⟩ := hr_10
          rw [(Prod.mk.inj e_r_10).1, (Prod.mk.inj e_r_10).2] at hh
          refine lv_if_eq (tgt := 55) C.1 C.2.1 d_Lp_advance_36 (by decide) (fun c_13 => ?_) (fun c_13 => ?_)
          · -- 36 -> 55
            have b_14 := bI_f hr_10 c_13
            skip
            refine lv_iinc (v := nI (k + 1)) (lv' := [(2, .int (nI (k + 1))), (0, .ref o), (1, .ref t)]) C.1 C.2.1 d_Lp_advance_55 hl (k := 2) rfl (gm_inc k 1) (by decide) rfl (fun ls hl => ?_)
            refine lv_goto (tgt := 15) C.1 C.2.1 d_Lp_advance_58 (by decide) ?_
            exact ih15 (k + 1) (by omega) (by rw [hf, show m_ - k = (m_ - (k + 1)) + 1 by omega]; exact cwf_no (by unfold wMt; rw [← ep_8, eg_9, nN_nI (by omega)]; assumption)) (by omega) _ _ _ hh (lv_sub hl [1, 2, 0] rfl)
          · -- 36 -> 39
            have b_15 := bI_t hr_10 c_13
            skip
            refine lv_aload_n C.1 C.2.1 d_Lp_advance_39 rfl (lv_at hl 0 rfl) ?_
            refine lv_iload_n C.1 C.2.1 d_Lp_advance_40 rfl (lv_at hl 2 rfl) ?_
            refine lv_aload_n C.1 C.2.1 d_Lp_advance_41 rfl (lv_at hl 1 rfl) ?_
            refine gc_i hh (gc_runV (As := [.int (nI k), .ref t]) (rest := []) (n := 2) C hml hh (c_Lp_change l D cs sh sz I J o ho k t (by omega) ht (by omega)) (tg_V tw_521 tw_522 tw_523 tw_59 tw_524) (by decide +kernel) ⟨rfl, rfl, by decide, by decide, Nat.zero_le _, Nat.zero_le _⟩ ho.1 rfl rfl hl.1 rfl (Nat.le_of_ble_eq_true rfl) d_Lp_advance_42) (fun r_16 I_17 J_18 H locs hr_16 hh => ?_)
            refine lv_if_eq (tgt := 52) C.1 C.2.1 d_Lp_advance_45 (by decide) (fun c_19 => ?_) (fun c_19 => ?_)
            · -- 45 -> 52
              skip
              refine lv_bipush (v := (-5)) C.1 C.2.1 d_Lp_advance_52 rfl ?_
              exact gr_i C hlk hret rfl hh (by have hq_ := ad_yes (m := m_ - (k + 1)) rfl hr_16 (by rw [hf, show m_ - k = (m_ - (k + 1)) + 1 by omega]) (by unfold wMt; rw [← ep_8, eg_9, nN_nI (by omega)]; assumption) hne; first | exact hq_.1 (by assumption) | exact hq_.2 (by assumption)) d_Lp_advance_54
            · -- 45 -> 48
              skip
              refine lv_iload_n C.1 C.2.1 d_Lp_advance_48 rfl (lv_at hl 2 rfl) ?_
              refine lv_goto (tgt := 54) C.1 C.2.1 d_Lp_advance_49 (by decide) ?_
              exact gr_i C hlk hret rfl hh (by have hq_ := ad_yes (m := m_ - (k + 1)) rfl hr_16 (by rw [hf, show m_ - k = (m_ - (k + 1)) + 1 by omega]) (by unfold wMt; rw [← ep_8, eg_9, nN_nI (by omega)]; assumption) hne; first | exact hq_.1 (by assumption) | exact hq_.2 (by assumption)) d_Lp_advance_54
    exact K15 _ 0 (by omega) (by unfold cw1; rw [if_pos (by unfold gMt; rw [eg_1, nN_nI (by omega)]; assumption), em_, nN_nI (by omega)]; rfl) (Nat.lt_succ_self _) _ _ _ hh (lv_sub hl [1, 2, 0] rfl)
  · -- 8 -> 11
    have b_20 := bI_f hr_2 c_5
    skip
    refine lv_iconst (v := (-1)) C.1 C.2.1 d_Lp_advance_11 rfl ?_
    exact gr_i C hlk hret rfl hh (by exact ad_no (by unfold cw1; rw [if_neg (by rw [show gMt I o (get3 J t) = false by unfold gMt; rw [eg_1, nN_nI (by omega)]; assumption]; decide)])) d_Lp_advance_12

set_option maxHeartbeats 4000000 in
set_option maxRecDepth 100000 in
theorem c_Pf_append (l : Launch) (D : va_G) (cs : Nat → ClassId) (sh : gm_H) (sz : Nat) (I : gm_I) (J : gm_J) (f : Nat) (hf : is_Pf sh f) (n : Nat) (en : I f 1 = nI n) (hn : n ≤ 3) (x y u3 w : Int32) : CV l y_Pf_append w_Pf_append { frames := 0, cells := 0, slots := 0, locals := 0 } D cs sh sz I J [.ref f, .int x, .int y, .int u3, .int w] (fun u => (n = 3 ∧ u = (I, J)) ∨ (n < 3 ∧ u = (gm_up (gm_up (lay4 I (f + 1) (4 * n) x y u3 w) f 1 (nI (n + 1))) f 2 (I f 2 &&& (w ^^^ (-1))), J))) := by
  refine gm_start (by decide) (Nat.le_of_ble_eq_true rfl) ?_
  intro p' e' s' m' be' me' co' ls C hml hlk hret hh hl
  have hl : lv_has ls 6 [(0, .ref f), (1, .int x), (2, .int y), (3, .int u3), (4, .int w)] := hl
  have tN_0 : I f 1 = nI n := en
  refine lv_aload_n C.1 C.2.1 d_Pf_append_0 rfl (lv_at hl 0 rfl) ?_
  refine gg_i C hh hf.1 rfl in_Pf 1 (by decide) rfl tw_85 rfl d_Pf_append_1 ?_
  refine gm_eqi tN_0 ?_
  refine lv_iconst (v := nI 3) C.1 C.2.1 d_Pf_append_4 rfl ?_
  refine lv_icmp_lt (tgt := 9) C.1 C.2.1 d_Pf_append_5 (by decide) (fun c_1 => ?_) (fun c_1 => ?_)
  · -- 5 -> 9
    have c_1 := gm_ltt (by omega) (by omega) c_1
    have c_1' := Nat.not_le.mpr c_1
    refine lv_iconst (v := nI 4) C.1 C.2.1 d_Pf_append_9 rfl ?_
    refine lv_aload_n C.1 C.2.1 d_Pf_append_10 rfl (lv_at hl 0 rfl) ?_
    refine gg_i C hh hf.1 rfl in_Pf 1 (by decide) rfl tw_85 rfl d_Pf_append_11 ?_
    refine gm_eqi tN_0 ?_
    refine lv_imul C.1 C.2.1 d_Pf_append_14 ?_
    refine gm_eqi (pk_mul _ _) ?_
    refine lv_istore (lv' := [(5, .int (nI (4 * n))), (0, .ref f), (1, .int x), (2, .int y), (3, .int u3), (4, .int w)]) C.1 C.2.1 d_Pf_append_15 hl (by decide) rfl (fun ls hl => ?_)
    refine lv_aload_n C.1 C.2.1 d_Pf_append_17 rfl (lv_at hl 1 rfl) ?_
    refine gg_r C hh hf.1 rfl in_Pf 0 (by decide) rfl tw_83 rfl d_Pf_append_18 ?_
    refine lv_iload C.1 C.2.1 d_Pf_append_21 (lv_at hl 0 rfl) ?_
    refine lv_iload_n C.1 C.2.1 d_Pf_append_23 rfl (lv_at hl 2 rfl) ?_
    refine gs_i C hh hf.2 (k := 4 * n) rfl (by omega) (by omega) d_Pf_append_24 (fun H locs hh => ?_)
    obtain ⟨I_2, eI_2⟩ : ∃ z : gm_I, z = gm_up I (f + 1) (4 * n) x := ⟨_, rfl⟩
    rw [← eI_2] at hh
    have tN_3 : I_2 f 1 = nI n := by rw [eI_2, gm_up_ne _ _ (by omega)]; exact tN_0
    refine lv_aload_n C.1 C.2.1 d_Pf_append_25 rfl (lv_at hl 1 rfl) ?_
    refine gg_r C hh hf.1 rfl in_Pf 0 (by decide) rfl tw_83 rfl d_Pf_append_26 ?_
    refine lv_iload C.1 C.2.1 d_Pf_append_29 (lv_at hl 0 rfl) ?_
    refine lv_iconst (v := nI 1) C.1 C.2.1 d_Pf_append_31 rfl ?_
    refine lv_iadd C.1 C.2.1 d_Pf_append_32 ?_
    refine gm_eqi (nI_add _ _) ?_
    refine lv_iload_n C.1 C.2.1 d_Pf_append_33 rfl (lv_at hl 3 rfl) ?_
    refine gs_i C hh hf.2 (k := (4 * n) + 1) rfl (by omega) (by omega) d_Pf_append_34 (fun H locs hh => ?_)
    obtain ⟨I_4, eI_4⟩ : ∃ z : gm_I, z = gm_up I_2 (f + 1) ((4 * n) + 1) y := ⟨_, rfl⟩
    rw [← eI_4] at hh
    have tN_5 : I_4 f 1 = nI n := by rw [eI_4, gm_up_ne _ _ (by omega)]; exact tN_3
    refine lv_aload_n C.1 C.2.1 d_Pf_append_35 rfl (lv_at hl 1 rfl) ?_
    refine gg_r C hh hf.1 rfl in_Pf 0 (by decide) rfl tw_83 rfl d_Pf_append_36 ?_
    refine lv_iload C.1 C.2.1 d_Pf_append_39 (lv_at hl 0 rfl) ?_
    refine lv_iconst (v := nI 2) C.1 C.2.1 d_Pf_append_41 rfl ?_
    refine lv_iadd C.1 C.2.1 d_Pf_append_42 ?_
    refine gm_eqi (nI_add _ _) ?_
    refine lv_iload_n C.1 C.2.1 d_Pf_append_43 rfl (lv_at hl 4 rfl) ?_
    refine gs_i C hh hf.2 (k := (4 * n) + 2) rfl (by omega) (by omega) d_Pf_append_44 (fun H locs hh => ?_)
    obtain ⟨I_6, eI_6⟩ : ∃ z : gm_I, z = gm_up I_4 (f + 1) ((4 * n) + 2) u3 := ⟨_, rfl⟩
    rw [← eI_6] at hh
    have tN_7 : I_6 f 1 = nI n := by rw [eI_6, gm_up_ne _ _ (by omega)]; exact tN_5
    refine lv_aload_n C.1 C.2.1 d_Pf_append_45 rfl (lv_at hl 1 rfl) ?_
    refine gg_r C hh hf.1 rfl in_Pf 0 (by decide) rfl tw_83 rfl d_Pf_append_46 ?_
    refine lv_iload C.1 C.2.1 d_Pf_append_49 (lv_at hl 0 rfl) ?_
    refine lv_iconst (v := nI 3) C.1 C.2.1 d_Pf_append_51 rfl ?_
    refine lv_iadd C.1 C.2.1 d_Pf_append_52 ?_
    refine gm_eqi (nI_add _ _) ?_
    refine lv_iload C.1 C.2.1 d_Pf_append_53 (lv_at hl 5 rfl) ?_
    refine gs_i C hh hf.2 (k := (4 * n) + 3) rfl (by omega) (by omega) d_Pf_append_55 (fun H locs hh => ?_)
    obtain ⟨I_8, eI_8⟩ : ∃ z : gm_I, z = gm_up I_6 (f + 1) ((4 * n) + 3) w := ⟨_, rfl⟩
    rw [← eI_8] at hh
    have tN_9 : I_8 f 1 = nI n := by rw [eI_8, gm_up_ne _ _ (by omega)]; exact tN_7
    refine lv_aload_n C.1 C.2.1 d_Pf_append_56 rfl (lv_at hl 1 rfl) ?_
    refine lv_dup C.1 C.2.1 d_Pf_append_57 rfl ?_
    refine gg_i C hh hf.1 rfl in_Pf 1 (by decide) rfl tw_85 rfl d_Pf_append_58 ?_
    refine gm_eqi (y := I f 1) (by rw [eI_8, gm_up_ne _ _ (Or.inl (by omega)), eI_6, gm_up_ne _ _ (Or.inl (by omega)), eI_4, gm_up_ne _ _ (Or.inl (by omega)), eI_2, gm_up_ne _ _ (Or.inl (by omega))]) ?_
    refine gm_eqi tN_0 ?_
    refine lv_iconst (v := nI 1) C.1 C.2.1 d_Pf_append_61 rfl ?_
    refine lv_iadd C.1 C.2.1 d_Pf_append_62 ?_
    refine gm_eqi (nI_add _ _) ?_
    refine gp_i (ty := .int) C hh hf.1 rfl in_Pf t_Pf t_Pf_ok n_Pf 1 (by decide) rfl tw_85 rfl rfl (by decide +kernel) rfl rfl d_Pf_append_63 (fun H locs hh => ?_)
    obtain ⟨I_10, eI_10⟩ : ∃ z : gm_I, z = gm_up I_8 f 1 (nI (n + 1)) := ⟨_, rfl⟩
    rw [← eI_10] at hh
    have tN_11 : I_10 f 1 = nI (n + 1) := by rw [eI_10]; exact gm_up_same _ _ _ _
    refine lv_aload_n C.1 C.2.1 d_Pf_append_66 rfl (lv_at hl 1 rfl) ?_
    refine lv_dup C.1 C.2.1 d_Pf_append_67 rfl ?_
    refine gg_i C hh hf.1 rfl in_Pf 2 (by decide) rfl tw_87 rfl d_Pf_append_68 ?_
    refine gm_eqi (y := I f 2) (by rw [eI_10, gm_up_ne _ _ (Or.inr (by omega)), eI_8, gm_up_ne _ _ (Or.inl (by omega)), eI_6, gm_up_ne _ _ (Or.inl (by omega)), eI_4, gm_up_ne _ _ (Or.inl (by omega)), eI_2, gm_up_ne _ _ (Or.inl (by omega))]) ?_
    refine lv_iload C.1 C.2.1 d_Pf_append_71 (lv_at hl 5 rfl) ?_
    refine lv_iconst (v := (-1)) C.1 C.2.1 d_Pf_append_73 rfl ?_
    refine lv_ixor C.1 C.2.1 d_Pf_append_74 ?_
    refine lv_iand C.1 C.2.1 d_Pf_append_75 ?_
    refine gp_i (ty := .int) C hh hf.1 rfl in_Pf t_Pf t_Pf_ok n_Pf 2 (by decide) rfl tw_87 rfl rfl (by decide +kernel) rfl rfl d_Pf_append_76 (fun H locs hh => ?_)
    obtain ⟨I_12, eI_12⟩ : ∃ z : gm_I, z = gm_up I_10 f 2 ((I f 2) &&& (w ^^^ (-1))) := ⟨_, rfl⟩
    rw [← eI_12] at hh
    have tN_13 : I_12 f 1 = nI (n + 1) := by rw [eI_12, gm_up_ne _ _ (by omega)]; exact tN_11
    exact gr_v C hlk hret hh (by subst_vars; exact Or.inr ⟨by omega, rfl⟩) d_Pf_append_79
  · -- 5 -> 8
    have c_1 := gm_ltf (by omega) (by omega) c_1
    have c_1' := Nat.not_lt.mpr c_1
    exact gr_v C hlk hret hh (by exact Or.inl ⟨by omega, rfl⟩) d_Pf_append_8

set_option maxHeartbeats 4000000 in
set_option maxRecDepth 100000 in
theorem c_Pf_forget (l : Launch) (D : va_G) (cs : Nat → ClassId) (sh : gm_H) (sz : Nat) (I : gm_I) (J : gm_J) (f : Nat) (hf : is_Pf sh f)  : CV l y_Pf_forget w_Pf_forget { frames := 0, cells := 0, slots := 0, locals := 0 } D cs sh sz I J [.ref f] (fun u => u = (gm_up (gm_up I f 1 (nI 0)) f 2 (nI 0), J)) := by
  refine gm_start (by decide) (Nat.le_of_ble_eq_true rfl) ?_
  intro p' e' s' m' be' me' co' ls C hml hlk hret hh hl
  have hl : lv_has ls 1 [(0, .ref f)] := hl
  refine lv_aload_n C.1 C.2.1 d_Pf_forget_0 rfl (lv_at hl 0 rfl) ?_
  refine lv_iconst (v := nI 0) C.1 C.2.1 d_Pf_forget_1 rfl ?_
  refine gp_i (ty := .int) C hh hf.1 rfl in_Pf t_Pf t_Pf_ok n_Pf 1 (by decide) rfl tw_85 rfl rfl (by decide +kernel) rfl rfl d_Pf_forget_2 (fun H locs hh => ?_)
  obtain ⟨I_1, eI_1⟩ : ∃ z : gm_I, z = gm_up I f 1 (nI 0) := ⟨_, rfl⟩
  rw [← eI_1] at hh
  refine lv_aload_n C.1 C.2.1 d_Pf_forget_5 rfl (lv_at hl 0 rfl) ?_
  refine lv_iconst (v := nI 0) C.1 C.2.1 d_Pf_forget_6 rfl ?_
  refine gp_i (ty := .int) C hh hf.1 rfl in_Pf t_Pf t_Pf_ok n_Pf 2 (by decide) rfl tw_87 rfl rfl (by decide +kernel) rfl rfl d_Pf_forget_7 (fun H locs hh => ?_)
  obtain ⟨I_2, eI_2⟩ : ∃ z : gm_I, z = gm_up I_1 f 2 (nI 0) := ⟨_, rfl⟩
  rw [← eI_2] at hh
  exact gr_v C hlk hret hh (by subst_vars; rfl) d_Pf_forget_10
