set_option maxHeartbeats 4000000 in
set_option maxRecDepth 100000 in
theorem c_Md_prove (l : Launch) (D : va_G) (cs : Nat → ClassId) (sh : gm_H) (sz : Nat) (I : gm_I) (J : gm_J) (r : Nat) (hM : is_Md sh r) (hV : inv_Md I r) (hb : ∃ b, I r 20 = bI b) (v : Int32) : CI l y_Md_prove w_Md_prove { frames := 6, cells := 0, slots := 0, locals := 169 } D cs sh sz I J [.ref r, .int v] (fun z u => (lpB I r v = false ∧ z = -2 ∧ u = (I, J)) ∨ (lpB I r v = true ∧ proveP I J r (nN v) z u)) := by
  refine gm_start (by decide) (Nat.le_of_ble_eq_true rfl) ?_
  intro p' e' s' m' be' me' co' ls C hml hlk hret hh hl
  have hl : lv_has ls 3 [(0, .ref r), (1, .int v)] := hl
  refine lv_aload_n C.1 C.2.1 d_Md_prove_0 rfl (lv_at hl 0 rfl) ?_
  refine lv_iload_n C.1 C.2.1 d_Md_prove_1 rfl (lv_at hl 1 rfl) ?_
  refine gc_i hh (gc_runV (As := [.int v]) (rest := []) (n := 1) C hml hh (c_Md_isLoop l D cs sh sz I J r hM hV v) (tg_V tw_695 tw_697 tw_26 tw_64 tw_698) (by decide +kernel) ⟨rfl, rfl, by decide, by decide, Nat.zero_le _, Nat.zero_le _⟩ (Md_0 hM) rfl rfl hl.1 rfl (Nat.le_of_ble_eq_true rfl) d_Md_prove_2) (fun r_1 I_2 J_3 H locs hr_1 hh => ?_)
  obtain ⟨e_r_1, hr_1⟩ := hr_1
  rw [(Prod.mk.inj e_r_1).1, (Prod.mk.inj e_r_1).2] at hh
  refine lv_if_ne (tgt := 11) C.1 C.2.1 d_Md_prove_5 (by decide) (fun c_4 => ?_) (fun c_4 => ?_)
  · -- 5 -> 11
    have b_5 := bI_t hr_1 c_4
    obtain ⟨n_7, hn_7, en_7⟩ := hV.1
    obtain ⟨j_6, hj_6, ej_6⟩ := lpB_j en_7 hn_7 b_5
    subst ej_6
    skip
    refine lv_aload_n C.1 C.2.1 d_Md_prove_11 rfl (lv_at hl 0 rfl) ?_
    refine lv_aload_n C.1 C.2.1 d_Md_prove_12 rfl (lv_at hl 0 rfl) ?_
    refine lv_iload_n C.1 C.2.1 d_Md_prove_13 rfl (lv_at hl 1 rfl) ?_
    refine lv_iconst (v := nI 0) C.1 C.2.1 d_Md_prove_14 rfl ?_
    refine gc_i hh (gc_runV (As := [.int (nI j_6), .int (nI 0)]) (rest := [.ref r]) (n := 2) C hml hh (c_Md_leftBy l D cs sh sz I J r hM hV hb j_6 (by omega) (nI 0) false rfl) (tg_V tw_811 tw_813 tw_45 tw_64 tw_814) (by decide +kernel) ⟨rfl, rfl, by decide, by decide, Nat.zero_le _, Nat.zero_le _⟩ (Md_0 hM) rfl rfl hl.1 rfl (Nat.le_of_ble_eq_true rfl) d_Md_prove_15) (fun r_8 I_9 J_10 H locs hr_8 hh => ?_)
    obtain ⟨hr_8, l8_lf_11, l3_lf_11, hE_lf_11, hK_lf_11, hA_lf_11⟩ := hr_8
    obtain ⟨lf_11, elf_11⟩ : ∃ z_ : Nat, z_ = (leftR I J r j_6 false).2 := ⟨_, rfl⟩
    obtain ⟨ln_12, eln_12⟩ : ∃ z_ : Nat, z_ = (leftR I J r j_6 false).1.length := ⟨_, rfl⟩
    rw [← elf_11] at hr_8 l8_lf_11
    rw [← eln_12] at l3_lf_11 hK_lf_11
    rw [hr_8]
    refine gp_i (ty := .int) C hh (Md_0 hM) rfl in_Md t_Md t_Md_ok n_Md 12 (by decide) rfl tw_577 rfl rfl (by decide +kernel) rfl rfl d_Md_prove_18 (fun H locs hh => ?_)
    obtain ⟨I_13, eI_13⟩ : ∃ z : gm_I, z = gm_up I_9 r 12 (nI lf_11) := ⟨_, rfl⟩
    rw [← eI_13] at hh
    refine lv_aload_n C.1 C.2.1 d_Md_prove_21 rfl (lv_at hl 0 rfl) ?_
    refine lv_aload_n C.1 C.2.1 d_Md_prove_22 rfl (lv_at hl 0 rfl) ?_
    refine gg_i C hh (Md_0 hM) rfl in_Md 33 (by decide) rfl tw_598 rfl d_Md_prove_23 ?_
    refine gm_eqi (y := I_9 r 33) (by rw [eI_13, gm_up_ne _ _ (Or.inr (by omega))]) ?_
    refine gm_eqi hK_lf_11 ?_
    refine gp_i (ty := .int) C hh (Md_0 hM) rfl in_Md t_Md t_Md_ok n_Md 10 (by decide) rfl tw_575 rfl rfl (by decide +kernel) rfl rfl d_Md_prove_26 (fun H locs hh => ?_)
    obtain ⟨I_14, eI_14⟩ : ∃ z : gm_I, z = gm_up I_13 r 10 (nI ln_12) := ⟨_, rfl⟩
    rw [← eI_14] at hh
    refine lv_iconst (v := nI 0) C.1 C.2.1 d_Md_prove_29 rfl ?_
    refine lv_istore_n (lv' := [(2, .int (nI 0)), (0, .ref r), (1, .int (nI j_6))]) C.1 C.2.1 d_Md_prove_30 rfl hl (by decide) rfl (fun ls hl => ?_)
    have hh : gm_St D cs sh (gm_A sh) s'.heap sz (cpK I_14 r 0) J_10 H locs := by rw [cpK_0]; exact hh
    have pk : I_14 r 33 = nI ln_12 := by rw [eI_14, eI_13, gm_up_ne _ _ (by omega), gm_up_ne _ _ (by omega)]; exact hK_lf_11
    have pl : I_14 r 12 = nI lf_11 := by rw [eI_14, eI_13, gm_up_ne _ _ (by omega), gm_up_same]
    have K31 : ∀ (n_31 : Nat) (k : Nat) (hk : k ≤ 4 * ln_12) (hm_31 : 4 * ln_12 - k < n_31), ∀ (H : Heap) (locs : List Loc) (ls : Array Slot), gm_St D cs sh (gm_A sh) s'.heap sz (cpK I_14 r k) J_10 H locs → lv_has ls 3 [(0, .ref r), (1, .int (nI j_6)), (2, .int (nI k))] → W p' l e' { frames := 6, cells := 0, slots := 0, locals := 169 } s' m' ([.ref r, .int (nI j_6)] : List Value).toArray be' me' co' H locs 0 0 (MQ be' (va_Qi (fun z u => (lpB I r (nI j_6) = false ∧ z = -2 ∧ u = (I, J)) ∨ (lpB I r (nI j_6) = true ∧ proveP I J r (nN (nI j_6)) z u)) (gm_B D cs sh sz) (gm_A sh)) ([.ref r, .int (nI j_6)] : List Value).toArray s' 0 0 (gm_A sh)) (F0 m' 31 ls []) := by
      intro n_31
      induction n_31 with
      | zero => intro k hk hm_31; exact absurd hm_31 (Nat.not_lt_zero _)
      | succ n_31 ih31 =>
        intro k hk hm_31 H locs ls hh hl
        refine lv_iload_n C.1 C.2.1 d_Md_prove_31 rfl (lv_at hl 2 rfl) ?_
        refine lv_iconst (v := nI 4) C.1 C.2.1 d_Md_prove_32 rfl ?_
        refine lv_aload_n C.1 C.2.1 d_Md_prove_33 rfl (lv_at hl 0 rfl) ?_
        refine gg_i C hh (Md_0 hM) rfl in_Md 33 (by decide) rfl tw_598 rfl d_Md_prove_34 ?_
        refine gm_eqi (y := nI ln_12) (by (rw [cpK_o _ (by omega)]; exact pk)) ?_
        refine lv_imul C.1 C.2.1 d_Md_prove_37 ?_
        refine gm_eqi (pk_mul _ _) ?_
        refine lv_icmp_ge (tgt := 59) C.1 C.2.1 d_Md_prove_38 (by decide) (fun c_15 => ?_) (fun c_15 => ?_)
        · -- 38 -> 59
          have c_15 := gm_get (by omega) (by omega) c_15
          have c_15' := Nat.not_lt.mpr c_15
          refine lv_aload_n C.1 C.2.1 d_Md_prove_59 rfl (lv_at hl 0 rfl) ?_
          refine gg_i C hh (Md_0 hM) rfl in_Md 12 (by decide) rfl tw_577 rfl d_Md_prove_60 ?_
          refine gm_eqi (y := nI lf_11) (by (rw [cpK_o _ (by omega)]; exact pl)) ?_
          refine lv_if_ne (tgt := 70) C.1 C.2.1 d_Md_prove_63 (by decide) (fun c_16 => ?_) (fun c_16 => ?_)
          · -- 63 -> 70
            have c_16 := gm_net (b := 0) (by omega) (by omega) c_16
            refine lv_iconst (v := nI 0) C.1 C.2.1 d_Md_prove_70 rfl ?_
            exact gr_i C hlk hret rfl hh (by refine Or.inr ⟨by assumption, ?_⟩; rw [nN_nI (by omega), show k = 4 * ln_12 by omega, eI_14, eI_13]; exact proveP_of hE_lf_11 hA_lf_11 eln_12 elf_11 (by omega) (by first | (rw [if_pos (by assumption)]; rfl) | (rw [if_neg (by assumption)]; rfl))) d_Md_prove_71
          · -- 63 -> 66
            have c_16 := gm_nef (b := 0) (by omega) (by omega) c_16
            refine lv_iconst (v := nI 1) C.1 C.2.1 d_Md_prove_66 rfl ?_
            refine lv_goto (tgt := 71) C.1 C.2.1 d_Md_prove_67 (by decide) ?_
            exact gr_i C hlk hret rfl hh (by refine Or.inr ⟨by assumption, ?_⟩; rw [nN_nI (by omega), show k = 4 * ln_12 by omega, eI_14, eI_13]; exact proveP_of hE_lf_11 hA_lf_11 eln_12 elf_11 (by omega) (by first | (rw [if_pos (by assumption)]; rfl) | (rw [if_neg (by assumption)]; rfl))) d_Md_prove_71
        · -- 38 -> 41
          have c_15 := gm_gef (by omega) (by omega) c_15
          have c_15' := Nat.not_le.mpr c_15
          refine lv_aload_n C.1 C.2.1 d_Md_prove_41 rfl (lv_at hl 0 rfl) ?_
          refine gg_r C hh (Md_0 hM) rfl in_Md 11 (by decide) rfl tw_576 rfl d_Md_prove_42 ?_
          refine lv_iload_n C.1 C.2.1 d_Md_prove_45 rfl (lv_at hl 2 rfl) ?_
          refine lv_aload_n C.1 C.2.1 d_Md_prove_46 rfl (lv_at hl 0 rfl) ?_
          refine gg_r C hh (Md_0 hM) rfl in_Md 34 (by decide) rfl tw_599 rfl d_Md_prove_47 ?_
          refine lv_iload_n C.1 C.2.1 d_Md_prove_50 rfl (lv_at hl 2 rfl) ?_
          refine ga_i C hh (Md_16 hM) (k := k) rfl (by omega) (by omega) d_Md_prove_51 ?_
          refine gm_eqi (y := I_14 (r + 16) k) (by exact cpK_o _ (by omega)) ?_
          refine gs_i C hh (Md_10 hM) (k := k) rfl (by omega) (by omega) d_Md_prove_52 (fun H locs hh => ?_)
          obtain ⟨I_17, eI_17⟩ : ∃ z : gm_I, z = gm_up (cpK I_14 r k) (r + 10) k (I_14 (r + 16) k) := ⟨_, rfl⟩
          rw [← eI_17] at hh
          have hh : gm_St D cs sh (gm_A sh) s'.heap sz (cpK I_14 r (k + 1)) J_10 H locs := by rw [eI_17, cpK_up] at hh; exact hh
          refine lv_iinc (v := nI (k + 1)) (lv' := [(2, .int (nI (k + 1))), (0, .ref r), (1, .int (nI j_6))]) C.1 C.2.1 d_Md_prove_53 hl (k := 2) rfl (gm_inc k 1) (by decide) rfl (fun ls hl => ?_)
          refine lv_goto (tgt := 31) C.1 C.2.1 d_Md_prove_56 (by decide) ?_
          exact ih31 (k + 1) (by omega) (by omega) _ _ _ hh (lv_sub hl [1, 2, 0] rfl)
    exact K31 _ 0 (by omega) (Nat.lt_succ_self _) _ _ _ hh (lv_sub hl [1, 2, 0] rfl)
  · -- 5 -> 8
    have b_18 := bI_f hr_1 c_4
    skip
    refine lv_bipush (v := (-2)) C.1 C.2.1 d_Md_prove_8 rfl ?_
    exact gr_i C hlk hret rfl hh (by exact Or.inl ⟨by assumption, rfl, rfl⟩) d_Md_prove_10
