set_option maxHeartbeats 4000000 in
set_option maxRecDepth 100000 in
theorem c_Rw_append (l : Launch) (D : va_G) (cs : Nat → ClassId) (sh : gm_H) (sz : Nat) (I : gm_I) (J : gm_J) (k cap n : Nat) (hk : is_Rw sh k cap) (ec : I k 1 = nI cap) (hc : cap ≤ 4) (en : I k 2 = nI n) (hn : n ≤ cap) (a b c d : Int32) : CI l y_Rw_append w_Rw_append { frames := 0, cells := 0, slots := 0, locals := 0 } D cs sh sz I J [.ref k, .int a, .int b, .int c, .int d] (fun x u => (n = cap ∧ x = -4 ∧ u = (I, J)) ∨ (n < cap ∧ x = nI (n + 1) ∧ u = (gm_up (lay4 I (k + 1) (4 * n) a b c d) k 2 (nI (n + 1)), J))) := by
  refine gm_start (by decide) (Nat.le_of_ble_eq_true rfl) ?_
  intro p' e' s' m' be' me' co' ls C hml hlk hret hh hl
  have hl : lv_has ls 6 [(0, .ref k), (1, .int a), (2, .int b), (3, .int c), (4, .int d)] := hl
  have tC_0 : I k 1 = nI cap := ec
  have tN_0 : I k 2 = nI n := en
  refine lv_aload_n C.1 C.2.1 d_Rw_append_0 rfl (lv_at hl 0 rfl) ?_
  refine gg_i C hh hk.1 rfl in_Rw 2 (by decide) rfl tw_114 rfl d_Rw_append_1 ?_
  refine gm_eqi tN_0 ?_
  refine lv_aload_n C.1 C.2.1 d_Rw_append_4 rfl (lv_at hl 0 rfl) ?_
  refine gg_i C hh hk.1 rfl in_Rw 1 (by decide) rfl tw_113 rfl d_Rw_append_5 ?_
  refine gm_eqi tC_0 ?_
  refine lv_icmp_lt (tgt := 14) C.1 C.2.1 d_Rw_append_8 (by decide) (fun c_1 => ?_) (fun c_1 => ?_)
  · -- 8 -> 14
    have c_1 := gm_ltt (by omega) (by omega) c_1
    have c_1' := Nat.not_le.mpr c_1
    refine lv_iconst (v := nI 4) C.1 C.2.1 d_Rw_append_14 rfl ?_
    refine lv_aload_n C.1 C.2.1 d_Rw_append_15 rfl (lv_at hl 0 rfl) ?_
    refine gg_i C hh hk.1 rfl in_Rw 2 (by decide) rfl tw_114 rfl d_Rw_append_16 ?_
    refine gm_eqi tN_0 ?_
    refine lv_imul C.1 C.2.1 d_Rw_append_19 ?_
    refine gm_eqi (pk_mul _ _) ?_
    refine lv_istore (lv' := [(5, .int (nI (4 * n))), (0, .ref k), (1, .int a), (2, .int b), (3, .int c), (4, .int d)]) C.1 C.2.1 d_Rw_append_20 hl (by decide) rfl (fun ls hl => ?_)
    refine lv_aload_n C.1 C.2.1 d_Rw_append_22 rfl (lv_at hl 1 rfl) ?_
    refine gg_r C hh hk.1 rfl in_Rw 0 (by decide) rfl tw_111 rfl d_Rw_append_23 ?_
    refine lv_iload C.1 C.2.1 d_Rw_append_26 (lv_at hl 0 rfl) ?_
    refine lv_iload_n C.1 C.2.1 d_Rw_append_28 rfl (lv_at hl 2 rfl) ?_
    refine gs_i C hh hk.2 (k := 4 * n) rfl (by omega) (by omega) d_Rw_append_29 (fun H locs hh => ?_)
    obtain ⟨I_2, eI_2⟩ : ∃ z : gm_I, z = gm_up I (k + 1) (4 * n) a := ⟨_, rfl⟩
    rw [← eI_2] at hh
    have tC_3 : I_2 k 1 = nI cap := by rw [eI_2, gm_up_ne _ _ (by omega)]; exact tC_0
    have tN_4 : I_2 k 2 = nI n := by rw [eI_2, gm_up_ne _ _ (by omega)]; exact tN_0
    refine lv_aload_n C.1 C.2.1 d_Rw_append_30 rfl (lv_at hl 1 rfl) ?_
    refine gg_r C hh hk.1 rfl in_Rw 0 (by decide) rfl tw_111 rfl d_Rw_append_31 ?_
    refine lv_iload C.1 C.2.1 d_Rw_append_34 (lv_at hl 0 rfl) ?_
    refine lv_iconst (v := nI 1) C.1 C.2.1 d_Rw_append_36 rfl ?_
    refine lv_iadd C.1 C.2.1 d_Rw_append_37 ?_
    refine gm_eqi (nI_add _ _) ?_
    refine lv_iload_n C.1 C.2.1 d_Rw_append_38 rfl (lv_at hl 3 rfl) ?_
    refine gs_i C hh hk.2 (k := (4 * n) + 1) rfl (by omega) (by omega) d_Rw_append_39 (fun H locs hh => ?_)
    obtain ⟨I_5, eI_5⟩ : ∃ z : gm_I, z = gm_up I_2 (k + 1) ((4 * n) + 1) b := ⟨_, rfl⟩
    rw [← eI_5] at hh
    have tC_6 : I_5 k 1 = nI cap := by rw [eI_5, gm_up_ne _ _ (by omega)]; exact tC_3
    have tN_7 : I_5 k 2 = nI n := by rw [eI_5, gm_up_ne _ _ (by omega)]; exact tN_4
    refine lv_aload_n C.1 C.2.1 d_Rw_append_40 rfl (lv_at hl 1 rfl) ?_
    refine gg_r C hh hk.1 rfl in_Rw 0 (by decide) rfl tw_111 rfl d_Rw_append_41 ?_
    refine lv_iload C.1 C.2.1 d_Rw_append_44 (lv_at hl 0 rfl) ?_
    refine lv_iconst (v := nI 2) C.1 C.2.1 d_Rw_append_46 rfl ?_
    refine lv_iadd C.1 C.2.1 d_Rw_append_47 ?_
    refine gm_eqi (nI_add _ _) ?_
    refine lv_iload_n C.1 C.2.1 d_Rw_append_48 rfl (lv_at hl 4 rfl) ?_
    refine gs_i C hh hk.2 (k := (4 * n) + 2) rfl (by omega) (by omega) d_Rw_append_49 (fun H locs hh => ?_)
    obtain ⟨I_8, eI_8⟩ : ∃ z : gm_I, z = gm_up I_5 (k + 1) ((4 * n) + 2) c := ⟨_, rfl⟩
    rw [← eI_8] at hh
    have tC_9 : I_8 k 1 = nI cap := by rw [eI_8, gm_up_ne _ _ (by omega)]; exact tC_6
    have tN_10 : I_8 k 2 = nI n := by rw [eI_8, gm_up_ne _ _ (by omega)]; exact tN_7
    refine lv_aload_n C.1 C.2.1 d_Rw_append_50 rfl (lv_at hl 1 rfl) ?_
    refine gg_r C hh hk.1 rfl in_Rw 0 (by decide) rfl tw_111 rfl d_Rw_append_51 ?_
    refine lv_iload C.1 C.2.1 d_Rw_append_54 (lv_at hl 0 rfl) ?_
    refine lv_iconst (v := nI 3) C.1 C.2.1 d_Rw_append_56 rfl ?_
    refine lv_iadd C.1 C.2.1 d_Rw_append_57 ?_
    refine gm_eqi (nI_add _ _) ?_
    refine lv_iload C.1 C.2.1 d_Rw_append_58 (lv_at hl 5 rfl) ?_
    refine gs_i C hh hk.2 (k := (4 * n) + 3) rfl (by omega) (by omega) d_Rw_append_60 (fun H locs hh => ?_)
    obtain ⟨I_11, eI_11⟩ : ∃ z : gm_I, z = gm_up I_8 (k + 1) ((4 * n) + 3) d := ⟨_, rfl⟩
    rw [← eI_11] at hh
    have tC_12 : I_11 k 1 = nI cap := by rw [eI_11, gm_up_ne _ _ (by omega)]; exact tC_9
    have tN_13 : I_11 k 2 = nI n := by rw [eI_11, gm_up_ne _ _ (by omega)]; exact tN_10
    refine lv_aload_n C.1 C.2.1 d_Rw_append_61 rfl (lv_at hl 1 rfl) ?_
    refine lv_dup C.1 C.2.1 d_Rw_append_62 rfl ?_
    refine gg_i C hh hk.1 rfl in_Rw 2 (by decide) rfl tw_114 rfl d_Rw_append_63 ?_
    refine gm_eqi (y := I k 2) (by rw [eI_11, gm_up_ne _ _ (Or.inl (by omega)), eI_8, gm_up_ne _ _ (Or.inl (by omega)), eI_5, gm_up_ne _ _ (Or.inl (by omega)), eI_2, gm_up_ne _ _ (Or.inl (by omega))]) ?_
    refine gm_eqi tN_0 ?_
    refine lv_iconst (v := nI 1) C.1 C.2.1 d_Rw_append_66 rfl ?_
    refine lv_iadd C.1 C.2.1 d_Rw_append_67 ?_
    refine gm_eqi (nI_add _ _) ?_
    refine gp_i (ty := .int) C hh hk.1 rfl in_Rw t_Rw t_Rw_ok n_Rw 2 (by decide) rfl tw_114 rfl rfl (by decide +kernel) rfl rfl d_Rw_append_68 (fun H locs hh => ?_)
    obtain ⟨I_14, eI_14⟩ : ∃ z : gm_I, z = gm_up I_11 k 2 (nI (n + 1)) := ⟨_, rfl⟩
    rw [← eI_14] at hh
    have tC_15 : I_14 k 1 = nI cap := by rw [eI_14, gm_up_ne _ _ (by omega)]; exact tC_12
    have tN_16 : I_14 k 2 = nI (n + 1) := by rw [eI_14]; exact gm_up_same _ _ _ _
    refine lv_aload_n C.1 C.2.1 d_Rw_append_71 rfl (lv_at hl 1 rfl) ?_
    refine gg_i C hh hk.1 rfl in_Rw 2 (by decide) rfl tw_114 rfl d_Rw_append_72 ?_
    refine gm_eqi (y := nI (n + 1)) (by rw [eI_14, gm_up_same]) ?_
    exact gr_i C hlk hret rfl hh (by subst_vars; exact Or.inr ⟨by omega, rfl, rfl⟩) d_Rw_append_75
  · -- 8 -> 11
    have c_1 := gm_ltf (by omega) (by omega) c_1
    have c_1' := Nat.not_lt.mpr c_1
    refine lv_bipush (v := (-4)) C.1 C.2.1 d_Rw_append_11 rfl ?_
    exact gr_i C hlk hret rfl hh (by exact Or.inl ⟨by omega, rfl, rfl⟩) d_Rw_append_13

set_option maxHeartbeats 4000000 in
set_option maxRecDepth 100000 in
theorem c_Rw_holdIn (l : Launch) (D : va_G) (cs : Nat → ClassId) (sh : gm_H) (sz : Nat) (I : gm_I) (J : gm_J) (k cap n : Nat) (hk : is_Rw sh k cap) (ec : I k 1 = nI cap) (hc : cap ≤ 4) (en : I k 2 = nI n) (hn : n ≤ cap) (t : Nat) (ht : sh t = some (.inr (.inr (.inl 3)))) : CI l y_Rw_holdIn w_Rw_holdIn { frames := 0, cells := 0, slots := 0, locals := 0 } D cs sh sz I J [.ref k, .ref t] (fun x u => u = (I, J) ∧ x = bI (allMet I (k + 1) 0 n (J t 0) (J t 1) (J t 2))) := by
  refine gm_start (by decide) (Nat.le_of_ble_eq_true rfl) ?_
  intro p' e' s' m' be' me' co' ls C hml hlk hret hh hl
  have hl : lv_has ls 6 [(0, .ref k), (1, .ref t)] := hl
  have tC_0 : I k 1 = nI cap := ec
  have tN_0 : I k 2 = nI n := en
  refine lv_iconst (v := nI 0) C.1 C.2.1 d_Rw_holdIn_0 rfl ?_
  refine lv_istore_n (lv' := [(2, .int (nI 0)), (0, .ref k), (1, .ref t)]) C.1 C.2.1 d_Rw_holdIn_1 rfl hl (by decide) rfl (fun ls hl => ?_)
  have K2 : ∀ (n_2 : Nat) (i : Nat) (hi : i ≤ n) (ha : allMet I (k + 1) 0 i (J t 0) (J t 1) (J t 2) = true) (hm_2 : n - i < n_2), ∀ (H : Heap) (locs : List Loc) (ls : Array Slot), gm_St D cs sh (gm_A sh) s'.heap sz I J H locs → lv_has ls 6 [(0, .ref k), (1, .ref t), (2, .int (nI i))] → W p' l e' { frames := 0, cells := 0, slots := 0, locals := 0 } s' m' ([.ref k, .ref t] : List Value).toArray be' me' co' H locs 0 0 (MQ be' (va_Qi (fun x u => u = (I, J) ∧ x = bI (allMet I (k + 1) 0 n (J t 0) (J t 1) (J t 2))) (gm_B D cs sh sz) (gm_A sh)) ([.ref k, .ref t] : List Value).toArray s' 0 0 (gm_A sh)) (F0 m' 2 ls []) := by
    intro n_2
    induction n_2 with
    | zero => intro i hi ha hm_2; exact absurd hm_2 (Nat.not_lt_zero _)
    | succ n_2 ih2 =>
      intro i hi ha hm_2 H locs ls hh hl
      refine lv_iload_n C.1 C.2.1 d_Rw_holdIn_2 rfl (lv_at hl 2 rfl) ?_
      refine lv_aload_n C.1 C.2.1 d_Rw_holdIn_3 rfl (lv_at hl 0 rfl) ?_
      refine gg_i C hh hk.1 rfl in_Rw 2 (by decide) rfl tw_114 rfl d_Rw_holdIn_4 ?_
      refine gm_eqi tN_0 ?_
      refine lv_icmp_ge (tgt := 78) C.1 C.2.1 d_Rw_holdIn_7 (by decide) (fun c_1 => ?_) (fun c_1 => ?_)
      · -- 7 -> 78
        have c_1 := gm_get (by omega) (by omega) c_1
        have c_1' := Nat.not_lt.mpr c_1
        refine lv_iconst (v := nI 1) C.1 C.2.1 d_Rw_holdIn_78 rfl ?_
        exact gr_i C hlk hret (gm_nb (Or.inr rfl)) hh (by refine ⟨rfl, ?_⟩; rw [← show i = n by omega, ha]; rfl) d_Rw_holdIn_79
      · -- 7 -> 10
        have c_1 := gm_gef (by omega) (by omega) c_1
        have c_1' := Nat.not_le.mpr c_1
        refine lv_iconst (v := nI 4) C.1 C.2.1 d_Rw_holdIn_10 rfl ?_
        refine lv_iload_n C.1 C.2.1 d_Rw_holdIn_11 rfl (lv_at hl 2 rfl) ?_
        refine lv_imul C.1 C.2.1 d_Rw_holdIn_12 ?_
        refine gm_eqi (pk_mul _ _) ?_
        refine lv_istore_n (lv' := [(3, .int (nI (4 * i))), (0, .ref k), (1, .ref t), (2, .int (nI i))]) C.1 C.2.1 d_Rw_holdIn_13 rfl hl (by decide) rfl (fun ls hl => ?_)
        refine lv_aload_n C.1 C.2.1 d_Rw_holdIn_14 rfl (lv_at hl 1 rfl) ?_
        refine gg_r C hh hk.1 rfl in_Rw 0 (by decide) rfl tw_111 rfl d_Rw_holdIn_15 ?_
        refine lv_iload_n C.1 C.2.1 d_Rw_holdIn_18 rfl (lv_at hl 0 rfl) ?_
        refine ga_i C hh hk.2 (k := 4 * i) rfl (by omega) (by omega) d_Rw_holdIn_19 ?_
        refine lv_i2l (v := (I (k + 1) (4 * i)).toInt64) C.1 C.2.1 d_Rw_holdIn_20 rfl ?_
        refine lv_aload_n C.1 C.2.1 d_Rw_holdIn_21 rfl (lv_at hl 2 rfl) ?_
        refine lv_iconst (v := nI 0) C.1 C.2.1 d_Rw_holdIn_22 rfl ?_
        refine ga_l C hh ht (k := 0) rfl (by omega) (by omega) d_Rw_holdIn_23 ?_
        refine lv_lmul C.1 C.2.1 d_Rw_holdIn_24 ?_
        refine lv_aload_n C.1 C.2.1 d_Rw_holdIn_25 rfl (lv_at hl 1 rfl) ?_
        refine gg_r C hh hk.1 rfl in_Rw 0 (by decide) rfl tw_111 rfl d_Rw_holdIn_26 ?_
        refine lv_iload_n C.1 C.2.1 d_Rw_holdIn_29 rfl (lv_at hl 0 rfl) ?_
        refine lv_iconst (v := nI 1) C.1 C.2.1 d_Rw_holdIn_30 rfl ?_
        refine lv_iadd C.1 C.2.1 d_Rw_holdIn_31 ?_
        refine gm_eqi (nI_add _ _) ?_
        refine ga_i C hh hk.2 (k := (4 * i) + 1) rfl (by omega) (by omega) d_Rw_holdIn_32 ?_
        refine lv_i2l (v := (I (k + 1) ((4 * i) + 1)).toInt64) C.1 C.2.1 d_Rw_holdIn_33 rfl ?_
        refine lv_aload_n C.1 C.2.1 d_Rw_holdIn_34 rfl (lv_at hl 2 rfl) ?_
        refine lv_iconst (v := nI 1) C.1 C.2.1 d_Rw_holdIn_35 rfl ?_
        refine ga_l C hh ht (k := 1) rfl (by omega) (by omega) d_Rw_holdIn_36 ?_
        refine lv_lmul C.1 C.2.1 d_Rw_holdIn_37 ?_
        refine lv_ladd C.1 C.2.1 d_Rw_holdIn_38 ?_
        refine lv_aload_n C.1 C.2.1 d_Rw_holdIn_39 rfl (lv_at hl 1 rfl) ?_
        refine gg_r C hh hk.1 rfl in_Rw 0 (by decide) rfl tw_111 rfl d_Rw_holdIn_40 ?_
        refine lv_iload_n C.1 C.2.1 d_Rw_holdIn_43 rfl (lv_at hl 0 rfl) ?_
        refine lv_iconst (v := nI 2) C.1 C.2.1 d_Rw_holdIn_44 rfl ?_
        refine lv_iadd C.1 C.2.1 d_Rw_holdIn_45 ?_
        refine gm_eqi (nI_add _ _) ?_
        refine ga_i C hh hk.2 (k := (4 * i) + 2) rfl (by omega) (by omega) d_Rw_holdIn_46 ?_
        refine lv_i2l (v := (I (k + 1) ((4 * i) + 2)).toInt64) C.1 C.2.1 d_Rw_holdIn_47 rfl ?_
        refine lv_aload_n C.1 C.2.1 d_Rw_holdIn_48 rfl (lv_at hl 2 rfl) ?_
        refine lv_iconst (v := nI 2) C.1 C.2.1 d_Rw_holdIn_49 rfl ?_
        refine ga_l C hh ht (k := 2) rfl (by omega) (by omega) d_Rw_holdIn_50 ?_
        refine lv_lmul C.1 C.2.1 d_Rw_holdIn_51 ?_
        refine lv_ladd C.1 C.2.1 d_Rw_holdIn_52 ?_
        refine lv_topl (fun x_2 ex_2 => ?_)
        refine lv_lstore (lv' := [(4, .long x_2), (3, .int (nI (4 * i))), (0, .ref k), (1, .ref t), (2, .int (nI i))]) C.1 C.2.1 d_Rw_holdIn_53 hl (by decide) rfl (fun ls hl => ?_)
        refine lv_lload C.1 C.2.1 d_Rw_holdIn_55 (lv_at hl 0 rfl) ?_
        refine lv_aload_n C.1 C.2.1 d_Rw_holdIn_57 rfl (lv_at hl 2 rfl) ?_
        refine gg_r C hh hk.1 rfl in_Rw 0 (by decide) rfl tw_111 rfl d_Rw_holdIn_58 ?_
        refine lv_iload_n C.1 C.2.1 d_Rw_holdIn_61 rfl (lv_at hl 1 rfl) ?_
        refine lv_iconst (v := nI 3) C.1 C.2.1 d_Rw_holdIn_62 rfl ?_
        refine lv_iadd C.1 C.2.1 d_Rw_holdIn_63 ?_
        refine gm_eqi (nI_add _ _) ?_
        refine ga_i C hh hk.2 (k := (4 * i) + 3) rfl (by omega) (by omega) d_Rw_holdIn_64 ?_
        refine lv_i2l (v := (I (k + 1) ((4 * i) + 3)).toInt64) C.1 C.2.1 d_Rw_holdIn_65 rfl ?_
        refine W.lcmp C.1 C.2.1 d_Rw_holdIn_66 ?_
        refine lv_if_ge (tgt := 72) C.1 C.2.1 d_Rw_holdIn_67 (by decide) (fun c_3 => ?_) (fun c_3 => ?_)
        · -- 67 -> 72
          have c_3 := gm_lget c_3
          refine lv_iinc (v := nI (i + 1)) (lv' := [(2, .int (nI (i + 1))), (4, .long x_2), (3, .int (nI (4 * i))), (0, .ref k), (1, .ref t)]) C.1 C.2.1 d_Rw_holdIn_72 hl (k := 4) rfl (gm_inc i 1) (by decide) rfl (fun ls hl => ?_)
          refine lv_goto (tgt := 2) C.1 C.2.1 d_Rw_holdIn_75 (by decide) ?_
          exact ih2 (i + 1) (by omega) (by subst ex_2; simp only [allMet, Nat.zero_add, Bool.and_eq_true]; exact ⟨ha, decide_eq_true (Int64.not_lt.mpr (by assumption))⟩) (by omega) _ _ _ hh (lv_sub hl [3, 4, 0] rfl)
        · -- 67 -> 70
          have c_3 := gm_lgef c_3
          refine lv_iconst (v := nI 0) C.1 C.2.1 d_Rw_holdIn_70 rfl ?_
          exact gr_i C hlk hret (gm_nb (Or.inl rfl)) hh (by subst ex_2; refine ⟨rfl, ?_⟩; rw [allMet_f (m := i) (by rw [Nat.zero_add]; exact decide_eq_false (fun h => h (by assumption))) (by omega)]; rfl) d_Rw_holdIn_71
  exact K2 _ 0 (by omega) (by rfl) (Nat.lt_succ_self _) _ _ _ hh (lv_sub hl [1, 2, 0] rfl)

set_option maxHeartbeats 4000000 in
set_option maxRecDepth 100000 in
theorem c_Wy_weightBehind (l : Launch) (D : va_G) (cs : Nat → ClassId) (sh : gm_H) (sz : Nat) (I : gm_I) (J : gm_J) (w : Nat) (hw : is_Wy sh w) (i : Nat) (hi : i < 3) (a b c : Int32) : CI l y_Wy_weightBehind w_Wy_weightBehind { frames := 0, cells := 0, slots := 0, locals := 0 } D cs sh sz I J [.ref w, .int a, .int b, .int c, .int (nI i)] (fun x u => u = (I, J) ∧ x = wgt I w i a b c) := by
  refine gm_start (by decide) (Nat.le_of_ble_eq_true rfl) ?_
  intro p' e' s' m' be' me' co' ls C hml hlk hret hh hl
  have hl : lv_has ls 5 [(0, .ref w), (1, .int a), (2, .int b), (3, .int c), (4, .int (nI i))] := hl
  refine lv_iload_n C.1 C.2.1 d_Wy_weightBehind_0 rfl (lv_at hl 1 rfl) ?_
  refine lv_aload_n C.1 C.2.1 d_Wy_weightBehind_1 rfl (lv_at hl 0 rfl) ?_
  refine gg_r C hh hw.1 rfl in_Wy 1 (by decide) rfl tw_140 rfl d_Wy_weightBehind_2 ?_
  refine lv_iload C.1 C.2.1 d_Wy_weightBehind_5 (lv_at hl 4 rfl) ?_
  refine ga_i C hh hw.2.2.1 (k := i) rfl (by omega) (by omega) d_Wy_weightBehind_7 ?_
  refine lv_imul C.1 C.2.1 d_Wy_weightBehind_8 ?_
  refine lv_iload_n C.1 C.2.1 d_Wy_weightBehind_9 rfl (lv_at hl 2 rfl) ?_
  refine lv_aload_n C.1 C.2.1 d_Wy_weightBehind_10 rfl (lv_at hl 0 rfl) ?_
  refine gg_r C hh hw.1 rfl in_Wy 1 (by decide) rfl tw_140 rfl d_Wy_weightBehind_11 ?_
  refine lv_iconst (v := nI 3) C.1 C.2.1 d_Wy_weightBehind_14 rfl ?_
  refine lv_iload C.1 C.2.1 d_Wy_weightBehind_15 (lv_at hl 4 rfl) ?_
  refine lv_iadd C.1 C.2.1 d_Wy_weightBehind_17 ?_
  refine gm_eqi (nI_add _ _) ?_
  refine ga_i C hh hw.2.2.1 (k := 3 + i) rfl (by omega) (by omega) d_Wy_weightBehind_18 ?_
  refine lv_imul C.1 C.2.1 d_Wy_weightBehind_19 ?_
  refine lv_iadd C.1 C.2.1 d_Wy_weightBehind_20 ?_
  refine lv_iload_n C.1 C.2.1 d_Wy_weightBehind_21 rfl (lv_at hl 3 rfl) ?_
  refine lv_aload_n C.1 C.2.1 d_Wy_weightBehind_22 rfl (lv_at hl 0 rfl) ?_
  refine gg_r C hh hw.1 rfl in_Wy 1 (by decide) rfl tw_140 rfl d_Wy_weightBehind_23 ?_
  refine lv_bipush (v := nI 6) C.1 C.2.1 d_Wy_weightBehind_26 rfl ?_
  refine lv_iload C.1 C.2.1 d_Wy_weightBehind_28 (lv_at hl 4 rfl) ?_
  refine lv_iadd C.1 C.2.1 d_Wy_weightBehind_30 ?_
  refine gm_eqi (nI_add _ _) ?_
  refine ga_i C hh hw.2.2.1 (k := 6 + i) rfl (by omega) (by omega) d_Wy_weightBehind_31 ?_
  refine lv_imul C.1 C.2.1 d_Wy_weightBehind_32 ?_
  refine lv_iadd C.1 C.2.1 d_Wy_weightBehind_33 ?_
  exact gr_i C hlk hret rfl hh (by exact ⟨rfl, rfl⟩) d_Wy_weightBehind_34

set_option maxHeartbeats 4000000 in
set_option maxRecDepth 100000 in
theorem c_Wy_constantBehind (l : Launch) (D : va_G) (cs : Nat → ClassId) (sh : gm_H) (sz : Nat) (I : gm_I) (J : gm_J) (w : Nat) (hw : is_Wy sh w) (a b c : Int32) : CI l y_Wy_constantBehind w_Wy_constantBehind { frames := 0, cells := 0, slots := 0, locals := 0 } D cs sh sz I J [.ref w, .int a, .int b, .int c] (fun x u => u = (I, J) ∧ x = cst I w a b c) := by
  refine gm_start (by decide) (Nat.le_of_ble_eq_true rfl) ?_
  intro p' e' s' m' be' me' co' ls C hml hlk hret hh hl
  have hl : lv_has ls 4 [(0, .ref w), (1, .int a), (2, .int b), (3, .int c)] := hl
  refine lv_iload_n C.1 C.2.1 d_Wy_constantBehind_0 rfl (lv_at hl 1 rfl) ?_
  refine lv_aload_n C.1 C.2.1 d_Wy_constantBehind_1 rfl (lv_at hl 0 rfl) ?_
  refine gg_r C hh hw.1 rfl in_Wy 2 (by decide) rfl tw_142 rfl d_Wy_constantBehind_2 ?_
  refine lv_iconst (v := nI 0) C.1 C.2.1 d_Wy_constantBehind_5 rfl ?_
  refine ga_i C hh hw.2.2.2 (k := 0) rfl (by omega) (by omega) d_Wy_constantBehind_6 ?_
  refine lv_imul C.1 C.2.1 d_Wy_constantBehind_7 ?_
  refine lv_iload_n C.1 C.2.1 d_Wy_constantBehind_8 rfl (lv_at hl 2 rfl) ?_
  refine lv_aload_n C.1 C.2.1 d_Wy_constantBehind_9 rfl (lv_at hl 0 rfl) ?_
  refine gg_r C hh hw.1 rfl in_Wy 2 (by decide) rfl tw_142 rfl d_Wy_constantBehind_10 ?_
  refine lv_iconst (v := nI 1) C.1 C.2.1 d_Wy_constantBehind_13 rfl ?_
  refine ga_i C hh hw.2.2.2 (k := 1) rfl (by omega) (by omega) d_Wy_constantBehind_14 ?_
  refine lv_imul C.1 C.2.1 d_Wy_constantBehind_15 ?_
  refine lv_iadd C.1 C.2.1 d_Wy_constantBehind_16 ?_
  refine lv_iload_n C.1 C.2.1 d_Wy_constantBehind_17 rfl (lv_at hl 3 rfl) ?_
  refine lv_aload_n C.1 C.2.1 d_Wy_constantBehind_18 rfl (lv_at hl 0 rfl) ?_
  refine gg_r C hh hw.1 rfl in_Wy 2 (by decide) rfl tw_142 rfl d_Wy_constantBehind_19 ?_
  refine lv_iconst (v := nI 2) C.1 C.2.1 d_Wy_constantBehind_22 rfl ?_
  refine ga_i C hh hw.2.2.2 (k := 2) rfl (by omega) (by omega) d_Wy_constantBehind_23 ?_
  refine lv_imul C.1 C.2.1 d_Wy_constantBehind_24 ?_
  refine lv_iadd C.1 C.2.1 d_Wy_constantBehind_25 ?_
  exact gr_i C hlk hret rfl hh (by exact ⟨rfl, rfl⟩) d_Wy_constantBehind_26

set_option maxHeartbeats 4000000 in
set_option maxRecDepth 100000 in
theorem c_Wy_lessens (l : Launch) (D : va_G) (cs : Nat → ClassId) (sh : gm_H) (sz : Nat) (I : gm_I) (J : gm_J) (w : Nat) (hw : is_Wy sh w) (q : Nat) (hs : is_Sp sh q) (ln : Nat) (eln : I q 1 = nI ln) (hln : ln ≤ 3) (n : Nat) (en : I q 3 = nI n) (hn32 : n ≤ 32) (a b c d : Int32) : CI l y_Wy_lessens w_Wy_lessens { frames := 1, cells := 0, slots := 0, locals := 25 } D cs sh sz I J [.ref w, .ref q, .int a, .int b, .int c, .int d] (fun x u => u = (I, J) ∧ ∃ z : Bool, x = bI z ∧ (z = true ↔ impP J q ln n (a - wgt I w 0 a b c) (b - wgt I w 1 a b c) (c - wgt I w 2 a b c) (d + cst I w a b c))) := by
  refine gm_start (by decide) (Nat.le_of_ble_eq_true rfl) ?_
  intro p' e' s' m' be' me' co' ls C hml hlk hret hh hl
  have hl : lv_has ls 6 [(0, .ref w), (1, .ref q), (2, .int a), (3, .int b), (4, .int c), (5, .int d)] := hl
  refine lv_aload_n C.1 C.2.1 d_Wy_lessens_0 rfl (lv_at hl 1 rfl) ?_
  refine lv_iload_n C.1 C.2.1 d_Wy_lessens_1 rfl (lv_at hl 2 rfl) ?_
  refine lv_aload_n C.1 C.2.1 d_Wy_lessens_2 rfl (lv_at hl 0 rfl) ?_
  refine lv_iload_n C.1 C.2.1 d_Wy_lessens_3 rfl (lv_at hl 2 rfl) ?_
  refine lv_iload_n C.1 C.2.1 d_Wy_lessens_4 rfl (lv_at hl 3 rfl) ?_
  refine lv_iload C.1 C.2.1 d_Wy_lessens_5 (lv_at hl 4 rfl) ?_
  refine lv_iconst (v := nI 0) C.1 C.2.1 d_Wy_lessens_7 rfl ?_
  refine gc_i hh (gc_runV (As := [.int a, .int b, .int c, .int (nI 0)]) (rest := [.int a, .ref q]) (n := 4) C hml hh (c_Wy_weightBehind l D cs sh sz I J w hw 0 (by omega) a b c) (tg_V tw_410 tw_411 tw_412 tw_62 tw_413) (by decide +kernel) ⟨rfl, rfl, by decide, by decide, Nat.zero_le _, Nat.zero_le _⟩ hw.1 rfl rfl hl.1 rfl (Nat.le_of_ble_eq_true rfl) d_Wy_lessens_8) (fun r_1 I_2 J_3 H locs hr_1 hh => ?_)
  obtain ⟨e_r_1, hr_1⟩ := hr_1
  rw [(Prod.mk.inj e_r_1).1, (Prod.mk.inj e_r_1).2] at hh
  refine lv_isub C.1 C.2.1 d_Wy_lessens_11 ?_
  refine lv_iload_n C.1 C.2.1 d_Wy_lessens_12 rfl (lv_at hl 3 rfl) ?_
  refine lv_aload_n C.1 C.2.1 d_Wy_lessens_13 rfl (lv_at hl 0 rfl) ?_
  refine lv_iload_n C.1 C.2.1 d_Wy_lessens_14 rfl (lv_at hl 2 rfl) ?_
  refine lv_iload_n C.1 C.2.1 d_Wy_lessens_15 rfl (lv_at hl 3 rfl) ?_
  refine lv_iload C.1 C.2.1 d_Wy_lessens_16 (lv_at hl 4 rfl) ?_
  refine lv_iconst (v := nI 1) C.1 C.2.1 d_Wy_lessens_18 rfl ?_
  refine gc_i hh (gc_runV (As := [.int a, .int b, .int c, .int (nI 1)]) (rest := [.int b, .int (a - r_1), .ref q]) (n := 4) C hml hh (c_Wy_weightBehind l D cs sh sz I J w hw 1 (by omega) a b c) (tg_V tw_410 tw_411 tw_412 tw_62 tw_413) (by decide +kernel) ⟨rfl, rfl, by decide, by decide, Nat.zero_le _, Nat.zero_le _⟩ hw.1 rfl rfl hl.1 rfl (Nat.le_of_ble_eq_true rfl) d_Wy_lessens_19) (fun r_4 I_5 J_6 H locs hr_4 hh => ?_)
  obtain ⟨e_r_4, hr_4⟩ := hr_4
  rw [(Prod.mk.inj e_r_4).1, (Prod.mk.inj e_r_4).2] at hh
  refine lv_isub C.1 C.2.1 d_Wy_lessens_22 ?_
  refine lv_iload C.1 C.2.1 d_Wy_lessens_23 (lv_at hl 4 rfl) ?_
  refine lv_aload_n C.1 C.2.1 d_Wy_lessens_25 rfl (lv_at hl 0 rfl) ?_
  refine lv_iload_n C.1 C.2.1 d_Wy_lessens_26 rfl (lv_at hl 2 rfl) ?_
  refine lv_iload_n C.1 C.2.1 d_Wy_lessens_27 rfl (lv_at hl 3 rfl) ?_
  refine lv_iload C.1 C.2.1 d_Wy_lessens_28 (lv_at hl 4 rfl) ?_
  refine lv_iconst (v := nI 2) C.1 C.2.1 d_Wy_lessens_30 rfl ?_
  refine gc_i hh (gc_runV (As := [.int a, .int b, .int c, .int (nI 2)]) (rest := [.int c, .int (b - r_4), .int (a - r_1), .ref q]) (n := 4) C hml hh (c_Wy_weightBehind l D cs sh sz I J w hw 2 (by omega) a b c) (tg_V tw_410 tw_411 tw_412 tw_62 tw_413) (by decide +kernel) ⟨rfl, rfl, by decide, by decide, Nat.zero_le _, Nat.zero_le _⟩ hw.1 rfl rfl hl.1 rfl (Nat.le_of_ble_eq_true rfl) d_Wy_lessens_31) (fun r_7 I_8 J_9 H locs hr_7 hh => ?_)
  obtain ⟨e_r_7, hr_7⟩ := hr_7
  rw [(Prod.mk.inj e_r_7).1, (Prod.mk.inj e_r_7).2] at hh
  refine lv_isub C.1 C.2.1 d_Wy_lessens_34 ?_
  refine lv_iload C.1 C.2.1 d_Wy_lessens_35 (lv_at hl 5 rfl) ?_
  refine lv_aload_n C.1 C.2.1 d_Wy_lessens_37 rfl (lv_at hl 0 rfl) ?_
  refine lv_iload_n C.1 C.2.1 d_Wy_lessens_38 rfl (lv_at hl 2 rfl) ?_
  refine lv_iload_n C.1 C.2.1 d_Wy_lessens_39 rfl (lv_at hl 3 rfl) ?_
  refine lv_iload C.1 C.2.1 d_Wy_lessens_40 (lv_at hl 4 rfl) ?_
  refine gc_i hh (gc_runV (As := [.int a, .int b, .int c]) (rest := [.int d, .int (c - r_7), .int (b - r_4), .int (a - r_1), .ref q]) (n := 3) C hml hh (c_Wy_constantBehind l D cs sh sz I J w hw a b c) (tg_V tw_414 tw_415 tw_416 tw_62 tw_417) (by decide +kernel) ⟨rfl, rfl, by decide, by decide, Nat.zero_le _, Nat.zero_le _⟩ hw.1 rfl rfl hl.1 rfl (Nat.le_of_ble_eq_true rfl) d_Wy_lessens_42) (fun r_10 I_11 J_12 H locs hr_10 hh => ?_)
  obtain ⟨e_r_10, hr_10⟩ := hr_10
  rw [(Prod.mk.inj e_r_10).1, (Prod.mk.inj e_r_10).2] at hh
  refine lv_iadd C.1 C.2.1 d_Wy_lessens_45 ?_
  refine gc_i hh (gc_runV (As := [.int (a - r_1), .int (b - r_4), .int (c - r_7), .int (d + r_10)]) (rest := []) (n := 4) C hml hh (c_Sp_implies l D cs sh sz I J q hs ln eln hln n en hn32 (a - r_1) (b - r_4) (c - r_7) (d + r_10)) (tg_V tw_418 tw_395 tw_396 tw_63 tw_397) (by decide +kernel) ⟨rfl, rfl, by decide, by decide, Nat.zero_le _, Nat.zero_le _⟩ hs.1 rfl rfl hl.1 rfl (Nat.le_of_ble_eq_true rfl) d_Wy_lessens_46) (fun r_13 I_14 J_15 H locs hr_13 hh => ?_)
  obtain ⟨e_r_13, hr_13⟩ := hr_13
  rw [(Prod.mk.inj e_r_13).1, (Prod.mk.inj e_r_13).2] at hh
  obtain ⟨br_13, hr_13, ihr_13⟩ := hr_13
  exact gr_i C hlk hret (gm_nb (bI_01 hr_13)) hh (by subst_vars; exact ⟨rfl, _, rfl, ihr_13⟩) d_Wy_lessens_49

set_option maxHeartbeats 4000000 in
set_option maxRecDepth 100000 in
theorem c_Wy_keeps (l : Launch) (D : va_G) (cs : Nat → ClassId) (sh : gm_H) (sz : Nat) (I : gm_I) (J : gm_J) (w : Nat) (hw : is_Wy sh w) (q : Nat) (hs : is_Sp sh q) (ln : Nat) (eln : I q 1 = nI ln) (hln : ln ≤ 3) (n : Nat) (en : I q 3 = nI n) (hn32 : n ≤ 32) (a b c d : Int32) : CI l y_Wy_keeps w_Wy_keeps { frames := 1, cells := 0, slots := 0, locals := 25 } D cs sh sz I J [.ref w, .ref q, .int a, .int b, .int c, .int d] (fun x u => u = (I, J) ∧ ∃ z : Bool, x = bI z ∧ (z = true ↔ impP J q ln n (wgt I w 0 a b c) (wgt I w 1 a b c) (wgt I w 2 a b c) (d - cst I w a b c))) := by
  refine gm_start (by decide) (Nat.le_of_ble_eq_true rfl) ?_
  intro p' e' s' m' be' me' co' ls C hml hlk hret hh hl
  have hl : lv_has ls 6 [(0, .ref w), (1, .ref q), (2, .int a), (3, .int b), (4, .int c), (5, .int d)] := hl
  refine lv_aload_n C.1 C.2.1 d_Wy_keeps_0 rfl (lv_at hl 1 rfl) ?_
  refine lv_aload_n C.1 C.2.1 d_Wy_keeps_1 rfl (lv_at hl 0 rfl) ?_
  refine lv_iload_n C.1 C.2.1 d_Wy_keeps_2 rfl (lv_at hl 2 rfl) ?_
  refine lv_iload_n C.1 C.2.1 d_Wy_keeps_3 rfl (lv_at hl 3 rfl) ?_
  refine lv_iload C.1 C.2.1 d_Wy_keeps_4 (lv_at hl 4 rfl) ?_
  refine lv_iconst (v := nI 0) C.1 C.2.1 d_Wy_keeps_6 rfl ?_
  refine gc_i hh (gc_runV (As := [.int a, .int b, .int c, .int (nI 0)]) (rest := [.ref q]) (n := 4) C hml hh (c_Wy_weightBehind l D cs sh sz I J w hw 0 (by omega) a b c) (tg_V tw_410 tw_411 tw_412 tw_62 tw_413) (by decide +kernel) ⟨rfl, rfl, by decide, by decide, Nat.zero_le _, Nat.zero_le _⟩ hw.1 rfl rfl hl.1 rfl (Nat.le_of_ble_eq_true rfl) d_Wy_keeps_7) (fun r_1 I_2 J_3 H locs hr_1 hh => ?_)
  obtain ⟨e_r_1, hr_1⟩ := hr_1
  rw [(Prod.mk.inj e_r_1).1, (Prod.mk.inj e_r_1).2] at hh
  refine lv_aload_n C.1 C.2.1 d_Wy_keeps_10 rfl (lv_at hl 0 rfl) ?_
  refine lv_iload_n C.1 C.2.1 d_Wy_keeps_11 rfl (lv_at hl 2 rfl) ?_
  refine lv_iload_n C.1 C.2.1 d_Wy_keeps_12 rfl (lv_at hl 3 rfl) ?_
  refine lv_iload C.1 C.2.1 d_Wy_keeps_13 (lv_at hl 4 rfl) ?_
  refine lv_iconst (v := nI 1) C.1 C.2.1 d_Wy_keeps_15 rfl ?_
  refine gc_i hh (gc_runV (As := [.int a, .int b, .int c, .int (nI 1)]) (rest := [.int r_1, .ref q]) (n := 4) C hml hh (c_Wy_weightBehind l D cs sh sz I J w hw 1 (by omega) a b c) (tg_V tw_410 tw_411 tw_412 tw_62 tw_413) (by decide +kernel) ⟨rfl, rfl, by decide, by decide, Nat.zero_le _, Nat.zero_le _⟩ hw.1 rfl rfl hl.1 rfl (Nat.le_of_ble_eq_true rfl) d_Wy_keeps_16) (fun r_4 I_5 J_6 H locs hr_4 hh => ?_)
  obtain ⟨e_r_4, hr_4⟩ := hr_4
  rw [(Prod.mk.inj e_r_4).1, (Prod.mk.inj e_r_4).2] at hh
  refine lv_aload_n C.1 C.2.1 d_Wy_keeps_19 rfl (lv_at hl 0 rfl) ?_
  refine lv_iload_n C.1 C.2.1 d_Wy_keeps_20 rfl (lv_at hl 2 rfl) ?_
  refine lv_iload_n C.1 C.2.1 d_Wy_keeps_21 rfl (lv_at hl 3 rfl) ?_
  refine lv_iload C.1 C.2.1 d_Wy_keeps_22 (lv_at hl 4 rfl) ?_
  refine lv_iconst (v := nI 2) C.1 C.2.1 d_Wy_keeps_24 rfl ?_
  refine gc_i hh (gc_runV (As := [.int a, .int b, .int c, .int (nI 2)]) (rest := [.int r_4, .int r_1, .ref q]) (n := 4) C hml hh (c_Wy_weightBehind l D cs sh sz I J w hw 2 (by omega) a b c) (tg_V tw_410 tw_411 tw_412 tw_62 tw_413) (by decide +kernel) ⟨rfl, rfl, by decide, by decide, Nat.zero_le _, Nat.zero_le _⟩ hw.1 rfl rfl hl.1 rfl (Nat.le_of_ble_eq_true rfl) d_Wy_keeps_25) (fun r_7 I_8 J_9 H locs hr_7 hh => ?_)
  obtain ⟨e_r_7, hr_7⟩ := hr_7
  rw [(Prod.mk.inj e_r_7).1, (Prod.mk.inj e_r_7).2] at hh
  refine lv_iload C.1 C.2.1 d_Wy_keeps_28 (lv_at hl 5 rfl) ?_
  refine lv_aload_n C.1 C.2.1 d_Wy_keeps_30 rfl (lv_at hl 0 rfl) ?_
  refine lv_iload_n C.1 C.2.1 d_Wy_keeps_31 rfl (lv_at hl 2 rfl) ?_
  refine lv_iload_n C.1 C.2.1 d_Wy_keeps_32 rfl (lv_at hl 3 rfl) ?_
  refine lv_iload C.1 C.2.1 d_Wy_keeps_33 (lv_at hl 4 rfl) ?_
  refine gc_i hh (gc_runV (As := [.int a, .int b, .int c]) (rest := [.int d, .int r_7, .int r_4, .int r_1, .ref q]) (n := 3) C hml hh (c_Wy_constantBehind l D cs sh sz I J w hw a b c) (tg_V tw_414 tw_415 tw_416 tw_62 tw_417) (by decide +kernel) ⟨rfl, rfl, by decide, by decide, Nat.zero_le _, Nat.zero_le _⟩ hw.1 rfl rfl hl.1 rfl (Nat.le_of_ble_eq_true rfl) d_Wy_keeps_35) (fun r_10 I_11 J_12 H locs hr_10 hh => ?_)
  obtain ⟨e_r_10, hr_10⟩ := hr_10
  rw [(Prod.mk.inj e_r_10).1, (Prod.mk.inj e_r_10).2] at hh
  refine lv_isub C.1 C.2.1 d_Wy_keeps_38 ?_
  refine gc_i hh (gc_runV (As := [.int r_1, .int r_4, .int r_7, .int (d - r_10)]) (rest := []) (n := 4) C hml hh (c_Sp_implies l D cs sh sz I J q hs ln eln hln n en hn32 r_1 r_4 r_7 (d - r_10)) (tg_V tw_418 tw_395 tw_396 tw_63 tw_397) (by decide +kernel) ⟨rfl, rfl, by decide, by decide, Nat.zero_le _, Nat.zero_le _⟩ hs.1 rfl rfl hl.1 rfl (Nat.le_of_ble_eq_true rfl) d_Wy_keeps_39) (fun r_13 I_14 J_15 H locs hr_13 hh => ?_)
  obtain ⟨e_r_13, hr_13⟩ := hr_13
  rw [(Prod.mk.inj e_r_13).1, (Prod.mk.inj e_r_13).2] at hh
  obtain ⟨br_13, hr_13, ihr_13⟩ := hr_13
  exact gr_i C hlk hret (gm_nb (bI_01 hr_13)) hh (by subst_vars; exact ⟨rfl, _, rfl, ihr_13⟩) d_Wy_keeps_42
