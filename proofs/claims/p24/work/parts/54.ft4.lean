set_option maxHeartbeats 4000000 in
set_option maxRecDepth 100000 in
theorem c_Sp_narrow (l : Launch) (D : va_G) (cs : Nat → ClassId) (sh : gm_H) (sz : Nat) (I : gm_I) (J : gm_J) (q : Nat) (hs : is_Sp sh q) (hS : inv_Sp I q) (a b c d : Int32) : CV l y_Sp_narrow w_Sp_narrow { frames := 3, cells := 0, slots := 0, locals := 86 } D cs sh sz I J [.ref q, .int a, .int b, .int c, .int d] (fun u => sfP q I J u) := by
  refine gm_start (by decide) (Nat.le_of_ble_eq_true rfl) ?_
  intro p' e' s' m' be' me' co' ls C hml hlk hret hh hl
  have hl : lv_has ls 6 [(0, .ref q), (1, .int a), (2, .int b), (3, .int c), (4, .int d)] := hl
  have tO_0 : offR q (q + 5) I I J J := offR.nil
  have tS_0 : inv_Sp I q := hS
  refine lv_aload_n C.1 C.2.1 d_Sp_narrow_0 rfl (lv_at hl 0 rfl) ?_
  refine lv_iload_n C.1 C.2.1 d_Sp_narrow_1 rfl (lv_at hl 1 rfl) ?_
  refine lv_iload_n C.1 C.2.1 d_Sp_narrow_2 rfl (lv_at hl 2 rfl) ?_
  refine lv_iload_n C.1 C.2.1 d_Sp_narrow_3 rfl (lv_at hl 3 rfl) ?_
  obtain ⟨g_1, hg_1, eg_1⟩ := tS_0.1
  refine gc_i hh (gc_runV (As := [.int a, .int b, .int c]) (rest := []) (n := 3) C hml hh (c_Sp_lineAcross l D cs sh sz I J q hs g_1 eg_1 hg_1 a b c) (tg_V tw_342 tw_344 tw_7 tw_63 tw_345) (by decide +kernel) ⟨rfl, rfl, by decide, by decide, Nat.zero_le _, Nat.zero_le _⟩ hs.1 rfl rfl hl.1 rfl (Nat.le_of_ble_eq_true rfl) d_Sp_narrow_4) (fun r_2 I_3 J_4 H locs hr_2 hh => ?_)
  obtain ⟨e_r_2, hr_2⟩ := hr_2
  rw [(Prod.mk.inj e_r_2).1, (Prod.mk.inj e_r_2).2] at hh
  refine lv_istore (lv' := [(5, .int r_2), (0, .ref q), (1, .int a), (2, .int b), (3, .int c), (4, .int d)]) C.1 C.2.1 d_Sp_narrow_7 hl (by decide) rfl (fun ls hl => ?_)
  refine lv_iload C.1 C.2.1 d_Sp_narrow_9 (lv_at hl 0 rfl) ?_
  refine lv_if_lt (tgt := 28) C.1 C.2.1 d_Sp_narrow_11 (by decide) (fun c_5 => ?_) (fun c_5 => ?_)
  · -- 11 -> 28
    skip
    refine lv_aload_n C.1 C.2.1 d_Sp_narrow_28 rfl (lv_at hl 1 rfl) ?_
    refine lv_iload_n C.1 C.2.1 d_Sp_narrow_29 rfl (lv_at hl 2 rfl) ?_
    refine lv_iload_n C.1 C.2.1 d_Sp_narrow_30 rfl (lv_at hl 3 rfl) ?_
    refine lv_iload_n C.1 C.2.1 d_Sp_narrow_31 rfl (lv_at hl 4 rfl) ?_
    refine lv_iload C.1 C.2.1 d_Sp_narrow_32 (lv_at hl 5 rfl) ?_
    refine gc_v hh (gc_runV (As := [.int a, .int b, .int c, .int d]) (rest := []) (n := 4) C hml hh (c_Sp_cut l D cs sh sz I J q hs tS_0 a b c d) (tg_V tw_366 tw_368 tw_12 tw_63 tw_369) (by decide +kernel) ⟨rfl, rfl, by decide, by decide, Nat.zero_le _, Nat.zero_le _⟩ hs.1 rfl rfl hl.1 rfl (Nat.le_of_ble_eq_true rfl) d_Sp_narrow_34) (fun I_7 J_8 H locs hr_6 hh => ?_)
    have tO_9 : offR q (q + 5) I I_7 J J_8 := offR.tr tO_0 hr_6.1
    have tS_10 : inv_Sp I_7 q := hr_6.2
    refine lv_aload_n C.1 C.2.1 d_Sp_narrow_37 rfl (lv_at hl 1 rfl) ?_
    refine lv_dup C.1 C.2.1 d_Sp_narrow_38 rfl ?_
    refine gg_i C hh hs.1 rfl in_Sp 7 (by decide) rfl tw_192 rfl d_Sp_narrow_39 ?_
    refine lv_iconst (v := nI 1) C.1 C.2.1 d_Sp_narrow_42 rfl ?_
    refine lv_ishl C.1 C.2.1 d_Sp_narrow_43 ?_
    refine gp_i (ty := .int) C hh hs.1 rfl in_Sp t_Sp t_Sp_ok n_Sp 7 (by decide) rfl tw_192 rfl rfl (by decide +kernel) rfl rfl d_Sp_narrow_44 (fun H locs hh => ?_)
    obtain ⟨I_11, eI_11⟩ : ∃ z : gm_I, z = gm_up I_7 q 7 ((I_7 q 7) <<< ((nI 1) &&& 31)) := ⟨_, rfl⟩
    rw [← eI_11] at hh
    have tO_12 : offR q (q + 5) I I_11 J J_8 := by rw [eI_11]; exact offR.upI tO_9 (by omega)
    have tS_13 : inv_Sp I_11 q := by rw [eI_11]; exact ⟨tS_10.1.up (by omega), tS_10.2.up (by omega)⟩
    refine lv_aload_n C.1 C.2.1 d_Sp_narrow_47 rfl (lv_at hl 1 rfl) ?_
    refine gc_v hh (gc_runV (As := []) (rest := []) (n := 0) C hml hh (c_Sp_dropIfNoPoint l D cs sh sz I_11 J_8 q hs tS_13) (tg_V tw_382 tw_384 tw_16 tw_63 tw_385) (by decide +kernel) ⟨rfl, rfl, by decide, by decide, Nat.zero_le _, Nat.zero_le _⟩ hs.1 rfl rfl hl.1 rfl (Nat.le_of_ble_eq_true rfl) d_Sp_narrow_48) (fun I_15 J_16 H locs hr_14 hh => ?_)
    have tO_17 : offR q (q + 5) I I_15 J J_16 := offR.tr tO_12 hr_14.1
    have tS_18 : inv_Sp I_15 q := hr_14.2
    exact gr_v C hlk hret hh (by exact ⟨tO_17, tS_18⟩) d_Sp_narrow_51
  · -- 11 -> 14
    skip
    obtain ⟨i_19, hi_19, ei_19⟩ : ∃ i, i < g_1 ∧ r_2 = nI i := by
      rcases hr_2 with ⟨e, _⟩ | ⟨i, hi, e, _⟩
      · exfalso; rw [e] at c_5; exact absurd (by decide) c_5
      · exact ⟨i, hi, e⟩
    subst ei_19
    refine lv_aload_n C.1 C.2.1 d_Sp_narrow_14 rfl (lv_at hl 1 rfl) ?_
    refine lv_iload C.1 C.2.1 d_Sp_narrow_15 (lv_at hl 0 rfl) ?_
    refine lv_iload_n C.1 C.2.1 d_Sp_narrow_17 rfl (lv_at hl 2 rfl) ?_
    refine lv_iload_n C.1 C.2.1 d_Sp_narrow_18 rfl (lv_at hl 3 rfl) ?_
    refine lv_iload_n C.1 C.2.1 d_Sp_narrow_19 rfl (lv_at hl 4 rfl) ?_
    refine lv_iload C.1 C.2.1 d_Sp_narrow_20 (lv_at hl 5 rfl) ?_
    refine gc_v hh (gc_runV (As := [.int (nI i_19), .int a, .int b, .int c, .int d]) (rest := []) (n := 5) C hml hh (c_Sp_turn l D cs sh sz I J q hs tS_0 g_1 i_19 eg_1 hg_1 hi_19 a b c d) (tg_V tw_350 tw_352 tw_9 tw_63 tw_353) (by decide +kernel) ⟨rfl, rfl, by decide, by decide, Nat.zero_le _, Nat.zero_le _⟩ hs.1 rfl rfl hl.1 rfl (Nat.le_of_ble_eq_true rfl) d_Sp_narrow_22) (fun I_21 J_22 H locs hr_20 hh => ?_)
    have tO_23 : offR q (q + 5) I I_21 J J_22 := offR.tr tO_0 hr_20.1
    have tS_24 : inv_Sp I_21 q := hr_20.2
    refine lv_goto (tgt := 37) C.1 C.2.1 d_Sp_narrow_25 (by decide) ?_
    refine lv_aload_n C.1 C.2.1 d_Sp_narrow_37 rfl (lv_at hl 1 rfl) ?_
    refine lv_dup C.1 C.2.1 d_Sp_narrow_38 rfl ?_
    refine gg_i C hh hs.1 rfl in_Sp 7 (by decide) rfl tw_192 rfl d_Sp_narrow_39 ?_
    refine lv_iconst (v := nI 1) C.1 C.2.1 d_Sp_narrow_42 rfl ?_
    refine lv_ishl C.1 C.2.1 d_Sp_narrow_43 ?_
    refine gp_i (ty := .int) C hh hs.1 rfl in_Sp t_Sp t_Sp_ok n_Sp 7 (by decide) rfl tw_192 rfl rfl (by decide +kernel) rfl rfl d_Sp_narrow_44 (fun H locs hh => ?_)
    obtain ⟨I_25, eI_25⟩ : ∃ z : gm_I, z = gm_up I_21 q 7 ((I_21 q 7) <<< ((nI 1) &&& 31)) := ⟨_, rfl⟩
    rw [← eI_25] at hh
    have tO_26 : offR q (q + 5) I I_25 J J_22 := by rw [eI_25]; exact offR.upI tO_23 (by omega)
    have tS_27 : inv_Sp I_25 q := by rw [eI_25]; exact ⟨tS_24.1.up (by omega), tS_24.2.up (by omega)⟩
    refine lv_aload_n C.1 C.2.1 d_Sp_narrow_47 rfl (lv_at hl 1 rfl) ?_
    refine gc_v hh (gc_runV (As := []) (rest := []) (n := 0) C hml hh (c_Sp_dropIfNoPoint l D cs sh sz I_25 J_22 q hs tS_27) (tg_V tw_382 tw_384 tw_16 tw_63 tw_385) (by decide +kernel) ⟨rfl, rfl, by decide, by decide, Nat.zero_le _, Nat.zero_le _⟩ hs.1 rfl rfl hl.1 rfl (Nat.le_of_ble_eq_true rfl) d_Sp_narrow_48) (fun I_29 J_30 H locs hr_28 hh => ?_)
    have tO_31 : offR q (q + 5) I I_29 J J_30 := offR.tr tO_26 hr_28.1
    have tS_32 : inv_Sp I_29 q := hr_28.2
    exact gr_v C hlk hret hh (by exact ⟨tO_31, tS_32⟩) d_Sp_narrow_51

set_option maxHeartbeats 4000000 in
set_option maxRecDepth 100000 in
theorem c_Sp_copy (l : Launch) (D : va_G) (cs : Nat → ClassId) (sh : gm_H) (sz : Nat) (I : gm_I) (J : gm_J) (q : Nat) (hs : is_Sp sh q) (hS : inv_Sp I q) (r : Nat) (hr : is_Sp sh r) (hS2 : inv_Sp I r) (hd : r + 5 < q ∨ q + 5 < r) : CV l y_Sp_copy w_Sp_copy { frames := 0, cells := 0, slots := 0, locals := 0 } D cs sh sz I J [.ref q, .ref r] (fun u => sfP q I J u) := by
  refine gm_start (by decide) (Nat.le_of_ble_eq_true rfl) ?_
  intro p' e' s' m' be' me' co' ls C hml hlk hret hh hl
  have hl : lv_has ls 3 [(0, .ref q), (1, .ref r)] := hl
  have tO_0 : offR q (q + 5) I I J J := offR.nil
  have tS_0 : inv_Sp I q := hS
  have tR_0 : inv_Sp I r := hS2
  refine lv_aload_n C.1 C.2.1 d_Sp_copy_0 rfl (lv_at hl 0 rfl) ?_
  refine lv_aload_n C.1 C.2.1 d_Sp_copy_1 rfl (lv_at hl 1 rfl) ?_
  refine gg_i C hh hr.1 rfl in_Sp 1 (by decide) rfl tw_186 rfl d_Sp_copy_2 ?_
  obtain ⟨g_1, hg_1, eg_1⟩ := tR_0.1
  refine gm_eqi eg_1 ?_
  refine gp_i (ty := .int) C hh hs.1 rfl in_Sp t_Sp t_Sp_ok n_Sp 1 (by decide) rfl tw_186 rfl rfl (by decide +kernel) rfl rfl d_Sp_copy_5 (fun H locs hh => ?_)
  obtain ⟨I_2, eI_2⟩ : ∃ z : gm_I, z = gm_up I q 1 (nI g_1) := ⟨_, rfl⟩
  rw [← eI_2] at hh
  have tO_3 : offR q (q + 5) I I_2 J J := by rw [eI_2]; exact offR.upI tO_0 (by omega)
  have tS_4 : inv_Sp I_2 q := by rw [eI_2]; exact ⟨nle.set (by omega), tS_0.2.up (by omega)⟩
  have tR_5 : inv_Sp I_2 r := by rw [eI_2]; exact ⟨tR_0.1.up (by omega), tR_0.2.up (by omega)⟩
  refine lv_aload_n C.1 C.2.1 d_Sp_copy_8 rfl (lv_at hl 0 rfl) ?_
  refine lv_aload_n C.1 C.2.1 d_Sp_copy_9 rfl (lv_at hl 1 rfl) ?_
  refine gg_i C hh hr.1 rfl in_Sp 3 (by decide) rfl tw_188 rfl d_Sp_copy_10 ?_
  obtain ⟨g_6, hg_6, eg_6⟩ := tR_5.2
  refine gm_eqi eg_6 ?_
  refine gp_i (ty := .int) C hh hs.1 rfl in_Sp t_Sp t_Sp_ok n_Sp 3 (by decide) rfl tw_188 rfl rfl (by decide +kernel) rfl rfl d_Sp_copy_13 (fun H locs hh => ?_)
  obtain ⟨I_7, eI_7⟩ : ∃ z : gm_I, z = gm_up I_2 q 3 (nI g_6) := ⟨_, rfl⟩
  rw [← eI_7] at hh
  have tO_8 : offR q (q + 5) I I_7 J J := by rw [eI_7]; exact offR.upI tO_3 (by omega)
  have tS_9 : inv_Sp I_7 q := by rw [eI_7]; exact ⟨tS_4.1.up (by omega), nle.set (by omega)⟩
  have tR_10 : inv_Sp I_7 r := by rw [eI_7]; exact ⟨tR_5.1.up (by omega), tR_5.2.up (by omega)⟩
  refine lv_aload_n C.1 C.2.1 d_Sp_copy_16 rfl (lv_at hl 0 rfl) ?_
  refine lv_aload_n C.1 C.2.1 d_Sp_copy_17 rfl (lv_at hl 1 rfl) ?_
  refine gg_i C hh hr.1 rfl in_Sp 7 (by decide) rfl tw_192 rfl d_Sp_copy_18 ?_
  refine gp_i (ty := .int) C hh hs.1 rfl in_Sp t_Sp t_Sp_ok n_Sp 7 (by decide) rfl tw_192 rfl rfl (by decide +kernel) rfl rfl d_Sp_copy_21 (fun H locs hh => ?_)
  obtain ⟨I_11, eI_11⟩ : ∃ z : gm_I, z = gm_up I_7 q 7 (I_7 r 7) := ⟨_, rfl⟩
  rw [← eI_11] at hh
  have tO_12 : offR q (q + 5) I I_11 J J := by rw [eI_11]; exact offR.upI tO_8 (by omega)
  have tS_13 : inv_Sp I_11 q := by rw [eI_11]; exact ⟨tS_9.1.up (by omega), tS_9.2.up (by omega)⟩
  have tR_14 : inv_Sp I_11 r := by rw [eI_11]; exact ⟨tR_10.1.up (by omega), tR_10.2.up (by omega)⟩
  refine lv_iconst (v := nI 0) C.1 C.2.1 d_Sp_copy_24 rfl ?_
  refine lv_istore_n (lv' := [(2, .int (nI 0)), (0, .ref q), (1, .ref r)]) C.1 C.2.1 d_Sp_copy_25 rfl hl (by decide) rfl (fun ls hl => ?_)
  have K26 : ∀ (n_26 : Nat) (i : Nat) (I26 : gm_I) (J26 : gm_J) (hi : i ≤ 12) (tO26 : offR q (q + 5) I I26 J J26) (tS26 : inv_Sp I26 q) (tR26 : inv_Sp I26 r) (hm_26 : 13 - i < n_26), ∀ (H : Heap) (locs : List Loc) (ls : Array Slot), gm_St D cs sh (gm_A sh) s'.heap sz I26 J26 H locs → lv_has ls 3 [(0, .ref q), (1, .ref r), (2, .int (nI i))] → W p' l e' { frames := 0, cells := 0, slots := 0, locals := 0 } s' m' ([.ref q, .ref r] : List Value).toArray be' me' co' H locs 0 0 (MQ be' (va_Qv (fun u => sfP q I J u) (gm_B D cs sh sz) (gm_A sh)) ([.ref q, .ref r] : List Value).toArray s' 0 0 (gm_A sh)) (F0 m' 26 ls []) := by
    intro n_26
    induction n_26 with
    | zero => intro i I26 J26 hi tO26 tS26 tR26 hm_26; exact absurd hm_26 (Nat.not_lt_zero _)
    | succ n_26 ih26 =>
      intro i I26 J26 hi tO26 tS26 tR26 hm_26 H locs ls hh hl
      refine lv_iload_n C.1 C.2.1 d_Sp_copy_26 rfl (lv_at hl 2 rfl) ?_
      refine lv_iconst (v := nI 4) C.1 C.2.1 d_Sp_copy_27 rfl ?_
      refine lv_aload_n C.1 C.2.1 d_Sp_copy_28 rfl (lv_at hl 0 rfl) ?_
      refine gg_i C hh hs.1 rfl in_Sp 1 (by decide) rfl tw_186 rfl d_Sp_copy_29 ?_
      obtain ⟨g_15, hg_15, eg_15⟩ := tS26.1
      refine gm_eqi eg_15 ?_
      refine lv_imul C.1 C.2.1 d_Sp_copy_32 ?_
      refine gm_eqi (pk_mul _ _) ?_
      refine lv_icmp_ge (tgt := 54) C.1 C.2.1 d_Sp_copy_33 (by decide) (fun c_16 => ?_) (fun c_16 => ?_)
      · -- 33 -> 54
        have c_16 := gm_get (by omega) (by omega) c_16
        have c_16' := Nat.not_lt.mpr c_16
        refine lv_iconst (v := nI 0) C.1 C.2.1 d_Sp_copy_54 rfl ?_
        refine lv_istore_n (lv' := [(2, .int (nI 0)), (0, .ref q), (1, .ref r)]) C.1 C.2.1 d_Sp_copy_55 rfl hl (by decide) rfl (fun ls hl => ?_)
        have K56 : ∀ (n_56 : Nat) (i : Nat) (I56 : gm_I) (J56 : gm_J) (hi : i ≤ 128) (tO56 : offR q (q + 5) I I56 J J56) (tS56 : inv_Sp I56 q) (tR56 : inv_Sp I56 r) (hm_56 : 129 - i < n_56), ∀ (H : Heap) (locs : List Loc) (ls : Array Slot), gm_St D cs sh (gm_A sh) s'.heap sz I56 J56 H locs → lv_has ls 3 [(0, .ref q), (1, .ref r), (2, .int (nI i))] → W p' l e' { frames := 0, cells := 0, slots := 0, locals := 0 } s' m' ([.ref q, .ref r] : List Value).toArray be' me' co' H locs 0 0 (MQ be' (va_Qv (fun u => sfP q I J u) (gm_B D cs sh sz) (gm_A sh)) ([.ref q, .ref r] : List Value).toArray s' 0 0 (gm_A sh)) (F0 m' 56 ls []) := by
          intro n_56
          induction n_56 with
          | zero => intro i I56 J56 hi tO56 tS56 tR56 hm_56; exact absurd hm_56 (Nat.not_lt_zero _)
          | succ n_56 ih56 =>
            intro i I56 J56 hi tO56 tS56 tR56 hm_56 H locs ls hh hl
            refine lv_iload_n C.1 C.2.1 d_Sp_copy_56 rfl (lv_at hl 2 rfl) ?_
            refine lv_iconst (v := nI 4) C.1 C.2.1 d_Sp_copy_57 rfl ?_
            refine lv_aload_n C.1 C.2.1 d_Sp_copy_58 rfl (lv_at hl 0 rfl) ?_
            refine gg_i C hh hs.1 rfl in_Sp 3 (by decide) rfl tw_188 rfl d_Sp_copy_59 ?_
            obtain ⟨g_17, hg_17, eg_17⟩ := tS56.2
            refine gm_eqi eg_17 ?_
            refine lv_imul C.1 C.2.1 d_Sp_copy_62 ?_
            refine gm_eqi (pk_mul _ _) ?_
            refine lv_icmp_ge (tgt := 84) C.1 C.2.1 d_Sp_copy_63 (by decide) (fun c_18 => ?_) (fun c_18 => ?_)
            · -- 63 -> 84
              have c_18 := gm_get (by omega) (by omega) c_18
              have c_18' := Nat.not_lt.mpr c_18
              refine lv_iconst (v := nI 0) C.1 C.2.1 d_Sp_copy_84 rfl ?_
              refine lv_istore_n (lv' := [(2, .int (nI 0)), (0, .ref q), (1, .ref r)]) C.1 C.2.1 d_Sp_copy_85 rfl hl (by decide) rfl (fun ls hl => ?_)
              have K86 : ∀ (n_86 : Nat) (i : Nat) (I86 : gm_I) (J86 : gm_J) (hi : i ≤ 32) (tO86 : offR q (q + 5) I I86 J J86) (tS86 : inv_Sp I86 q) (tR86 : inv_Sp I86 r) (hm_86 : 33 - i < n_86), ∀ (H : Heap) (locs : List Loc) (ls : Array Slot), gm_St D cs sh (gm_A sh) s'.heap sz I86 J86 H locs → lv_has ls 3 [(0, .ref q), (1, .ref r), (2, .int (nI i))] → W p' l e' { frames := 0, cells := 0, slots := 0, locals := 0 } s' m' ([.ref q, .ref r] : List Value).toArray be' me' co' H locs 0 0 (MQ be' (va_Qv (fun u => sfP q I J u) (gm_B D cs sh sz) (gm_A sh)) ([.ref q, .ref r] : List Value).toArray s' 0 0 (gm_A sh)) (F0 m' 86 ls []) := by
                intro n_86
                induction n_86 with
                | zero => intro i I86 J86 hi tO86 tS86 tR86 hm_86; exact absurd hm_86 (Nat.not_lt_zero _)
                | succ n_86 ih86 =>
                  intro i I86 J86 hi tO86 tS86 tR86 hm_86 H locs ls hh hl
                  refine lv_iload_n C.1 C.2.1 d_Sp_copy_86 rfl (lv_at hl 2 rfl) ?_
                  refine lv_aload_n C.1 C.2.1 d_Sp_copy_87 rfl (lv_at hl 0 rfl) ?_
                  refine gg_i C hh hs.1 rfl in_Sp 3 (by decide) rfl tw_188 rfl d_Sp_copy_88 ?_
                  obtain ⟨g_19, hg_19, eg_19⟩ := tS86.2
                  refine gm_eqi eg_19 ?_
                  refine lv_icmp_ge (tgt := 112) C.1 C.2.1 d_Sp_copy_91 (by decide) (fun c_20 => ?_) (fun c_20 => ?_)
                  · -- 91 -> 112
                    have c_20 := gm_get (by omega) (by omega) c_20
                    have c_20' := Nat.not_lt.mpr c_20
                    exact gr_v C hlk hret hh (by exact ⟨tO86, tS86⟩) d_Sp_copy_112
                  · -- 91 -> 94
                    have c_20 := gm_gef (by omega) (by omega) c_20
                    have c_20' := Nat.not_le.mpr c_20
                    refine lv_aload_n C.1 C.2.1 d_Sp_copy_94 rfl (lv_at hl 0 rfl) ?_
                    refine gg_r C hh hs.1 rfl in_Sp 4 (by decide) rfl tw_189 rfl d_Sp_copy_95 ?_
                    refine lv_iload_n C.1 C.2.1 d_Sp_copy_98 rfl (lv_at hl 2 rfl) ?_
                    refine lv_aload_n C.1 C.2.1 d_Sp_copy_99 rfl (lv_at hl 1 rfl) ?_
                    refine gg_r C hh hr.1 rfl in_Sp 4 (by decide) rfl tw_189 rfl d_Sp_copy_100 ?_
                    refine lv_iload_n C.1 C.2.1 d_Sp_copy_103 rfl (lv_at hl 2 rfl) ?_
                    refine ga_i C hh hr.2.2.2.1 (k := i) rfl (by omega) (by omega) d_Sp_copy_104 ?_
                    refine gs_i C hh hs.2.2.2.1 (k := i) rfl (by omega) (by omega) d_Sp_copy_105 (fun H locs hh => ?_)
                    obtain ⟨I_21, eI_21⟩ : ∃ z : gm_I, z = gm_up I86 (q + 3) i (I86 (r + 3) i) := ⟨_, rfl⟩
                    rw [← eI_21] at hh
                    have tO_22 : offR q (q + 5) I I_21 J J86 := by rw [eI_21]; exact offR.upI tO86 (by omega)
                    have tS_23 : inv_Sp I_21 q := by rw [eI_21]; exact ⟨tS86.1.up (by omega), tS86.2.up (by omega)⟩
                    have tR_24 : inv_Sp I_21 r := by rw [eI_21]; exact ⟨tR86.1.up (by omega), tR86.2.up (by omega)⟩
                    refine lv_iinc (v := nI (i + 1)) (lv' := [(2, .int (nI (i + 1))), (0, .ref q), (1, .ref r)]) C.1 C.2.1 d_Sp_copy_106 hl (k := 2) rfl (gm_inc i 1) (by decide) rfl (fun ls hl => ?_)
                    refine lv_goto (tgt := 86) C.1 C.2.1 d_Sp_copy_109 (by decide) ?_
                    exact ih86 (i + 1) I_21 J86 (by omega) (by exact tO_22) (by exact tS_23) (by exact tR_24) (by omega) _ _ _ hh (lv_sub hl [1, 2, 0] rfl)
              exact K86 _ 0 I56 J56 (by omega) (by exact tO56) (by exact tS56) (by exact tR56) (Nat.lt_succ_self _) _ _ _ hh (lv_sub hl [1, 2, 0] rfl)
            · -- 63 -> 66
              have c_18 := gm_gef (by omega) (by omega) c_18
              have c_18' := Nat.not_le.mpr c_18
              refine lv_aload_n C.1 C.2.1 d_Sp_copy_66 rfl (lv_at hl 0 rfl) ?_
              refine gg_r C hh hs.1 rfl in_Sp 2 (by decide) rfl tw_187 rfl d_Sp_copy_67 ?_
              refine lv_iload_n C.1 C.2.1 d_Sp_copy_70 rfl (lv_at hl 2 rfl) ?_
              refine lv_aload_n C.1 C.2.1 d_Sp_copy_71 rfl (lv_at hl 1 rfl) ?_
              refine gg_r C hh hr.1 rfl in_Sp 2 (by decide) rfl tw_187 rfl d_Sp_copy_72 ?_
              refine lv_iload_n C.1 C.2.1 d_Sp_copy_75 rfl (lv_at hl 2 rfl) ?_
              refine ga_l C hh hr.2.2.1 (k := i) rfl (by omega) (by omega) d_Sp_copy_76 ?_
              refine gs_l C hh hs.2.2.1 (k := i) rfl (by omega) (by omega) d_Sp_copy_77 (fun H locs hh => ?_)
              obtain ⟨J_25, eJ_25⟩ : ∃ z : gm_J, z = gm_up J56 (q + 2) i (J56 (r + 2) i) := ⟨_, rfl⟩
              rw [← eJ_25] at hh
              have tO_26 : offR q (q + 5) I I56 J J_25 := by rw [eJ_25]; exact offR.upJ tO56 (by omega)
              refine lv_iinc (v := nI (i + 1)) (lv' := [(2, .int (nI (i + 1))), (0, .ref q), (1, .ref r)]) C.1 C.2.1 d_Sp_copy_78 hl (k := 2) rfl (gm_inc i 1) (by decide) rfl (fun ls hl => ?_)
              refine lv_goto (tgt := 56) C.1 C.2.1 d_Sp_copy_81 (by decide) ?_
              exact ih56 (i + 1) I56 J_25 (by omega) (by exact tO_26) (by exact tS56) (by exact tR56) (by omega) _ _ _ hh (lv_sub hl [1, 2, 0] rfl)
        exact K56 _ 0 I26 J26 (by omega) (by exact tO26) (by exact tS26) (by exact tR26) (Nat.lt_succ_self _) _ _ _ hh (lv_sub hl [1, 2, 0] rfl)
      · -- 33 -> 36
        have c_16 := gm_gef (by omega) (by omega) c_16
        have c_16' := Nat.not_le.mpr c_16
        refine lv_aload_n C.1 C.2.1 d_Sp_copy_36 rfl (lv_at hl 0 rfl) ?_
        refine gg_r C hh hs.1 rfl in_Sp 0 (by decide) rfl tw_185 rfl d_Sp_copy_37 ?_
        refine lv_iload_n C.1 C.2.1 d_Sp_copy_40 rfl (lv_at hl 2 rfl) ?_
        refine lv_aload_n C.1 C.2.1 d_Sp_copy_41 rfl (lv_at hl 1 rfl) ?_
        refine gg_r C hh hr.1 rfl in_Sp 0 (by decide) rfl tw_185 rfl d_Sp_copy_42 ?_
        refine lv_iload_n C.1 C.2.1 d_Sp_copy_45 rfl (lv_at hl 2 rfl) ?_
        refine ga_l C hh hr.2.1 (k := i) rfl (by omega) (by omega) d_Sp_copy_46 ?_
        refine gs_l C hh hs.2.1 (k := i) rfl (by omega) (by omega) d_Sp_copy_47 (fun H locs hh => ?_)
        obtain ⟨J_27, eJ_27⟩ : ∃ z : gm_J, z = gm_up J26 (q + 1) i (J26 (r + 1) i) := ⟨_, rfl⟩
        rw [← eJ_27] at hh
        have tO_28 : offR q (q + 5) I I26 J J_27 := by rw [eJ_27]; exact offR.upJ tO26 (by omega)
        refine lv_iinc (v := nI (i + 1)) (lv' := [(2, .int (nI (i + 1))), (0, .ref q), (1, .ref r)]) C.1 C.2.1 d_Sp_copy_48 hl (k := 2) rfl (gm_inc i 1) (by decide) rfl (fun ls hl => ?_)
        refine lv_goto (tgt := 26) C.1 C.2.1 d_Sp_copy_51 (by decide) ?_
        exact ih26 (i + 1) I26 J_27 (by omega) (by exact tO_28) (by exact tS26) (by exact tR26) (by omega) _ _ _ hh (lv_sub hl [1, 2, 0] rfl)
  exact K26 _ 0 I_11 J (by omega) (by exact tO_12) (by exact tS_13) (by exact tR_14) (Nat.lt_succ_self _) _ _ _ hh (lv_sub hl [1, 2, 0] rfl)

set_option maxHeartbeats 4000000 in
set_option maxRecDepth 100000 in
theorem c_Sp_fill (l : Launch) (D : va_G) (cs : Nat → ClassId) (sh : gm_H) (sz : Nat) (I : gm_I) (J : gm_J) (q : Nat) (hs : is_Sp sh q) (hS : inv_Sp I q) (o : Nat) (ho : is_Lp cs sh o) (hVo : inv_Lp I o) (w : Nat) (hw : w < 3) (hd : o + 20 < q ∨ q + 5 < o) : CV l y_Sp_fill w_Sp_fill { frames := 4, cells := 0, slots := 0, locals := 111 } D cs sh sz I J [.ref q, .ref o, .int (nI w)] (fun u => sfP q I J u) := by
  refine gm_start (by decide) (Nat.le_of_ble_eq_true rfl) ?_
  intro p' e' s' m' be' me' co' ls C hml hlk hret hh hl
  have hl : lv_has ls 7 [(0, .ref q), (1, .ref o), (2, .int (nI w))] := hl
  have tO_0 : offR q (q + 5) I I J J := offR.nil
  have tS_0 : inv_Sp I q := hS
  refine lv_aload_n C.1 C.2.1 d_Sp_fill_0 rfl (lv_at hl 0 rfl) ?_
  refine lv_aload_n C.1 C.2.1 d_Sp_fill_1 rfl (lv_at hl 1 rfl) ?_
  refine gn_i C hh ho.1 rfl in_Lp 0 (by decide) rfl tw_152 rfl d_Sp_fill_2 ?_
  obtain ⟨g_1, hg_1, eg_1⟩ := (inv_Lp.off hVo tO_0 hd).1
  refine gm_eqi eg_1 ?_
  refine gc_v hh (gc_runV (As := [.int (nI g_1)]) (rest := []) (n := 1) C hml hh (c_Sp_begin l D cs sh sz I J q hs tS_0 g_1 (by omega)) (tg_V tw_330 tw_332 tw_5 tw_63 tw_333) (by decide +kernel) ⟨rfl, rfl, by decide, by decide, Nat.zero_le _, Nat.zero_le _⟩ hs.1 rfl rfl hl.1 rfl (Nat.le_of_ble_eq_true rfl) d_Sp_fill_5) (fun I_3 J_4 H locs hr_2 hh => ?_)
  have tO_5 : offR q (q + 5) I I_3 J J_4 := offR.tr tO_0 hr_2.1
  have tS_6 : inv_Sp I_3 q := hr_2.2
  refine lv_aload_n C.1 C.2.1 d_Sp_fill_8 rfl (lv_at hl 1 rfl) ?_
  refine gn_r C hh ho.1 rfl in_Lp 1 (by decide) rfl tw_155 rfl d_Sp_fill_9 ?_
  refine gn_r C hh ho.2.1.1 rfl in_Rw 0 (by decide) rfl tw_112 rfl d_Sp_fill_12 ?_
  refine lv_astore_n (lv' := [(3, .ref (o + 1 + 1)), (0, .ref q), (1, .ref o), (2, .int (nI w))]) C.1 C.2.1 d_Sp_fill_15 rfl hl (by decide) rfl (fun ls hl => ?_)
  refine lv_iconst (v := nI 0) C.1 C.2.1 d_Sp_fill_16 rfl ?_
  refine lv_istore (lv' := [(4, .int (nI 0)), (3, .ref (o + 1 + 1)), (0, .ref q), (1, .ref o), (2, .int (nI w))]) C.1 C.2.1 d_Sp_fill_17 hl (by decide) rfl (fun ls hl => ?_)
  have K19 : ∀ (n_19 : Nat) (i : Nat) (I19 : gm_I) (J19 : gm_J) (hi : i ≤ 16) (h4 : i % 4 = 0) (tO19 : offR q (q + 5) I I19 J J19) (tS19 : inv_Sp I19 q) (hm_19 : 17 - i < n_19), ∀ (H : Heap) (locs : List Loc) (ls : Array Slot), gm_St D cs sh (gm_A sh) s'.heap sz I19 J19 H locs → lv_has ls 7 [(0, .ref q), (1, .ref o), (2, .int (nI w)), (3, .ref (o + 1 + 1)), (4, .int (nI i))] → W p' l e' { frames := 4, cells := 0, slots := 0, locals := 111 } s' m' ([.ref q, .ref o, .int (nI w)] : List Value).toArray be' me' co' H locs 0 0 (MQ be' (va_Qv (fun u => sfP q I J u) (gm_B D cs sh sz) (gm_A sh)) ([.ref q, .ref o, .int (nI w)] : List Value).toArray s' 0 0 (gm_A sh)) (F0 m' 19 ls []) := by
    intro n_19
    induction n_19 with
    | zero => intro i I19 J19 hi h4 tO19 tS19 hm_19; exact absurd hm_19 (Nat.not_lt_zero _)
    | succ n_19 ih19 =>
      intro i I19 J19 hi h4 tO19 tS19 hm_19 H locs ls hh hl
      refine lv_iload C.1 C.2.1 d_Sp_fill_19 (lv_at hl 4 rfl) ?_
      refine lv_iconst (v := nI 4) C.1 C.2.1 d_Sp_fill_21 rfl ?_
      refine lv_aload_n C.1 C.2.1 d_Sp_fill_22 rfl (lv_at hl 1 rfl) ?_
      refine gn_r C hh ho.1 rfl in_Lp 1 (by decide) rfl tw_155 rfl d_Sp_fill_23 ?_
      refine gn_i C hh ho.2.1.1 rfl in_Rw 2 (by decide) rfl tw_117 rfl d_Sp_fill_26 ?_
      obtain ⟨g_7, hg_7, eg_7⟩ := (inv_Lp.off hVo tO19 hd).2.1.2
      refine gm_eqi eg_7 ?_
      refine lv_imul C.1 C.2.1 d_Sp_fill_29 ?_
      refine gm_eqi (pk_mul _ _) ?_
      refine lv_icmp_ge (tgt := 65) C.1 C.2.1 d_Sp_fill_30 (by decide) (fun c_8 => ?_) (fun c_8 => ?_)
      · -- 30 -> 65
        have c_8 := gm_get (by omega) (by omega) c_8
        have c_8' := Nat.not_lt.mpr c_8
        refine lv_aload_n C.1 C.2.1 d_Sp_fill_65 rfl (lv_at hl 1 rfl) ?_
        refine gn_r C hh ho.1 rfl in_Lp 2 (by decide) rfl tw_158 rfl d_Sp_fill_66 ?_
        refine lv_iload_n C.1 C.2.1 d_Sp_fill_69 rfl (lv_at hl 2 rfl) ?_
        refine ga_q C hh 4 ho.2.2.1 (Cn := "FallingTerms$Way") rfl (k := w) (v := o + 6 + 5 * w) rfl (by omega) (by omega) (if_pos (by omega)) d_Sp_fill_70 ?_
        obtain ⟨p_9, ep_9⟩ : ∃ z : Nat, z = o + 6 + 5 * w := ⟨_, rfl⟩
        have hp_9 : is_Wy sh p_9 := by rw [ep_9]; exact ho.2.2.2.2.2 w (by omega)
        refine gm_eqr ep_9.symm ?_
        refine gn_r C hh hp_9.1 rfl in_Wy 0 (by decide) rfl tw_137 rfl d_Sp_fill_71 ?_
        refine lv_astore (lv' := [(4, .ref (p_9 + 1)), (0, .ref q), (1, .ref o), (2, .int (nI w)), (3, .ref (o + 1 + 1))]) C.1 C.2.1 d_Sp_fill_74 hl (by decide) rfl (fun ls hl => ?_)
        refine lv_aload C.1 C.2.1 d_Sp_fill_76 (lv_at hl 0 rfl) ?_
        refine gn_r C hh hp_9.2.1.1 rfl in_Rw 0 (by decide) rfl tw_112 rfl d_Sp_fill_78 ?_
        refine lv_astore (lv' := [(5, .ref (p_9 + 1 + 1)), (4, .ref (p_9 + 1)), (0, .ref q), (1, .ref o), (2, .int (nI w)), (3, .ref (o + 1 + 1))]) C.1 C.2.1 d_Sp_fill_81 hl (by decide) rfl (fun ls hl => ?_)
        refine lv_iconst (v := nI 0) C.1 C.2.1 d_Sp_fill_83 rfl ?_
        refine lv_istore (lv' := [(6, .int (nI 0)), (5, .ref (p_9 + 1 + 1)), (4, .ref (p_9 + 1)), (0, .ref q), (1, .ref o), (2, .int (nI w)), (3, .ref (o + 1 + 1))]) C.1 C.2.1 d_Sp_fill_84 hl (by decide) rfl (fun ls hl => ?_)
        have K86 : ∀ (n_86 : Nat) (i : Nat) (I86 : gm_I) (J86 : gm_J) (hi : i ≤ 8) (h4 : i % 4 = 0) (tO86 : offR q (q + 5) I I86 J J86) (tS86 : inv_Sp I86 q) (hm_86 : 9 - i < n_86), ∀ (H : Heap) (locs : List Loc) (ls : Array Slot), gm_St D cs sh (gm_A sh) s'.heap sz I86 J86 H locs → lv_has ls 7 [(0, .ref q), (4, .ref (p_9 + 1)), (5, .ref (p_9 + 1 + 1)), (6, .int (nI i))] → W p' l e' { frames := 4, cells := 0, slots := 0, locals := 111 } s' m' ([.ref q, .ref o, .int (nI w)] : List Value).toArray be' me' co' H locs 0 0 (MQ be' (va_Qv (fun u => sfP q I J u) (gm_B D cs sh sz) (gm_A sh)) ([.ref q, .ref o, .int (nI w)] : List Value).toArray s' 0 0 (gm_A sh)) (F0 m' 86 ls []) := by
          intro n_86
          induction n_86 with
          | zero => intro i I86 J86 hi h4 tO86 tS86 hm_86; exact absurd hm_86 (Nat.not_lt_zero _)
          | succ n_86 ih86 =>
            intro i I86 J86 hi h4 tO86 tS86 hm_86 H locs ls hh hl
            refine lv_iload C.1 C.2.1 d_Sp_fill_86 (lv_at hl 3 rfl) ?_
            refine lv_iconst (v := nI 4) C.1 C.2.1 d_Sp_fill_88 rfl ?_
            refine lv_aload C.1 C.2.1 d_Sp_fill_89 (lv_at hl 1 rfl) ?_
            refine gn_i C hh hp_9.2.1.1 rfl in_Rw 2 (by decide) rfl tw_117 rfl d_Sp_fill_91 ?_
            obtain ⟨g_10, hg_10, eg_10⟩ := (by have h_ := ((inv_Lp.off hVo tO86 hd).2.2.2 w (by omega)).2; rw [← ep_9] at h_; exact h_ : nle I86 (p_9 + 1) 2 2)
            refine gm_eqi eg_10 ?_
            refine lv_imul C.1 C.2.1 d_Sp_fill_94 ?_
            refine gm_eqi (pk_mul _ _) ?_
            refine lv_icmp_ge (tgt := 134) C.1 C.2.1 d_Sp_fill_95 (by decide) (fun c_11 => ?_) (fun c_11 => ?_)
            · -- 95 -> 134
              have c_11 := gm_get (by omega) (by omega) c_11
              have c_11' := Nat.not_lt.mpr c_11
              exact gr_v C hlk hret hh (by exact ⟨tO86, tS86⟩) d_Sp_fill_134
            · -- 95 -> 98
              have c_11 := gm_gef (by omega) (by omega) c_11
              have c_11' := Nat.not_le.mpr c_11
              refine lv_aload_n C.1 C.2.1 d_Sp_fill_98 rfl (lv_at hl 0 rfl) ?_
              refine lv_aload C.1 C.2.1 d_Sp_fill_99 (lv_at hl 2 rfl) ?_
              refine lv_iload C.1 C.2.1 d_Sp_fill_101 (lv_at hl 3 rfl) ?_
              refine ga_i C hh hp_9.2.1.2 (k := i) rfl (by omega) (by omega) d_Sp_fill_103 ?_
              refine lv_aload C.1 C.2.1 d_Sp_fill_104 (lv_at hl 2 rfl) ?_
              refine lv_iload C.1 C.2.1 d_Sp_fill_106 (lv_at hl 3 rfl) ?_
              refine lv_iconst (v := nI 1) C.1 C.2.1 d_Sp_fill_108 rfl ?_
              refine lv_iadd C.1 C.2.1 d_Sp_fill_109 ?_
              refine gm_eqi (nI_add _ _) ?_
              refine ga_i C hh hp_9.2.1.2 (k := i + 1) rfl (by omega) (by omega) d_Sp_fill_110 ?_
              refine lv_aload C.1 C.2.1 d_Sp_fill_111 (lv_at hl 2 rfl) ?_
              refine lv_iload C.1 C.2.1 d_Sp_fill_113 (lv_at hl 3 rfl) ?_
              refine lv_iconst (v := nI 2) C.1 C.2.1 d_Sp_fill_115 rfl ?_
              refine lv_iadd C.1 C.2.1 d_Sp_fill_116 ?_
              refine gm_eqi (nI_add _ _) ?_
              refine ga_i C hh hp_9.2.1.2 (k := i + 2) rfl (by omega) (by omega) d_Sp_fill_117 ?_
              refine lv_aload C.1 C.2.1 d_Sp_fill_118 (lv_at hl 2 rfl) ?_
              refine lv_iload C.1 C.2.1 d_Sp_fill_120 (lv_at hl 3 rfl) ?_
              refine lv_iconst (v := nI 3) C.1 C.2.1 d_Sp_fill_122 rfl ?_
              refine lv_iadd C.1 C.2.1 d_Sp_fill_123 ?_
              refine gm_eqi (nI_add _ _) ?_
              refine ga_i C hh hp_9.2.1.2 (k := i + 3) rfl (by omega) (by omega) d_Sp_fill_124 ?_
              refine gc_v hh (gc_runV (As := [.int (I86 (p_9 + 1 + 1) i), .int (I86 (p_9 + 1 + 1) (i + 1)), .int (I86 (p_9 + 1 + 1) (i + 2)), .int (I86 (p_9 + 1 + 1) (i + 3))]) (rest := []) (n := 4) C hml hh (c_Sp_narrow l D cs sh sz I86 J86 q hs tS86 (I86 (p_9 + 1 + 1) i) (I86 (p_9 + 1 + 1) (i + 1)) (I86 (p_9 + 1 + 1) (i + 2)) (I86 (p_9 + 1 + 1) (i + 3))) (tg_V tw_338 tw_339 tw_340 tw_63 tw_341) (by decide +kernel) ⟨rfl, rfl, by decide, by decide, Nat.zero_le _, Nat.zero_le _⟩ hs.1 rfl rfl hl.1 rfl (Nat.le_of_ble_eq_true rfl) d_Sp_fill_125) (fun I_13 J_14 H locs hr_12 hh => ?_)
              have tO_15 : offR q (q + 5) I I_13 J J_14 := offR.tr tO86 hr_12.1
              have tS_16 : inv_Sp I_13 q := hr_12.2
              refine lv_iinc (v := nI (i + 4)) (lv' := [(6, .int (nI (i + 4))), (0, .ref q), (4, .ref (p_9 + 1)), (5, .ref (p_9 + 1 + 1))]) C.1 C.2.1 d_Sp_fill_128 hl (k := 3) rfl (gm_inc i 4) (by decide) rfl (fun ls hl => ?_)
              refine lv_goto (tgt := 86) C.1 C.2.1 d_Sp_fill_131 (by decide) ?_
              exact ih86 (i + 4) I_13 J_14 (by omega) (by omega) (by exact tO_15) (by exact tS_16) (by omega) _ _ _ hh (lv_sub hl [1, 2, 3, 0] rfl)
        exact K86 _ 0 I19 J19 (by omega) (by omega) (by exact tO19) (by exact tS19) (Nat.lt_succ_self _) _ _ _ hh (lv_sub hl [3, 2, 1, 0] rfl)
      · -- 30 -> 33
        have c_8 := gm_gef (by omega) (by omega) c_8
        have c_8' := Nat.not_le.mpr c_8
        refine lv_aload_n C.1 C.2.1 d_Sp_fill_33 rfl (lv_at hl 0 rfl) ?_
        refine lv_aload_n C.1 C.2.1 d_Sp_fill_34 rfl (lv_at hl 3 rfl) ?_
        refine lv_iload C.1 C.2.1 d_Sp_fill_35 (lv_at hl 4 rfl) ?_
        refine ga_i C hh ho.2.1.2 (k := i) rfl (by omega) (by omega) d_Sp_fill_37 ?_
        refine lv_aload_n C.1 C.2.1 d_Sp_fill_38 rfl (lv_at hl 3 rfl) ?_
        refine lv_iload C.1 C.2.1 d_Sp_fill_39 (lv_at hl 4 rfl) ?_
        refine lv_iconst (v := nI 1) C.1 C.2.1 d_Sp_fill_41 rfl ?_
        refine lv_iadd C.1 C.2.1 d_Sp_fill_42 ?_
        refine gm_eqi (nI_add _ _) ?_
        refine ga_i C hh ho.2.1.2 (k := i + 1) rfl (by omega) (by omega) d_Sp_fill_43 ?_
        refine lv_aload_n C.1 C.2.1 d_Sp_fill_44 rfl (lv_at hl 3 rfl) ?_
        refine lv_iload C.1 C.2.1 d_Sp_fill_45 (lv_at hl 4 rfl) ?_
        refine lv_iconst (v := nI 2) C.1 C.2.1 d_Sp_fill_47 rfl ?_
        refine lv_iadd C.1 C.2.1 d_Sp_fill_48 ?_
        refine gm_eqi (nI_add _ _) ?_
        refine ga_i C hh ho.2.1.2 (k := i + 2) rfl (by omega) (by omega) d_Sp_fill_49 ?_
        refine lv_aload_n C.1 C.2.1 d_Sp_fill_50 rfl (lv_at hl 3 rfl) ?_
        refine lv_iload C.1 C.2.1 d_Sp_fill_51 (lv_at hl 4 rfl) ?_
        refine lv_iconst (v := nI 3) C.1 C.2.1 d_Sp_fill_53 rfl ?_
        refine lv_iadd C.1 C.2.1 d_Sp_fill_54 ?_
        refine gm_eqi (nI_add _ _) ?_
        refine ga_i C hh ho.2.1.2 (k := i + 3) rfl (by omega) (by omega) d_Sp_fill_55 ?_
        refine gc_v hh (gc_runV (As := [.int (I19 (o + 1 + 1) i), .int (I19 (o + 1 + 1) (i + 1)), .int (I19 (o + 1 + 1) (i + 2)), .int (I19 (o + 1 + 1) (i + 3))]) (rest := []) (n := 4) C hml hh (c_Sp_narrow l D cs sh sz I19 J19 q hs tS19 (I19 (o + 1 + 1) i) (I19 (o + 1 + 1) (i + 1)) (I19 (o + 1 + 1) (i + 2)) (I19 (o + 1 + 1) (i + 3))) (tg_V tw_338 tw_339 tw_340 tw_63 tw_341) (by decide +kernel) ⟨rfl, rfl, by decide, by decide, Nat.zero_le _, Nat.zero_le _⟩ hs.1 rfl rfl hl.1 rfl (Nat.le_of_ble_eq_true rfl) d_Sp_fill_56) (fun I_18 J_19 H locs hr_17 hh => ?_)
        have tO_20 : offR q (q + 5) I I_18 J J_19 := offR.tr tO19 hr_17.1
        have tS_21 : inv_Sp I_18 q := hr_17.2
        refine lv_iinc (v := nI (i + 4)) (lv' := [(4, .int (nI (i + 4))), (0, .ref q), (1, .ref o), (2, .int (nI w)), (3, .ref (o + 1 + 1))]) C.1 C.2.1 d_Sp_fill_59 hl (k := 4) rfl (gm_inc i 4) (by decide) rfl (fun ls hl => ?_)
        refine lv_goto (tgt := 19) C.1 C.2.1 d_Sp_fill_62 (by decide) ?_
        exact ih19 (i + 4) I_18 J_19 (by omega) (by omega) (by exact tO_20) (by exact tS_21) (by omega) _ _ _ hh (lv_sub hl [1, 2, 3, 4, 0] rfl)
  exact K19 _ 0 I_3 J_4 (by omega) (by omega) (by exact tO_5) (by exact tS_6) (Nat.lt_succ_self _) _ _ _ hh (lv_sub hl [2, 3, 4, 1, 0] rfl)
