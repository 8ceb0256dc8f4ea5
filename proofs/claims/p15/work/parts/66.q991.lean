set_option maxHeartbeats 4000000 in
set_option maxRecDepth 100000 in
theorem c_Sp_copyQ (l : Launch) (D : va_G) (cs : Nat → ClassId) (sh : gm_H) (sz : Nat) (I : gm_I) (J : gm_J) (q : Nat) (hs : is_Sp sh q) (r : Nat) (hr : is_Sp sh r) (hd : r + 5 < q ∨ q + 5 < r) (rows L R : List dd_V) (hM : sp_M I J r rows L R) (hL3 : L.length ≤ 3) (hR32 : R.length ≤ 32) : CV l y_Sp_copy w_Sp_copy { frames := 0, cells := 0, slots := 0, locals := 0 } D cs sh sz I J [.ref q, .ref r] (fun u => offR q (q + 5) I u.1 J u.2 ∧ sp_M u.1 u.2 q rows L R) := by
  refine gm_start (by decide) (Nat.le_of_ble_eq_true rfl) ?_
  intro p' e' s' m' be' me' co' ls C hml hlk hret hh hl
  have hl : lv_has ls 3 [(0, .ref q), (1, .ref r)] := hl
  have tl_0 : I r 1 = nI L.length := hM.1
  have tn_0 : I r 3 = nI R.length := hM.2.1
  have tb_0 : I r 7 = nI (2 ^ rows.length) := hM.2.2.1
  refine lv_aload_n C.1 C.2.1 d_Sp_copy_0 rfl (lv_at hl 0 rfl) ?_
  refine lv_aload_n C.1 C.2.1 d_Sp_copy_1 rfl (lv_at hl 1 rfl) ?_
  refine gg_i C hh hr.1 rfl in_Sp 1 (by decide) rfl tw_186 rfl d_Sp_copy_2 ?_
  refine gm_eqi tl_0 ?_
  refine gp_i (ty := .int) C hh hs.1 rfl in_Sp t_Sp t_Sp_ok n_Sp 1 (by decide) rfl tw_186 rfl rfl (by decide +kernel) rfl rfl d_Sp_copy_5 (fun H locs hh => ?_)
  obtain ⟨I_1, eI_1⟩ : ∃ z : gm_I, z = gm_up I q 1 (nI L.length) := ⟨_, rfl⟩
  rw [← eI_1] at hh
  have tl_2 : I_1 r 1 = nI L.length := by rw [eI_1, gm_up_ne _ _ (by omega)]; exact tl_0
  have tn_3 : I_1 r 3 = nI R.length := by rw [eI_1, gm_up_ne _ _ (by omega)]; exact tn_0
  have tb_4 : I_1 r 7 = nI (2 ^ rows.length) := by rw [eI_1, gm_up_ne _ _ (by omega)]; exact tb_0
  have tL_5 : I_1 q 1 = nI L.length := by rw [eI_1]; exact gm_up_same _ _ _ _
  refine lv_aload_n C.1 C.2.1 d_Sp_copy_8 rfl (lv_at hl 0 rfl) ?_
  refine lv_aload_n C.1 C.2.1 d_Sp_copy_9 rfl (lv_at hl 1 rfl) ?_
  refine gg_i C hh hr.1 rfl in_Sp 3 (by decide) rfl tw_188 rfl d_Sp_copy_10 ?_
  refine gm_eqi tn_3 ?_
  refine gp_i (ty := .int) C hh hs.1 rfl in_Sp t_Sp t_Sp_ok n_Sp 3 (by decide) rfl tw_188 rfl rfl (by decide +kernel) rfl rfl d_Sp_copy_13 (fun H locs hh => ?_)
  obtain ⟨I_6, eI_6⟩ : ∃ z : gm_I, z = gm_up I_1 q 3 (nI R.length) := ⟨_, rfl⟩
  rw [← eI_6] at hh
  have tl_7 : I_6 r 1 = nI L.length := by rw [eI_6, gm_up_ne _ _ (by omega)]; exact tl_2
  have tn_8 : I_6 r 3 = nI R.length := by rw [eI_6, gm_up_ne _ _ (by omega)]; exact tn_3
  have tb_9 : I_6 r 7 = nI (2 ^ rows.length) := by rw [eI_6, gm_up_ne _ _ (by omega)]; exact tb_4
  have tL_10 : I_6 q 1 = nI L.length := by rw [eI_6, gm_up_ne _ _ (by omega)]; exact tL_5
  have tN_11 : I_6 q 3 = nI R.length := by rw [eI_6]; exact gm_up_same _ _ _ _
  refine lv_aload_n C.1 C.2.1 d_Sp_copy_16 rfl (lv_at hl 0 rfl) ?_
  refine lv_aload_n C.1 C.2.1 d_Sp_copy_17 rfl (lv_at hl 1 rfl) ?_
  refine gg_i C hh hr.1 rfl in_Sp 7 (by decide) rfl tw_192 rfl d_Sp_copy_18 ?_
  refine gm_eqi tb_9 ?_
  refine gp_i (ty := .int) C hh hs.1 rfl in_Sp t_Sp t_Sp_ok n_Sp 7 (by decide) rfl tw_192 rfl rfl (by decide +kernel) rfl rfl d_Sp_copy_21 (fun H locs hh => ?_)
  obtain ⟨I_12, eI_12⟩ : ∃ z : gm_I, z = gm_up I_6 q 7 (nI (2 ^ rows.length)) := ⟨_, rfl⟩
  rw [← eI_12] at hh
  have tl_13 : I_12 r 1 = nI L.length := by rw [eI_12, gm_up_ne _ _ (by omega)]; exact tl_7
  have tn_14 : I_12 r 3 = nI R.length := by rw [eI_12, gm_up_ne _ _ (by omega)]; exact tn_8
  have tb_15 : I_12 r 7 = nI (2 ^ rows.length) := by rw [eI_12, gm_up_ne _ _ (by omega)]; exact tb_9
  have tL_16 : I_12 q 1 = nI L.length := by rw [eI_12, gm_up_ne _ _ (by omega)]; exact tL_10
  have tN_17 : I_12 q 3 = nI R.length := by rw [eI_12, gm_up_ne _ _ (by omega)]; exact tN_11
  have tB_18 : I_12 q 7 = nI (2 ^ rows.length) := by rw [eI_12]; exact gm_up_same _ _ _ _
  refine lv_iconst (v := nI 0) C.1 C.2.1 d_Sp_copy_24 rfl ?_
  refine lv_istore_n (lv' := [(2, .int (nI 0)), (0, .ref q), (1, .ref r)]) C.1 C.2.1 d_Sp_copy_25 rfl hl (by decide) rfl (fun ls hl => ?_)
  have K26 : ∀ (n_26 : Nat) (i : Nat) (J26 : gm_J) (hi : i ≤ 4 * L.length) (hA : cpJ J J26 (q + 1) (r + 1) i) (hm_26 : 4 * L.length - i < n_26), ∀ (H : Heap) (locs : List Loc) (ls : Array Slot), gm_St D cs sh (gm_A sh) s'.heap sz I_12 J26 H locs → lv_has ls 3 [(0, .ref q), (1, .ref r), (2, .int (nI i))] → W p' l e' { frames := 0, cells := 0, slots := 0, locals := 0 } s' m' ([.ref q, .ref r] : List Value).toArray be' me' co' H locs 0 0 (MQ be' (va_Qv (fun u => offR q (q + 5) I u.1 J u.2 ∧ sp_M u.1 u.2 q rows L R) (gm_B D cs sh sz) (gm_A sh)) ([.ref q, .ref r] : List Value).toArray s' 0 0 (gm_A sh)) (F0 m' 26 ls []) := by
    intro n_26
    induction n_26 with
    | zero => intro i J26 hi hA hm_26; exact absurd hm_26 (Nat.not_lt_zero _)
    | succ n_26 ih26 =>
      intro i J26 hi hA hm_26 H locs ls hh hl
      refine lv_iload_n C.1 C.2.1 d_Sp_copy_26 rfl (lv_at hl 2 rfl) ?_
      refine lv_iconst (v := nI 4) C.1 C.2.1 d_Sp_copy_27 rfl ?_
      refine lv_aload_n C.1 C.2.1 d_Sp_copy_28 rfl (lv_at hl 0 rfl) ?_
      refine gg_i C hh hs.1 rfl in_Sp 1 (by decide) rfl tw_186 rfl d_Sp_copy_29 ?_
      refine gm_eqi (y := nI L.length) (by rw [eI_12, gm_up_ne _ _ (Or.inr (by omega)), eI_6, gm_up_ne _ _ (Or.inr (by omega)), eI_1, gm_up_same]) ?_
      refine lv_imul C.1 C.2.1 d_Sp_copy_32 ?_
      refine gm_eqi (pk_mul _ _) ?_
      refine lv_icmp_ge (tgt := 54) C.1 C.2.1 d_Sp_copy_33 (by decide) (fun c_19 => ?_) (fun c_19 => ?_)
      · -- 33 -> 54
        have c_19 := gm_get (by omega) (by omega) c_19
        have c_19' := Nat.not_lt.mpr c_19
        refine lv_iconst (v := nI 0) C.1 C.2.1 d_Sp_copy_54 rfl ?_
        refine lv_istore_n (lv' := [(2, .int (nI 0)), (0, .ref q), (1, .ref r)]) C.1 C.2.1 d_Sp_copy_55 rfl hl (by decide) rfl (fun ls hl => ?_)
        have K56 : ∀ (n_56 : Nat) (i2 : Nat) (J56 : gm_J) (hi2 : i2 ≤ 4 * R.length) (hA2 : cpJ J26 J56 (q + 2) (r + 2) i2) (hm_56 : 4 * R.length - i2 < n_56), ∀ (H : Heap) (locs : List Loc) (ls : Array Slot), gm_St D cs sh (gm_A sh) s'.heap sz I_12 J56 H locs → lv_has ls 3 [(0, .ref q), (1, .ref r), (2, .int (nI i2))] → W p' l e' { frames := 0, cells := 0, slots := 0, locals := 0 } s' m' ([.ref q, .ref r] : List Value).toArray be' me' co' H locs 0 0 (MQ be' (va_Qv (fun u => offR q (q + 5) I u.1 J u.2 ∧ sp_M u.1 u.2 q rows L R) (gm_B D cs sh sz) (gm_A sh)) ([.ref q, .ref r] : List Value).toArray s' 0 0 (gm_A sh)) (F0 m' 56 ls []) := by
          intro n_56
          induction n_56 with
          | zero => intro i2 J56 hi2 hA2 hm_56; exact absurd hm_56 (Nat.not_lt_zero _)
          | succ n_56 ih56 =>
            intro i2 J56 hi2 hA2 hm_56 H locs ls hh hl
            refine lv_iload_n C.1 C.2.1 d_Sp_copy_56 rfl (lv_at hl 2 rfl) ?_
            refine lv_iconst (v := nI 4) C.1 C.2.1 d_Sp_copy_57 rfl ?_
            refine lv_aload_n C.1 C.2.1 d_Sp_copy_58 rfl (lv_at hl 0 rfl) ?_
            refine gg_i C hh hs.1 rfl in_Sp 3 (by decide) rfl tw_188 rfl d_Sp_copy_59 ?_
            refine gm_eqi (y := nI R.length) (by rw [eI_12, gm_up_ne _ _ (Or.inr (by omega)), eI_6, gm_up_same]) ?_
            refine lv_imul C.1 C.2.1 d_Sp_copy_62 ?_
            refine gm_eqi (pk_mul _ _) ?_
            refine lv_icmp_ge (tgt := 84) C.1 C.2.1 d_Sp_copy_63 (by decide) (fun c_20 => ?_) (fun c_20 => ?_)
            · -- 63 -> 84
              have c_20 := gm_get (by omega) (by omega) c_20
              have c_20' := Nat.not_lt.mpr c_20
              refine lv_iconst (v := nI 0) C.1 C.2.1 d_Sp_copy_84 rfl ?_
              refine lv_istore_n (lv' := [(2, .int (nI 0)), (0, .ref q), (1, .ref r)]) C.1 C.2.1 d_Sp_copy_85 rfl hl (by decide) rfl (fun ls hl => ?_)
              have K86 : ∀ (n_86 : Nat) (i3 : Nat) (I86 : gm_I) (hi3 : i3 ≤ R.length) (hA3 : cpI I_12 I86 (q + 3) (r + 3) i3) (tl86 : I86 r 1 = nI L.length) (tn86 : I86 r 3 = nI R.length) (tb86 : I86 r 7 = nI (2 ^ rows.length)) (tL86 : I86 q 1 = nI L.length) (tN86 : I86 q 3 = nI R.length) (tB86 : I86 q 7 = nI (2 ^ rows.length)) (hm_86 : R.length - i3 < n_86), ∀ (H : Heap) (locs : List Loc) (ls : Array Slot), gm_St D cs sh (gm_A sh) s'.heap sz I86 J56 H locs → lv_has ls 3 [(0, .ref q), (1, .ref r), (2, .int (nI i3))] → W p' l e' { frames := 0, cells := 0, slots := 0, locals := 0 } s' m' ([.ref q, .ref r] : List Value).toArray be' me' co' H locs 0 0 (MQ be' (va_Qv (fun u => offR q (q + 5) I u.1 J u.2 ∧ sp_M u.1 u.2 q rows L R) (gm_B D cs sh sz) (gm_A sh)) ([.ref q, .ref r] : List Value).toArray s' 0 0 (gm_A sh)) (F0 m' 86 ls []) := by
                intro n_86
                induction n_86 with
                | zero => intro i3 I86 hi3 hA3 tl86 tn86 tb86 tL86 tN86 tB86 hm_86; exact absurd hm_86 (Nat.not_lt_zero _)
                | succ n_86 ih86 =>
                  intro i3 I86 hi3 hA3 tl86 tn86 tb86 tL86 tN86 tB86 hm_86 H locs ls hh hl
                  refine lv_iload_n C.1 C.2.1 d_Sp_copy_86 rfl (lv_at hl 2 rfl) ?_
                  refine lv_aload_n C.1 C.2.1 d_Sp_copy_87 rfl (lv_at hl 0 rfl) ?_
                  refine gg_i C hh hs.1 rfl in_Sp 3 (by decide) rfl tw_188 rfl d_Sp_copy_88 ?_
                  refine gm_eqi tN86 ?_
                  refine lv_icmp_ge (tgt := 112) C.1 C.2.1 d_Sp_copy_91 (by decide) (fun c_21 => ?_) (fun c_21 => ?_)
                  · -- 91 -> 112
                    have c_21 := gm_get (by omega) (by omega) c_21
                    have c_21' := Nat.not_lt.mpr c_21
                    exact gr_v C hlk hret hh (by exact cp_fin hd hM (I1 := I_12) (by subst eI_1 eI_6 eI_12; rfl) hA (by omega) hA2 (by omega) hA3 (by omega)) d_Sp_copy_112
                  · -- 91 -> 94
                    have c_21 := gm_gef (by omega) (by omega) c_21
                    have c_21' := Nat.not_le.mpr c_21
                    refine lv_aload_n C.1 C.2.1 d_Sp_copy_94 rfl (lv_at hl 0 rfl) ?_
                    refine gg_r C hh hs.1 rfl in_Sp 4 (by decide) rfl tw_189 rfl d_Sp_copy_95 ?_
                    refine lv_iload_n C.1 C.2.1 d_Sp_copy_98 rfl (lv_at hl 2 rfl) ?_
                    refine lv_aload_n C.1 C.2.1 d_Sp_copy_99 rfl (lv_at hl 1 rfl) ?_
                    refine gg_r C hh hr.1 rfl in_Sp 4 (by decide) rfl tw_189 rfl d_Sp_copy_100 ?_
                    refine lv_iload_n C.1 C.2.1 d_Sp_copy_103 rfl (lv_at hl 2 rfl) ?_
                    refine ga_i C hh hr.2.2.2.1 (k := i3) rfl (by omega) (by omega) d_Sp_copy_104 ?_
                    refine gs_i C hh hs.2.2.2.1 (k := i3) rfl (by omega) (by omega) d_Sp_copy_105 (fun H locs hh => ?_)
                    obtain ⟨I_22, eI_22⟩ : ∃ z : gm_I, z = gm_up I86 (q + 3) i3 (I86 (r + 3) i3) := ⟨_, rfl⟩
                    rw [← eI_22] at hh
                    have tl_23 : I_22 r 1 = nI L.length := by rw [eI_22, gm_up_ne _ _ (by omega)]; exact tl86
                    have tn_24 : I_22 r 3 = nI R.length := by rw [eI_22, gm_up_ne _ _ (by omega)]; exact tn86
                    have tb_25 : I_22 r 7 = nI (2 ^ rows.length) := by rw [eI_22, gm_up_ne _ _ (by omega)]; exact tb86
                    have tL_26 : I_22 q 1 = nI L.length := by rw [eI_22, gm_up_ne _ _ (by omega)]; exact tL86
                    have tN_27 : I_22 q 3 = nI R.length := by rw [eI_22, gm_up_ne _ _ (by omega)]; exact tN86
                    have tB_28 : I_22 q 7 = nI (2 ^ rows.length) := by rw [eI_22, gm_up_ne _ _ (by omega)]; exact tB86
                    refine lv_iinc (v := nI (i3 + 1)) (lv' := [(2, .int (nI (i3 + 1))), (0, .ref q), (1, .ref r)]) C.1 C.2.1 d_Sp_copy_106 hl (k := 2) rfl (gm_inc i3 1) (by decide) rfl (fun ls hl => ?_)
                    refine lv_goto (tgt := 86) C.1 C.2.1 d_Sp_copy_109 (by decide) ?_
                    exact ih86 (i3 + 1) I_22 (by omega) (by subst eI_1 eI_6 eI_12 eI_22; exact cpI.step hA3 (by omega)) (by exact tl_23) (by exact tn_24) (by exact tb_25) (by exact tL_26) (by exact tN_27) (by exact tB_28) (by omega) _ _ _ hh (lv_sub hl [1, 2, 0] rfl)
              exact K86 _ 0 I_12 (by omega) (by exact cpI.nil) (by exact tl_13) (by exact tn_14) (by exact tb_15) (by exact tL_16) (by exact tN_17) (by exact tB_18) (Nat.lt_succ_self _) _ _ _ hh (lv_sub hl [1, 2, 0] rfl)
            · -- 63 -> 66
              have c_20 := gm_gef (by omega) (by omega) c_20
              have c_20' := Nat.not_le.mpr c_20
              refine lv_aload_n C.1 C.2.1 d_Sp_copy_66 rfl (lv_at hl 0 rfl) ?_
              refine gg_r C hh hs.1 rfl in_Sp 2 (by decide) rfl tw_187 rfl d_Sp_copy_67 ?_
              refine lv_iload_n C.1 C.2.1 d_Sp_copy_70 rfl (lv_at hl 2 rfl) ?_
              refine lv_aload_n C.1 C.2.1 d_Sp_copy_71 rfl (lv_at hl 1 rfl) ?_
              refine gg_r C hh hr.1 rfl in_Sp 2 (by decide) rfl tw_187 rfl d_Sp_copy_72 ?_
              refine lv_iload_n C.1 C.2.1 d_Sp_copy_75 rfl (lv_at hl 2 rfl) ?_
              refine ga_l C hh hr.2.2.1 (k := i2) rfl (by omega) (by omega) d_Sp_copy_76 ?_
              refine gs_l C hh hs.2.2.1 (k := i2) rfl (by omega) (by omega) d_Sp_copy_77 (fun H locs hh => ?_)
              obtain ⟨J_29, eJ_29⟩ : ∃ z : gm_J, z = gm_up J56 (q + 2) i2 (J56 (r + 2) i2) := ⟨_, rfl⟩
              rw [← eJ_29] at hh
              refine lv_iinc (v := nI (i2 + 1)) (lv' := [(2, .int (nI (i2 + 1))), (0, .ref q), (1, .ref r)]) C.1 C.2.1 d_Sp_copy_78 hl (k := 2) rfl (gm_inc i2 1) (by decide) rfl (fun ls hl => ?_)
              refine lv_goto (tgt := 56) C.1 C.2.1 d_Sp_copy_81 (by decide) ?_
              exact ih56 (i2 + 1) J_29 (by omega) (by subst eI_1 eI_6 eI_12 eJ_29; exact cpJ.step hA2 (by omega)) (by omega) _ _ _ hh (lv_sub hl [1, 2, 0] rfl)
        exact K56 _ 0 J26 (by omega) (by exact cpJ.nil) (Nat.lt_succ_self _) _ _ _ hh (lv_sub hl [1, 2, 0] rfl)
      · -- 33 -> 36
        have c_19 := gm_gef (by omega) (by omega) c_19
        have c_19' := Nat.not_le.mpr c_19
        refine lv_aload_n C.1 C.2.1 d_Sp_copy_36 rfl (lv_at hl 0 rfl) ?_
        refine gg_r C hh hs.1 rfl in_Sp 0 (by decide) rfl tw_185 rfl d_Sp_copy_37 ?_
        refine lv_iload_n C.1 C.2.1 d_Sp_copy_40 rfl (lv_at hl 2 rfl) ?_
        refine lv_aload_n C.1 C.2.1 d_Sp_copy_41 rfl (lv_at hl 1 rfl) ?_
        refine gg_r C hh hr.1 rfl in_Sp 0 (by decide) rfl tw_185 rfl d_Sp_copy_42 ?_
        refine lv_iload_n C.1 C.2.1 d_Sp_copy_45 rfl (lv_at hl 2 rfl) ?_
        refine ga_l C hh hr.2.1 (k := i) rfl (by omega) (by omega) d_Sp_copy_46 ?_
        refine gs_l C hh hs.2.1 (k := i) rfl (by omega) (by omega) d_Sp_copy_47 (fun H locs hh => ?_)
        obtain ⟨J_30, eJ_30⟩ : ∃ z : gm_J, z = gm_up J26 (q + 1) i (J26 (r + 1) i) := ⟨_, rfl⟩
        rw [← eJ_30] at hh
        refine lv_iinc (v := nI (i + 1)) (lv' := [(2, .int (nI (i + 1))), (0, .ref q), (1, .ref r)]) C.1 C.2.1 d_Sp_copy_48 hl (k := 2) rfl (gm_inc i 1) (by decide) rfl (fun ls hl => ?_)
        refine lv_goto (tgt := 26) C.1 C.2.1 d_Sp_copy_51 (by decide) ?_
        exact ih26 (i + 1) J_30 (by omega) (by subst eI_1 eI_6 eI_12 eJ_30; exact cpJ.step hA (by omega)) (by omega) _ _ _ hh (lv_sub hl [1, 2, 0] rfl)
  exact K26 _ 0 J (by omega) (by exact cpJ.nil) (Nat.lt_succ_self _) _ _ _ hh (lv_sub hl [1, 2, 0] rfl)
