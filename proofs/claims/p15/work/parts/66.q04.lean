set_option maxHeartbeats 4000000 in
set_option maxRecDepth 100000 in
theorem c_Sp_dropBeyondQ (l : Launch) (D : va_G) (cs : Nat → ClassId) (sh : gm_H) (sz : Nat) (I : gm_I) (J : gm_J) (q : Nat) (hs : is_Sp sh q) (m n : Nat) (em : I q 3 = nI m) (hm32 : m ≤ 32) (hn : n ≤ m) (Z rows : List dd_V) (hd : dd_V) (hZl : Z.length = m) (hZ : sp_L J (q + 2) Z) (hSu : ∀ i v, i < n → Z[i]? = some v → dd_R (J (q + 4) i) (dd_ev hd v) 17496000) (hTi : ∀ i v, Z[i]? = some v → I (q + 3) i = nI (if i < n then dd_mask rows v else dd_mask (rows ++ [hd]) v)) (hbt : I q 7 = nI (2 ^ rows.length)) : CV l y_Sp_dropBeyond w_Sp_dropBeyond { frames := 0, cells := 0, slots := 0, locals := 0 } D cs sh sz I J [.ref q, .int (nI n)] (fun u => drP I J q n m Z rows hd u) := by
  refine gm_start (by decide) (Nat.le_of_ble_eq_true rfl) ?_
  intro p' e' s' m' be' me' co' ls C hml hlk hret hh hl
  have hl : lv_has ls 5 [(0, .ref q), (1, .int (nI n))] := hl
  have tN_0 : I q 3 = nI m := em
  refine lv_iconst (v := nI 0) C.1 C.2.1 d_Sp_dropBeyond_0 rfl ?_
  refine lv_istore_n (lv' := [(2, .int (nI 0)), (0, .ref q), (1, .int (nI n))]) C.1 C.2.1 d_Sp_dropBeyond_1 rfl hl (by decide) rfl (fun ls hl => ?_)
  refine lv_iconst (v := nI 0) C.1 C.2.1 d_Sp_dropBeyond_2 rfl ?_
  refine lv_istore_n (lv' := [(3, .int (nI 0)), (2, .int (nI 0)), (0, .ref q), (1, .int (nI n))]) C.1 C.2.1 d_Sp_dropBeyond_3 rfl hl (by decide) rfl (fun ls hl => ?_)
  have K4 : ∀ (n_4 : Nat) (kp : Nat) (i : Nat) (I4 : gm_I) (J4 : gm_J) (hk : kp ≤ i) (hi : i ≤ m) (hP : dP I I4 J J4 q n Z rows hd kp i) (tN4 : I4 q 3 = nI m) (hm_4 : m - i < n_4), ∀ (H : Heap) (locs : List Loc) (ls : Array Slot), gm_St D cs sh (gm_A sh) s'.heap sz I4 J4 H locs → lv_has ls 5 [(0, .ref q), (1, .int (nI n)), (2, .int (nI kp)), (3, .int (nI i))] → W p' l e' { frames := 0, cells := 0, slots := 0, locals := 0 } s' m' ([.ref q, .int (nI n)] : List Value).toArray be' me' co' H locs 0 0 (MQ be' (va_Qv (fun u => drP I J q n m Z rows hd u) (gm_B D cs sh sz) (gm_A sh)) ([.ref q, .int (nI n)] : List Value).toArray s' 0 0 (gm_A sh)) (F0 m' 4 ls []) := by
    intro n_4
    induction n_4 with
    | zero => intro kp i I4 J4 hk hi hP tN4 hm_4; exact absurd hm_4 (Nat.not_lt_zero _)
    | succ n_4 ih4 =>
      intro kp i I4 J4 hk hi hP tN4 hm_4 H locs ls hh hl
      refine lv_iload_n C.1 C.2.1 d_Sp_dropBeyond_4 rfl (lv_at hl 3 rfl) ?_
      refine lv_aload_n C.1 C.2.1 d_Sp_dropBeyond_5 rfl (lv_at hl 0 rfl) ?_
      refine gg_i C hh hs.1 rfl in_Sp 3 (by decide) rfl tw_188 rfl d_Sp_dropBeyond_6 ?_
      refine gm_eqi tN4 ?_
      refine lv_icmp_ge (tgt := 119) C.1 C.2.1 d_Sp_dropBeyond_9 (by decide) (fun c_1 => ?_) (fun c_1 => ?_)
      · -- 9 -> 119
        have c_1 := gm_get (by omega) (by omega) c_1
        have c_1' := Nat.not_lt.mpr c_1
        refine lv_aload_n C.1 C.2.1 d_Sp_dropBeyond_119 rfl (lv_at hl 0 rfl) ?_
        refine lv_iload_n C.1 C.2.1 d_Sp_dropBeyond_120 rfl (lv_at hl 2 rfl) ?_
        refine gp_i (ty := .int) C hh hs.1 rfl in_Sp t_Sp t_Sp_ok n_Sp 3 (by decide) rfl tw_188 rfl rfl (by decide +kernel) rfl rfl d_Sp_dropBeyond_121 (fun H locs hh => ?_)
        obtain ⟨I_2, eI_2⟩ : ∃ z : gm_I, z = gm_up I4 q 3 (nI kp) := ⟨_, rfl⟩
        rw [← eI_2] at hh
        have tN_3 : I_2 q 3 = nI kp := by rw [eI_2]; exact gm_up_same _ _ _ _
        exact gr_v C hlk hret hh (by subst eI_2; exact dP.fin hP (by omega)) d_Sp_dropBeyond_124
      · -- 9 -> 12
        have c_1 := gm_gef (by omega) (by omega) c_1
        have c_1' := Nat.not_le.mpr c_1
        refine lv_iload_n C.1 C.2.1 d_Sp_dropBeyond_12 rfl (lv_at hl 3 rfl) ?_
        refine lv_iload_n C.1 C.2.1 d_Sp_dropBeyond_13 rfl (lv_at hl 1 rfl) ?_
        refine lv_icmp_ge (tgt := 31) C.1 C.2.1 d_Sp_dropBeyond_14 (by decide) (fun c_4 => ?_) (fun c_4 => ?_)
        · -- 14 -> 31
          have c_4 := gm_get (by omega) (by omega) c_4
          have c_4' := Nat.not_lt.mpr c_4
          refine lv_iconst (v := nI 0) C.1 C.2.1 d_Sp_dropBeyond_31 rfl ?_
          refine lv_istore (lv' := [(4, .int (nI 0)), (0, .ref q), (1, .int (nI n)), (2, .int (nI kp)), (3, .int (nI i))]) C.1 C.2.1 d_Sp_dropBeyond_32 hl (by decide) rfl (fun ls hl => ?_)
          refine lv_iload C.1 C.2.1 d_Sp_dropBeyond_34 (lv_at hl 0 rfl) ?_
          refine lv_iconst (v := nI 4) C.1 C.2.1 d_Sp_dropBeyond_36 rfl ?_
          refine lv_icmp_ge (tgt := 68) C.1 C.2.1 d_Sp_dropBeyond_37 (by decide) (fun c_ => absurd c_ (by decide)) (fun c_ => ?_)
          refine lv_aload_n C.1 C.2.1 d_Sp_dropBeyond_40 rfl (lv_at hl 1 rfl) ?_
          refine gg_r C hh hs.1 rfl in_Sp 2 (by decide) rfl tw_187 rfl d_Sp_dropBeyond_41 ?_
          refine lv_iconst (v := nI 4) C.1 C.2.1 d_Sp_dropBeyond_44 rfl ?_
          refine lv_iload_n C.1 C.2.1 d_Sp_dropBeyond_45 rfl (lv_at hl 3 rfl) ?_
          refine lv_imul C.1 C.2.1 d_Sp_dropBeyond_46 ?_
          refine gm_eqi (pk_mul _ _) ?_
          refine lv_iload C.1 C.2.1 d_Sp_dropBeyond_47 (lv_at hl 0 rfl) ?_
          refine lv_iadd C.1 C.2.1 d_Sp_dropBeyond_49 ?_
          refine gm_eqi (nI_add _ _) ?_
          refine lv_aload_n C.1 C.2.1 d_Sp_dropBeyond_50 rfl (lv_at hl 1 rfl) ?_
          refine gg_r C hh hs.1 rfl in_Sp 2 (by decide) rfl tw_187 rfl d_Sp_dropBeyond_51 ?_
          refine lv_iconst (v := nI 4) C.1 C.2.1 d_Sp_dropBeyond_54 rfl ?_
          refine lv_iload_n C.1 C.2.1 d_Sp_dropBeyond_55 rfl (lv_at hl 4 rfl) ?_
          refine lv_imul C.1 C.2.1 d_Sp_dropBeyond_56 ?_
          refine gm_eqi (pk_mul _ _) ?_
          refine lv_iload C.1 C.2.1 d_Sp_dropBeyond_57 (lv_at hl 0 rfl) ?_
          refine lv_iadd C.1 C.2.1 d_Sp_dropBeyond_59 ?_
          refine gm_eqi (nI_add _ _) ?_
          refine ga_l C hh hs.2.2.1 (k := (4 * i) + 0) rfl (by omega) (by omega) d_Sp_dropBeyond_60 ?_
          refine gs_l C hh hs.2.2.1 (k := (4 * kp) + 0) rfl (by omega) (by omega) d_Sp_dropBeyond_61 (fun H locs hh => ?_)
          obtain ⟨J_5, eJ_5⟩ : ∃ z : gm_J, z = gm_up J4 (q + 2) ((4 * kp) + 0) (J4 (q + 2) ((4 * i) + 0)) := ⟨_, rfl⟩
          rw [← eJ_5] at hh
          refine lv_iinc (v := nI 1) (lv' := [(4, .int (nI 1)), (0, .ref q), (1, .int (nI n)), (2, .int (nI kp)), (3, .int (nI i))]) C.1 C.2.1 d_Sp_dropBeyond_62 hl (k := 0) rfl (gm_inc 0 1) (by decide) rfl (fun ls hl => ?_)
          refine lv_goto (tgt := 34) C.1 C.2.1 d_Sp_dropBeyond_65 (by decide) ?_
          refine lv_iload C.1 C.2.1 d_Sp_dropBeyond_34 (lv_at hl 0 rfl) ?_
          refine lv_iconst (v := nI 4) C.1 C.2.1 d_Sp_dropBeyond_36 rfl ?_
          refine lv_icmp_ge (tgt := 68) C.1 C.2.1 d_Sp_dropBeyond_37 (by decide) (fun c_ => absurd c_ (by decide)) (fun c_ => ?_)
          refine lv_aload_n C.1 C.2.1 d_Sp_dropBeyond_40 rfl (lv_at hl 1 rfl) ?_
          refine gg_r C hh hs.1 rfl in_Sp 2 (by decide) rfl tw_187 rfl d_Sp_dropBeyond_41 ?_
          refine lv_iconst (v := nI 4) C.1 C.2.1 d_Sp_dropBeyond_44 rfl ?_
          refine lv_iload_n C.1 C.2.1 d_Sp_dropBeyond_45 rfl (lv_at hl 3 rfl) ?_
          refine lv_imul C.1 C.2.1 d_Sp_dropBeyond_46 ?_
          refine gm_eqi (pk_mul _ _) ?_
          refine lv_iload C.1 C.2.1 d_Sp_dropBeyond_47 (lv_at hl 0 rfl) ?_
          refine lv_iadd C.1 C.2.1 d_Sp_dropBeyond_49 ?_
          refine gm_eqi (nI_add _ _) ?_
          refine lv_aload_n C.1 C.2.1 d_Sp_dropBeyond_50 rfl (lv_at hl 1 rfl) ?_
          refine gg_r C hh hs.1 rfl in_Sp 2 (by decide) rfl tw_187 rfl d_Sp_dropBeyond_51 ?_
          refine lv_iconst (v := nI 4) C.1 C.2.1 d_Sp_dropBeyond_54 rfl ?_
          refine lv_iload_n C.1 C.2.1 d_Sp_dropBeyond_55 rfl (lv_at hl 4 rfl) ?_
          refine lv_imul C.1 C.2.1 d_Sp_dropBeyond_56 ?_
          refine gm_eqi (pk_mul _ _) ?_
          refine lv_iload C.1 C.2.1 d_Sp_dropBeyond_57 (lv_at hl 0 rfl) ?_
          refine lv_iadd C.1 C.2.1 d_Sp_dropBeyond_59 ?_
          refine gm_eqi (nI_add _ _) ?_
          refine ga_l C hh hs.2.2.1 (k := (4 * i) + 1) rfl (by omega) (by omega) d_Sp_dropBeyond_60 ?_
          refine gm_eql (y := J4 (q + 2) ((4 * i) + 1)) (by rw [eJ_5, gm_up_ne _ _ (Or.inr (by omega))]) ?_
          refine gs_l C hh hs.2.2.1 (k := (4 * kp) + 1) rfl (by omega) (by omega) d_Sp_dropBeyond_61 (fun H locs hh => ?_)
          obtain ⟨J_6, eJ_6⟩ : ∃ z : gm_J, z = gm_up J_5 (q + 2) ((4 * kp) + 1) (J4 (q + 2) ((4 * i) + 1)) := ⟨_, rfl⟩
          rw [← eJ_6] at hh
          refine lv_iinc (v := nI 2) (lv' := [(4, .int (nI 2)), (0, .ref q), (1, .int (nI n)), (2, .int (nI kp)), (3, .int (nI i))]) C.1 C.2.1 d_Sp_dropBeyond_62 hl (k := 0) rfl (gm_inc 1 1) (by decide) rfl (fun ls hl => ?_)
          refine lv_goto (tgt := 34) C.1 C.2.1 d_Sp_dropBeyond_65 (by decide) ?_
          refine lv_iload C.1 C.2.1 d_Sp_dropBeyond_34 (lv_at hl 0 rfl) ?_
          refine lv_iconst (v := nI 4) C.1 C.2.1 d_Sp_dropBeyond_36 rfl ?_
          refine lv_icmp_ge (tgt := 68) C.1 C.2.1 d_Sp_dropBeyond_37 (by decide) (fun c_ => absurd c_ (by decide)) (fun c_ => ?_)
          refine lv_aload_n C.1 C.2.1 d_Sp_dropBeyond_40 rfl (lv_at hl 1 rfl) ?_
          refine gg_r C hh hs.1 rfl in_Sp 2 (by decide) rfl tw_187 rfl d_Sp_dropBeyond_41 ?_
          refine lv_iconst (v := nI 4) C.1 C.2.1 d_Sp_dropBeyond_44 rfl ?_
          refine lv_iload_n C.1 C.2.1 d_Sp_dropBeyond_45 rfl (lv_at hl 3 rfl) ?_
          refine lv_imul C.1 C.2.1 d_Sp_dropBeyond_46 ?_
          refine gm_eqi (pk_mul _ _) ?_
          refine lv_iload C.1 C.2.1 d_Sp_dropBeyond_47 (lv_at hl 0 rfl) ?_
          refine lv_iadd C.1 C.2.1 d_Sp_dropBeyond_49 ?_
          refine gm_eqi (nI_add _ _) ?_
          refine lv_aload_n C.1 C.2.1 d_Sp_dropBeyond_50 rfl (lv_at hl 1 rfl) ?_
          refine gg_r C hh hs.1 rfl in_Sp 2 (by decide) rfl tw_187 rfl d_Sp_dropBeyond_51 ?_
          refine lv_iconst (v := nI 4) C.1 C.2.1 d_Sp_dropBeyond_54 rfl ?_
          refine lv_iload_n C.1 C.2.1 d_Sp_dropBeyond_55 rfl (lv_at hl 4 rfl) ?_
          refine lv_imul C.1 C.2.1 d_Sp_dropBeyond_56 ?_
          refine gm_eqi (pk_mul _ _) ?_
          refine lv_iload C.1 C.2.1 d_Sp_dropBeyond_57 (lv_at hl 0 rfl) ?_
          refine lv_iadd C.1 C.2.1 d_Sp_dropBeyond_59 ?_
          refine gm_eqi (nI_add _ _) ?_
          refine ga_l C hh hs.2.2.1 (k := (4 * i) + 2) rfl (by omega) (by omega) d_Sp_dropBeyond_60 ?_
          refine gm_eql (y := J4 (q + 2) ((4 * i) + 2)) (by rw [eJ_6, gm_up_ne _ _ (Or.inr (by omega)), eJ_5, gm_up_ne _ _ (Or.inr (by omega))]) ?_
          refine gs_l C hh hs.2.2.1 (k := (4 * kp) + 2) rfl (by omega) (by omega) d_Sp_dropBeyond_61 (fun H locs hh => ?_)
          obtain ⟨J_7, eJ_7⟩ : ∃ z : gm_J, z = gm_up J_6 (q + 2) ((4 * kp) + 2) (J4 (q + 2) ((4 * i) + 2)) := ⟨_, rfl⟩
          rw [← eJ_7] at hh
          refine lv_iinc (v := nI 3) (lv' := [(4, .int (nI 3)), (0, .ref q), (1, .int (nI n)), (2, .int (nI kp)), (3, .int (nI i))]) C.1 C.2.1 d_Sp_dropBeyond_62 hl (k := 0) rfl (gm_inc 2 1) (by decide) rfl (fun ls hl => ?_)
          refine lv_goto (tgt := 34) C.1 C.2.1 d_Sp_dropBeyond_65 (by decide) ?_
          refine lv_iload C.1 C.2.1 d_Sp_dropBeyond_34 (lv_at hl 0 rfl) ?_
          refine lv_iconst (v := nI 4) C.1 C.2.1 d_Sp_dropBeyond_36 rfl ?_
          refine lv_icmp_ge (tgt := 68) C.1 C.2.1 d_Sp_dropBeyond_37 (by decide) (fun c_ => absurd c_ (by decide)) (fun c_ => ?_)
          refine lv_aload_n C.1 C.2.1 d_Sp_dropBeyond_40 rfl (lv_at hl 1 rfl) ?_
          refine gg_r C hh hs.1 rfl in_Sp 2 (by decide) rfl tw_187 rfl d_Sp_dropBeyond_41 ?_
          refine lv_iconst (v := nI 4) C.1 C.2.1 d_Sp_dropBeyond_44 rfl ?_
          refine lv_iload_n C.1 C.2.1 d_Sp_dropBeyond_45 rfl (lv_at hl 3 rfl) ?_
          refine lv_imul C.1 C.2.1 d_Sp_dropBeyond_46 ?_
          refine gm_eqi (pk_mul _ _) ?_
          refine lv_iload C.1 C.2.1 d_Sp_dropBeyond_47 (lv_at hl 0 rfl) ?_
          refine lv_iadd C.1 C.2.1 d_Sp_dropBeyond_49 ?_
          refine gm_eqi (nI_add _ _) ?_
          refine lv_aload_n C.1 C.2.1 d_Sp_dropBeyond_50 rfl (lv_at hl 1 rfl) ?_
          refine gg_r C hh hs.1 rfl in_Sp 2 (by decide) rfl tw_187 rfl d_Sp_dropBeyond_51 ?_
          refine lv_iconst (v := nI 4) C.1 C.2.1 d_Sp_dropBeyond_54 rfl ?_
          refine lv_iload_n C.1 C.2.1 d_Sp_dropBeyond_55 rfl (lv_at hl 4 rfl) ?_
          refine lv_imul C.1 C.2.1 d_Sp_dropBeyond_56 ?_
          refine gm_eqi (pk_mul _ _) ?_
          refine lv_iload C.1 C.2.1 d_Sp_dropBeyond_57 (lv_at hl 0 rfl) ?_
          refine lv_iadd C.1 C.2.1 d_Sp_dropBeyond_59 ?_
          refine gm_eqi (nI_add _ _) ?_
          refine ga_l C hh hs.2.2.1 (k := (4 * i) + 3) rfl (by omega) (by omega) d_Sp_dropBeyond_60 ?_
          refine gm_eql (y := J4 (q + 2) ((4 * i) + 3)) (by rw [eJ_7, gm_up_ne _ _ (Or.inr (by omega)), eJ_6, gm_up_ne _ _ (Or.inr (by omega)), eJ_5, gm_up_ne _ _ (Or.inr (by omega))]) ?_
          refine gs_l C hh hs.2.2.1 (k := (4 * kp) + 3) rfl (by omega) (by omega) d_Sp_dropBeyond_61 (fun H locs hh => ?_)
          obtain ⟨J_8, eJ_8⟩ : ∃ z : gm_J, z = gm_up J_7 (q + 2) ((4 * kp) + 3) (J4 (q + 2) ((4 * i) + 3)) := ⟨_, rfl⟩
          rw [← eJ_8] at hh
          refine lv_iinc (v := nI 4) (lv' := [(4, .int (nI 4)), (0, .ref q), (1, .int (nI n)), (2, .int (nI kp)), (3, .int (nI i))]) C.1 C.2.1 d_Sp_dropBeyond_62 hl (k := 0) rfl (gm_inc 3 1) (by decide) rfl (fun ls hl => ?_)
          refine lv_goto (tgt := 34) C.1 C.2.1 d_Sp_dropBeyond_65 (by decide) ?_
          refine lv_iload C.1 C.2.1 d_Sp_dropBeyond_34 (lv_at hl 0 rfl) ?_
          refine lv_iconst (v := nI 4) C.1 C.2.1 d_Sp_dropBeyond_36 rfl ?_
          refine lv_icmp_ge (tgt := 68) C.1 C.2.1 d_Sp_dropBeyond_37 (by decide) (fun c_ => ?_) (fun c_ => absurd (by decide) c_)
          refine lv_aload_n C.1 C.2.1 d_Sp_dropBeyond_68 rfl (lv_at hl 1 rfl) ?_
          refine gg_r C hh hs.1 rfl in_Sp 4 (by decide) rfl tw_189 rfl d_Sp_dropBeyond_69 ?_
          refine lv_iload_n C.1 C.2.1 d_Sp_dropBeyond_72 rfl (lv_at hl 3 rfl) ?_
          refine lv_iload_n C.1 C.2.1 d_Sp_dropBeyond_73 rfl (lv_at hl 4 rfl) ?_
          refine lv_iload_n C.1 C.2.1 d_Sp_dropBeyond_74 rfl (lv_at hl 2 rfl) ?_
          refine lv_icmp_ge (tgt := 103) C.1 C.2.1 d_Sp_dropBeyond_75 (by decide) (fun c_9 => ?_) (fun c_9 => ?_)
          · -- 75 -> 103
            have c_9 := gm_get (by omega) (by omega) c_9
            have c_9' := Nat.not_lt.mpr c_9
            refine lv_aload_n C.1 C.2.1 d_Sp_dropBeyond_103 rfl (lv_at hl 1 rfl) ?_
            refine gg_r C hh hs.1 rfl in_Sp 4 (by decide) rfl tw_189 rfl d_Sp_dropBeyond_104 ?_
            refine lv_iload_n C.1 C.2.1 d_Sp_dropBeyond_107 rfl (lv_at hl 4 rfl) ?_
            refine ga_i C hh hs.2.2.2.1 (k := i) rfl (by omega) (by omega) d_Sp_dropBeyond_108 ?_
            refine gs_i C hh hs.2.2.2.1 (k := kp) rfl (by omega) (by omega) d_Sp_dropBeyond_109 (fun H locs hh => ?_)
            obtain ⟨I_10, eI_10⟩ : ∃ z : gm_I, z = gm_up I4 (q + 3) kp (I4 (q + 3) i) := ⟨_, rfl⟩
            rw [← eI_10] at hh
            have tN_11 : I_10 q 3 = nI m := by rw [eI_10, gm_up_ne _ _ (by omega)]; exact tN4
            refine lv_iinc (v := nI (kp + 1)) (lv' := [(2, .int (nI (kp + 1))), (4, .int (nI 4)), (0, .ref q), (1, .int (nI n)), (3, .int (nI i))]) C.1 C.2.1 d_Sp_dropBeyond_110 hl (k := 3) rfl (gm_inc kp 1) (by decide) rfl (fun ls hl => ?_)
            refine lv_iinc (v := nI (i + 1)) (lv' := [(3, .int (nI (i + 1))), (2, .int (nI (kp + 1))), (4, .int (nI 4)), (0, .ref q), (1, .int (nI n))]) C.1 C.2.1 d_Sp_dropBeyond_113 hl (k := 4) rfl (gm_inc i 1) (by decide) rfl (fun ls hl => ?_)
            refine lv_goto (tgt := 4) C.1 C.2.1 d_Sp_dropBeyond_116 (by decide) ?_
            exact ih4 (kp + 1) (i + 1) I_10 J_8 (by omega) (by omega) (by subst eJ_5 eJ_6 eJ_7 eJ_8 eI_10; first | exact dq_drop hP hZl hSu (by omega) (by omega) (by assumption) | exact dq_keep hP hZl hZ hSu hTi hbt (by omega) (by first | exact Or.inl (by omega) | exact Or.inr (Int64.not_lt.mpr (by assumption))) (by first | exact Or.inl ⟨by omega, by assumption, rfl⟩ | exact Or.inr (Or.inl ⟨by omega, by assumption, rfl⟩) | exact Or.inr (Or.inr ⟨by omega, rfl⟩)) | (exfalso; omega)) (by exact tN_11) (by omega) _ _ _ hh (lv_sub hl [3, 4, 1, 0] rfl)
          · -- 75 -> 78
            have c_9 := gm_gef (by omega) (by omega) c_9
            have c_9' := Nat.not_le.mpr c_9
            refine lv_aload_n C.1 C.2.1 d_Sp_dropBeyond_78 rfl (lv_at hl 1 rfl) ?_
            refine gg_r C hh hs.1 rfl in_Sp 5 (by decide) rfl tw_190 rfl d_Sp_dropBeyond_79 ?_
            refine lv_iload_n C.1 C.2.1 d_Sp_dropBeyond_82 rfl (lv_at hl 4 rfl) ?_
            refine ga_l C hh hs.2.2.2.2.1 (k := i) rfl (by omega) (by omega) d_Sp_dropBeyond_83 ?_
            refine gm_eql (y := J4 (q + 4) i) (by rw [eJ_8, gm_up_ne _ _ (Or.inl (by omega)), eJ_7, gm_up_ne _ _ (Or.inl (by omega)), eJ_6, gm_up_ne _ _ (Or.inl (by omega)), eJ_5, gm_up_ne _ _ (Or.inl (by omega))]) ?_
            refine lv_lconst (v := 0) C.1 C.2.1 d_Sp_dropBeyond_84 rfl ?_
            refine W.lcmp C.1 C.2.1 d_Sp_dropBeyond_85 ?_
            refine lv_if_ne (tgt := 103) C.1 C.2.1 d_Sp_dropBeyond_86 (by decide) (fun c_12 => ?_) (fun c_12 => ?_)
            · -- 86 -> 103
              have c_12 := gm_lnet c_12
              refine lv_aload_n C.1 C.2.1 d_Sp_dropBeyond_103 rfl (lv_at hl 1 rfl) ?_
              refine gg_r C hh hs.1 rfl in_Sp 4 (by decide) rfl tw_189 rfl d_Sp_dropBeyond_104 ?_
              refine lv_iload_n C.1 C.2.1 d_Sp_dropBeyond_107 rfl (lv_at hl 4 rfl) ?_
              refine ga_i C hh hs.2.2.2.1 (k := i) rfl (by omega) (by omega) d_Sp_dropBeyond_108 ?_
              refine gs_i C hh hs.2.2.2.1 (k := kp) rfl (by omega) (by omega) d_Sp_dropBeyond_109 (fun H locs hh => ?_)
              obtain ⟨I_13, eI_13⟩ : ∃ z : gm_I, z = gm_up I4 (q + 3) kp (I4 (q + 3) i) := ⟨_, rfl⟩
              rw [← eI_13] at hh
              have tN_14 : I_13 q 3 = nI m := by rw [eI_13, gm_up_ne _ _ (by omega)]; exact tN4
              refine lv_iinc (v := nI (kp + 1)) (lv' := [(2, .int (nI (kp + 1))), (4, .int (nI 4)), (0, .ref q), (1, .int (nI n)), (3, .int (nI i))]) C.1 C.2.1 d_Sp_dropBeyond_110 hl (k := 3) rfl (gm_inc kp 1) (by decide) rfl (fun ls hl => ?_)
              refine lv_iinc (v := nI (i + 1)) (lv' := [(3, .int (nI (i + 1))), (2, .int (nI (kp + 1))), (4, .int (nI 4)), (0, .ref q), (1, .int (nI n))]) C.1 C.2.1 d_Sp_dropBeyond_113 hl (k := 4) rfl (gm_inc i 1) (by decide) rfl (fun ls hl => ?_)
              refine lv_goto (tgt := 4) C.1 C.2.1 d_Sp_dropBeyond_116 (by decide) ?_
              exact ih4 (kp + 1) (i + 1) I_13 J_8 (by omega) (by omega) (by subst eJ_5 eJ_6 eJ_7 eJ_8 eI_13; first | exact dq_drop hP hZl hSu (by omega) (by omega) (by assumption) | exact dq_keep hP hZl hZ hSu hTi hbt (by omega) (by first | exact Or.inl (by omega) | exact Or.inr (Int64.not_lt.mpr (by assumption))) (by first | exact Or.inl ⟨by omega, by assumption, rfl⟩ | exact Or.inr (Or.inl ⟨by omega, by assumption, rfl⟩) | exact Or.inr (Or.inr ⟨by omega, rfl⟩)) | (exfalso; omega)) (by exact tN_14) (by omega) _ _ _ hh (lv_sub hl [3, 4, 1, 0] rfl)
            · -- 86 -> 89
              have c_12 := gm_lnef c_12
              refine lv_aload_n C.1 C.2.1 d_Sp_dropBeyond_89 rfl (lv_at hl 1 rfl) ?_
              refine gg_r C hh hs.1 rfl in_Sp 4 (by decide) rfl tw_189 rfl d_Sp_dropBeyond_90 ?_
              refine lv_iload_n C.1 C.2.1 d_Sp_dropBeyond_93 rfl (lv_at hl 4 rfl) ?_
              refine ga_i C hh hs.2.2.2.1 (k := i) rfl (by omega) (by omega) d_Sp_dropBeyond_94 ?_
              refine lv_aload_n C.1 C.2.1 d_Sp_dropBeyond_95 rfl (lv_at hl 1 rfl) ?_
              refine gg_i C hh hs.1 rfl in_Sp 7 (by decide) rfl tw_192 rfl d_Sp_dropBeyond_96 ?_
              refine lv_ior C.1 C.2.1 d_Sp_dropBeyond_99 ?_
              refine lv_goto (tgt := 109) C.1 C.2.1 d_Sp_dropBeyond_100 (by decide) ?_
              refine gs_i C hh hs.2.2.2.1 (k := kp) rfl (by omega) (by omega) d_Sp_dropBeyond_109 (fun H locs hh => ?_)
              obtain ⟨I_15, eI_15⟩ : ∃ z : gm_I, z = gm_up I4 (q + 3) kp ((I4 (q + 3) i) ||| (I4 q 7)) := ⟨_, rfl⟩
              rw [← eI_15] at hh
              have tN_16 : I_15 q 3 = nI m := by rw [eI_15, gm_up_ne _ _ (by omega)]; exact tN4
              refine lv_iinc (v := nI (kp + 1)) (lv' := [(2, .int (nI (kp + 1))), (4, .int (nI 4)), (0, .ref q), (1, .int (nI n)), (3, .int (nI i))]) C.1 C.2.1 d_Sp_dropBeyond_110 hl (k := 3) rfl (gm_inc kp 1) (by decide) rfl (fun ls hl => ?_)
              refine lv_iinc (v := nI (i + 1)) (lv' := [(3, .int (nI (i + 1))), (2, .int (nI (kp + 1))), (4, .int (nI 4)), (0, .ref q), (1, .int (nI n))]) C.1 C.2.1 d_Sp_dropBeyond_113 hl (k := 4) rfl (gm_inc i 1) (by decide) rfl (fun ls hl => ?_)
              refine lv_goto (tgt := 4) C.1 C.2.1 d_Sp_dropBeyond_116 (by decide) ?_
              exact ih4 (kp + 1) (i + 1) I_15 J_8 (by omega) (by omega) (by subst eJ_5 eJ_6 eJ_7 eJ_8 eI_15; first | exact dq_drop hP hZl hSu (by omega) (by omega) (by assumption) | exact dq_keep hP hZl hZ hSu hTi hbt (by omega) (by first | exact Or.inl (by omega) | exact Or.inr (Int64.not_lt.mpr (by assumption))) (by first | exact Or.inl ⟨by omega, by assumption, rfl⟩ | exact Or.inr (Or.inl ⟨by omega, by assumption, rfl⟩) | exact Or.inr (Or.inr ⟨by omega, rfl⟩)) | (exfalso; omega)) (by exact tN_16) (by omega) _ _ _ hh (lv_sub hl [3, 4, 1, 0] rfl)
        · -- 14 -> 17
          have c_4 := gm_gef (by omega) (by omega) c_4
          have c_4' := Nat.not_le.mpr c_4
          refine lv_aload_n C.1 C.2.1 d_Sp_dropBeyond_17 rfl (lv_at hl 0 rfl) ?_
          refine gg_r C hh hs.1 rfl in_Sp 5 (by decide) rfl tw_190 rfl d_Sp_dropBeyond_18 ?_
          refine lv_iload_n C.1 C.2.1 d_Sp_dropBeyond_21 rfl (lv_at hl 3 rfl) ?_
          refine ga_l C hh hs.2.2.2.2.1 (k := i) rfl (by omega) (by omega) d_Sp_dropBeyond_22 ?_
          refine lv_lconst (v := 0) C.1 C.2.1 d_Sp_dropBeyond_23 rfl ?_
          refine W.lcmp C.1 C.2.1 d_Sp_dropBeyond_24 ?_
          refine lv_if_ge (tgt := 31) C.1 C.2.1 d_Sp_dropBeyond_25 (by decide) (fun c_17 => ?_) (fun c_17 => ?_)
          · -- 25 -> 31
            have c_17 := gm_lget c_17
            refine lv_iconst (v := nI 0) C.1 C.2.1 d_Sp_dropBeyond_31 rfl ?_
            refine lv_istore (lv' := [(4, .int (nI 0)), (0, .ref q), (1, .int (nI n)), (2, .int (nI kp)), (3, .int (nI i))]) C.1 C.2.1 d_Sp_dropBeyond_32 hl (by decide) rfl (fun ls hl => ?_)
            refine lv_iload C.1 C.2.1 d_Sp_dropBeyond_34 (lv_at hl 0 rfl) ?_
            refine lv_iconst (v := nI 4) C.1 C.2.1 d_Sp_dropBeyond_36 rfl ?_
            refine lv_icmp_ge (tgt := 68) C.1 C.2.1 d_Sp_dropBeyond_37 (by decide) (fun c_ => absurd c_ (by decide)) (fun c_ => ?_)
            refine lv_aload_n C.1 C.2.1 d_Sp_dropBeyond_40 rfl (lv_at hl 1 rfl) ?_
            refine gg_r C hh hs.1 rfl in_Sp 2 (by decide) rfl tw_187 rfl d_Sp_dropBeyond_41 ?_
            refine lv_iconst (v := nI 4) C.1 C.2.1 d_Sp_dropBeyond_44 rfl ?_
            refine lv_iload_n C.1 C.2.1 d_Sp_dropBeyond_45 rfl (lv_at hl 3 rfl) ?_
            refine lv_imul C.1 C.2.1 d_Sp_dropBeyond_46 ?_
            refine gm_eqi (pk_mul _ _) ?_
            refine lv_iload C.1 C.2.1 d_Sp_dropBeyond_47 (lv_at hl 0 rfl) ?_
            refine lv_iadd C.1 C.2.1 d_Sp_dropBeyond_49 ?_
            refine gm_eqi (nI_add _ _) ?_
            refine lv_aload_n C.1 C.2.1 d_Sp_dropBeyond_50 rfl (lv_at hl 1 rfl) ?_
            refine gg_r C hh hs.1 rfl in_Sp 2 (by decide) rfl tw_187 rfl d_Sp_dropBeyond_51 ?_
            refine lv_iconst (v := nI 4) C.1 C.2.1 d_Sp_dropBeyond_54 rfl ?_
            refine lv_iload_n C.1 C.2.1 d_Sp_dropBeyond_55 rfl (lv_at hl 4 rfl) ?_
            refine lv_imul C.1 C.2.1 d_Sp_dropBeyond_56 ?_
            refine gm_eqi (pk_mul _ _) ?_
            refine lv_iload C.1 C.2.1 d_Sp_dropBeyond_57 (lv_at hl 0 rfl) ?_
            refine lv_iadd C.1 C.2.1 d_Sp_dropBeyond_59 ?_
            refine gm_eqi (nI_add _ _) ?_
            refine ga_l C hh hs.2.2.1 (k := (4 * i) + 0) rfl (by omega) (by omega) d_Sp_dropBeyond_60 ?_
            refine gs_l C hh hs.2.2.1 (k := (4 * kp) + 0) rfl (by omega) (by omega) d_Sp_dropBeyond_61 (fun H locs hh => ?_)
            obtain ⟨J_18, eJ_18⟩ : ∃ z : gm_J, z = gm_up J4 (q + 2) ((4 * kp) + 0) (J4 (q + 2) ((4 * i) + 0)) := ⟨_, rfl⟩
            rw [← eJ_18] at hh
            refine lv_iinc (v := nI 1) (lv' := [(4, .int (nI 1)), (0, .ref q), (1, .int (nI n)), (2, .int (nI kp)), (3, .int (nI i))]) C.1 C.2.1 d_Sp_dropBeyond_62 hl (k := 0) rfl (gm_inc 0 1) (by decide) rfl (fun ls hl => ?_)
            refine lv_goto (tgt := 34) C.1 C.2.1 d_Sp_dropBeyond_65 (by decide) ?_
            refine lv_iload C.1 C.2.1 d_Sp_dropBeyond_34 (lv_at hl 0 rfl) ?_
            refine lv_iconst (v := nI 4) C.1 C.2.1 d_Sp_dropBeyond_36 rfl ?_
            refine lv_icmp_ge (tgt := 68) C.1 C.2.1 d_Sp_dropBeyond_37 (by decide) (fun c_ => absurd c_ (by decide)) (fun c_ => ?_)
            refine lv_aload_n C.1 C.2.1 d_Sp_dropBeyond_40 rfl (lv_at hl 1 rfl) ?_
            refine gg_r C hh hs.1 rfl in_Sp 2 (by decide) rfl tw_187 rfl d_Sp_dropBeyond_41 ?_
            refine lv_iconst (v := nI 4) C.1 C.2.1 d_Sp_dropBeyond_44 rfl ?_
            refine lv_iload_n C.1 C.2.1 d_Sp_dropBeyond_45 rfl (lv_at hl 3 rfl) ?_
            refine lv_imul C.1 C.2.1 d_Sp_dropBeyond_46 ?_
            refine gm_eqi (pk_mul _ _) ?_
            refine lv_iload C.1 C.2.1 d_Sp_dropBeyond_47 (lv_at hl 0 rfl) ?_
            refine lv_iadd C.1 C.2.1 d_Sp_dropBeyond_49 ?_
            refine gm_eqi (nI_add _ _) ?_
            refine lv_aload_n C.1 C.2.1 d_Sp_dropBeyond_50 rfl (lv_at hl 1 rfl) ?_
            refine gg_r C hh hs.1 rfl in_Sp 2 (by decide) rfl tw_187 rfl d_Sp_dropBeyond_51 ?_
            refine lv_iconst (v := nI 4) C.1 C.2.1 d_Sp_dropBeyond_54 rfl ?_
            refine lv_iload_n C.1 C.2.1 d_Sp_dropBeyond_55 rfl (lv_at hl 4 rfl) ?_
            refine lv_imul C.1 C.2.1 d_Sp_dropBeyond_56 ?_
            refine gm_eqi (pk_mul _ _) ?_
            refine lv_iload C.1 C.2.1 d_Sp_dropBeyond_57 (lv_at hl 0 rfl) ?_
            refine lv_iadd C.1 C.2.1 d_Sp_dropBeyond_59 ?_
            refine gm_eqi (nI_add _ _) ?_
            refine ga_l C hh hs.2.2.1 (k := (4 * i) + 1) rfl (by omega) (by omega) d_Sp_dropBeyond_60 ?_
            refine gm_eql (y := J4 (q + 2) ((4 * i) + 1)) (by rw [eJ_18, gm_up_ne _ _ (Or.inr (by omega))]) ?_
            refine gs_l C hh hs.2.2.1 (k := (4 * kp) + 1) rfl (by omega) (by omega) d_Sp_dropBeyond_61 (fun H locs hh => ?_)
            obtain ⟨J_19, eJ_19⟩ : ∃ z : gm_J, z = gm_up J_18 (q + 2) ((4 * kp) + 1) (J4 (q + 2) ((4 * i) + 1)) := ⟨_, rfl⟩
            rw [← eJ_19] at hh
            refine lv_iinc (v := nI 2) (lv' := [(4, .int (nI 2)), (0, .ref q), (1, .int (nI n)), (2, .int (nI kp)), (3, .int (nI i))]) C.1 C.2.1 d_Sp_dropBeyond_62 hl (k := 0) rfl (gm_inc 1 1) (by decide) rfl (fun ls hl => ?_)
            refine lv_goto (tgt := 34) C.1 C.2.1 d_Sp_dropBeyond_65 (by decide) ?_
            refine lv_iload C.1 C.2.1 d_Sp_dropBeyond_34 (lv_at hl 0 rfl) ?_
            refine lv_iconst (v := nI 4) C.1 C.2.1 d_Sp_dropBeyond_36 rfl ?_
            refine lv_icmp_ge (tgt := 68) C.1 C.2.1 d_Sp_dropBeyond_37 (by decide) (fun c_ => absurd c_ (by decide)) (fun c_ => ?_)
            refine lv_aload_n C.1 C.2.1 d_Sp_dropBeyond_40 rfl (lv_at hl 1 rfl) ?_
            refine gg_r C hh hs.1 rfl in_Sp 2 (by decide) rfl tw_187 rfl d_Sp_dropBeyond_41 ?_
            refine lv_iconst (v := nI 4) C.1 C.2.1 d_Sp_dropBeyond_44 rfl ?_
            refine lv_iload_n C.1 C.2.1 d_Sp_dropBeyond_45 rfl (lv_at hl 3 rfl) ?_
            refine lv_imul C.1 C.2.1 d_Sp_dropBeyond_46 ?_
            refine gm_eqi (pk_mul _ _) ?_
            refine lv_iload C.1 C.2.1 d_Sp_dropBeyond_47 (lv_at hl 0 rfl) ?_
            refine lv_iadd C.1 C.2.1 d_Sp_dropBeyond_49 ?_
            refine gm_eqi (nI_add _ _) ?_
            refine lv_aload_n C.1 C.2.1 d_Sp_dropBeyond_50 rfl (lv_at hl 1 rfl) ?_
            refine gg_r C hh hs.1 rfl in_Sp 2 (by decide) rfl tw_187 rfl d_Sp_dropBeyond_51 ?_
            refine lv_iconst (v := nI 4) C.1 C.2.1 d_Sp_dropBeyond_54 rfl ?_
            refine lv_iload_n C.1 C.2.1 d_Sp_dropBeyond_55 rfl (lv_at hl 4 rfl) ?_
            refine lv_imul C.1 C.2.1 d_Sp_dropBeyond_56 ?_
            refine gm_eqi (pk_mul _ _) ?_
            refine lv_iload C.1 C.2.1 d_Sp_dropBeyond_57 (lv_at hl 0 rfl) ?_
            refine lv_iadd C.1 C.2.1 d_Sp_dropBeyond_59 ?_
            refine gm_eqi (nI_add _ _) ?_
            refine ga_l C hh hs.2.2.1 (k := (4 * i) + 2) rfl (by omega) (by omega) d_Sp_dropBeyond_60 ?_
            refine gm_eql (y := J4 (q + 2) ((4 * i) + 2)) (by rw [eJ_19, gm_up_ne _ _ (Or.inr (by omega)), eJ_18, gm_up_ne _ _ (Or.inr (by omega))]) ?_
            refine gs_l C hh hs.2.2.1 (k := (4 * kp) + 2) rfl (by omega) (by omega) d_Sp_dropBeyond_61 (fun H locs hh => ?_)
            obtain ⟨J_20, eJ_20⟩ : ∃ z : gm_J, z = gm_up J_19 (q + 2) ((4 * kp) + 2) (J4 (q + 2) ((4 * i) + 2)) := ⟨_, rfl⟩
            rw [← eJ_20] at hh
            refine lv_iinc (v := nI 3) (lv' := [(4, .int (nI 3)), (0, .ref q), (1, .int (nI n)), (2, .int (nI kp)), (3, .int (nI i))]) C.1 C.2.1 d_Sp_dropBeyond_62 hl (k := 0) rfl (gm_inc 2 1) (by decide) rfl (fun ls hl => ?_)
            refine lv_goto (tgt := 34) C.1 C.2.1 d_Sp_dropBeyond_65 (by decide) ?_
            refine lv_iload C.1 C.2.1 d_Sp_dropBeyond_34 (lv_at hl 0 rfl) ?_
            refine lv_iconst (v := nI 4) C.1 C.2.1 d_Sp_dropBeyond_36 rfl ?_
            refine lv_icmp_ge (tgt := 68) C.1 C.2.1 d_Sp_dropBeyond_37 (by decide) (fun c_ => absurd c_ (by decide)) (fun c_ => ?_)
            refine lv_aload_n C.1 C.2.1 d_Sp_dropBeyond_40 rfl (lv_at hl 1 rfl) ?_
            refine gg_r C hh hs.1 rfl in_Sp 2 (by decide) rfl tw_187 rfl d_Sp_dropBeyond_41 ?_
            refine lv_iconst (v := nI 4) C.1 C.2.1 d_Sp_dropBeyond_44 rfl ?_
            refine lv_iload_n C.1 C.2.1 d_Sp_dropBeyond_45 rfl (lv_at hl 3 rfl) ?_
            refine lv_imul C.1 C.2.1 d_Sp_dropBeyond_46 ?_
            refine gm_eqi (pk_mul _ _) ?_
            refine lv_iload C.1 C.2.1 d_Sp_dropBeyond_47 (lv_at hl 0 rfl) ?_
            refine lv_iadd C.1 C.2.1 d_Sp_dropBeyond_49 ?_
            refine gm_eqi (nI_add _ _) ?_
            refine lv_aload_n C.1 C.2.1 d_Sp_dropBeyond_50 rfl (lv_at hl 1 rfl) ?_
            refine gg_r C hh hs.1 rfl in_Sp 2 (by decide) rfl tw_187 rfl d_Sp_dropBeyond_51 ?_
            refine lv_iconst (v := nI 4) C.1 C.2.1 d_Sp_dropBeyond_54 rfl ?_
            refine lv_iload_n C.1 C.2.1 d_Sp_dropBeyond_55 rfl (lv_at hl 4 rfl) ?_
            refine lv_imul C.1 C.2.1 d_Sp_dropBeyond_56 ?_
            refine gm_eqi (pk_mul _ _) ?_
            refine lv_iload C.1 C.2.1 d_Sp_dropBeyond_57 (lv_at hl 0 rfl) ?_
            refine lv_iadd C.1 C.2.1 d_Sp_dropBeyond_59 ?_
            refine gm_eqi (nI_add _ _) ?_
            refine ga_l C hh hs.2.2.1 (k := (4 * i) + 3) rfl (by omega) (by omega) d_Sp_dropBeyond_60 ?_
            refine gm_eql (y := J4 (q + 2) ((4 * i) + 3)) (by rw [eJ_20, gm_up_ne _ _ (Or.inr (by omega)), eJ_19, gm_up_ne _ _ (Or.inr (by omega)), eJ_18, gm_up_ne _ _ (Or.inr (by omega))]) ?_
            refine gs_l C hh hs.2.2.1 (k := (4 * kp) + 3) rfl (by omega) (by omega) d_Sp_dropBeyond_61 (fun H locs hh => ?_)
            obtain ⟨J_21, eJ_21⟩ : ∃ z : gm_J, z = gm_up J_20 (q + 2) ((4 * kp) + 3) (J4 (q + 2) ((4 * i) + 3)) := ⟨_, rfl⟩
            rw [← eJ_21] at hh
            refine lv_iinc (v := nI 4) (lv' := [(4, .int (nI 4)), (0, .ref q), (1, .int (nI n)), (2, .int (nI kp)), (3, .int (nI i))]) C.1 C.2.1 d_Sp_dropBeyond_62 hl (k := 0) rfl (gm_inc 3 1) (by decide) rfl (fun ls hl => ?_)
            refine lv_goto (tgt := 34) C.1 C.2.1 d_Sp_dropBeyond_65 (by decide) ?_
            refine lv_iload C.1 C.2.1 d_Sp_dropBeyond_34 (lv_at hl 0 rfl) ?_
            refine lv_iconst (v := nI 4) C.1 C.2.1 d_Sp_dropBeyond_36 rfl ?_
            refine lv_icmp_ge (tgt := 68) C.1 C.2.1 d_Sp_dropBeyond_37 (by decide) (fun c_ => ?_) (fun c_ => absurd (by decide) c_)
            refine lv_aload_n C.1 C.2.1 d_Sp_dropBeyond_68 rfl (lv_at hl 1 rfl) ?_
            refine gg_r C hh hs.1 rfl in_Sp 4 (by decide) rfl tw_189 rfl d_Sp_dropBeyond_69 ?_
            refine lv_iload_n C.1 C.2.1 d_Sp_dropBeyond_72 rfl (lv_at hl 3 rfl) ?_
            refine lv_iload_n C.1 C.2.1 d_Sp_dropBeyond_73 rfl (lv_at hl 4 rfl) ?_
            refine lv_iload_n C.1 C.2.1 d_Sp_dropBeyond_74 rfl (lv_at hl 2 rfl) ?_
            refine lv_icmp_ge (tgt := 103) C.1 C.2.1 d_Sp_dropBeyond_75 (by decide) (fun c_22 => ?_) (fun c_22 => ?_)
            · -- 75 -> 103
              have c_22 := gm_get (by omega) (by omega) c_22
              have c_22' := Nat.not_lt.mpr c_22
              refine lv_aload_n C.1 C.2.1 d_Sp_dropBeyond_103 rfl (lv_at hl 1 rfl) ?_
              refine gg_r C hh hs.1 rfl in_Sp 4 (by decide) rfl tw_189 rfl d_Sp_dropBeyond_104 ?_
              refine lv_iload_n C.1 C.2.1 d_Sp_dropBeyond_107 rfl (lv_at hl 4 rfl) ?_
              refine ga_i C hh hs.2.2.2.1 (k := i) rfl (by omega) (by omega) d_Sp_dropBeyond_108 ?_
              refine gs_i C hh hs.2.2.2.1 (k := kp) rfl (by omega) (by omega) d_Sp_dropBeyond_109 (fun H locs hh => ?_)
              obtain ⟨I_23, eI_23⟩ : ∃ z : gm_I, z = gm_up I4 (q + 3) kp (I4 (q + 3) i) := ⟨_, rfl⟩
              rw [← eI_23] at hh
              have tN_24 : I_23 q 3 = nI m := by rw [eI_23, gm_up_ne _ _ (by omega)]; exact tN4
              refine lv_iinc (v := nI (kp + 1)) (lv' := [(2, .int (nI (kp + 1))), (4, .int (nI 4)), (0, .ref q), (1, .int (nI n)), (3, .int (nI i))]) C.1 C.2.1 d_Sp_dropBeyond_110 hl (k := 3) rfl (gm_inc kp 1) (by decide) rfl (fun ls hl => ?_)
              refine lv_iinc (v := nI (i + 1)) (lv' := [(3, .int (nI (i + 1))), (2, .int (nI (kp + 1))), (4, .int (nI 4)), (0, .ref q), (1, .int (nI n))]) C.1 C.2.1 d_Sp_dropBeyond_113 hl (k := 4) rfl (gm_inc i 1) (by decide) rfl (fun ls hl => ?_)
              refine lv_goto (tgt := 4) C.1 C.2.1 d_Sp_dropBeyond_116 (by decide) ?_
              exact ih4 (kp + 1) (i + 1) I_23 J_21 (by omega) (by omega) (by subst eJ_18 eJ_19 eJ_20 eJ_21 eI_23; first | exact dq_drop hP hZl hSu (by omega) (by omega) (by assumption) | exact dq_keep hP hZl hZ hSu hTi hbt (by omega) (by first | exact Or.inl (by omega) | exact Or.inr (Int64.not_lt.mpr (by assumption))) (by first | exact Or.inl ⟨by omega, by assumption, rfl⟩ | exact Or.inr (Or.inl ⟨by omega, by assumption, rfl⟩) | exact Or.inr (Or.inr ⟨by omega, rfl⟩)) | (exfalso; omega)) (by exact tN_24) (by omega) _ _ _ hh (lv_sub hl [3, 4, 1, 0] rfl)
            · -- 75 -> 78
              have c_22 := gm_gef (by omega) (by omega) c_22
              have c_22' := Nat.not_le.mpr c_22
              refine lv_aload_n C.1 C.2.1 d_Sp_dropBeyond_78 rfl (lv_at hl 1 rfl) ?_
              refine gg_r C hh hs.1 rfl in_Sp 5 (by decide) rfl tw_190 rfl d_Sp_dropBeyond_79 ?_
              refine lv_iload_n C.1 C.2.1 d_Sp_dropBeyond_82 rfl (lv_at hl 4 rfl) ?_
              refine ga_l C hh hs.2.2.2.2.1 (k := i) rfl (by omega) (by omega) d_Sp_dropBeyond_83 ?_
              refine gm_eql (y := J4 (q + 4) i) (by rw [eJ_21, gm_up_ne _ _ (Or.inl (by omega)), eJ_20, gm_up_ne _ _ (Or.inl (by omega)), eJ_19, gm_up_ne _ _ (Or.inl (by omega)), eJ_18, gm_up_ne _ _ (Or.inl (by omega))]) ?_
              refine lv_lconst (v := 0) C.1 C.2.1 d_Sp_dropBeyond_84 rfl ?_
              refine W.lcmp C.1 C.2.1 d_Sp_dropBeyond_85 ?_
              refine lv_if_ne (tgt := 103) C.1 C.2.1 d_Sp_dropBeyond_86 (by decide) (fun c_25 => ?_) (fun c_25 => ?_)
              · -- 86 -> 103
                have c_25 := gm_lnet c_25
                refine lv_aload_n C.1 C.2.1 d_Sp_dropBeyond_103 rfl (lv_at hl 1 rfl) ?_
                refine gg_r C hh hs.1 rfl in_Sp 4 (by decide) rfl tw_189 rfl d_Sp_dropBeyond_104 ?_
                refine lv_iload_n C.1 C.2.1 d_Sp_dropBeyond_107 rfl (lv_at hl 4 rfl) ?_
                refine ga_i C hh hs.2.2.2.1 (k := i) rfl (by omega) (by omega) d_Sp_dropBeyond_108 ?_
                refine gs_i C hh hs.2.2.2.1 (k := kp) rfl (by omega) (by omega) d_Sp_dropBeyond_109 (fun H locs hh => ?_)
                obtain ⟨I_26, eI_26⟩ : ∃ z : gm_I, z = gm_up I4 (q + 3) kp (I4 (q + 3) i) := ⟨_, rfl⟩
                rw [← eI_26] at hh
                have tN_27 : I_26 q 3 = nI m := by rw [eI_26, gm_up_ne _ _ (by omega)]; exact tN4
                refine lv_iinc (v := nI (kp + 1)) (lv' := [(2, .int (nI (kp + 1))), (4, .int (nI 4)), (0, .ref q), (1, .int (nI n)), (3, .int (nI i))]) C.1 C.2.1 d_Sp_dropBeyond_110 hl (k := 3) rfl (gm_inc kp 1) (by decide) rfl (fun ls hl => ?_)
                refine lv_iinc (v := nI (i + 1)) (lv' := [(3, .int (nI (i + 1))), (2, .int (nI (kp + 1))), (4, .int (nI 4)), (0, .ref q), (1, .int (nI n))]) C.1 C.2.1 d_Sp_dropBeyond_113 hl (k := 4) rfl (gm_inc i 1) (by decide) rfl (fun ls hl => ?_)
                refine lv_goto (tgt := 4) C.1 C.2.1 d_Sp_dropBeyond_116 (by decide) ?_
                exact ih4 (kp + 1) (i + 1) I_26 J_21 (by omega) (by omega) (by subst eJ_18 eJ_19 eJ_20 eJ_21 eI_26; first | exact dq_drop hP hZl hSu (by omega) (by omega) (by assumption) | exact dq_keep hP hZl hZ hSu hTi hbt (by omega) (by first | exact Or.inl (by omega) | exact Or.inr (Int64.not_lt.mpr (by assumption))) (by first | exact Or.inl ⟨by omega, by assumption, rfl⟩ | exact Or.inr (Or.inl ⟨by omega, by assumption, rfl⟩) | exact Or.inr (Or.inr ⟨by omega, rfl⟩)) | (exfalso; omega)) (by exact tN_27) (by omega) _ _ _ hh (lv_sub hl [3, 4, 1, 0] rfl)
              · -- 86 -> 89
                have c_25 := gm_lnef c_25
                refine lv_aload_n C.1 C.2.1 d_Sp_dropBeyond_89 rfl (lv_at hl 1 rfl) ?_
                refine gg_r C hh hs.1 rfl in_Sp 4 (by decide) rfl tw_189 rfl d_Sp_dropBeyond_90 ?_
                refine lv_iload_n C.1 C.2.1 d_Sp_dropBeyond_93 rfl (lv_at hl 4 rfl) ?_
                refine ga_i C hh hs.2.2.2.1 (k := i) rfl (by omega) (by omega) d_Sp_dropBeyond_94 ?_
                refine lv_aload_n C.1 C.2.1 d_Sp_dropBeyond_95 rfl (lv_at hl 1 rfl) ?_
                refine gg_i C hh hs.1 rfl in_Sp 7 (by decide) rfl tw_192 rfl d_Sp_dropBeyond_96 ?_
                refine lv_ior C.1 C.2.1 d_Sp_dropBeyond_99 ?_
                refine lv_goto (tgt := 109) C.1 C.2.1 d_Sp_dropBeyond_100 (by decide) ?_
                refine gs_i C hh hs.2.2.2.1 (k := kp) rfl (by omega) (by omega) d_Sp_dropBeyond_109 (fun H locs hh => ?_)
                obtain ⟨I_28, eI_28⟩ : ∃ z : gm_I, z = gm_up I4 (q + 3) kp ((I4 (q + 3) i) ||| (I4 q 7)) := ⟨_, rfl⟩
                rw [← eI_28] at hh
                have tN_29 : I_28 q 3 = nI m := by rw [eI_28, gm_up_ne _ _ (by omega)]; exact tN4
                refine lv_iinc (v := nI (kp + 1)) (lv' := [(2, .int (nI (kp + 1))), (4, .int (nI 4)), (0, .ref q), (1, .int (nI n)), (3, .int (nI i))]) C.1 C.2.1 d_Sp_dropBeyond_110 hl (k := 3) rfl (gm_inc kp 1) (by decide) rfl (fun ls hl => ?_)
                refine lv_iinc (v := nI (i + 1)) (lv' := [(3, .int (nI (i + 1))), (2, .int (nI (kp + 1))), (4, .int (nI 4)), (0, .ref q), (1, .int (nI n))]) C.1 C.2.1 d_Sp_dropBeyond_113 hl (k := 4) rfl (gm_inc i 1) (by decide) rfl (fun ls hl => ?_)
                refine lv_goto (tgt := 4) C.1 C.2.1 d_Sp_dropBeyond_116 (by decide) ?_
                exact ih4 (kp + 1) (i + 1) I_28 J_21 (by omega) (by omega) (by subst eJ_18 eJ_19 eJ_20 eJ_21 eI_28; first | exact dq_drop hP hZl hSu (by omega) (by omega) (by assumption) | exact dq_keep hP hZl hZ hSu hTi hbt (by omega) (by first | exact Or.inl (by omega) | exact Or.inr (Int64.not_lt.mpr (by assumption))) (by first | exact Or.inl ⟨by omega, by assumption, rfl⟩ | exact Or.inr (Or.inl ⟨by omega, by assumption, rfl⟩) | exact Or.inr (Or.inr ⟨by omega, rfl⟩)) | (exfalso; omega)) (by exact tN_29) (by omega) _ _ _ hh (lv_sub hl [3, 4, 1, 0] rfl)
          · -- 25 -> 28
            have c_17 := gm_lgef c_17
            refine lv_goto (tgt := 113) C.1 C.2.1 d_Sp_dropBeyond_28 (by decide) ?_
            refine lv_iinc (v := nI (i + 1)) (lv' := [(3, .int (nI (i + 1))), (0, .ref q), (1, .int (nI n)), (2, .int (nI kp))]) C.1 C.2.1 d_Sp_dropBeyond_113 hl (k := 3) rfl (gm_inc i 1) (by decide) rfl (fun ls hl => ?_)
            refine lv_goto (tgt := 4) C.1 C.2.1 d_Sp_dropBeyond_116 (by decide) ?_
            exact ih4 kp (i + 1) I4 J4 (by omega) (by omega) (by skip; first | exact dq_drop hP hZl hSu (by omega) (by omega) (by assumption) | exact dq_keep hP hZl hZ hSu hTi hbt (by omega) (by first | exact Or.inl (by omega) | exact Or.inr (Int64.not_lt.mpr (by assumption))) (by first | exact Or.inl ⟨by omega, by assumption, rfl⟩ | exact Or.inr (Or.inl ⟨by omega, by assumption, rfl⟩) | exact Or.inr (Or.inr ⟨by omega, rfl⟩)) | (exfalso; omega)) (by exact tN4) (by omega) _ _ _ hh (lv_sub hl [1, 2, 3, 0] rfl)
  exact K4 _ 0 0 I J (by omega) (by omega) (by exact dP.nil) (by exact tN_0) (Nat.lt_succ_self _) _ _ _ hh (lv_sub hl [2, 3, 1, 0] rfl)
