set_option maxHeartbeats 4000000 in
set_option maxRecDepth 100000 in
theorem c_Sp_beginQ (l : Launch) (D : va_G) (cs : Nat → ClassId) (sh : gm_H) (sz : Nat) (I : gm_I) (J : gm_J) (q : Nat) (hs : is_Sp sh q) (nm : Nat) (hn1 : 1 ≤ nm) (hnm : nm ≤ 3) : CV l y_Sp_begin w_Sp_begin { frames := 1, cells := 0, slots := 0, locals := 22 } D cs sh sz I J [.ref q, .int (nI nm)] (fun u => skP q (dd_ab nm) [dd_e4] I J u) := by
  refine gm_start (by decide) (Nat.le_of_ble_eq_true rfl) ?_
  intro p' e' s' m' be' me' co' ls C hml hlk hret hh hl
  have hl : lv_has ls 3 [(0, .ref q), (1, .int (nI nm))] := hl
  refine lv_aload_n C.1 C.2.1 d_Sp_begin_0 rfl (lv_at hl 0 rfl) ?_
  refine lv_iload_n C.1 C.2.1 d_Sp_begin_1 rfl (lv_at hl 1 rfl) ?_
  refine gp_i (ty := .int) C hh hs.1 rfl in_Sp t_Sp t_Sp_ok n_Sp 1 (by decide) rfl tw_186 rfl rfl (by decide +kernel) rfl rfl d_Sp_begin_2 (fun H locs hh => ?_)
  obtain ⟨I_1, eI_1⟩ : ∃ z : gm_I, z = gm_up I q 1 (nI nm) := ⟨_, rfl⟩
  rw [← eI_1] at hh
  refine lv_iconst (v := nI 0) C.1 C.2.1 d_Sp_begin_5 rfl ?_
  refine lv_istore_n (lv' := [(2, .int (nI 0)), (0, .ref q), (1, .int (nI nm))]) C.1 C.2.1 d_Sp_begin_6 rfl hl (by decide) rfl (fun ls hl => ?_)
  have K7 : ∀ (n_7 : Nat) (i : Nat) (J7 : gm_J) (hi : i ≤ 4 * nm) (hb : bgJ J J7 q i) (hm_7 : 4 * nm - i < n_7), ∀ (H : Heap) (locs : List Loc) (ls : Array Slot), gm_St D cs sh (gm_A sh) s'.heap sz I_1 J7 H locs → lv_has ls 3 [(0, .ref q), (1, .int (nI nm)), (2, .int (nI i))] → W p' l e' { frames := 1, cells := 0, slots := 0, locals := 22 } s' m' ([.ref q, .int (nI nm)] : List Value).toArray be' me' co' H locs 0 0 (MQ be' (va_Qv (fun u => skP q (dd_ab nm) [dd_e4] I J u) (gm_B D cs sh sz) (gm_A sh)) ([.ref q, .int (nI nm)] : List Value).toArray s' 0 0 (gm_A sh)) (F0 m' 7 ls []) := by
    intro n_7
    induction n_7 with
    | zero => intro i J7 hi hb hm_7; exact absurd hm_7 (Nat.not_lt_zero _)
    | succ n_7 ih7 =>
      intro i J7 hi hb hm_7 H locs ls hh hl
      refine lv_iload_n C.1 C.2.1 d_Sp_begin_7 rfl (lv_at hl 2 rfl) ?_
      refine lv_iconst (v := nI 4) C.1 C.2.1 d_Sp_begin_8 rfl ?_
      refine lv_iload_n C.1 C.2.1 d_Sp_begin_9 rfl (lv_at hl 1 rfl) ?_
      refine lv_imul C.1 C.2.1 d_Sp_begin_10 ?_
      refine gm_eqi (pk_mul _ _) ?_
      refine lv_icmp_ge (tgt := 40) C.1 C.2.1 d_Sp_begin_11 (by decide) (fun c_2 => ?_) (fun c_2 => ?_)
      · -- 11 -> 40
        have c_2 := gm_get (by omega) (by omega) c_2
        have c_2' := Nat.not_lt.mpr c_2
        refine lv_aload_n C.1 C.2.1 d_Sp_begin_40 rfl (lv_at hl 0 rfl) ?_
        refine lv_iconst (v := nI 0) C.1 C.2.1 d_Sp_begin_41 rfl ?_
        refine gp_i (ty := .int) C hh hs.1 rfl in_Sp t_Sp t_Sp_ok n_Sp 3 (by decide) rfl tw_188 rfl rfl (by decide +kernel) rfl rfl d_Sp_begin_42 (fun H locs hh => ?_)
        obtain ⟨I_3, eI_3⟩ : ∃ z : gm_I, z = gm_up I_1 q 3 (nI 0) := ⟨_, rfl⟩
        rw [← eI_3] at hh
        have tN_4 : I_3 q 3 = nI 0 := by rw [eI_3]; exact gm_up_same _ _ _ _
        refine lv_iconst (v := nI 0) C.1 C.2.1 d_Sp_begin_45 rfl ?_
        refine lv_istore_n (lv' := [(2, .int (nI 0)), (0, .ref q), (1, .int (nI nm))]) C.1 C.2.1 d_Sp_begin_46 rfl hl (by decide) rfl (fun ls hl => ?_)
        refine lv_iload_n C.1 C.2.1 d_Sp_begin_47 rfl (lv_at hl 0 rfl) ?_
        refine lv_iconst (v := nI 4) C.1 C.2.1 d_Sp_begin_48 rfl ?_
        refine lv_icmp_ge (tgt := 74) C.1 C.2.1 d_Sp_begin_49 (by decide) (fun c_ => absurd c_ (by decide)) (fun c_ => ?_)
        refine lv_aload_n C.1 C.2.1 d_Sp_begin_52 rfl (lv_at hl 1 rfl) ?_
        refine gg_r C hh hs.1 rfl in_Sp 6 (by decide) rfl tw_191 rfl d_Sp_begin_53 ?_
        refine lv_iload_n C.1 C.2.1 d_Sp_begin_56 rfl (lv_at hl 0 rfl) ?_
        refine lv_iload_n C.1 C.2.1 d_Sp_begin_57 rfl (lv_at hl 0 rfl) ?_
        refine lv_iconst (v := nI 3) C.1 C.2.1 d_Sp_begin_58 rfl ?_
        refine lv_icmp_ne (tgt := 66) C.1 C.2.1 d_Sp_begin_59 (by decide) (fun c_ => ?_) (fun c_ => absurd c_ (by decide))
        refine lv_lconst (v := 0) C.1 C.2.1 d_Sp_begin_66 rfl ?_
        refine gs_l C hh hs.2.2.2.2.2 (k := 0) rfl (by omega) (by omega) d_Sp_begin_67 (fun H locs hh => ?_)
        obtain ⟨J_5, eJ_5⟩ : ∃ z : gm_J, z = gm_up J7 (q + 5) 0 (0 : Int64) := ⟨_, rfl⟩
        rw [← eJ_5] at hh
        refine lv_iinc (v := nI 1) (lv' := [(2, .int (nI 1)), (0, .ref q), (1, .int (nI nm))]) C.1 C.2.1 d_Sp_begin_68 hl (k := 0) rfl (gm_inc 0 1) (by decide) rfl (fun ls hl => ?_)
        refine lv_goto (tgt := 47) C.1 C.2.1 d_Sp_begin_71 (by decide) ?_
        refine lv_iload_n C.1 C.2.1 d_Sp_begin_47 rfl (lv_at hl 0 rfl) ?_
        refine lv_iconst (v := nI 4) C.1 C.2.1 d_Sp_begin_48 rfl ?_
        refine lv_icmp_ge (tgt := 74) C.1 C.2.1 d_Sp_begin_49 (by decide) (fun c_ => absurd c_ (by decide)) (fun c_ => ?_)
        refine lv_aload_n C.1 C.2.1 d_Sp_begin_52 rfl (lv_at hl 1 rfl) ?_
        refine gg_r C hh hs.1 rfl in_Sp 6 (by decide) rfl tw_191 rfl d_Sp_begin_53 ?_
        refine lv_iload_n C.1 C.2.1 d_Sp_begin_56 rfl (lv_at hl 0 rfl) ?_
        refine lv_iload_n C.1 C.2.1 d_Sp_begin_57 rfl (lv_at hl 0 rfl) ?_
        refine lv_iconst (v := nI 3) C.1 C.2.1 d_Sp_begin_58 rfl ?_
        refine lv_icmp_ne (tgt := 66) C.1 C.2.1 d_Sp_begin_59 (by decide) (fun c_ => ?_) (fun c_ => absurd c_ (by decide))
        refine lv_lconst (v := 0) C.1 C.2.1 d_Sp_begin_66 rfl ?_
        refine gs_l C hh hs.2.2.2.2.2 (k := 1) rfl (by omega) (by omega) d_Sp_begin_67 (fun H locs hh => ?_)
        obtain ⟨J_6, eJ_6⟩ : ∃ z : gm_J, z = gm_up J_5 (q + 5) 1 (0 : Int64) := ⟨_, rfl⟩
        rw [← eJ_6] at hh
        refine lv_iinc (v := nI 2) (lv' := [(2, .int (nI 2)), (0, .ref q), (1, .int (nI nm))]) C.1 C.2.1 d_Sp_begin_68 hl (k := 0) rfl (gm_inc 1 1) (by decide) rfl (fun ls hl => ?_)
        refine lv_goto (tgt := 47) C.1 C.2.1 d_Sp_begin_71 (by decide) ?_
        refine lv_iload_n C.1 C.2.1 d_Sp_begin_47 rfl (lv_at hl 0 rfl) ?_
        refine lv_iconst (v := nI 4) C.1 C.2.1 d_Sp_begin_48 rfl ?_
        refine lv_icmp_ge (tgt := 74) C.1 C.2.1 d_Sp_begin_49 (by decide) (fun c_ => absurd c_ (by decide)) (fun c_ => ?_)
        refine lv_aload_n C.1 C.2.1 d_Sp_begin_52 rfl (lv_at hl 1 rfl) ?_
        refine gg_r C hh hs.1 rfl in_Sp 6 (by decide) rfl tw_191 rfl d_Sp_begin_53 ?_
        refine lv_iload_n C.1 C.2.1 d_Sp_begin_56 rfl (lv_at hl 0 rfl) ?_
        refine lv_iload_n C.1 C.2.1 d_Sp_begin_57 rfl (lv_at hl 0 rfl) ?_
        refine lv_iconst (v := nI 3) C.1 C.2.1 d_Sp_begin_58 rfl ?_
        refine lv_icmp_ne (tgt := 66) C.1 C.2.1 d_Sp_begin_59 (by decide) (fun c_ => ?_) (fun c_ => absurd c_ (by decide))
        refine lv_lconst (v := 0) C.1 C.2.1 d_Sp_begin_66 rfl ?_
        refine gs_l C hh hs.2.2.2.2.2 (k := 2) rfl (by omega) (by omega) d_Sp_begin_67 (fun H locs hh => ?_)
        obtain ⟨J_7, eJ_7⟩ : ∃ z : gm_J, z = gm_up J_6 (q + 5) 2 (0 : Int64) := ⟨_, rfl⟩
        rw [← eJ_7] at hh
        refine lv_iinc (v := nI 3) (lv' := [(2, .int (nI 3)), (0, .ref q), (1, .int (nI nm))]) C.1 C.2.1 d_Sp_begin_68 hl (k := 0) rfl (gm_inc 2 1) (by decide) rfl (fun ls hl => ?_)
        refine lv_goto (tgt := 47) C.1 C.2.1 d_Sp_begin_71 (by decide) ?_
        refine lv_iload_n C.1 C.2.1 d_Sp_begin_47 rfl (lv_at hl 0 rfl) ?_
        refine lv_iconst (v := nI 4) C.1 C.2.1 d_Sp_begin_48 rfl ?_
        refine lv_icmp_ge (tgt := 74) C.1 C.2.1 d_Sp_begin_49 (by decide) (fun c_ => absurd c_ (by decide)) (fun c_ => ?_)
        refine lv_aload_n C.1 C.2.1 d_Sp_begin_52 rfl (lv_at hl 1 rfl) ?_
        refine gg_r C hh hs.1 rfl in_Sp 6 (by decide) rfl tw_191 rfl d_Sp_begin_53 ?_
        refine lv_iload_n C.1 C.2.1 d_Sp_begin_56 rfl (lv_at hl 0 rfl) ?_
        refine lv_iload_n C.1 C.2.1 d_Sp_begin_57 rfl (lv_at hl 0 rfl) ?_
        refine lv_iconst (v := nI 3) C.1 C.2.1 d_Sp_begin_58 rfl ?_
        refine lv_icmp_ne (tgt := 66) C.1 C.2.1 d_Sp_begin_59 (by decide) (fun c_ => absurd (by decide) c_) (fun c_ => ?_)
        refine lv_lconst (v := 1) C.1 C.2.1 d_Sp_begin_62 rfl ?_
        refine lv_goto (tgt := 67) C.1 C.2.1 d_Sp_begin_63 (by decide) ?_
        refine gs_l C hh hs.2.2.2.2.2 (k := 3) rfl (by omega) (by omega) d_Sp_begin_67 (fun H locs hh => ?_)
        obtain ⟨J_8, eJ_8⟩ : ∃ z : gm_J, z = gm_up J_7 (q + 5) 3 (1 : Int64) := ⟨_, rfl⟩
        rw [← eJ_8] at hh
        refine lv_iinc (v := nI 4) (lv' := [(2, .int (nI 4)), (0, .ref q), (1, .int (nI nm))]) C.1 C.2.1 d_Sp_begin_68 hl (k := 0) rfl (gm_inc 3 1) (by decide) rfl (fun ls hl => ?_)
        refine lv_goto (tgt := 47) C.1 C.2.1 d_Sp_begin_71 (by decide) ?_
        refine lv_iload_n C.1 C.2.1 d_Sp_begin_47 rfl (lv_at hl 0 rfl) ?_
        refine lv_iconst (v := nI 4) C.1 C.2.1 d_Sp_begin_48 rfl ?_
        refine lv_icmp_ge (tgt := 74) C.1 C.2.1 d_Sp_begin_49 (by decide) (fun c_ => ?_) (fun c_ => absurd (by decide) c_)
        refine lv_aload_n C.1 C.2.1 d_Sp_begin_74 rfl (lv_at hl 1 rfl) ?_
        refine lv_iconst (v := nI 0) C.1 C.2.1 d_Sp_begin_75 rfl ?_
        refine gc_v hh (gc_runV (As := [.int (nI 0)]) (rest := []) (n := 1) C hml hh (c_Sp_appendPivot l D cs sh sz I_3 J_8 q hs 0 tN_4 (by omega) (nI 0)) (tg_V tw_334 tw_336 tw_6 tw_63 tw_337) (by decide +kernel) ⟨rfl, rfl, by decide, by decide, Nat.zero_le _, Nat.zero_le _⟩ hs.1 rfl rfl hl.1 rfl (Nat.le_of_ble_eq_true rfl) d_Sp_begin_76) (fun I_10 J_11 H locs hr_9 hh => ?_)
        refine lv_aload_n C.1 C.2.1 d_Sp_begin_79 rfl (lv_at hl 1 rfl) ?_
        refine lv_iconst (v := nI 2) C.1 C.2.1 d_Sp_begin_80 rfl ?_
        refine gp_i (ty := .int) C hh hs.1 rfl in_Sp t_Sp t_Sp_ok n_Sp 7 (by decide) rfl tw_192 rfl rfl (by decide +kernel) rfl rfl d_Sp_begin_81 (fun H locs hh => ?_)
        obtain ⟨I_12, eI_12⟩ : ∃ z : gm_I, z = gm_up I_10 q 7 (nI 2) := ⟨_, rfl⟩
        rw [← eI_12] at hh
        exact gr_v C hlk hret hh (by exact bg_fin hn1 hnm (by omega) hb (I1 := I_3) (J1 := J_8) (by subst eI_1 eI_3 eJ_5 eJ_6 eJ_7 eJ_8 eI_12; rfl) (by subst eI_1 eI_3 eJ_5 eJ_6 eJ_7 eJ_8 eI_12; exact bg_piv _ _) hr_9 (by subst eI_1 eI_3 eJ_5 eJ_6 eJ_7 eJ_8 eI_12; rfl)) d_Sp_begin_84
      · -- 11 -> 14
        have c_2 := gm_gef (by omega) (by omega) c_2
        have c_2' := Nat.not_le.mpr c_2
        refine lv_aload_n C.1 C.2.1 d_Sp_begin_14 rfl (lv_at hl 0 rfl) ?_
        refine gg_r C hh hs.1 rfl in_Sp 0 (by decide) rfl tw_185 rfl d_Sp_begin_15 ?_
        refine lv_iload_n C.1 C.2.1 d_Sp_begin_18 rfl (lv_at hl 2 rfl) ?_
        refine lv_iload_n C.1 C.2.1 d_Sp_begin_19 rfl (lv_at hl 2 rfl) ?_
        refine lv_iconst (v := nI 4) C.1 C.2.1 d_Sp_begin_20 rfl ?_
        refine lv_irem C.1 C.2.1 d_Sp_begin_21 (by decide) ?_
        refine gm_eqi (pk_rem (by omega) (by omega) (by omega)) ?_
        refine lv_iload_n C.1 C.2.1 d_Sp_begin_22 rfl (lv_at hl 2 rfl) ?_
        refine lv_iconst (v := nI 4) C.1 C.2.1 d_Sp_begin_23 rfl ?_
        refine lv_idiv C.1 C.2.1 d_Sp_begin_24 (by decide) ?_
        refine gm_eqi (pk_div (by omega) (by omega) (by omega)) ?_
        refine lv_icmp_ne (tgt := 32) C.1 C.2.1 d_Sp_begin_25 (by decide) (fun c_13 => ?_) (fun c_13 => ?_)
        · -- 25 -> 32
          have c_13 := gm_net (by omega) (by omega) c_13
          refine lv_lconst (v := 0) C.1 C.2.1 d_Sp_begin_32 rfl ?_
          refine gs_l C hh hs.2.1 (k := i) rfl (by omega) (by omega) d_Sp_begin_33 (fun H locs hh => ?_)
          obtain ⟨J_14, eJ_14⟩ : ∃ z : gm_J, z = gm_up J7 (q + 1) i (0 : Int64) := ⟨_, rfl⟩
          rw [← eJ_14] at hh
          refine lv_iinc (v := nI (i + 1)) (lv' := [(2, .int (nI (i + 1))), (0, .ref q), (1, .int (nI nm))]) C.1 C.2.1 d_Sp_begin_34 hl (k := 2) rfl (gm_inc i 1) (by decide) rfl (fun ls hl => ?_)
          refine lv_goto (tgt := 7) C.1 C.2.1 d_Sp_begin_37 (by decide) ?_
          exact ih7 (i + 1) J_14 (by omega) (by subst eI_1 eJ_14; exact bgJ.step hb (by first | (rw [if_pos (by omega)]; try rfl) | (rw [if_neg (by omega)]; try rfl))) (by omega) _ _ _ hh (lv_sub hl [1, 2, 0] rfl)
        · -- 25 -> 28
          have c_13 := gm_nef (by omega) (by omega) c_13
          refine lv_lconst (v := 1) C.1 C.2.1 d_Sp_begin_28 rfl ?_
          refine lv_goto (tgt := 33) C.1 C.2.1 d_Sp_begin_29 (by decide) ?_
          refine gs_l C hh hs.2.1 (k := i) rfl (by omega) (by omega) d_Sp_begin_33 (fun H locs hh => ?_)
          obtain ⟨J_15, eJ_15⟩ : ∃ z : gm_J, z = gm_up J7 (q + 1) i (1 : Int64) := ⟨_, rfl⟩
          rw [← eJ_15] at hh
          refine lv_iinc (v := nI (i + 1)) (lv' := [(2, .int (nI (i + 1))), (0, .ref q), (1, .int (nI nm))]) C.1 C.2.1 d_Sp_begin_34 hl (k := 2) rfl (gm_inc i 1) (by decide) rfl (fun ls hl => ?_)
          refine lv_goto (tgt := 7) C.1 C.2.1 d_Sp_begin_37 (by decide) ?_
          exact ih7 (i + 1) J_15 (by omega) (by subst eI_1 eJ_15; exact bgJ.step hb (by first | (rw [if_pos (by omega)]; try rfl) | (rw [if_neg (by omega)]; try rfl))) (by omega) _ _ _ hh (lv_sub hl [1, 2, 0] rfl)
  exact K7 _ 0 J (by omega) (by exact bgJ.nil) (Nat.lt_succ_self _) _ _ _ hh (lv_sub hl [1, 2, 0] rfl)

set_option maxHeartbeats 4000000 in
set_option maxRecDepth 100000 in
theorem c_Sp_dropIfNoPointQ (l : Launch) (D : va_G) (cs : Nat → ClassId) (sh : gm_H) (sz : Nat) (I : gm_I) (J : gm_J) (q : Nat) (hs : is_Sp sh q) (R : List dd_V) (en : I q 3 = nI R.length) (hn32 : R.length ≤ 32) (hR : sp_L J (q + 2) R) : CV l y_Sp_dropIfNoPoint w_Sp_dropIfNoPoint { frames := 0, cells := 0, slots := 0, locals := 0 } D cs sh sz I J [.ref q] (fun u => dnP I J q R u) := by
  refine gm_start (by decide) (Nat.le_of_ble_eq_true rfl) ?_
  intro p' e' s' m' be' me' co' ls C hml hlk hret hh hl
  have hl : lv_has ls 2 [(0, .ref q)] := hl
  have tN_0 : I q 3 = nI R.length := en
  refine lv_iconst (v := nI 0) C.1 C.2.1 d_Sp_dropIfNoPoint_0 rfl ?_
  refine lv_istore_n (lv' := [(1, .int (nI 0)), (0, .ref q)]) C.1 C.2.1 d_Sp_dropIfNoPoint_1 rfl hl (by decide) rfl (fun ls hl => ?_)
  have K2 : ∀ (n_2 : Nat) (k : Nat) (hk : k ≤ R.length) (hz : ∀ m v, m < k → R[m]? = some v → ¬ 0 < dd_ev dd_e4 v) (hm_2 : R.length - k < n_2), ∀ (H : Heap) (locs : List Loc) (ls : Array Slot), gm_St D cs sh (gm_A sh) s'.heap sz I J H locs → lv_has ls 2 [(0, .ref q), (1, .int (nI k))] → W p' l e' { frames := 0, cells := 0, slots := 0, locals := 0 } s' m' ([.ref q] : List Value).toArray be' me' co' H locs 0 0 (MQ be' (va_Qv (fun u => dnP I J q R u) (gm_B D cs sh sz) (gm_A sh)) ([.ref q] : List Value).toArray s' 0 0 (gm_A sh)) (F0 m' 2 ls []) := by
    intro n_2
    induction n_2 with
    | zero => intro k hk hz hm_2; exact absurd hm_2 (Nat.not_lt_zero _)
    | succ n_2 ih2 =>
      intro k hk hz hm_2 H locs ls hh hl
      refine lv_iload_n C.1 C.2.1 d_Sp_dropIfNoPoint_2 rfl (lv_at hl 1 rfl) ?_
      refine lv_aload_n C.1 C.2.1 d_Sp_dropIfNoPoint_3 rfl (lv_at hl 0 rfl) ?_
      refine gg_i C hh hs.1 rfl in_Sp 3 (by decide) rfl tw_188 rfl d_Sp_dropIfNoPoint_4 ?_
      refine gm_eqi tN_0 ?_
      refine lv_icmp_ge (tgt := 32) C.1 C.2.1 d_Sp_dropIfNoPoint_7 (by decide) (fun c_1 => ?_) (fun c_1 => ?_)
      · -- 7 -> 32
        have c_1 := gm_get (by omega) (by omega) c_1
        have c_1' := Nat.not_lt.mpr c_1
        refine lv_aload_n C.1 C.2.1 d_Sp_dropIfNoPoint_32 rfl (lv_at hl 0 rfl) ?_
        refine lv_iconst (v := nI 0) C.1 C.2.1 d_Sp_dropIfNoPoint_33 rfl ?_
        refine gp_i (ty := .int) C hh hs.1 rfl in_Sp t_Sp t_Sp_ok n_Sp 3 (by decide) rfl tw_188 rfl rfl (by decide +kernel) rfl rfl d_Sp_dropIfNoPoint_34 (fun H locs hh => ?_)
        obtain ⟨I_2, eI_2⟩ : ∃ z : gm_I, z = gm_up I q 3 (nI 0) := ⟨_, rfl⟩
        rw [← eI_2] at hh
        have tN_3 : I_2 q 3 = nI 0 := by rw [eI_2]; exact gm_up_same _ _ _ _
        refine lv_aload_n C.1 C.2.1 d_Sp_dropIfNoPoint_37 rfl (lv_at hl 0 rfl) ?_
        refine lv_iconst (v := nI 0) C.1 C.2.1 d_Sp_dropIfNoPoint_38 rfl ?_
        refine gp_i (ty := .int) C hh hs.1 rfl in_Sp t_Sp t_Sp_ok n_Sp 1 (by decide) rfl tw_186 rfl rfl (by decide +kernel) rfl rfl d_Sp_dropIfNoPoint_39 (fun H locs hh => ?_)
        obtain ⟨I_4, eI_4⟩ : ∃ z : gm_I, z = gm_up I_2 q 1 (nI 0) := ⟨_, rfl⟩
        rw [← eI_4] at hh
        have tN_5 : I_4 q 3 = nI 0 := by rw [eI_4, gm_up_ne _ _ (by omega)]; exact tN_3
        exact gr_v C hlk hret hh (by first | exact dn_yes hR (by omega) (by assumption) | (subst eI_2 eI_4; exact dn_no hz (by omega))) d_Sp_dropIfNoPoint_42
      · -- 7 -> 10
        have c_1 := gm_gef (by omega) (by omega) c_1
        have c_1' := Nat.not_le.mpr c_1
        refine lv_aload_n C.1 C.2.1 d_Sp_dropIfNoPoint_10 rfl (lv_at hl 0 rfl) ?_
        refine gg_r C hh hs.1 rfl in_Sp 2 (by decide) rfl tw_187 rfl d_Sp_dropIfNoPoint_11 ?_
        refine lv_iconst (v := nI 4) C.1 C.2.1 d_Sp_dropIfNoPoint_14 rfl ?_
        refine lv_iload_n C.1 C.2.1 d_Sp_dropIfNoPoint_15 rfl (lv_at hl 1 rfl) ?_
        refine lv_imul C.1 C.2.1 d_Sp_dropIfNoPoint_16 ?_
        refine gm_eqi (pk_mul _ _) ?_
        refine lv_iconst (v := nI 3) C.1 C.2.1 d_Sp_dropIfNoPoint_17 rfl ?_
        refine lv_iadd C.1 C.2.1 d_Sp_dropIfNoPoint_18 ?_
        refine gm_eqi (nI_add _ _) ?_
        refine ga_l C hh hs.2.2.1 (k := (4 * k) + 3) rfl (by omega) (by omega) d_Sp_dropIfNoPoint_19 ?_
        refine lv_lconst (v := 0) C.1 C.2.1 d_Sp_dropIfNoPoint_20 rfl ?_
        refine W.lcmp C.1 C.2.1 d_Sp_dropIfNoPoint_21 ?_
        refine lv_if_le (tgt := 26) C.1 C.2.1 d_Sp_dropIfNoPoint_22 (by decide) (fun c_6 => ?_) (fun c_6 => ?_)
        · -- 22 -> 26
          have c_6 := gm_llet c_6
          refine lv_iinc (v := nI (k + 1)) (lv' := [(1, .int (nI (k + 1))), (0, .ref q)]) C.1 C.2.1 d_Sp_dropIfNoPoint_26 hl (k := 1) rfl (gm_inc k 1) (by decide) rfl (fun ls hl => ?_)
          refine lv_goto (tgt := 2) C.1 C.2.1 d_Sp_dropIfNoPoint_29 (by decide) ?_
          exact ih2 (k + 1) (by omega) (by exact dn_step hR hz (by assumption)) (by omega) _ _ _ hh (lv_sub hl [1, 0] rfl)
        · -- 22 -> 25
          have c_6 := gm_llef c_6
          exact gr_v C hlk hret hh (by first | exact dn_yes hR (by omega) (by assumption) | (skip; exact dn_no hz (by omega))) d_Sp_dropIfNoPoint_25
  exact K2 _ 0 (by omega) (by intro m_ v_ hm_; omega) (Nat.lt_succ_self _) _ _ _ hh (lv_sub hl [1, 0] rfl)
