set_option maxHeartbeats 4000000 in
set_option maxRecDepth 100000 in
theorem c_Sp_worth (l : Launch) (D : va_G) (cs : Nat → ClassId) (sh : gm_H) (sz : Nat) (I : gm_I) (J : gm_J) (q : Nat) (hs : is_Sp sh q) (i : Nat) (hi : i < 32) (a b c d : Int32) : CL l y_Sp_worth w_Sp_worth { frames := 0, cells := 0, slots := 0, locals := 0 } D cs sh sz I J [.ref q, .int (nI i), .int a, .int b, .int c, .int d] (fun x u => u = (I, J) ∧ x = wor J q i a b c d) := by
  refine gm_start (by decide) (Nat.le_of_ble_eq_true rfl) ?_
  intro p' e' s' m' be' me' co' ls C hml hlk hret hh hl
  have hl : lv_has ls 7 [(0, .ref q), (1, .int (nI i)), (2, .int a), (3, .int b), (4, .int c), (5, .int d)] := hl
  refine lv_iconst (v := nI 4) C.1 C.2.1 d_Sp_worth_0 rfl ?_
  refine lv_iload_n C.1 C.2.1 d_Sp_worth_1 rfl (lv_at hl 1 rfl) ?_
  refine lv_imul C.1 C.2.1 d_Sp_worth_2 ?_
  refine gm_eqi (pk_mul _ _) ?_
  refine lv_istore (lv' := [(6, .int (nI (4 * i))), (0, .ref q), (1, .int (nI i)), (2, .int a), (3, .int b), (4, .int c), (5, .int d)]) C.1 C.2.1 d_Sp_worth_3 hl (by decide) rfl (fun ls hl => ?_)
  refine lv_iload_n C.1 C.2.1 d_Sp_worth_5 rfl (lv_at hl 3 rfl) ?_
  refine lv_i2l (v := a.toInt64) C.1 C.2.1 d_Sp_worth_6 rfl ?_
  refine lv_aload_n C.1 C.2.1 d_Sp_worth_7 rfl (lv_at hl 1 rfl) ?_
  refine gg_r C hh hs.1 rfl in_Sp 2 (by decide) rfl tw_187 rfl d_Sp_worth_8 ?_
  refine lv_iload C.1 C.2.1 d_Sp_worth_11 (lv_at hl 0 rfl) ?_
  refine ga_l C hh hs.2.2.1 (k := 4 * i) rfl (by omega) (by omega) d_Sp_worth_13 ?_
  refine lv_lmul C.1 C.2.1 d_Sp_worth_14 ?_
  refine lv_iload_n C.1 C.2.1 d_Sp_worth_15 rfl (lv_at hl 4 rfl) ?_
  refine lv_i2l (v := b.toInt64) C.1 C.2.1 d_Sp_worth_16 rfl ?_
  refine lv_aload_n C.1 C.2.1 d_Sp_worth_17 rfl (lv_at hl 1 rfl) ?_
  refine gg_r C hh hs.1 rfl in_Sp 2 (by decide) rfl tw_187 rfl d_Sp_worth_18 ?_
  refine lv_iload C.1 C.2.1 d_Sp_worth_21 (lv_at hl 0 rfl) ?_
  refine lv_iconst (v := nI 1) C.1 C.2.1 d_Sp_worth_23 rfl ?_
  refine lv_iadd C.1 C.2.1 d_Sp_worth_24 ?_
  refine gm_eqi (nI_add _ _) ?_
  refine ga_l C hh hs.2.2.1 (k := (4 * i) + 1) rfl (by omega) (by omega) d_Sp_worth_25 ?_
  refine lv_lmul C.1 C.2.1 d_Sp_worth_26 ?_
  refine lv_ladd C.1 C.2.1 d_Sp_worth_27 ?_
  refine lv_iload C.1 C.2.1 d_Sp_worth_28 (lv_at hl 5 rfl) ?_
  refine lv_i2l (v := c.toInt64) C.1 C.2.1 d_Sp_worth_30 rfl ?_
  refine lv_aload_n C.1 C.2.1 d_Sp_worth_31 rfl (lv_at hl 1 rfl) ?_
  refine gg_r C hh hs.1 rfl in_Sp 2 (by decide) rfl tw_187 rfl d_Sp_worth_32 ?_
  refine lv_iload C.1 C.2.1 d_Sp_worth_35 (lv_at hl 0 rfl) ?_
  refine lv_iconst (v := nI 2) C.1 C.2.1 d_Sp_worth_37 rfl ?_
  refine lv_iadd C.1 C.2.1 d_Sp_worth_38 ?_
  refine gm_eqi (nI_add _ _) ?_
  refine ga_l C hh hs.2.2.1 (k := (4 * i) + 2) rfl (by omega) (by omega) d_Sp_worth_39 ?_
  refine lv_lmul C.1 C.2.1 d_Sp_worth_40 ?_
  refine lv_ladd C.1 C.2.1 d_Sp_worth_41 ?_
  refine lv_iload C.1 C.2.1 d_Sp_worth_42 (lv_at hl 6 rfl) ?_
  refine lv_i2l (v := d.toInt64) C.1 C.2.1 d_Sp_worth_44 rfl ?_
  refine lv_aload_n C.1 C.2.1 d_Sp_worth_45 rfl (lv_at hl 1 rfl) ?_
  refine gg_r C hh hs.1 rfl in_Sp 2 (by decide) rfl tw_187 rfl d_Sp_worth_46 ?_
  refine lv_iload C.1 C.2.1 d_Sp_worth_49 (lv_at hl 0 rfl) ?_
  refine lv_iconst (v := nI 3) C.1 C.2.1 d_Sp_worth_51 rfl ?_
  refine lv_iadd C.1 C.2.1 d_Sp_worth_52 ?_
  refine gm_eqi (nI_add _ _) ?_
  refine ga_l C hh hs.2.2.1 (k := (4 * i) + 3) rfl (by omega) (by omega) d_Sp_worth_53 ?_
  refine lv_lmul C.1 C.2.1 d_Sp_worth_54 ?_
  refine lv_lsub C.1 C.2.1 d_Sp_worth_55 ?_
  exact gr_l C hlk hret hh (by exact ⟨rfl, rfl⟩) d_Sp_worth_56

set_option maxHeartbeats 4000000 in
set_option maxRecDepth 100000 in
theorem c_Sp_slope (l : Launch) (D : va_G) (cs : Nat → ClassId) (sh : gm_H) (sz : Nat) (I : gm_I) (J : gm_J) (q : Nat) (hs : is_Sp sh q) (i : Nat) (hi : i < 3) (a b c : Int32) : CL l y_Sp_slope w_Sp_slope { frames := 0, cells := 0, slots := 0, locals := 0 } D cs sh sz I J [.ref q, .int (nI i), .int a, .int b, .int c] (fun x u => u = (I, J) ∧ x = slo J q i a b c) := by
  refine gm_start (by decide) (Nat.le_of_ble_eq_true rfl) ?_
  intro p' e' s' m' be' me' co' ls C hml hlk hret hh hl
  have hl : lv_has ls 6 [(0, .ref q), (1, .int (nI i)), (2, .int a), (3, .int b), (4, .int c)] := hl
  refine lv_iconst (v := nI 4) C.1 C.2.1 d_Sp_slope_0 rfl ?_
  refine lv_iload_n C.1 C.2.1 d_Sp_slope_1 rfl (lv_at hl 1 rfl) ?_
  refine lv_imul C.1 C.2.1 d_Sp_slope_2 ?_
  refine gm_eqi (pk_mul _ _) ?_
  refine lv_istore (lv' := [(5, .int (nI (4 * i))), (0, .ref q), (1, .int (nI i)), (2, .int a), (3, .int b), (4, .int c)]) C.1 C.2.1 d_Sp_slope_3 hl (by decide) rfl (fun ls hl => ?_)
  refine lv_iload_n C.1 C.2.1 d_Sp_slope_5 rfl (lv_at hl 3 rfl) ?_
  refine lv_i2l (v := a.toInt64) C.1 C.2.1 d_Sp_slope_6 rfl ?_
  refine lv_aload_n C.1 C.2.1 d_Sp_slope_7 rfl (lv_at hl 1 rfl) ?_
  refine gg_r C hh hs.1 rfl in_Sp 0 (by decide) rfl tw_185 rfl d_Sp_slope_8 ?_
  refine lv_iload C.1 C.2.1 d_Sp_slope_11 (lv_at hl 0 rfl) ?_
  refine ga_l C hh hs.2.1 (k := 4 * i) rfl (by omega) (by omega) d_Sp_slope_13 ?_
  refine lv_lmul C.1 C.2.1 d_Sp_slope_14 ?_
  refine lv_iload_n C.1 C.2.1 d_Sp_slope_15 rfl (lv_at hl 4 rfl) ?_
  refine lv_i2l (v := b.toInt64) C.1 C.2.1 d_Sp_slope_16 rfl ?_
  refine lv_aload_n C.1 C.2.1 d_Sp_slope_17 rfl (lv_at hl 1 rfl) ?_
  refine gg_r C hh hs.1 rfl in_Sp 0 (by decide) rfl tw_185 rfl d_Sp_slope_18 ?_
  refine lv_iload C.1 C.2.1 d_Sp_slope_21 (lv_at hl 0 rfl) ?_
  refine lv_iconst (v := nI 1) C.1 C.2.1 d_Sp_slope_23 rfl ?_
  refine lv_iadd C.1 C.2.1 d_Sp_slope_24 ?_
  refine gm_eqi (nI_add _ _) ?_
  refine ga_l C hh hs.2.1 (k := (4 * i) + 1) rfl (by omega) (by omega) d_Sp_slope_25 ?_
  refine lv_lmul C.1 C.2.1 d_Sp_slope_26 ?_
  refine lv_ladd C.1 C.2.1 d_Sp_slope_27 ?_
  refine lv_iload C.1 C.2.1 d_Sp_slope_28 (lv_at hl 5 rfl) ?_
  refine lv_i2l (v := c.toInt64) C.1 C.2.1 d_Sp_slope_30 rfl ?_
  refine lv_aload_n C.1 C.2.1 d_Sp_slope_31 rfl (lv_at hl 1 rfl) ?_
  refine gg_r C hh hs.1 rfl in_Sp 0 (by decide) rfl tw_185 rfl d_Sp_slope_32 ?_
  refine lv_iload C.1 C.2.1 d_Sp_slope_35 (lv_at hl 0 rfl) ?_
  refine lv_iconst (v := nI 2) C.1 C.2.1 d_Sp_slope_37 rfl ?_
  refine lv_iadd C.1 C.2.1 d_Sp_slope_38 ?_
  refine gm_eqi (nI_add _ _) ?_
  refine ga_l C hh hs.2.1 (k := (4 * i) + 2) rfl (by omega) (by omega) d_Sp_slope_39 ?_
  refine lv_lmul C.1 C.2.1 d_Sp_slope_40 ?_
  refine lv_ladd C.1 C.2.1 d_Sp_slope_41 ?_
  exact gr_l C hlk hret hh (by exact ⟨rfl, rfl⟩) d_Sp_slope_42

set_option maxHeartbeats 4000000 in
set_option maxRecDepth 100000 in
theorem c_Sp_lineAcross (l : Launch) (D : va_G) (cs : Nat → ClassId) (sh : gm_H) (sz : Nat) (I : gm_I) (J : gm_J) (q : Nat) (hs : is_Sp sh q) (ln : Nat) (eln : I q 1 = nI ln) (hln : ln ≤ 3) (a b c : Int32) : CI l y_Sp_lineAcross w_Sp_lineAcross { frames := 1, cells := 0, slots := 0, locals := 25 } D cs sh sz I J [.ref q, .int a, .int b, .int c] (fun x u => u = (I, J) ∧ ((x = -1 ∧ ∀ j, j < ln → slo J q j a b c = 0) ∨ ∃ i, i < ln ∧ x = nI i ∧ ¬ slo J q i a b c = 0 ∧ ∀ j, j < i → slo J q j a b c = 0)) := by
  refine gm_start (by decide) (Nat.le_of_ble_eq_true rfl) ?_
  intro p' e' s' m' be' me' co' ls C hml hlk hret hh hl
  have hl : lv_has ls 5 [(0, .ref q), (1, .int a), (2, .int b), (3, .int c)] := hl
  have tL_0 : I q 1 = nI ln := eln
  refine lv_iconst (v := nI 0) C.1 C.2.1 d_Sp_lineAcross_0 rfl ?_
  refine lv_istore (lv' := [(4, .int (nI 0)), (0, .ref q), (1, .int a), (2, .int b), (3, .int c)]) C.1 C.2.1 d_Sp_lineAcross_1 hl (by decide) rfl (fun ls hl => ?_)
  have K3 : ∀ (n_3 : Nat) (k : Nat) (hk : k ≤ ln) (hz : ∀ j, j < k → slo J q j a b c = 0) (hm_3 : ln - k < n_3), ∀ (H : Heap) (locs : List Loc) (ls : Array Slot), gm_St D cs sh (gm_A sh) s'.heap sz I J H locs → lv_has ls 5 [(0, .ref q), (1, .int a), (2, .int b), (3, .int c), (4, .int (nI k))] → W p' l e' { frames := 1, cells := 0, slots := 0, locals := 25 } s' m' ([.ref q, .int a, .int b, .int c] : List Value).toArray be' me' co' H locs 0 0 (MQ be' (va_Qi (fun x u => u = (I, J) ∧ ((x = -1 ∧ ∀ j, j < ln → slo J q j a b c = 0) ∨ ∃ i, i < ln ∧ x = nI i ∧ ¬ slo J q i a b c = 0 ∧ ∀ j, j < i → slo J q j a b c = 0)) (gm_B D cs sh sz) (gm_A sh)) ([.ref q, .int a, .int b, .int c] : List Value).toArray s' 0 0 (gm_A sh)) (F0 m' 3 ls []) := by
    intro n_3
    induction n_3 with
    | zero => intro k hk hz hm_3; exact absurd hm_3 (Nat.not_lt_zero _)
    | succ n_3 ih3 =>
      intro k hk hz hm_3 H locs ls hh hl
      refine lv_iload C.1 C.2.1 d_Sp_lineAcross_3 (lv_at hl 4 rfl) ?_
      refine lv_aload_n C.1 C.2.1 d_Sp_lineAcross_5 rfl (lv_at hl 0 rfl) ?_
      refine gg_i C hh hs.1 rfl in_Sp 1 (by decide) rfl tw_186 rfl d_Sp_lineAcross_6 ?_
      refine gm_eqi tL_0 ?_
      refine lv_icmp_ge (tgt := 35) C.1 C.2.1 d_Sp_lineAcross_9 (by decide) (fun c_1 => ?_) (fun c_1 => ?_)
      · -- 9 -> 35
        have c_1 := gm_get (by omega) (by omega) c_1
        have c_1' := Nat.not_lt.mpr c_1
        refine lv_iconst (v := (-1)) C.1 C.2.1 d_Sp_lineAcross_35 rfl ?_
        exact gr_i C hlk hret rfl hh (by exact ⟨rfl, Or.inl ⟨rfl, fun j hj => hz j (by omega)⟩⟩) d_Sp_lineAcross_36
      · -- 9 -> 12
        have c_1 := gm_gef (by omega) (by omega) c_1
        have c_1' := Nat.not_le.mpr c_1
        refine lv_aload_n C.1 C.2.1 d_Sp_lineAcross_12 rfl (lv_at hl 0 rfl) ?_
        refine lv_iload C.1 C.2.1 d_Sp_lineAcross_13 (lv_at hl 4 rfl) ?_
        refine lv_iload_n C.1 C.2.1 d_Sp_lineAcross_15 rfl (lv_at hl 1 rfl) ?_
        refine lv_iload_n C.1 C.2.1 d_Sp_lineAcross_16 rfl (lv_at hl 2 rfl) ?_
        refine lv_iload_n C.1 C.2.1 d_Sp_lineAcross_17 rfl (lv_at hl 3 rfl) ?_
        refine gc_l hh (gc_runV (As := [.int (nI k), .int a, .int b, .int c]) (rest := []) (n := 4) C hml hh (c_Sp_slope l D cs sh sz I J q hs k (by omega) a b c) (tg_V tw_346 tw_348 tw_8 tw_63 tw_349) (by decide +kernel) ⟨rfl, rfl, by decide, by decide, Nat.zero_le _, Nat.zero_le _⟩ hs.1 rfl rfl hl.1 rfl (Nat.le_of_ble_eq_true rfl) d_Sp_lineAcross_18) (fun r_2 I_3 J_4 H locs hr_2 hh => ?_)
        obtain ⟨e_r_2, hr_2⟩ := hr_2
        rw [(Prod.mk.inj e_r_2).1, (Prod.mk.inj e_r_2).2] at hh
        refine lv_lconst (v := 0) C.1 C.2.1 d_Sp_lineAcross_21 rfl ?_
        refine W.lcmp C.1 C.2.1 d_Sp_lineAcross_22 ?_
        refine lv_if_eq (tgt := 29) C.1 C.2.1 d_Sp_lineAcross_23 (by decide) (fun c_5 => ?_) (fun c_5 => ?_)
        · -- 23 -> 29
          have c_5 := gm_leqt c_5
          refine lv_iinc (v := nI (k + 1)) (lv' := [(4, .int (nI (k + 1))), (0, .ref q), (1, .int a), (2, .int b), (3, .int c)]) C.1 C.2.1 d_Sp_lineAcross_29 hl (k := 4) rfl (gm_inc k 1) (by decide) rfl (fun ls hl => ?_)
          refine lv_goto (tgt := 3) C.1 C.2.1 d_Sp_lineAcross_32 (by decide) ?_
          exact ih3 (k + 1) (by omega) (by subst hr_2; exact all_succ hz (by assumption)) (by omega) _ _ _ hh (lv_sub hl [1, 2, 3, 4, 0] rfl)
        · -- 23 -> 26
          have c_5 := gm_leqf c_5
          refine lv_iload C.1 C.2.1 d_Sp_lineAcross_26 (lv_at hl 4 rfl) ?_
          exact gr_i C hlk hret rfl hh (by subst hr_2; exact ⟨rfl, Or.inr ⟨k, by omega, rfl, by assumption, hz⟩⟩) d_Sp_lineAcross_28
  exact K3 _ 0 (by omega) (by intro j hj; omega) (Nat.lt_succ_self _) _ _ _ hh (lv_sub hl [1, 2, 3, 4, 0] rfl)

set_option maxHeartbeats 4000000 in
set_option maxRecDepth 100000 in
theorem c_Sp_hasNothing (l : Launch) (D : va_G) (cs : Nat → ClassId) (sh : gm_H) (sz : Nat) (I : gm_I) (J : gm_J) (q : Nat) (hs : is_Sp sh q) (n : Nat) (en : I q 3 = nI n) (hn32 : n ≤ 32)  : CI l y_Sp_hasNothing w_Sp_hasNothing { frames := 0, cells := 0, slots := 0, locals := 0 } D cs sh sz I J [.ref q] (fun x u => u = (I, J) ∧ x = bI (decide (n = 0))) := by
  refine gm_start (by decide) (Nat.le_of_ble_eq_true rfl) ?_
  intro p' e' s' m' be' me' co' ls C hml hlk hret hh hl
  have hl : lv_has ls 1 [(0, .ref q)] := hl
  have tN_0 : I q 3 = nI n := en
  refine lv_aload_n C.1 C.2.1 d_Sp_hasNothing_0 rfl (lv_at hl 0 rfl) ?_
  refine gg_i C hh hs.1 rfl in_Sp 3 (by decide) rfl tw_188 rfl d_Sp_hasNothing_1 ?_
  refine gm_eqi tN_0 ?_
  refine lv_if_ne (tgt := 11) C.1 C.2.1 d_Sp_hasNothing_4 (by decide) (fun c_1 => ?_) (fun c_1 => ?_)
  · -- 4 -> 11
    have c_1 := gm_net (b := 0) (by omega) (by omega) c_1
    refine lv_iconst (v := nI 0) C.1 C.2.1 d_Sp_hasNothing_11 rfl ?_
    exact gr_i C hlk hret (gm_nb (Or.inl rfl)) hh (by refine ⟨rfl, ?_⟩; simp [bI, nI_0, nI_one, *]) d_Sp_hasNothing_12
  · -- 4 -> 7
    have c_1 := gm_nef (b := 0) (by omega) (by omega) c_1
    refine lv_iconst (v := nI 1) C.1 C.2.1 d_Sp_hasNothing_7 rfl ?_
    refine lv_goto (tgt := 12) C.1 C.2.1 d_Sp_hasNothing_8 (by decide) ?_
    exact gr_i C hlk hret (gm_nb (Or.inr rfl)) hh (by refine ⟨rfl, ?_⟩; simp [bI, nI_0, nI_one, *]) d_Sp_hasNothing_12

set_option maxHeartbeats 4000000 in
set_option maxRecDepth 100000 in
theorem c_Sp_implies (l : Launch) (D : va_G) (cs : Nat → ClassId) (sh : gm_H) (sz : Nat) (I : gm_I) (J : gm_J) (q : Nat) (hs : is_Sp sh q) (ln : Nat) (eln : I q 1 = nI ln) (hln : ln ≤ 3) (n : Nat) (en : I q 3 = nI n) (hn32 : n ≤ 32) (a b c d : Int32) : CI l y_Sp_implies w_Sp_implies { frames := 0, cells := 0, slots := 0, locals := 0 } D cs sh sz I J [.ref q, .int a, .int b, .int c, .int d] (fun x u => u = (I, J) ∧ ∃ z : Bool, x = bI z ∧ (z = true ↔ impP J q ln n a b c d)) := by
  refine gm_start (by decide) (Nat.le_of_ble_eq_true rfl) ?_
  intro p' e' s' m' be' me' co' ls C hml hlk hret hh hl
  have hl : lv_has ls 6 [(0, .ref q), (1, .int a), (2, .int b), (3, .int c), (4, .int d)] := hl
  have tL_0 : I q 1 = nI ln := eln
  have tN_0 : I q 3 = nI n := en
  refine lv_iconst (v := nI 0) C.1 C.2.1 d_Sp_implies_0 rfl ?_
  refine lv_istore (lv' := [(5, .int (nI 0)), (0, .ref q), (1, .int a), (2, .int b), (3, .int c), (4, .int d)]) C.1 C.2.1 d_Sp_implies_1 hl (by decide) rfl (fun ls hl => ?_)
  have K3 : ∀ (n_3 : Nat) (k : Nat) (hk : k ≤ ln) (hz : ∀ j, j < k → slo J q j a b c = 0) (hm_3 : ln - k < n_3), ∀ (H : Heap) (locs : List Loc) (ls : Array Slot), gm_St D cs sh (gm_A sh) s'.heap sz I J H locs → lv_has ls 6 [(0, .ref q), (1, .int a), (2, .int b), (3, .int c), (4, .int d), (5, .int (nI (4 * k)))] → W p' l e' { frames := 0, cells := 0, slots := 0, locals := 0 } s' m' ([.ref q, .int a, .int b, .int c, .int d] : List Value).toArray be' me' co' H locs 0 0 (MQ be' (va_Qi (fun x u => u = (I, J) ∧ ∃ z : Bool, x = bI z ∧ (z = true ↔ impP J q ln n a b c d)) (gm_B D cs sh sz) (gm_A sh)) ([.ref q, .int a, .int b, .int c, .int d] : List Value).toArray s' 0 0 (gm_A sh)) (F0 m' 3 ls []) := by
    intro n_3
    induction n_3 with
    | zero => intro k hk hz hm_3; exact absurd hm_3 (Nat.not_lt_zero _)
    | succ n_3 ih3 =>
      intro k hk hz hm_3 H locs ls hh hl
      refine lv_iload C.1 C.2.1 d_Sp_implies_3 (lv_at hl 5 rfl) ?_
      refine lv_iconst (v := nI 4) C.1 C.2.1 d_Sp_implies_5 rfl ?_
      refine lv_aload_n C.1 C.2.1 d_Sp_implies_6 rfl (lv_at hl 0 rfl) ?_
      refine gg_i C hh hs.1 rfl in_Sp 1 (by decide) rfl tw_186 rfl d_Sp_implies_7 ?_
      refine gm_eqi tL_0 ?_
      refine lv_imul C.1 C.2.1 d_Sp_implies_10 ?_
      refine gm_eqi (pk_mul _ _) ?_
      refine lv_icmp_ge (tgt := 63) C.1 C.2.1 d_Sp_implies_11 (by decide) (fun c_1 => ?_) (fun c_1 => ?_)
      · -- 11 -> 63
        have c_1 := gm_get (by omega) (by omega) c_1
        have c_1' := Nat.not_lt.mpr c_1
        refine lv_iconst (v := nI 0) C.1 C.2.1 d_Sp_implies_63 rfl ?_
        refine lv_istore (lv' := [(5, .int (nI 0)), (0, .ref q), (1, .int a), (2, .int b), (3, .int c), (4, .int d)]) C.1 C.2.1 d_Sp_implies_64 hl (by decide) rfl (fun ls hl => ?_)
        have K66 : ∀ (n_66 : Nat) (i : Nat) (hi : i ≤ n) (hw : ∀ j, j < ln → slo J q j a b c = 0) (hy : ∀ j, j < i → rayH J q j a b c d) (hm_66 : n - i < n_66), ∀ (H : Heap) (locs : List Loc) (ls : Array Slot), gm_St D cs sh (gm_A sh) s'.heap sz I J H locs → lv_has ls 6 [(0, .ref q), (1, .int a), (2, .int b), (3, .int c), (4, .int d), (5, .int (nI (4 * i)))] → W p' l e' { frames := 0, cells := 0, slots := 0, locals := 0 } s' m' ([.ref q, .int a, .int b, .int c, .int d] : List Value).toArray be' me' co' H locs 0 0 (MQ be' (va_Qi (fun x u => u = (I, J) ∧ ∃ z : Bool, x = bI z ∧ (z = true ↔ impP J q ln n a b c d)) (gm_B D cs sh sz) (gm_A sh)) ([.ref q, .int a, .int b, .int c, .int d] : List Value).toArray s' 0 0 (gm_A sh)) (F0 m' 66 ls []) := by
          intro n_66
          induction n_66 with
          | zero => intro i hi hw hy hm_66; exact absurd hm_66 (Nat.not_lt_zero _)
          | succ n_66 ih66 =>
            intro i hi hw hy hm_66 H locs ls hh hl
            refine lv_iload C.1 C.2.1 d_Sp_implies_66 (lv_at hl 5 rfl) ?_
            refine lv_iconst (v := nI 4) C.1 C.2.1 d_Sp_implies_68 rfl ?_
            refine lv_aload_n C.1 C.2.1 d_Sp_implies_69 rfl (lv_at hl 0 rfl) ?_
            refine gg_i C hh hs.1 rfl in_Sp 3 (by decide) rfl tw_188 rfl d_Sp_implies_70 ?_
            refine gm_eqi tN_0 ?_
            refine lv_imul C.1 C.2.1 d_Sp_implies_73 ?_
            refine gm_eqi (pk_mul _ _) ?_
            refine lv_icmp_ge (tgt := 138) C.1 C.2.1 d_Sp_implies_74 (by decide) (fun c_2 => ?_) (fun c_2 => ?_)
            · -- 74 -> 138
              have c_2 := gm_get (by omega) (by omega) c_2
              have c_2' := Nat.not_lt.mpr c_2
              refine lv_iconst (v := nI 1) C.1 C.2.1 d_Sp_implies_138 rfl ?_
              exact gr_i C hlk hret (gm_nb (Or.inr rfl)) hh (by exact ⟨rfl, true, rfl, fun _ => ⟨hw, fun j hj => hy j (by omega)⟩, fun _ => rfl⟩) d_Sp_implies_139
            · -- 74 -> 77
              have c_2 := gm_gef (by omega) (by omega) c_2
              have c_2' := Nat.not_le.mpr c_2
              refine lv_iload_n C.1 C.2.1 d_Sp_implies_77 rfl (lv_at hl 1 rfl) ?_
              refine lv_i2l (v := a.toInt64) C.1 C.2.1 d_Sp_implies_78 rfl ?_
              refine lv_aload_n C.1 C.2.1 d_Sp_implies_79 rfl (lv_at hl 0 rfl) ?_
              refine gg_r C hh hs.1 rfl in_Sp 2 (by decide) rfl tw_187 rfl d_Sp_implies_80 ?_
              refine lv_iload C.1 C.2.1 d_Sp_implies_83 (lv_at hl 5 rfl) ?_
              refine ga_l C hh hs.2.2.1 (k := 4 * i) rfl (by omega) (by omega) d_Sp_implies_85 ?_
              refine lv_lmul C.1 C.2.1 d_Sp_implies_86 ?_
              refine lv_iload_n C.1 C.2.1 d_Sp_implies_87 rfl (lv_at hl 2 rfl) ?_
              refine lv_i2l (v := b.toInt64) C.1 C.2.1 d_Sp_implies_88 rfl ?_
              refine lv_aload_n C.1 C.2.1 d_Sp_implies_89 rfl (lv_at hl 0 rfl) ?_
              refine gg_r C hh hs.1 rfl in_Sp 2 (by decide) rfl tw_187 rfl d_Sp_implies_90 ?_
              refine lv_iload C.1 C.2.1 d_Sp_implies_93 (lv_at hl 5 rfl) ?_
              refine lv_iconst (v := nI 1) C.1 C.2.1 d_Sp_implies_95 rfl ?_
              refine lv_iadd C.1 C.2.1 d_Sp_implies_96 ?_
              refine gm_eqi (nI_add _ _) ?_
              refine ga_l C hh hs.2.2.1 (k := (4 * i) + 1) rfl (by omega) (by omega) d_Sp_implies_97 ?_
              refine lv_lmul C.1 C.2.1 d_Sp_implies_98 ?_
              refine lv_ladd C.1 C.2.1 d_Sp_implies_99 ?_
              refine lv_iload_n C.1 C.2.1 d_Sp_implies_100 rfl (lv_at hl 3 rfl) ?_
              refine lv_i2l (v := c.toInt64) C.1 C.2.1 d_Sp_implies_101 rfl ?_
              refine lv_aload_n C.1 C.2.1 d_Sp_implies_102 rfl (lv_at hl 0 rfl) ?_
              refine gg_r C hh hs.1 rfl in_Sp 2 (by decide) rfl tw_187 rfl d_Sp_implies_103 ?_
              refine lv_iload C.1 C.2.1 d_Sp_implies_106 (lv_at hl 5 rfl) ?_
              refine lv_iconst (v := nI 2) C.1 C.2.1 d_Sp_implies_108 rfl ?_
              refine lv_iadd C.1 C.2.1 d_Sp_implies_109 ?_
              refine gm_eqi (nI_add _ _) ?_
              refine ga_l C hh hs.2.2.1 (k := (4 * i) + 2) rfl (by omega) (by omega) d_Sp_implies_110 ?_
              refine lv_lmul C.1 C.2.1 d_Sp_implies_111 ?_
              refine lv_ladd C.1 C.2.1 d_Sp_implies_112 ?_
              refine lv_iload C.1 C.2.1 d_Sp_implies_113 (lv_at hl 4 rfl) ?_
              refine lv_i2l (v := d.toInt64) C.1 C.2.1 d_Sp_implies_115 rfl ?_
              refine lv_aload_n C.1 C.2.1 d_Sp_implies_116 rfl (lv_at hl 0 rfl) ?_
              refine gg_r C hh hs.1 rfl in_Sp 2 (by decide) rfl tw_187 rfl d_Sp_implies_117 ?_
              refine lv_iload C.1 C.2.1 d_Sp_implies_120 (lv_at hl 5 rfl) ?_
              refine lv_iconst (v := nI 3) C.1 C.2.1 d_Sp_implies_122 rfl ?_
              refine lv_iadd C.1 C.2.1 d_Sp_implies_123 ?_
              refine gm_eqi (nI_add _ _) ?_
              refine ga_l C hh hs.2.2.1 (k := (4 * i) + 3) rfl (by omega) (by omega) d_Sp_implies_124 ?_
              refine lv_lmul C.1 C.2.1 d_Sp_implies_125 ?_
              refine W.lcmp C.1 C.2.1 d_Sp_implies_126 ?_
              refine lv_if_ge (tgt := 132) C.1 C.2.1 d_Sp_implies_127 (by decide) (fun c_3 => ?_) (fun c_3 => ?_)
              · -- 127 -> 132
                have c_3 := gm_lget c_3
                refine lv_iinc (v := nI (4 * i + 4)) (lv' := [(5, .int (nI (4 * i + 4))), (0, .ref q), (1, .int a), (2, .int b), (3, .int c), (4, .int d)]) C.1 C.2.1 d_Sp_implies_132 hl (k := 5) rfl (gm_inc (4 * i) 4) (by decide) rfl (fun ls hl => ?_)
                refine lv_goto (tgt := 66) C.1 C.2.1 d_Sp_implies_135 (by decide) ?_
                exact ih66 (i + 1) (by omega) (by exact hw) (by exact all_succ hy (Int64.not_lt.mpr (by assumption))) (by omega) _ _ _ hh (lv_sub hl [1, 2, 3, 4, 5, 0] rfl)
              · -- 127 -> 130
                have c_3 := gm_lgef c_3
                refine lv_iconst (v := nI 0) C.1 C.2.1 d_Sp_implies_130 rfl ?_
                exact gr_i C hlk hret (gm_nb (Or.inl rfl)) hh (by exact ⟨rfl, false, rfl, fun h => absurd h (by decide), fun h => absurd (by assumption) (h.2 i (by omega))⟩) d_Sp_implies_131
        exact K66 _ 0 (by omega) (by intro j hj; exact hz j (by omega)) (by intro j hj; omega) (Nat.lt_succ_self _) _ _ _ hh (lv_sub hl [1, 2, 3, 4, 5, 0] rfl)
      · -- 11 -> 14
        have c_1 := gm_gef (by omega) (by omega) c_1
        have c_1' := Nat.not_le.mpr c_1
        refine lv_iload_n C.1 C.2.1 d_Sp_implies_14 rfl (lv_at hl 1 rfl) ?_
        refine lv_i2l (v := a.toInt64) C.1 C.2.1 d_Sp_implies_15 rfl ?_
        refine lv_aload_n C.1 C.2.1 d_Sp_implies_16 rfl (lv_at hl 0 rfl) ?_
        refine gg_r C hh hs.1 rfl in_Sp 0 (by decide) rfl tw_185 rfl d_Sp_implies_17 ?_
        refine lv_iload C.1 C.2.1 d_Sp_implies_20 (lv_at hl 5 rfl) ?_
        refine ga_l C hh hs.2.1 (k := 4 * k) rfl (by omega) (by omega) d_Sp_implies_22 ?_
        refine lv_lmul C.1 C.2.1 d_Sp_implies_23 ?_
        refine lv_iload_n C.1 C.2.1 d_Sp_implies_24 rfl (lv_at hl 2 rfl) ?_
        refine lv_i2l (v := b.toInt64) C.1 C.2.1 d_Sp_implies_25 rfl ?_
        refine lv_aload_n C.1 C.2.1 d_Sp_implies_26 rfl (lv_at hl 0 rfl) ?_
        refine gg_r C hh hs.1 rfl in_Sp 0 (by decide) rfl tw_185 rfl d_Sp_implies_27 ?_
        refine lv_iload C.1 C.2.1 d_Sp_implies_30 (lv_at hl 5 rfl) ?_
        refine lv_iconst (v := nI 1) C.1 C.2.1 d_Sp_implies_32 rfl ?_
        refine lv_iadd C.1 C.2.1 d_Sp_implies_33 ?_
        refine gm_eqi (nI_add _ _) ?_
        refine ga_l C hh hs.2.1 (k := (4 * k) + 1) rfl (by omega) (by omega) d_Sp_implies_34 ?_
        refine lv_lmul C.1 C.2.1 d_Sp_implies_35 ?_
        refine lv_ladd C.1 C.2.1 d_Sp_implies_36 ?_
        refine lv_iload_n C.1 C.2.1 d_Sp_implies_37 rfl (lv_at hl 3 rfl) ?_
        refine lv_i2l (v := c.toInt64) C.1 C.2.1 d_Sp_implies_38 rfl ?_
        refine lv_aload_n C.1 C.2.1 d_Sp_implies_39 rfl (lv_at hl 0 rfl) ?_
        refine gg_r C hh hs.1 rfl in_Sp 0 (by decide) rfl tw_185 rfl d_Sp_implies_40 ?_
        refine lv_iload C.1 C.2.1 d_Sp_implies_43 (lv_at hl 5 rfl) ?_
        refine lv_iconst (v := nI 2) C.1 C.2.1 d_Sp_implies_45 rfl ?_
        refine lv_iadd C.1 C.2.1 d_Sp_implies_46 ?_
        refine gm_eqi (nI_add _ _) ?_
        refine ga_l C hh hs.2.1 (k := (4 * k) + 2) rfl (by omega) (by omega) d_Sp_implies_47 ?_
        refine lv_lmul C.1 C.2.1 d_Sp_implies_48 ?_
        refine lv_ladd C.1 C.2.1 d_Sp_implies_49 ?_
        refine lv_lconst (v := 0) C.1 C.2.1 d_Sp_implies_50 rfl ?_
        refine W.lcmp C.1 C.2.1 d_Sp_implies_51 ?_
        refine lv_if_eq (tgt := 57) C.1 C.2.1 d_Sp_implies_52 (by decide) (fun c_4 => ?_) (fun c_4 => ?_)
        · -- 52 -> 57
          have c_4 := gm_leqt c_4
          refine lv_iinc (v := nI (4 * k + 4)) (lv' := [(5, .int (nI (4 * k + 4))), (0, .ref q), (1, .int a), (2, .int b), (3, .int c), (4, .int d)]) C.1 C.2.1 d_Sp_implies_57 hl (k := 5) rfl (gm_inc (4 * k) 4) (by decide) rfl (fun ls hl => ?_)
          refine lv_goto (tgt := 3) C.1 C.2.1 d_Sp_implies_60 (by decide) ?_
          exact ih3 (k + 1) (by omega) (by exact all_succ hz (by assumption)) (by omega) _ _ _ hh (lv_sub hl [1, 2, 3, 4, 5, 0] rfl)
        · -- 52 -> 55
          have c_4 := gm_leqf c_4
          refine lv_iconst (v := nI 0) C.1 C.2.1 d_Sp_implies_55 rfl ?_
          exact gr_i C hlk hret (gm_nb (Or.inl rfl)) hh (by exact ⟨rfl, false, rfl, fun h => absurd h (by decide), fun h => absurd (h.1 k (by omega)) (by assumption)⟩) d_Sp_implies_56
  exact K3 _ 0 (by omega) (by intro j hj; omega) (Nat.lt_succ_self _) _ _ _ hh (lv_sub hl [1, 2, 3, 4, 5, 0] rfl)

set_option maxHeartbeats 4000000 in
set_option maxRecDepth 100000 in
theorem c_Sp_bounds (l : Launch) (D : va_G) (cs : Nat → ClassId) (sh : gm_H) (sz : Nat) (I : gm_I) (J : gm_J) (q : Nat) (hs : is_Sp sh q) (ln : Nat) (eln : I q 1 = nI ln) (hln : ln ≤ 3) (n : Nat) (en : I q 3 = nI n) (hn32 : n ≤ 32) (a b c : Int32) : CI l y_Sp_bounds w_Sp_bounds { frames := 2, cells := 0, slots := 0, locals := 49 } D cs sh sz I J [.ref q, .int a, .int b, .int c] (fun x u => u = (I, J) ∧ ∃ z : Bool, x = bI z ∧ (z = true ↔ bndP J q ln n a b c)) := by
  refine gm_start (by decide) (Nat.le_of_ble_eq_true rfl) ?_
  intro p' e' s' m' be' me' co' ls C hml hlk hret hh hl
  have hl : lv_has ls 5 [(0, .ref q), (1, .int a), (2, .int b), (3, .int c)] := hl
  have tL_0 : I q 1 = nI ln := eln
  have tN_0 : I q 3 = nI n := en
  refine lv_aload_n C.1 C.2.1 d_Sp_bounds_0 rfl (lv_at hl 0 rfl) ?_
  refine lv_iload_n C.1 C.2.1 d_Sp_bounds_1 rfl (lv_at hl 1 rfl) ?_
  refine lv_iload_n C.1 C.2.1 d_Sp_bounds_2 rfl (lv_at hl 2 rfl) ?_
  refine lv_iload_n C.1 C.2.1 d_Sp_bounds_3 rfl (lv_at hl 3 rfl) ?_
  refine gc_i hh (gc_runV (As := [.int a, .int b, .int c]) (rest := []) (n := 3) C hml hh (c_Sp_lineAcross l D cs sh sz I J q hs ln tL_0 (by omega) a b c) (tg_V tw_342 tw_344 tw_7 tw_63 tw_345) (by decide +kernel) ⟨rfl, rfl, by decide, by decide, Nat.zero_le _, Nat.zero_le _⟩ hs.1 rfl rfl hl.1 rfl (Nat.le_of_ble_eq_true rfl) d_Sp_bounds_4) (fun r_1 I_2 J_3 H locs hr_1 hh => ?_)
  obtain ⟨e_r_1, hr_1⟩ := hr_1
  rw [(Prod.mk.inj e_r_1).1, (Prod.mk.inj e_r_1).2] at hh
  refine lv_if_lt (tgt := 12) C.1 C.2.1 d_Sp_bounds_7 (by decide) (fun c_4 => ?_) (fun c_4 => ?_)
  · -- 7 -> 12
    skip
    refine lv_iconst (v := nI 0) C.1 C.2.1 d_Sp_bounds_12 rfl ?_
    refine lv_istore (lv' := [(4, .int (nI 0)), (0, .ref q), (1, .int a), (2, .int b), (3, .int c)]) C.1 C.2.1 d_Sp_bounds_13 hl (by decide) rfl (fun ls hl => ?_)
    have K15 : ∀ (n_15 : Nat) (i : Nat) (hi : i ≤ n) (hw : ∀ j, j < ln → slo J q j a b c = 0) (hy : ∀ j, j < i → J (q + 2) (4 * j + 3) = 0 → ¬ wor J q j a b c (nI 0) < 0) (hm_15 : n - i < n_15), ∀ (H : Heap) (locs : List Loc) (ls : Array Slot), gm_St D cs sh (gm_A sh) s'.heap sz I J H locs → lv_has ls 5 [(0, .ref q), (1, .int a), (2, .int b), (3, .int c), (4, .int (nI i))] → W p' l e' { frames := 2, cells := 0, slots := 0, locals := 49 } s' m' ([.ref q, .int a, .int b, .int c] : List Value).toArray be' me' co' H locs 0 0 (MQ be' (va_Qi (fun x u => u = (I, J) ∧ ∃ z : Bool, x = bI z ∧ (z = true ↔ bndP J q ln n a b c)) (gm_B D cs sh sz) (gm_A sh)) ([.ref q, .int a, .int b, .int c] : List Value).toArray s' 0 0 (gm_A sh)) (F0 m' 15 ls []) := by
      intro n_15
      induction n_15 with
      | zero => intro i hi hw hy hm_15; exact absurd hm_15 (Nat.not_lt_zero _)
      | succ n_15 ih15 =>
        intro i hi hw hy hm_15 H locs ls hh hl
        refine lv_iload C.1 C.2.1 d_Sp_bounds_15 (lv_at hl 4 rfl) ?_
        refine lv_aload_n C.1 C.2.1 d_Sp_bounds_17 rfl (lv_at hl 0 rfl) ?_
        refine gg_i C hh hs.1 rfl in_Sp 3 (by decide) rfl tw_188 rfl d_Sp_bounds_18 ?_
        refine gm_eqi tN_0 ?_
        refine lv_icmp_ge (tgt := 63) C.1 C.2.1 d_Sp_bounds_21 (by decide) (fun c_5 => ?_) (fun c_5 => ?_)
        · -- 21 -> 63
          have c_5 := gm_get (by omega) (by omega) c_5
          have c_5' := Nat.not_lt.mpr c_5
          refine lv_iconst (v := nI 1) C.1 C.2.1 d_Sp_bounds_63 rfl ?_
          exact gr_i C hlk hret (gm_nb (Or.inr rfl)) hh (by exact ⟨rfl, true, rfl, fun _ => ⟨hw, fun j hj => hy j (by omega)⟩, fun _ => rfl⟩) d_Sp_bounds_64
        · -- 21 -> 24
          have c_5 := gm_gef (by omega) (by omega) c_5
          have c_5' := Nat.not_le.mpr c_5
          refine lv_aload_n C.1 C.2.1 d_Sp_bounds_24 rfl (lv_at hl 0 rfl) ?_
          refine gg_r C hh hs.1 rfl in_Sp 2 (by decide) rfl tw_187 rfl d_Sp_bounds_25 ?_
          refine lv_iconst (v := nI 4) C.1 C.2.1 d_Sp_bounds_28 rfl ?_
          refine lv_iload C.1 C.2.1 d_Sp_bounds_29 (lv_at hl 4 rfl) ?_
          refine lv_imul C.1 C.2.1 d_Sp_bounds_31 ?_
          refine gm_eqi (pk_mul _ _) ?_
          refine lv_iconst (v := nI 3) C.1 C.2.1 d_Sp_bounds_32 rfl ?_
          refine lv_iadd C.1 C.2.1 d_Sp_bounds_33 ?_
          refine gm_eqi (nI_add _ _) ?_
          refine ga_l C hh hs.2.2.1 (k := (4 * i) + 3) rfl (by omega) (by omega) d_Sp_bounds_34 ?_
          refine lv_lconst (v := 0) C.1 C.2.1 d_Sp_bounds_35 rfl ?_
          refine W.lcmp C.1 C.2.1 d_Sp_bounds_36 ?_
          refine lv_if_ne (tgt := 57) C.1 C.2.1 d_Sp_bounds_37 (by decide) (fun c_6 => ?_) (fun c_6 => ?_)
          · -- 37 -> 57
            have c_6 := gm_lnet c_6
            refine lv_iinc (v := nI (i + 1)) (lv' := [(4, .int (nI (i + 1))), (0, .ref q), (1, .int a), (2, .int b), (3, .int c)]) C.1 C.2.1 d_Sp_bounds_57 hl (k := 4) rfl (gm_inc i 1) (by decide) rfl (fun ls hl => ?_)
            refine lv_goto (tgt := 15) C.1 C.2.1 d_Sp_bounds_60 (by decide) ?_
            exact ih15 (i + 1) (by omega) (by exact hw) (by skip; exact all_succ hy (by first | (intro h; exact absurd h (by assumption)) | (intro _; exact Int64.not_lt.mpr (by assumption)))) (by omega) _ _ _ hh (lv_sub hl [1, 2, 3, 4, 0] rfl)
          · -- 37 -> 40
            have c_6 := gm_lnef c_6
            refine lv_aload_n C.1 C.2.1 d_Sp_bounds_40 rfl (lv_at hl 0 rfl) ?_
            refine lv_iload C.1 C.2.1 d_Sp_bounds_41 (lv_at hl 4 rfl) ?_
            refine lv_iload_n C.1 C.2.1 d_Sp_bounds_43 rfl (lv_at hl 1 rfl) ?_
            refine lv_iload_n C.1 C.2.1 d_Sp_bounds_44 rfl (lv_at hl 2 rfl) ?_
            refine lv_iload_n C.1 C.2.1 d_Sp_bounds_45 rfl (lv_at hl 3 rfl) ?_
            refine lv_iconst (v := nI 0) C.1 C.2.1 d_Sp_bounds_46 rfl ?_
            refine gc_l hh (gc_runV (As := [.int (nI i), .int a, .int b, .int c, .int (nI 0)]) (rest := []) (n := 5) C hml hh (c_Sp_worth l D cs sh sz I J q hs i (by omega) a b c (nI 0)) (tg_V tw_362 tw_364 tw_11 tw_63 tw_365) (by decide +kernel) ⟨rfl, rfl, by decide, by decide, Nat.zero_le _, Nat.zero_le _⟩ hs.1 rfl rfl hl.1 rfl (Nat.le_of_ble_eq_true rfl) d_Sp_bounds_47) (fun r_7 I_8 J_9 H locs hr_7 hh => ?_)
            obtain ⟨e_r_7, hr_7⟩ := hr_7
            rw [(Prod.mk.inj e_r_7).1, (Prod.mk.inj e_r_7).2] at hh
            refine lv_lconst (v := 0) C.1 C.2.1 d_Sp_bounds_50 rfl ?_
            refine W.lcmp C.1 C.2.1 d_Sp_bounds_51 ?_
            refine lv_if_ge (tgt := 57) C.1 C.2.1 d_Sp_bounds_52 (by decide) (fun c_10 => ?_) (fun c_10 => ?_)
            · -- 52 -> 57
              have c_10 := gm_lget c_10
              refine lv_iinc (v := nI (i + 1)) (lv' := [(4, .int (nI (i + 1))), (0, .ref q), (1, .int a), (2, .int b), (3, .int c)]) C.1 C.2.1 d_Sp_bounds_57 hl (k := 4) rfl (gm_inc i 1) (by decide) rfl (fun ls hl => ?_)
              refine lv_goto (tgt := 15) C.1 C.2.1 d_Sp_bounds_60 (by decide) ?_
              exact ih15 (i + 1) (by omega) (by exact hw) (by subst hr_7; exact all_succ hy (by first | (intro h; exact absurd h (by assumption)) | (intro _; exact Int64.not_lt.mpr (by assumption)))) (by omega) _ _ _ hh (lv_sub hl [1, 2, 3, 4, 0] rfl)
            · -- 52 -> 55
              have c_10 := gm_lgef c_10
              refine lv_iconst (v := nI 0) C.1 C.2.1 d_Sp_bounds_55 rfl ?_
              exact gr_i C hlk hret (gm_nb (Or.inl rfl)) hh (by subst hr_7; exact ⟨rfl, false, rfl, fun h => absurd h (by decide), fun h => absurd (by assumption) (h.2 i (by omega) (by assumption))⟩) d_Sp_bounds_56
    exact K15 _ 0 (by omega) (by rcases hr_1 with ⟨_, h⟩ | ⟨i, _, e, _⟩; exact h; exfalso; rw [e] at c_4; exact nI_pos (by omega) c_4) (by intro j hj; omega) (Nat.lt_succ_self _) _ _ _ hh (lv_sub hl [1, 2, 3, 4, 0] rfl)
  · -- 7 -> 10
    skip
    refine lv_iconst (v := nI 0) C.1 C.2.1 d_Sp_bounds_10 rfl ?_
    exact gr_i C hlk hret (gm_nb (Or.inl rfl)) hh (by refine ⟨rfl, false, rfl, fun h => absurd h (by decide), fun h => ?_⟩; rcases hr_1 with ⟨e, _⟩ | ⟨i, hi, _, hn0, _⟩; exfalso; rw [e] at c_4; exact c_4 (by decide); exact absurd (h.1 i hi) hn0) d_Sp_bounds_11

set_option maxHeartbeats 4000000 in
set_option maxRecDepth 100000 in
theorem c_Sp_areNeighbours (l : Launch) (D : va_G) (cs : Nat → ClassId) (sh : gm_H) (sz : Nat) (I : gm_I) (J : gm_J) (q : Nat) (hs : is_Sp sh q) (i j n : Nat) (hi : i < 32) (hj : j < 32) (hn : n ≤ 32) : CI l y_Sp_areNeighbours w_Sp_areNeighbours { frames := 0, cells := 0, slots := 0, locals := 0 } D cs sh sz I J [.ref q, .int (nI i), .int (nI j), .int (nI n)] (fun x u => u = (I, J) ∧ ∃ z : Bool, x = bI z ∧ (z = true ↔ nbrP I q i j n)) := by
  refine gm_start (by decide) (Nat.le_of_ble_eq_true rfl) ?_
  intro p' e' s' m' be' me' co' ls C hml hlk hret hh hl
  have hl : lv_has ls 6 [(0, .ref q), (1, .int (nI i)), (2, .int (nI j)), (3, .int (nI n))] := hl
  refine lv_aload_n C.1 C.2.1 d_Sp_areNeighbours_0 rfl (lv_at hl 0 rfl) ?_
  refine gg_r C hh hs.1 rfl in_Sp 4 (by decide) rfl tw_189 rfl d_Sp_areNeighbours_1 ?_
  refine lv_iload_n C.1 C.2.1 d_Sp_areNeighbours_4 rfl (lv_at hl 1 rfl) ?_
  refine ga_i C hh hs.2.2.2.1 (k := i) rfl (by omega) (by omega) d_Sp_areNeighbours_5 ?_
  refine lv_aload_n C.1 C.2.1 d_Sp_areNeighbours_6 rfl (lv_at hl 0 rfl) ?_
  refine gg_r C hh hs.1 rfl in_Sp 4 (by decide) rfl tw_189 rfl d_Sp_areNeighbours_7 ?_
  refine lv_iload_n C.1 C.2.1 d_Sp_areNeighbours_10 rfl (lv_at hl 2 rfl) ?_
  refine ga_i C hh hs.2.2.2.1 (k := j) rfl (by omega) (by omega) d_Sp_areNeighbours_11 ?_
  refine lv_iand C.1 C.2.1 d_Sp_areNeighbours_12 ?_
  refine lv_topi (fun x_1 ex_1 => ?_)
  refine lv_istore (lv' := [(4, .int x_1), (0, .ref q), (1, .int (nI i)), (2, .int (nI j)), (3, .int (nI n))]) C.1 C.2.1 d_Sp_areNeighbours_13 hl (by decide) rfl (fun ls hl => ?_)
  refine lv_iconst (v := nI 0) C.1 C.2.1 d_Sp_areNeighbours_15 rfl ?_
  refine lv_istore (lv' := [(5, .int (nI 0)), (4, .int x_1), (0, .ref q), (1, .int (nI i)), (2, .int (nI j)), (3, .int (nI n))]) C.1 C.2.1 d_Sp_areNeighbours_16 hl (by decide) rfl (fun ls hl => ?_)
  have K18 : ∀ (n_18 : Nat) (k : Nat) (hk : k ≤ n) (hy : ∀ p, p < k → ¬ p = i → ¬ p = j → ¬ I (q + 3) p &&& (I (q + 3) i &&& I (q + 3) j) = (I (q + 3) i &&& I (q + 3) j)) (hm_18 : n - k < n_18), ∀ (H : Heap) (locs : List Loc) (ls : Array Slot), gm_St D cs sh (gm_A sh) s'.heap sz I J H locs → lv_has ls 6 [(0, .ref q), (1, .int (nI i)), (2, .int (nI j)), (3, .int (nI n)), (4, .int x_1), (5, .int (nI k))] → W p' l e' { frames := 0, cells := 0, slots := 0, locals := 0 } s' m' ([.ref q, .int (nI i), .int (nI j), .int (nI n)] : List Value).toArray be' me' co' H locs 0 0 (MQ be' (va_Qi (fun x u => u = (I, J) ∧ ∃ z : Bool, x = bI z ∧ (z = true ↔ nbrP I q i j n)) (gm_B D cs sh sz) (gm_A sh)) ([.ref q, .int (nI i), .int (nI j), .int (nI n)] : List Value).toArray s' 0 0 (gm_A sh)) (F0 m' 18 ls []) := by
    intro n_18
    induction n_18 with
    | zero => intro k hk hy hm_18; exact absurd hm_18 (Nat.not_lt_zero _)
    | succ n_18 ih18 =>
      intro k hk hy hm_18 H locs ls hh hl
      refine lv_iload C.1 C.2.1 d_Sp_areNeighbours_18 (lv_at hl 5 rfl) ?_
      refine lv_iload_n C.1 C.2.1 d_Sp_areNeighbours_20 rfl (lv_at hl 3 rfl) ?_
      refine lv_icmp_ge (tgt := 59) C.1 C.2.1 d_Sp_areNeighbours_21 (by decide) (fun c_2 => ?_) (fun c_2 => ?_)
      · -- 21 -> 59
        have c_2 := gm_get (by omega) (by omega) c_2
        have c_2' := Nat.not_lt.mpr c_2
        refine lv_iconst (v := nI 1) C.1 C.2.1 d_Sp_areNeighbours_59 rfl ?_
        exact gr_i C hlk hret (gm_nb (Or.inr rfl)) hh (by exact ⟨rfl, true, rfl, fun _ => fun k hk => hy k (by omega), fun _ => rfl⟩) d_Sp_areNeighbours_60
      · -- 21 -> 24
        have c_2 := gm_gef (by omega) (by omega) c_2
        have c_2' := Nat.not_le.mpr c_2
        refine lv_iload C.1 C.2.1 d_Sp_areNeighbours_24 (lv_at hl 5 rfl) ?_
        refine lv_iload_n C.1 C.2.1 d_Sp_areNeighbours_26 rfl (lv_at hl 1 rfl) ?_
        refine lv_icmp_eq (tgt := 53) C.1 C.2.1 d_Sp_areNeighbours_27 (by decide) (fun c_3 => ?_) (fun c_3 => ?_)
        · -- 27 -> 53
          have c_3 := gm_eqt (by omega) (by omega) c_3
          refine lv_iinc (v := nI (k + 1)) (lv' := [(5, .int (nI (k + 1))), (0, .ref q), (1, .int (nI i)), (2, .int (nI j)), (3, .int (nI n)), (4, .int x_1)]) C.1 C.2.1 d_Sp_areNeighbours_53 hl (k := 5) rfl (gm_inc k 1) (by decide) rfl (fun ls hl => ?_)
          refine lv_goto (tgt := 18) C.1 C.2.1 d_Sp_areNeighbours_56 (by decide) ?_
          exact ih18 (k + 1) (by omega) (by subst ex_1; exact all_succ hy (by first | (intro h; exact absurd (by assumption) h) | (intro _ h; exact absurd (by assumption) h) | (intro _ _; assumption))) (by omega) _ _ _ hh (lv_sub hl [1, 2, 3, 4, 5, 0] rfl)
        · -- 27 -> 30
          have c_3 := gm_eqf (by omega) (by omega) c_3
          refine lv_iload C.1 C.2.1 d_Sp_areNeighbours_30 (lv_at hl 5 rfl) ?_
          refine lv_iload_n C.1 C.2.1 d_Sp_areNeighbours_32 rfl (lv_at hl 2 rfl) ?_
          refine lv_icmp_eq (tgt := 53) C.1 C.2.1 d_Sp_areNeighbours_33 (by decide) (fun c_4 => ?_) (fun c_4 => ?_)
          · -- 33 -> 53
            have c_4 := gm_eqt (by omega) (by omega) c_4
            refine lv_iinc (v := nI (k + 1)) (lv' := [(5, .int (nI (k + 1))), (0, .ref q), (1, .int (nI i)), (2, .int (nI j)), (3, .int (nI n)), (4, .int x_1)]) C.1 C.2.1 d_Sp_areNeighbours_53 hl (k := 5) rfl (gm_inc k 1) (by decide) rfl (fun ls hl => ?_)
            refine lv_goto (tgt := 18) C.1 C.2.1 d_Sp_areNeighbours_56 (by decide) ?_
            exact ih18 (k + 1) (by omega) (by subst ex_1; exact all_succ hy (by first | (intro h; exact absurd (by assumption) h) | (intro _ h; exact absurd (by assumption) h) | (intro _ _; assumption))) (by omega) _ _ _ hh (lv_sub hl [1, 2, 3, 4, 5, 0] rfl)
          · -- 33 -> 36
            have c_4 := gm_eqf (by omega) (by omega) c_4
            refine lv_aload_n C.1 C.2.1 d_Sp_areNeighbours_36 rfl (lv_at hl 0 rfl) ?_
            refine gg_r C hh hs.1 rfl in_Sp 4 (by decide) rfl tw_189 rfl d_Sp_areNeighbours_37 ?_
            refine lv_iload C.1 C.2.1 d_Sp_areNeighbours_40 (lv_at hl 5 rfl) ?_
            refine ga_i C hh hs.2.2.2.1 (k := k) rfl (by omega) (by omega) d_Sp_areNeighbours_42 ?_
            refine lv_iload C.1 C.2.1 d_Sp_areNeighbours_43 (lv_at hl 4 rfl) ?_
            refine lv_iand C.1 C.2.1 d_Sp_areNeighbours_45 ?_
            refine lv_iload C.1 C.2.1 d_Sp_areNeighbours_46 (lv_at hl 4 rfl) ?_
            refine lv_icmp_ne (tgt := 53) C.1 C.2.1 d_Sp_areNeighbours_48 (by decide) (fun c_5 => ?_) (fun c_5 => ?_)
            · -- 48 -> 53
              skip
              refine lv_iinc (v := nI (k + 1)) (lv' := [(5, .int (nI (k + 1))), (0, .ref q), (1, .int (nI i)), (2, .int (nI j)), (3, .int (nI n)), (4, .int x_1)]) C.1 C.2.1 d_Sp_areNeighbours_53 hl (k := 5) rfl (gm_inc k 1) (by decide) rfl (fun ls hl => ?_)
              refine lv_goto (tgt := 18) C.1 C.2.1 d_Sp_areNeighbours_56 (by decide) ?_
              exact ih18 (k + 1) (by omega) (by subst ex_1; exact all_succ hy (by first | (intro h; exact absurd (by assumption) h) | (intro _ h; exact absurd (by assumption) h) | (intro _ _; assumption))) (by omega) _ _ _ hh (lv_sub hl [1, 2, 3, 4, 5, 0] rfl)
            · -- 48 -> 51
              skip
              refine lv_iconst (v := nI 0) C.1 C.2.1 d_Sp_areNeighbours_51 rfl ?_
              exact gr_i C hlk hret (gm_nb (Or.inl rfl)) hh (by subst ex_1; exact ⟨rfl, false, rfl, fun h => absurd h (by decide), fun h => absurd (by assumption) (h k (by omega) (by assumption) (by assumption))⟩) d_Sp_areNeighbours_52
  exact K18 _ 0 (by omega) (by intro j hj; omega) (Nat.lt_succ_self _) _ _ _ hh (lv_sub hl [2, 3, 4, 5, 1, 0] rfl)

set_option maxHeartbeats 4000000 in
set_option maxRecDepth 100000 in
theorem c_Sp_appendPivot (l : Launch) (D : va_G) (cs : Nat → ClassId) (sh : gm_H) (sz : Nat) (I : gm_I) (J : gm_J) (q : Nat) (hs : is_Sp sh q) (n : Nat) (en : I q 3 = nI n) (hn32 : n ≤ 32) (t : Int32) : CV l y_Sp_appendPivot w_Sp_appendPivot { frames := 0, cells := 0, slots := 0, locals := 0 } D cs sh sz I J [.ref q, .int t] (fun u => apP q n t I J u) := by
  refine gm_start (by decide) (Nat.le_of_ble_eq_true rfl) ?_
  intro p' e' s' m' be' me' co' ls C hml hlk hret hh hl
  have hl : lv_has ls 3 [(0, .ref q), (1, .int t)] := hl
  have tN_0 : I q 3 = nI n := en
  refine lv_aload_n C.1 C.2.1 d_Sp_appendPivot_0 rfl (lv_at hl 0 rfl) ?_
  refine gg_i C hh hs.1 rfl in_Sp 3 (by decide) rfl tw_188 rfl d_Sp_appendPivot_1 ?_
  refine gm_eqi tN_0 ?_
  refine lv_bipush (v := nI 32) C.1 C.2.1 d_Sp_appendPivot_4 rfl ?_
  refine lv_icmp_lt (tgt := 10) C.1 C.2.1 d_Sp_appendPivot_6 (by decide) (fun c_1 => ?_) (fun c_1 => ?_)
  · -- 6 -> 10
    have c_1 := gm_ltt (by omega) (by omega) c_1
    have c_1' := Nat.not_le.mpr c_1
    refine lv_iconst (v := nI 0) C.1 C.2.1 d_Sp_appendPivot_10 rfl ?_
    refine lv_istore_n (lv' := [(2, .int (nI 0)), (0, .ref q), (1, .int t)]) C.1 C.2.1 d_Sp_appendPivot_11 rfl hl (by decide) rfl (fun ls hl => ?_)
    refine lv_iload_n C.1 C.2.1 d_Sp_appendPivot_12 rfl (lv_at hl 0 rfl) ?_
    refine lv_iconst (v := nI 4) C.1 C.2.1 d_Sp_appendPivot_13 rfl ?_
    refine lv_icmp_ge (tgt := 42) C.1 C.2.1 d_Sp_appendPivot_14 (by decide) (fun c_ => absurd c_ (by decide)) (fun c_ => ?_)
    refine lv_aload_n C.1 C.2.1 d_Sp_appendPivot_17 rfl (lv_at hl 1 rfl) ?_
    refine gg_r C hh hs.1 rfl in_Sp 2 (by decide) rfl tw_187 rfl d_Sp_appendPivot_18 ?_
    refine lv_iconst (v := nI 4) C.1 C.2.1 d_Sp_appendPivot_21 rfl ?_
    refine lv_aload_n C.1 C.2.1 d_Sp_appendPivot_22 rfl (lv_at hl 1 rfl) ?_
    refine gg_i C hh hs.1 rfl in_Sp 3 (by decide) rfl tw_188 rfl d_Sp_appendPivot_23 ?_
    refine gm_eqi tN_0 ?_
    refine lv_imul C.1 C.2.1 d_Sp_appendPivot_26 ?_
    refine gm_eqi (pk_mul _ _) ?_
    refine lv_iload_n C.1 C.2.1 d_Sp_appendPivot_27 rfl (lv_at hl 0 rfl) ?_
    refine lv_iadd C.1 C.2.1 d_Sp_appendPivot_28 ?_
    refine gm_eqi (nI_add _ _) ?_
    refine lv_aload_n C.1 C.2.1 d_Sp_appendPivot_29 rfl (lv_at hl 1 rfl) ?_
    refine gg_r C hh hs.1 rfl in_Sp 6 (by decide) rfl tw_191 rfl d_Sp_appendPivot_30 ?_
    refine lv_iload_n C.1 C.2.1 d_Sp_appendPivot_33 rfl (lv_at hl 0 rfl) ?_
    refine ga_l C hh hs.2.2.2.2.2 (k := 0) rfl (by omega) (by omega) d_Sp_appendPivot_34 ?_
    refine gs_l C hh hs.2.2.1 (k := (4 * n) + 0) rfl (by omega) (by omega) d_Sp_appendPivot_35 (fun H locs hh => ?_)
    obtain ⟨J_2, eJ_2⟩ : ∃ z : gm_J, z = gm_up J (q + 2) ((4 * n) + 0) (J (q + 5) 0) := ⟨_, rfl⟩
    rw [← eJ_2] at hh
    refine lv_iinc (v := nI 1) (lv' := [(2, .int (nI 1)), (0, .ref q), (1, .int t)]) C.1 C.2.1 d_Sp_appendPivot_36 hl (k := 0) rfl (gm_inc 0 1) (by decide) rfl (fun ls hl => ?_)
    refine lv_goto (tgt := 12) C.1 C.2.1 d_Sp_appendPivot_39 (by decide) ?_
    refine lv_iload_n C.1 C.2.1 d_Sp_appendPivot_12 rfl (lv_at hl 0 rfl) ?_
    refine lv_iconst (v := nI 4) C.1 C.2.1 d_Sp_appendPivot_13 rfl ?_
    refine lv_icmp_ge (tgt := 42) C.1 C.2.1 d_Sp_appendPivot_14 (by decide) (fun c_ => absurd c_ (by decide)) (fun c_ => ?_)
    refine lv_aload_n C.1 C.2.1 d_Sp_appendPivot_17 rfl (lv_at hl 1 rfl) ?_
    refine gg_r C hh hs.1 rfl in_Sp 2 (by decide) rfl tw_187 rfl d_Sp_appendPivot_18 ?_
    refine lv_iconst (v := nI 4) C.1 C.2.1 d_Sp_appendPivot_21 rfl ?_
    refine lv_aload_n C.1 C.2.1 d_Sp_appendPivot_22 rfl (lv_at hl 1 rfl) ?_
    refine gg_i C hh hs.1 rfl in_Sp 3 (by decide) rfl tw_188 rfl d_Sp_appendPivot_23 ?_
    refine gm_eqi tN_0 ?_
    refine lv_imul C.1 C.2.1 d_Sp_appendPivot_26 ?_
    refine gm_eqi (pk_mul _ _) ?_
    refine lv_iload_n C.1 C.2.1 d_Sp_appendPivot_27 rfl (lv_at hl 0 rfl) ?_
    refine lv_iadd C.1 C.2.1 d_Sp_appendPivot_28 ?_
    refine gm_eqi (nI_add _ _) ?_
    refine lv_aload_n C.1 C.2.1 d_Sp_appendPivot_29 rfl (lv_at hl 1 rfl) ?_
    refine gg_r C hh hs.1 rfl in_Sp 6 (by decide) rfl tw_191 rfl d_Sp_appendPivot_30 ?_
    refine lv_iload_n C.1 C.2.1 d_Sp_appendPivot_33 rfl (lv_at hl 0 rfl) ?_
    refine ga_l C hh hs.2.2.2.2.2 (k := 1) rfl (by omega) (by omega) d_Sp_appendPivot_34 ?_
    refine gm_eql (y := J (q + 5) 1) (by rw [eJ_2, gm_up_ne _ _ (Or.inl (by omega))]) ?_
    refine gs_l C hh hs.2.2.1 (k := (4 * n) + 1) rfl (by omega) (by omega) d_Sp_appendPivot_35 (fun H locs hh => ?_)
    obtain ⟨J_3, eJ_3⟩ : ∃ z : gm_J, z = gm_up J_2 (q + 2) ((4 * n) + 1) (J (q + 5) 1) := ⟨_, rfl⟩
    rw [← eJ_3] at hh
    refine lv_iinc (v := nI 2) (lv' := [(2, .int (nI 2)), (0, .ref q), (1, .int t)]) C.1 C.2.1 d_Sp_appendPivot_36 hl (k := 0) rfl (gm_inc 1 1) (by decide) rfl (fun ls hl => ?_)
    refine lv_goto (tgt := 12) C.1 C.2.1 d_Sp_appendPivot_39 (by decide) ?_
    refine lv_iload_n C.1 C.2.1 d_Sp_appendPivot_12 rfl (lv_at hl 0 rfl) ?_
    refine lv_iconst (v := nI 4) C.1 C.2.1 d_Sp_appendPivot_13 rfl ?_
    refine lv_icmp_ge (tgt := 42) C.1 C.2.1 d_Sp_appendPivot_14 (by decide) (fun c_ => absurd c_ (by decide)) (fun c_ => ?_)
    refine lv_aload_n C.1 C.2.1 d_Sp_appendPivot_17 rfl (lv_at hl 1 rfl) ?_
    refine gg_r C hh hs.1 rfl in_Sp 2 (by decide) rfl tw_187 rfl d_Sp_appendPivot_18 ?_
    refine lv_iconst (v := nI 4) C.1 C.2.1 d_Sp_appendPivot_21 rfl ?_
    refine lv_aload_n C.1 C.2.1 d_Sp_appendPivot_22 rfl (lv_at hl 1 rfl) ?_
    refine gg_i C hh hs.1 rfl in_Sp 3 (by decide) rfl tw_188 rfl d_Sp_appendPivot_23 ?_
    refine gm_eqi tN_0 ?_
    refine lv_imul C.1 C.2.1 d_Sp_appendPivot_26 ?_
    refine gm_eqi (pk_mul _ _) ?_
    refine lv_iload_n C.1 C.2.1 d_Sp_appendPivot_27 rfl (lv_at hl 0 rfl) ?_
    refine lv_iadd C.1 C.2.1 d_Sp_appendPivot_28 ?_
    refine gm_eqi (nI_add _ _) ?_
    refine lv_aload_n C.1 C.2.1 d_Sp_appendPivot_29 rfl (lv_at hl 1 rfl) ?_
    refine gg_r C hh hs.1 rfl in_Sp 6 (by decide) rfl tw_191 rfl d_Sp_appendPivot_30 ?_
    refine lv_iload_n C.1 C.2.1 d_Sp_appendPivot_33 rfl (lv_at hl 0 rfl) ?_
    refine ga_l C hh hs.2.2.2.2.2 (k := 2) rfl (by omega) (by omega) d_Sp_appendPivot_34 ?_
    refine gm_eql (y := J (q + 5) 2) (by rw [eJ_3, gm_up_ne _ _ (Or.inl (by omega)), eJ_2, gm_up_ne _ _ (Or.inl (by omega))]) ?_
    refine gs_l C hh hs.2.2.1 (k := (4 * n) + 2) rfl (by omega) (by omega) d_Sp_appendPivot_35 (fun H locs hh => ?_)
    obtain ⟨J_4, eJ_4⟩ : ∃ z : gm_J, z = gm_up J_3 (q + 2) ((4 * n) + 2) (J (q + 5) 2) := ⟨_, rfl⟩
    rw [← eJ_4] at hh
    refine lv_iinc (v := nI 3) (lv' := [(2, .int (nI 3)), (0, .ref q), (1, .int t)]) C.1 C.2.1 d_Sp_appendPivot_36 hl (k := 0) rfl (gm_inc 2 1) (by decide) rfl (fun ls hl => ?_)
    refine lv_goto (tgt := 12) C.1 C.2.1 d_Sp_appendPivot_39 (by decide) ?_
    refine lv_iload_n C.1 C.2.1 d_Sp_appendPivot_12 rfl (lv_at hl 0 rfl) ?_
    refine lv_iconst (v := nI 4) C.1 C.2.1 d_Sp_appendPivot_13 rfl ?_
    refine lv_icmp_ge (tgt := 42) C.1 C.2.1 d_Sp_appendPivot_14 (by decide) (fun c_ => absurd c_ (by decide)) (fun c_ => ?_)
    refine lv_aload_n C.1 C.2.1 d_Sp_appendPivot_17 rfl (lv_at hl 1 rfl) ?_
    refine gg_r C hh hs.1 rfl in_Sp 2 (by decide) rfl tw_187 rfl d_Sp_appendPivot_18 ?_
    refine lv_iconst (v := nI 4) C.1 C.2.1 d_Sp_appendPivot_21 rfl ?_
    refine lv_aload_n C.1 C.2.1 d_Sp_appendPivot_22 rfl (lv_at hl 1 rfl) ?_
    refine gg_i C hh hs.1 rfl in_Sp 3 (by decide) rfl tw_188 rfl d_Sp_appendPivot_23 ?_
    refine gm_eqi tN_0 ?_
    refine lv_imul C.1 C.2.1 d_Sp_appendPivot_26 ?_
    refine gm_eqi (pk_mul _ _) ?_
    refine lv_iload_n C.1 C.2.1 d_Sp_appendPivot_27 rfl (lv_at hl 0 rfl) ?_
    refine lv_iadd C.1 C.2.1 d_Sp_appendPivot_28 ?_
    refine gm_eqi (nI_add _ _) ?_
    refine lv_aload_n C.1 C.2.1 d_Sp_appendPivot_29 rfl (lv_at hl 1 rfl) ?_
    refine gg_r C hh hs.1 rfl in_Sp 6 (by decide) rfl tw_191 rfl d_Sp_appendPivot_30 ?_
    refine lv_iload_n C.1 C.2.1 d_Sp_appendPivot_33 rfl (lv_at hl 0 rfl) ?_
    refine ga_l C hh hs.2.2.2.2.2 (k := 3) rfl (by omega) (by omega) d_Sp_appendPivot_34 ?_
    refine gm_eql (y := J (q + 5) 3) (by rw [eJ_4, gm_up_ne _ _ (Or.inl (by omega)), eJ_3, gm_up_ne _ _ (Or.inl (by omega)), eJ_2, gm_up_ne _ _ (Or.inl (by omega))]) ?_
    refine gs_l C hh hs.2.2.1 (k := (4 * n) + 3) rfl (by omega) (by omega) d_Sp_appendPivot_35 (fun H locs hh => ?_)
    obtain ⟨J_5, eJ_5⟩ : ∃ z : gm_J, z = gm_up J_4 (q + 2) ((4 * n) + 3) (J (q + 5) 3) := ⟨_, rfl⟩
    rw [← eJ_5] at hh
    refine lv_iinc (v := nI 4) (lv' := [(2, .int (nI 4)), (0, .ref q), (1, .int t)]) C.1 C.2.1 d_Sp_appendPivot_36 hl (k := 0) rfl (gm_inc 3 1) (by decide) rfl (fun ls hl => ?_)
    refine lv_goto (tgt := 12) C.1 C.2.1 d_Sp_appendPivot_39 (by decide) ?_
    refine lv_iload_n C.1 C.2.1 d_Sp_appendPivot_12 rfl (lv_at hl 0 rfl) ?_
    refine lv_iconst (v := nI 4) C.1 C.2.1 d_Sp_appendPivot_13 rfl ?_
    refine lv_icmp_ge (tgt := 42) C.1 C.2.1 d_Sp_appendPivot_14 (by decide) (fun c_ => ?_) (fun c_ => absurd (by decide) c_)
    refine lv_aload_n C.1 C.2.1 d_Sp_appendPivot_42 rfl (lv_at hl 1 rfl) ?_
    refine gg_r C hh hs.1 rfl in_Sp 4 (by decide) rfl tw_189 rfl d_Sp_appendPivot_43 ?_
    refine lv_aload_n C.1 C.2.1 d_Sp_appendPivot_46 rfl (lv_at hl 1 rfl) ?_
    refine gg_i C hh hs.1 rfl in_Sp 3 (by decide) rfl tw_188 rfl d_Sp_appendPivot_47 ?_
    refine gm_eqi tN_0 ?_
    refine lv_iload_n C.1 C.2.1 d_Sp_appendPivot_50 rfl (lv_at hl 2 rfl) ?_
    refine gs_i C hh hs.2.2.2.1 (k := n) rfl (by omega) (by omega) d_Sp_appendPivot_51 (fun H locs hh => ?_)
    obtain ⟨I_6, eI_6⟩ : ∃ z : gm_I, z = gm_up I (q + 3) n t := ⟨_, rfl⟩
    rw [← eI_6] at hh
    have tN_7 : I_6 q 3 = nI n := by rw [eI_6, gm_up_ne _ _ (by omega)]; exact tN_0
    refine lv_aload_n C.1 C.2.1 d_Sp_appendPivot_52 rfl (lv_at hl 1 rfl) ?_
    refine lv_dup C.1 C.2.1 d_Sp_appendPivot_53 rfl ?_
    refine gg_i C hh hs.1 rfl in_Sp 3 (by decide) rfl tw_188 rfl d_Sp_appendPivot_54 ?_
    refine gm_eqi (y := I q 3) (by rw [eI_6, gm_up_ne _ _ (Or.inl (by omega))]) ?_
    refine gm_eqi tN_0 ?_
    refine lv_iconst (v := nI 1) C.1 C.2.1 d_Sp_appendPivot_57 rfl ?_
    refine lv_iadd C.1 C.2.1 d_Sp_appendPivot_58 ?_
    refine gm_eqi (nI_add _ _) ?_
    refine gp_i (ty := .int) C hh hs.1 rfl in_Sp t_Sp t_Sp_ok n_Sp 3 (by decide) rfl tw_188 rfl rfl (by decide +kernel) rfl rfl d_Sp_appendPivot_59 (fun H locs hh => ?_)
    obtain ⟨I_8, eI_8⟩ : ∃ z : gm_I, z = gm_up I_6 q 3 (nI (n + 1)) := ⟨_, rfl⟩
    rw [← eI_8] at hh
    have tN_9 : I_8 q 3 = nI (n + 1) := by rw [eI_8]; exact gm_up_same _ _ _ _
    exact gr_v C hlk hret hh (by subst_vars; exact Or.inr ⟨by omega, rfl⟩) d_Sp_appendPivot_62
  · -- 6 -> 9
    have c_1 := gm_ltf (by omega) (by omega) c_1
    have c_1' := Nat.not_lt.mpr c_1
    exact gr_v C hlk hret hh (by exact Or.inl ⟨by omega, rfl⟩) d_Sp_appendPivot_9
