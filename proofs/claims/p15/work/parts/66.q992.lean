set_option maxHeartbeats 4000000 in
set_option maxRecDepth 100000 in
theorem c_FT_narrowSpacesQ (l : Launch) (D : va_G) (cs : Nat → ClassId) (sh : gm_H) (sz : Nat) (I : gm_I) (J : gm_J) (B : Nat) (hF : is_FT cs sh B) (hV : inv_FT I B) (j o : Nat) (hj : j < 8) (eo : o = B + 12 + 21 * j) (ho : is_Lp cs sh o) (m : Nat) (em : I o 3 = nI m) (hm3 : m ≤ 3) (A : List dd_V) (rs : Nat → List dd_V) (h4 : ∀ w, w < m → dd_e4 ∈ rs w) (h7 : ∀ w, w < m → (rs w).length ≤ 7) (hK : ∀ w, w < m → sp_K I J (B + 180 + 12 * w) A (rs w)) (a b c d : Int32) (hsm : dd_sm (rV a b c d)) (hab : rV a b c d ≠ dd_0) : CV l y_FT_narrowSpaces w_FT_narrowSpaces { frames := 4, cells := 0, slots := 0, locals := 111 } D cs sh sz I J [.ref B, .ref o, .int a, .int b, .int c, .int d] (fun u => sfF B I J u ∧ (∀ w, w < m → sp_K u.1 u.2 (B + 180 + 12 * w) A (rs w)) ∧ (∀ w, w < m → sp_K u.1 u.2 (B + 186 + 12 * w) A (rs w ++ [rV a b c d])) ∧ offR (B + 180) (B + 215) I u.1 J u.2) := by
  refine gm_start (by decide) (Nat.le_of_ble_eq_true rfl) ?_
  intro p' e' s' m' be' me' co' ls C hml hlk hret hh hl
  have hl : lv_has ls 7 [(0, .ref B), (1, .ref o), (2, .int a), (3, .int b), (4, .int c), (5, .int d)] := hl
  have tK_0 : keepF B I I J J := keepF.nil
  have tV_0 : inv_FT I B := hV
  have tO_0 : offR (B + 180) (B + 215) I I J J := offR.nil
  refine lv_iconst (v := nI 0) C.1 C.2.1 d_FT_narrowSpaces_0 rfl ?_
  refine lv_istore (lv' := [(6, .int (nI 0)), (0, .ref B), (1, .ref o), (2, .int a), (3, .int b), (4, .int c), (5, .int d)]) C.1 C.2.1 d_FT_narrowSpaces_1 hl (by decide) rfl (fun ls hl => ?_)
  have K3 : ∀ (n_3 : Nat) (k : Nat) (I3 : gm_I) (J3 : gm_J) (hk : k ≤ m) (hSk : ∀ w, w < m → sp_K I3 J3 (B + 180 + 12 * w) A (rs w)) (hNk : ∀ w, w < k → sp_K I3 J3 (B + 186 + 12 * w) A (rs w ++ [rV a b c d])) (tK3 : keepF B I I3 J J3) (tV3 : inv_FT I3 B) (tO3 : offR (B + 180) (B + 215) I I3 J J3) (hm_3 : m - k < n_3), ∀ (H : Heap) (locs : List Loc) (ls : Array Slot), gm_St D cs sh (gm_A sh) s'.heap sz I3 J3 H locs → lv_has ls 7 [(0, .ref B), (1, .ref o), (2, .int a), (3, .int b), (4, .int c), (5, .int d), (6, .int (nI k))] → W p' l e' { frames := 4, cells := 0, slots := 0, locals := 111 } s' m' ([.ref B, .ref o, .int a, .int b, .int c, .int d] : List Value).toArray be' me' co' H locs 0 0 (MQ be' (va_Qv (fun u => sfF B I J u ∧ (∀ w, w < m → sp_K u.1 u.2 (B + 180 + 12 * w) A (rs w)) ∧ (∀ w, w < m → sp_K u.1 u.2 (B + 186 + 12 * w) A (rs w ++ [rV a b c d])) ∧ offR (B + 180) (B + 215) I u.1 J u.2) (gm_B D cs sh sz) (gm_A sh)) ([.ref B, .ref o, .int a, .int b, .int c, .int d] : List Value).toArray s' 0 0 (gm_A sh)) (F0 m' 3 ls []) := by
    intro n_3
    induction n_3 with
    | zero => intro k I3 J3 hk hSk hNk tK3 tV3 tO3 hm_3; exact absurd hm_3 (Nat.not_lt_zero _)
    | succ n_3 ih3 =>
      intro k I3 J3 hk hSk hNk tK3 tV3 tO3 hm_3 H locs ls hh hl
      refine lv_iload C.1 C.2.1 d_FT_narrowSpaces_3 (lv_at hl 6 rfl) ?_
      refine lv_aload_n C.1 C.2.1 d_FT_narrowSpaces_5 rfl (lv_at hl 1 rfl) ?_
      refine gn_i C hh ho.1 rfl in_Lp 3 (by decide) rfl tw_163 rfl d_FT_narrowSpaces_6 ?_
      refine gm_eqi ((congrFun (tK3.1 o (by omega)).1 3).trans em) ?_
      refine lv_icmp_ge (tgt := 51) C.1 C.2.1 d_FT_narrowSpaces_9 (by decide) (fun c_1 => ?_) (fun c_1 => ?_)
      · -- 9 -> 51
        have c_1 := gm_get (by omega) (by omega) c_1
        have c_1' := Nat.not_lt.mpr c_1
        exact gr_v C hlk hret hh (by exact ⟨⟨tK3, tV3⟩, hSk, fun w_ hw_ => hNk w_ (by omega), tO3⟩) d_FT_narrowSpaces_51
      · -- 9 -> 12
        have c_1 := gm_gef (by omega) (by omega) c_1
        have c_1' := Nat.not_le.mpr c_1
        refine lv_aload_n C.1 C.2.1 d_FT_narrowSpaces_12 rfl (lv_at hl 0 rfl) ?_
        refine gg_r C hh hF.1 rfl in_FT 3 (by decide) rfl tw_213 rfl d_FT_narrowSpaces_13 ?_
        refine lv_iload C.1 C.2.1 d_FT_narrowSpaces_16 (lv_at hl 6 rfl) ?_
        refine ga_q C hh 3 hF.2.2.2.1.1 (Cn := "FallingTerms$Space") rfl (k := k) (v := B + 186 + 12 * k) rfl (by omega) (by omega) (if_pos (by omega)) d_FT_narrowSpaces_18 ?_
        obtain ⟨p_2, ep_2⟩ : ∃ z : Nat, z = B + 186 + 12 * k := ⟨_, rfl⟩
        have hp_2 : is_Sp sh p_2 := by rw [ep_2]; exact hF.2.2.2.1.2 k (by omega)
        refine gm_eqr ep_2.symm ?_
        refine lv_aload_n C.1 C.2.1 d_FT_narrowSpaces_19 rfl (lv_at hl 0 rfl) ?_
        refine gg_r C hh hF.1 rfl in_FT 2 (by decide) rfl tw_212 rfl d_FT_narrowSpaces_20 ?_
        refine lv_iload C.1 C.2.1 d_FT_narrowSpaces_23 (lv_at hl 6 rfl) ?_
        refine ga_q C hh 3 hF.2.2.1.1 (Cn := "FallingTerms$Space") rfl (k := k) (v := B + 180 + 12 * k) rfl (by omega) (by omega) (if_pos (by omega)) d_FT_narrowSpaces_25 ?_
        obtain ⟨p_3, ep_3⟩ : ∃ z : Nat, z = B + 180 + 12 * k := ⟨_, rfl⟩
        have hp_3 : is_Sp sh p_3 := by rw [ep_3]; exact hF.2.2.1.2 k (by omega)
        refine gm_eqr ep_3.symm ?_
        obtain ⟨LU_, R_, hM_, hOk_⟩ := hSk k (by omega)
        rw [← ep_3] at hM_
        have h7_ := h7 k (by omega)
        have hlr_ := ok_lenR hOk_ (by omega)
        refine gc_v hh (gc_runV (As := [.ref p_3]) (rest := []) (n := 1) C hml hh (c_Sp_copyQ l D cs sh sz I3 J3 p_2 hp_2 p_3 hp_3 (by omega) (rs k) (LU_.map Prod.fst) R_ hM_ (ok_len hOk_) (by omega)) (tg_V tw_470 tw_471 tw_472 tw_63 tw_473) (by decide +kernel) ⟨rfl, rfl, by decide, by decide, Nat.zero_le _, Nat.zero_le _⟩ hp_2.1 rfl rfl hl.1 rfl (Nat.le_of_ble_eq_true rfl) d_FT_narrowSpaces_26) (fun I_5 J_6 H locs hr_4 hh => ?_)
        have hcp_ : skP p_2 A (rs k) I3 J3 (I_5, J_6) := ⟨hr_4.1, LU_, R_, hr_4.2, hOk_⟩
        have hsc_ := skP.sf hcp_ (by omega)
        have tK_7 : keepF B I I_5 J J_6 := keepF.tr tK3 (keepF.of hsc_.1 (by omega))
        have tV_8 : inv_FT I_5 B := inv_FT.sp (m := 2 * k + 1) tV3 hsc_ (by omega) (by omega)
        have tO_9 : offR (B + 180) (B + 215) I I_5 J J_6 := offR.tr tO3 (offR.wide hr_4.1 (by omega) (by omega))
        refine lv_aload_n C.1 C.2.1 d_FT_narrowSpaces_29 rfl (lv_at hl 0 rfl) ?_
        refine gg_r C hh hF.1 rfl in_FT 3 (by decide) rfl tw_213 rfl d_FT_narrowSpaces_30 ?_
        refine lv_iload C.1 C.2.1 d_FT_narrowSpaces_33 (lv_at hl 6 rfl) ?_
        refine ga_q C hh 3 hF.2.2.2.1.1 (Cn := "FallingTerms$Space") rfl (k := k) (v := B + 186 + 12 * k) rfl (by omega) (by omega) (if_pos (by omega)) d_FT_narrowSpaces_35 ?_
        refine gm_eqr ep_2.symm ?_
        refine lv_iload_n C.1 C.2.1 d_FT_narrowSpaces_36 rfl (lv_at hl 2 rfl) ?_
        refine lv_iload_n C.1 C.2.1 d_FT_narrowSpaces_37 rfl (lv_at hl 3 rfl) ?_
        refine lv_iload C.1 C.2.1 d_FT_narrowSpaces_38 (lv_at hl 4 rfl) ?_
        refine lv_iload C.1 C.2.1 d_FT_narrowSpaces_40 (lv_at hl 5 rfl) ?_
        refine gc_v hh (gc_runV (As := [.int a, .int b, .int c, .int d]) (rest := []) (n := 4) C hml hh (c_Sp_narrowQ l D cs sh sz I_5 J_6 p_2 hp_2 A (rs k) (h4 k (by omega)) h7_ hcp_.2 a b c d hsm hab) (tg_V tw_474 tw_339 tw_340 tw_63 tw_341) (by decide +kernel) ⟨rfl, rfl, by decide, by decide, Nat.zero_le _, Nat.zero_le _⟩ hp_2.1 rfl rfl hl.1 rfl (Nat.le_of_ble_eq_true rfl) d_FT_narrowSpaces_42) (fun I_11 J_12 H locs hr_10 hh => ?_)
        have hsn_ := skP.sf hr_10 (by rw [List.length_append, List.length_singleton]; omega)
        have tK_13 : keepF B I I_11 J J_12 := keepF.tr tK_7 (keepF.of hsn_.1 (by omega))
        have tV_14 : inv_FT I_11 B := inv_FT.sp (m := 2 * k + 1) tV_8 hsn_ (by omega) (by omega)
        have tO_15 : offR (B + 180) (B + 215) I I_11 J J_12 := offR.tr tO_9 (offR.wide hr_10.1 (by omega) (by omega))
        obtain ⟨hS2_, hN2_⟩ := ns_step hSk hNk ep_2 hcp_.1 hr_10
        refine lv_iinc (v := nI (k + 1)) (lv' := [(6, .int (nI (k + 1))), (0, .ref B), (1, .ref o), (2, .int a), (3, .int b), (4, .int c), (5, .int d)]) C.1 C.2.1 d_FT_narrowSpaces_45 hl (k := 6) rfl (gm_inc k 1) (by decide) rfl (fun ls hl => ?_)
        refine lv_goto (tgt := 3) C.1 C.2.1 d_FT_narrowSpaces_48 (by decide) ?_
        exact ih3 (k + 1) I_11 J_12 (by omega) (by exact hS2_) (by exact hN2_) (by exact tK_13) (by exact tV_14) (by exact tO_15) (by omega) _ _ _ hh (lv_sub hl [1, 2, 3, 4, 5, 6, 0] rfl)
  exact K3 _ 0 I J (by omega) (by exact hK) (by intro w_ hw_; omega) (by exact tK_0) (by exact tV_0) (by exact tO_0) (Nat.lt_succ_self _) _ _ _ hh (lv_sub hl [1, 2, 3, 4, 5, 6, 0] rfl)

set_option maxHeartbeats 4000000 in
set_option maxRecDepth 100000 in
theorem c_FT_lastsQ (l : Launch) (D : va_G) (cs : Nat → ClassId) (sh : gm_H) (sz : Nat) (I : gm_I) (J : gm_J) (B : Nat) (hF : is_FT cs sh B) (hV : inv_FT I B) (j o : Nat) (hj : j < 8) (eo : o = B + 12 + 21 * j) (ho : is_Lp cs sh o) (m : Nat) (em : I o 3 = nI m) (hm3 : m ≤ 3) (a b c d : Int32) (Y : Nat → Bool) (hY : ∀ w, w < m → yok I J (o + 6 + 5 * w) (B + 186 + 12 * w) a b c d (Y w)) : CI l y_FT_lasts w_FT_lasts { frames := 2, cells := 0, slots := 0, locals := 50 } D cs sh sz I J [.ref B, .ref o, .int a, .int b, .int c, .int d] (fun x u => u = (I, J) ∧ x = bI (yN Y m)) := by
  refine gm_start (by decide) (Nat.le_of_ble_eq_true rfl) ?_
  intro p' e' s' m' be' me' co' ls C hml hlk hret hh hl
  have hl : lv_has ls 7 [(0, .ref B), (1, .ref o), (2, .int a), (3, .int b), (4, .int c), (5, .int d)] := hl
  refine lv_iconst (v := nI 0) C.1 C.2.1 d_FT_lasts_0 rfl ?_
  refine lv_istore (lv' := [(6, .int (nI 0)), (0, .ref B), (1, .ref o), (2, .int a), (3, .int b), (4, .int c), (5, .int d)]) C.1 C.2.1 d_FT_lasts_1 hl (by decide) rfl (fun ls hl => ?_)
  have K3 : ∀ (n_3 : Nat) (k : Nat) (hk : k ≤ m) (hy : yN Y k = true) (hm_3 : m - k < n_3), ∀ (H : Heap) (locs : List Loc) (ls : Array Slot), gm_St D cs sh (gm_A sh) s'.heap sz I J H locs → lv_has ls 7 [(0, .ref B), (1, .ref o), (2, .int a), (3, .int b), (4, .int c), (5, .int d), (6, .int (nI k))] → W p' l e' { frames := 2, cells := 0, slots := 0, locals := 50 } s' m' ([.ref B, .ref o, .int a, .int b, .int c, .int d] : List Value).toArray be' me' co' H locs 0 0 (MQ be' (va_Qi (fun x u => u = (I, J) ∧ x = bI (yN Y m)) (gm_B D cs sh sz) (gm_A sh)) ([.ref B, .ref o, .int a, .int b, .int c, .int d] : List Value).toArray s' 0 0 (gm_A sh)) (F0 m' 3 ls []) := by
    intro n_3
    induction n_3 with
    | zero => intro k hk hy hm_3; exact absurd hm_3 (Nat.not_lt_zero _)
    | succ n_3 ih3 =>
      intro k hk hy hm_3 H locs ls hh hl
      refine lv_iload C.1 C.2.1 d_FT_lasts_3 (lv_at hl 6 rfl) ?_
      refine lv_aload_n C.1 C.2.1 d_FT_lasts_5 rfl (lv_at hl 1 rfl) ?_
      refine gn_i C hh ho.1 rfl in_Lp 3 (by decide) rfl tw_163 rfl d_FT_lasts_6 ?_
      refine gm_eqi em ?_
      refine lv_icmp_ge (tgt := 46) C.1 C.2.1 d_FT_lasts_9 (by decide) (fun c_1 => ?_) (fun c_1 => ?_)
      · -- 9 -> 46
        have c_1 := gm_get (by omega) (by omega) c_1
        have c_1' := Nat.not_lt.mpr c_1
        refine lv_iconst (v := nI 1) C.1 C.2.1 d_FT_lasts_46 rfl ?_
        exact gr_i C hlk hret (gm_nb (Or.inr rfl)) hh (by first | (refine ⟨rfl, ?_⟩; rw [yN_f (show Y k = false by assumption) (by omega)]; rfl) | (refine ⟨rfl, ?_⟩; rw [← show k = m by omega, hy]; rfl)) d_FT_lasts_47
      · -- 9 -> 12
        have c_1 := gm_gef (by omega) (by omega) c_1
        have c_1' := Nat.not_le.mpr c_1
        refine lv_aload_n C.1 C.2.1 d_FT_lasts_12 rfl (lv_at hl 1 rfl) ?_
        refine gn_r C hh ho.1 rfl in_Lp 2 (by decide) rfl tw_160 rfl d_FT_lasts_13 ?_
        refine lv_iload C.1 C.2.1 d_FT_lasts_16 (lv_at hl 6 rfl) ?_
        refine ga_q C hh 4 ho.2.2.1 (Cn := "FallingTerms$Way") rfl (k := k) (v := o + 6 + 5 * k) rfl (by omega) (by omega) (if_pos (by omega)) d_FT_lasts_18 ?_
        obtain ⟨p_2, ep_2⟩ : ∃ z : Nat, z = o + 6 + 5 * k := ⟨_, rfl⟩
        have hp_2 : is_Wy sh p_2 := by rw [ep_2]; exact ho.2.2.2.2.2 k (by omega)
        refine gm_eqr ep_2.symm ?_
        refine lv_aload_n C.1 C.2.1 d_FT_lasts_19 rfl (lv_at hl 0 rfl) ?_
        refine gg_r C hh hF.1 rfl in_FT 3 (by decide) rfl tw_213 rfl d_FT_lasts_20 ?_
        refine lv_iload C.1 C.2.1 d_FT_lasts_23 (lv_at hl 6 rfl) ?_
        refine ga_q C hh 3 hF.2.2.2.1.1 (Cn := "FallingTerms$Space") rfl (k := k) (v := B + 186 + 12 * k) rfl (by omega) (by omega) (if_pos (by omega)) d_FT_lasts_25 ?_
        obtain ⟨p_3, ep_3⟩ : ∃ z : Nat, z = B + 186 + 12 * k := ⟨_, rfl⟩
        have hp_3 : is_Sp sh p_3 := by rw [ep_3]; exact hF.2.2.2.1.2 k (by omega)
        refine gm_eqr ep_3.symm ?_
        refine lv_iload_n C.1 C.2.1 d_FT_lasts_26 rfl (lv_at hl 2 rfl) ?_
        refine lv_iload_n C.1 C.2.1 d_FT_lasts_27 rfl (lv_at hl 3 rfl) ?_
        refine lv_iload C.1 C.2.1 d_FT_lasts_28 (lv_at hl 4 rfl) ?_
        refine lv_iload C.1 C.2.1 d_FT_lasts_30 (lv_at hl 5 rfl) ?_
        have hyk_ := hY k (by omega)
        rw [← ep_3, ← ep_2] at hyk_
        obtain ⟨ln_, n_, e1_, l1_, e2_, l2_, z1_⟩ := hyk_
        refine gc_i hh (gc_runV (As := [.ref p_3, .int a, .int b, .int c, .int d]) (rest := []) (n := 5) C hml hh (c_Wy_keeps l D cs sh sz I J p_2 hp_2 p_3 hp_3 ln_ e1_ l1_ n_ e2_ l2_ a b c d) (tg_V tw_479 tw_480 tw_481 tw_62 tw_482) (by decide +kernel) ⟨rfl, rfl, by decide, by decide, Nat.zero_le _, Nat.zero_le _⟩ hp_2.1 rfl rfl hl.1 rfl (Nat.le_of_ble_eq_true rfl) d_FT_lasts_32) (fun r_4 I_5 J_6 H locs hr_4 hh => ?_)
        obtain ⟨e_r_4, hr_4⟩ := hr_4
        rw [(Prod.mk.inj e_r_4).1, (Prod.mk.inj e_r_4).2] at hh
        obtain ⟨br_4, hr_4, ihr_4⟩ := hr_4
        rw [show br_4 = Y k from Bool.eq_iff_iff.mpr (ihr_4.trans z1_.symm)] at hr_4
        refine lv_if_ne (tgt := 40) C.1 C.2.1 d_FT_lasts_35 (by decide) (fun c_7 => ?_) (fun c_7 => ?_)
        · -- 35 -> 40
          have b_8 := bI_t hr_4 c_7
          skip
          refine lv_iinc (v := nI (k + 1)) (lv' := [(6, .int (nI (k + 1))), (0, .ref B), (1, .ref o), (2, .int a), (3, .int b), (4, .int c), (5, .int d)]) C.1 C.2.1 d_FT_lasts_40 hl (k := 6) rfl (gm_inc k 1) (by decide) rfl (fun ls hl => ?_)
          refine lv_goto (tgt := 3) C.1 C.2.1 d_FT_lasts_43 (by decide) ?_
          exact ih3 (k + 1) (by omega) (by simp only [yN]; rw [hy, show Y k = true by assumption]; rfl) (by omega) _ _ _ hh (lv_sub hl [1, 2, 3, 4, 5, 6, 0] rfl)
        · -- 35 -> 38
          have b_9 := bI_f hr_4 c_7
          skip
          refine lv_iconst (v := nI 0) C.1 C.2.1 d_FT_lasts_38 rfl ?_
          exact gr_i C hlk hret (gm_nb (Or.inl rfl)) hh (by first | (refine ⟨rfl, ?_⟩; rw [yN_f (show Y k = false by assumption) (by omega)]; rfl) | (refine ⟨rfl, ?_⟩; rw [← show k = m by omega, hy]; rfl)) d_FT_lasts_39
  exact K3 _ 0 (by omega) (by rfl) (Nat.lt_succ_self _) _ _ _ hh (lv_sub hl [1, 2, 3, 4, 5, 6, 0] rfl)
