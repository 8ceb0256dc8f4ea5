set_option maxHeartbeats 4000000 in
set_option maxRecDepth 100000 in
theorem c_FT_isWay (l : Launch) (D : va_G) (cs : Nat → ClassId) (sh : gm_H) (sz : Nat) (I : gm_I) (J : gm_J) (B : Nat) (hF : is_FT cs sh B) (hV : inv_FT I B) (n : Nat) (en : I B 1 = nI n) (hn : n ≤ 8) (v w : Int32) : CI l y_FT_isWay w_FT_isWay { frames := 1, cells := 0, slots := 0, locals := 21 } D cs sh sz I J [.ref B, .int v, .int w] (fun x u => u = (I, J) ∧ x = bI (fwB I B n v w)) := by
  refine gm_start (by decide) (Nat.le_of_ble_eq_true rfl) ?_
  intro p' e' s' m' be' me' co' ls C hml hlk hret hh hl
  have hl : lv_has ls 3 [(0, .ref B), (1, .int v), (2, .int w)] := hl
  refine lv_aload_n C.1 C.2.1 d_FT_isWay_0 rfl (lv_at hl 0 rfl) ?_
  refine lv_iload_n C.1 C.2.1 d_FT_isWay_1 rfl (lv_at hl 1 rfl) ?_
  refine gc_i hh (gc_runV (As := [.int v]) (rest := []) (n := 1) C hml hh (c_FT_isLoop l D cs sh sz I J B hF hV n en hn v) (tg_V tw_264 tw_266 tw_0 tw_57 tw_267) (by decide +kernel) ⟨rfl, rfl, by decide, by decide, Nat.zero_le _, Nat.zero_le _⟩ hF.1 rfl rfl hl.1 rfl (Nat.le_of_ble_eq_true rfl) d_FT_isWay_2) (fun r_1 I_2 J_3 H locs hr_1 hh => ?_)
  obtain ⟨e_r_1, hr_1⟩ := hr_1
  rw [(Prod.mk.inj e_r_1).1, (Prod.mk.inj e_r_1).2] at hh
  refine lv_if_eq (tgt := 29) C.1 C.2.1 d_FT_isWay_5 (by decide) (fun c_4 => ?_) (fun c_4 => ?_)
  · -- 5 -> 29
    have b_5 := bI_f hr_1 c_4
    skip
    refine lv_iconst (v := nI 0) C.1 C.2.1 d_FT_isWay_29 rfl ?_
    exact gr_i C hlk hret (gm_nb (Or.inl rfl)) hh (by refine ⟨rfl, ?_⟩; unfold fwB; first | (simp [nI_0, nI_one, bI, *]; done) | (rw [nN_nI (by omega), eg_, inI_in (by omega) h, Bool.true_and, inI_dec (by omega)]; simp_all [nI_0, nI_one, bI])) d_FT_isWay_30
  · -- 5 -> 8
    have b_6 := bI_t hr_1 c_4
    obtain ⟨j_7, hj_7, ej_7⟩ := inI_nat (by omega) b_6
    subst ej_7
    skip
    obtain ⟨g_, hg_, eg_⟩ := (hV.2.1 j_7 (by omega)).2.2.1
    refine lv_iload_n C.1 C.2.1 d_FT_isWay_8 rfl (lv_at hl 2 rfl) ?_
    refine lv_if_lt (tgt := 29) C.1 C.2.1 d_FT_isWay_9 (by decide) (fun c_8 => ?_) (fun c_8 => ?_)
    · -- 9 -> 29
      skip
      refine lv_iconst (v := nI 0) C.1 C.2.1 d_FT_isWay_29 rfl ?_
      exact gr_i C hlk hret (gm_nb (Or.inl rfl)) hh (by refine ⟨rfl, ?_⟩; unfold fwB; first | (simp [nI_0, nI_one, bI, *]; done) | (rw [nN_nI (by omega), eg_, inI_in (by omega) hj_7, Bool.true_and, inI_dec (by omega)]; simp_all [nI_0, nI_one, bI])) d_FT_isWay_30
    · -- 9 -> 12
      skip
      refine lv_iload_n C.1 C.2.1 d_FT_isWay_12 rfl (lv_at hl 2 rfl) ?_
      refine lv_aload_n C.1 C.2.1 d_FT_isWay_13 rfl (lv_at hl 0 rfl) ?_
      refine gg_r C hh hF.1 rfl in_FT 0 (by decide) rfl tw_210 rfl d_FT_isWay_14 ?_
      refine lv_iload_n C.1 C.2.1 d_FT_isWay_17 rfl (lv_at hl 1 rfl) ?_
      refine ga_q C hh 2 hF.2.1 (Cn := "FallingTerms$Loop") rfl (k := j_7) (v := B + 12 + 21 * j_7) rfl (by omega) (by omega) (if_pos (by omega)) d_FT_isWay_18 ?_
      obtain ⟨p_9, ep_9⟩ : ∃ z : Nat, z = B + 12 + 21 * j_7 := ⟨_, rfl⟩
      have hp_9 : is_Lp cs sh p_9 := by rw [ep_9]; exact hF.2.2.2.2.2.2.2.2.2.2 j_7 (by omega)
      refine gm_eqr ep_9.symm ?_
      refine gn_i C hh hp_9.1 rfl in_Lp 3 (by decide) rfl tw_163 rfl d_FT_isWay_19 ?_
      refine gm_eqi (by rw [ep_9]; exact eg_ : _ = nI g_) ?_
      refine lv_icmp_ge (tgt := 29) C.1 C.2.1 d_FT_isWay_22 (by decide) (fun c_10 => ?_) (fun c_10 => ?_)
      · -- 22 -> 29
        skip
        refine lv_iconst (v := nI 0) C.1 C.2.1 d_FT_isWay_29 rfl ?_
        exact gr_i C hlk hret (gm_nb (Or.inl rfl)) hh (by refine ⟨rfl, ?_⟩; unfold fwB; first | (simp [nI_0, nI_one, bI, *]; done) | (rw [nN_nI (by omega), eg_, inI_in (by omega) hj_7, Bool.true_and, inI_dec (by omega)]; simp_all [nI_0, nI_one, bI])) d_FT_isWay_30
      · -- 22 -> 25
        skip
        refine lv_iconst (v := nI 1) C.1 C.2.1 d_FT_isWay_25 rfl ?_
        refine lv_goto (tgt := 30) C.1 C.2.1 d_FT_isWay_26 (by decide) ?_
        exact gr_i C hlk hret (gm_nb (Or.inr rfl)) hh (by refine ⟨rfl, ?_⟩; unfold fwB; first | (simp [nI_0, nI_one, bI, *]; done) | (rw [nN_nI (by omega), eg_, inI_in (by omega) hj_7, Bool.true_and, inI_dec (by omega)]; simp_all [nI_0, nI_one, bI])) d_FT_isWay_30

set_option maxHeartbeats 4000000 in
set_option maxRecDepth 100000 in
theorem c_FT_isName (l : Launch) (D : va_G) (cs : Nat → ClassId) (sh : gm_H) (sz : Nat) (I : gm_I) (J : gm_J) (B : Nat) (hF : is_FT cs sh B) (hV : inv_FT I B) (n : Nat) (en : I B 1 = nI n) (hn : n ≤ 8) (v w : Int32) : CI l y_FT_isName w_FT_isName { frames := 1, cells := 0, slots := 0, locals := 21 } D cs sh sz I J [.ref B, .int v, .int w] (fun x u => u = (I, J) ∧ x = bI (fnB I B n v w)) := by
  refine gm_start (by decide) (Nat.le_of_ble_eq_true rfl) ?_
  intro p' e' s' m' be' me' co' ls C hml hlk hret hh hl
  have hl : lv_has ls 3 [(0, .ref B), (1, .int v), (2, .int w)] := hl
  refine lv_aload_n C.1 C.2.1 d_FT_isName_0 rfl (lv_at hl 0 rfl) ?_
  refine lv_iload_n C.1 C.2.1 d_FT_isName_1 rfl (lv_at hl 1 rfl) ?_
  refine gc_i hh (gc_runV (As := [.int v]) (rest := []) (n := 1) C hml hh (c_FT_isLoop l D cs sh sz I J B hF hV n en hn v) (tg_V tw_264 tw_266 tw_0 tw_57 tw_267) (by decide +kernel) ⟨rfl, rfl, by decide, by decide, Nat.zero_le _, Nat.zero_le _⟩ hF.1 rfl rfl hl.1 rfl (Nat.le_of_ble_eq_true rfl) d_FT_isName_2) (fun r_1 I_2 J_3 H locs hr_1 hh => ?_)
  obtain ⟨e_r_1, hr_1⟩ := hr_1
  rw [(Prod.mk.inj e_r_1).1, (Prod.mk.inj e_r_1).2] at hh
  refine lv_if_eq (tgt := 29) C.1 C.2.1 d_FT_isName_5 (by decide) (fun c_4 => ?_) (fun c_4 => ?_)
  · -- 5 -> 29
    have b_5 := bI_f hr_1 c_4
    skip
    refine lv_iconst (v := nI 0) C.1 C.2.1 d_FT_isName_29 rfl ?_
    exact gr_i C hlk hret (gm_nb (Or.inl rfl)) hh (by refine ⟨rfl, ?_⟩; unfold fnB; first | (simp [nI_0, nI_one, bI, *]; done) | (rw [nN_nI (by omega), eg_, inI_in (by omega) h, Bool.true_and, inI_dec (by omega)]; simp_all [nI_0, nI_one, bI])) d_FT_isName_30
  · -- 5 -> 8
    have b_6 := bI_t hr_1 c_4
    obtain ⟨j_7, hj_7, ej_7⟩ := inI_nat (by omega) b_6
    subst ej_7
    skip
    obtain ⟨g_, hg_, eg_⟩ := (hV.2.1 j_7 (by omega)).1
    refine lv_iload_n C.1 C.2.1 d_FT_isName_8 rfl (lv_at hl 2 rfl) ?_
    refine lv_if_lt (tgt := 29) C.1 C.2.1 d_FT_isName_9 (by decide) (fun c_8 => ?_) (fun c_8 => ?_)
    · -- 9 -> 29
      skip
      refine lv_iconst (v := nI 0) C.1 C.2.1 d_FT_isName_29 rfl ?_
      exact gr_i C hlk hret (gm_nb (Or.inl rfl)) hh (by refine ⟨rfl, ?_⟩; unfold fnB; first | (simp [nI_0, nI_one, bI, *]; done) | (rw [nN_nI (by omega), eg_, inI_in (by omega) hj_7, Bool.true_and, inI_dec (by omega)]; simp_all [nI_0, nI_one, bI])) d_FT_isName_30
    · -- 9 -> 12
      skip
      refine lv_iload_n C.1 C.2.1 d_FT_isName_12 rfl (lv_at hl 2 rfl) ?_
      refine lv_aload_n C.1 C.2.1 d_FT_isName_13 rfl (lv_at hl 0 rfl) ?_
      refine gg_r C hh hF.1 rfl in_FT 0 (by decide) rfl tw_210 rfl d_FT_isName_14 ?_
      refine lv_iload_n C.1 C.2.1 d_FT_isName_17 rfl (lv_at hl 1 rfl) ?_
      refine ga_q C hh 2 hF.2.1 (Cn := "FallingTerms$Loop") rfl (k := j_7) (v := B + 12 + 21 * j_7) rfl (by omega) (by omega) (if_pos (by omega)) d_FT_isName_18 ?_
      obtain ⟨p_9, ep_9⟩ : ∃ z : Nat, z = B + 12 + 21 * j_7 := ⟨_, rfl⟩
      have hp_9 : is_Lp cs sh p_9 := by rw [ep_9]; exact hF.2.2.2.2.2.2.2.2.2.2 j_7 (by omega)
      refine gm_eqr ep_9.symm ?_
      refine gn_i C hh hp_9.1 rfl in_Lp 0 (by decide) rfl tw_153 rfl d_FT_isName_19 ?_
      refine gm_eqi (by rw [ep_9]; exact eg_ : _ = nI g_) ?_
      refine lv_icmp_ge (tgt := 29) C.1 C.2.1 d_FT_isName_22 (by decide) (fun c_10 => ?_) (fun c_10 => ?_)
      · -- 22 -> 29
        skip
        refine lv_iconst (v := nI 0) C.1 C.2.1 d_FT_isName_29 rfl ?_
        exact gr_i C hlk hret (gm_nb (Or.inl rfl)) hh (by refine ⟨rfl, ?_⟩; unfold fnB; first | (simp [nI_0, nI_one, bI, *]; done) | (rw [nN_nI (by omega), eg_, inI_in (by omega) hj_7, Bool.true_and, inI_dec (by omega)]; simp_all [nI_0, nI_one, bI])) d_FT_isName_30
      · -- 22 -> 25
        skip
        refine lv_iconst (v := nI 1) C.1 C.2.1 d_FT_isName_25 rfl ?_
        refine lv_goto (tgt := 30) C.1 C.2.1 d_FT_isName_26 (by decide) ?_
        exact gr_i C hlk hret (gm_nb (Or.inr rfl)) hh (by refine ⟨rfl, ?_⟩; unfold fnB; first | (simp [nI_0, nI_one, bI, *]; done) | (rw [nN_nI (by omega), eg_, inI_in (by omega) hj_7, Bool.true_and, inI_dec (by omega)]; simp_all [nI_0, nI_one, bI])) d_FT_isName_30
