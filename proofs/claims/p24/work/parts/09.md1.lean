set_option maxHeartbeats 4000000 in
set_option maxRecDepth 100000 in
theorem c_Md_isIn (l : Launch) (D : va_G) (cs : Nat → ClassId) (sh : gm_H) (sz : Nat) (I : gm_I) (J : gm_J) (v lo hi : Int32) : CI l y_Md_isIn w_Md_isIn { frames := 0, cells := 0, slots := 0, locals := 0 } D cs sh sz I J [.int v, .int lo, .int hi] (fun x u => u = (I, J) ∧ x = bI (inI v lo hi)) := by
  refine gm_start (by decide) (Nat.le_of_ble_eq_true rfl) ?_
  intro p' e' s' m' be' me' co' ls C hml hlk hret hh hl
  have hl : lv_has ls 3 [(0, .int v), (1, .int lo), (2, .int hi)] := hl
  refine lv_iload_n C.1 C.2.1 d_Md_isIn_0 rfl (lv_at hl 0 rfl) ?_
  refine lv_iload_n C.1 C.2.1 d_Md_isIn_1 rfl (lv_at hl 1 rfl) ?_
  refine lv_icmp_lt (tgt := 14) C.1 C.2.1 d_Md_isIn_2 (by decide) (fun c_1 => ?_) (fun c_1 => ?_)
  · -- 2 -> 14
    skip
    refine lv_iconst (v := nI 0) C.1 C.2.1 d_Md_isIn_14 rfl ?_
    exact gr_i C hlk hret (gm_nb (Or.inl rfl)) hh (by refine ⟨rfl, ?_⟩; simp [nI_0, nI_one, bI, inI, *]) d_Md_isIn_15
  · -- 2 -> 5
    skip
    refine lv_iload_n C.1 C.2.1 d_Md_isIn_5 rfl (lv_at hl 0 rfl) ?_
    refine lv_iload_n C.1 C.2.1 d_Md_isIn_6 rfl (lv_at hl 2 rfl) ?_
    refine lv_icmp_gt (tgt := 14) C.1 C.2.1 d_Md_isIn_7 (by decide) (fun c_2 => ?_) (fun c_2 => ?_)
    · -- 7 -> 14
      skip
      refine lv_iconst (v := nI 0) C.1 C.2.1 d_Md_isIn_14 rfl ?_
      exact gr_i C hlk hret (gm_nb (Or.inl rfl)) hh (by refine ⟨rfl, ?_⟩; simp [nI_0, nI_one, bI, inI, *]) d_Md_isIn_15
    · -- 7 -> 10
      skip
      refine lv_iconst (v := nI 1) C.1 C.2.1 d_Md_isIn_10 rfl ?_
      refine lv_goto (tgt := 15) C.1 C.2.1 d_Md_isIn_11 (by decide) ?_
      exact gr_i C hlk hret (gm_nb (Or.inr rfl)) hh (by refine ⟨rfl, ?_⟩; simp [nI_0, nI_one, bI, inI, *]) d_Md_isIn_15

set_option maxHeartbeats 4000000 in
set_option maxRecDepth 100000 in
theorem c_Md_isLoop (l : Launch) (D : va_G) (cs : Nat → ClassId) (sh : gm_H) (sz : Nat) (I : gm_I) (J : gm_J) (r : Nat) (hM : is_Md sh r) (hV : inv_Md I r) (v : Int32) : CI l y_Md_isLoop w_Md_isLoop { frames := 1, cells := 0, slots := 0, locals := 22 } D cs sh sz I J [.ref r, .int v] (fun x u => u = (I, J) ∧ x = bI (lpB I r v)) := by
  refine gm_start (by decide) (Nat.le_of_ble_eq_true rfl) ?_
  intro p' e' s' m' be' me' co' ls C hml hlk hret hh hl
  have hl : lv_has ls 2 [(0, .ref r), (1, .int v)] := hl
  refine lv_iload_n C.1 C.2.1 d_Md_isLoop_0 rfl (lv_at hl 1 rfl) ?_
  refine lv_iconst (v := nI 0) C.1 C.2.1 d_Md_isLoop_1 rfl ?_
  refine lv_aload_n C.1 C.2.1 d_Md_isLoop_2 rfl (lv_at hl 0 rfl) ?_
  refine gg_i C hh (Md_0 hM) rfl in_Md 0 (by decide) rfl tw_565 rfl d_Md_isLoop_3 ?_
  refine lv_iconst (v := nI 1) C.1 C.2.1 d_Md_isLoop_6 rfl ?_
  refine lv_isub C.1 C.2.1 d_Md_isLoop_7 ?_
  refine gc_i hh (gc_runS (As := [.int v, .int (nI 0), .int ((I r 0) - (nI 1))]) (rest := []) (n := 3) C hml hh (c_Md_isIn l D cs sh sz I J v (nI 0) ((I r 0) - (nI 1))) (tg_S tw_684 tw_685 tw_64 tw_686) (by decide +kernel) ⟨rfl, rfl, by decide, by decide, Nat.zero_le _, Nat.zero_le _⟩ rfl hl.1 rfl (Nat.le_of_ble_eq_true rfl) d_Md_isLoop_8) (fun r_1 I_2 J_3 H locs hr_1 hh => ?_)
  obtain ⟨e_r_1, hr_1⟩ := hr_1
  rw [(Prod.mk.inj e_r_1).1, (Prod.mk.inj e_r_1).2] at hh
  exact gr_i C hlk hret (gm_nb (bI_01 hr_1)) hh (by exact ⟨rfl, by assumption⟩) d_Md_isLoop_11

set_option maxHeartbeats 4000000 in
set_option maxRecDepth 100000 in
theorem c_Md_isWay (l : Launch) (D : va_G) (cs : Nat → ClassId) (sh : gm_H) (sz : Nat) (I : gm_I) (J : gm_J) (r : Nat) (hM : is_Md sh r) (hV : inv_Md I r) (v w : Int32) : CI l y_Md_isWay w_Md_isWay { frames := 2, cells := 0, slots := 0, locals := 43 } D cs sh sz I J [.ref r, .int v, .int w] (fun x u => u = (I, J) ∧ x = bI (wyB I r v w)) := by
  refine gm_start (by decide) (Nat.le_of_ble_eq_true rfl) ?_
  intro p' e' s' m' be' me' co' ls C hml hlk hret hh hl
  have hl : lv_has ls 3 [(0, .ref r), (1, .int v), (2, .int w)] := hl
  refine lv_aload_n C.1 C.2.1 d_Md_isWay_0 rfl (lv_at hl 0 rfl) ?_
  refine lv_iload_n C.1 C.2.1 d_Md_isWay_1 rfl (lv_at hl 1 rfl) ?_
  refine gc_i hh (gc_runV (As := [.int v]) (rest := []) (n := 1) C hml hh (c_Md_isLoop l D cs sh sz I J r hM hV v) (tg_V tw_695 tw_697 tw_26 tw_64 tw_698) (by decide +kernel) ⟨rfl, rfl, by decide, by decide, Nat.zero_le _, Nat.zero_le _⟩ (Md_0 hM) rfl rfl hl.1 rfl (Nat.le_of_ble_eq_true rfl) d_Md_isWay_2) (fun r_1 I_2 J_3 H locs hr_1 hh => ?_)
  obtain ⟨e_r_1, hr_1⟩ := hr_1
  rw [(Prod.mk.inj e_r_1).1, (Prod.mk.inj e_r_1).2] at hh
  refine lv_if_eq (tgt := 28) C.1 C.2.1 d_Md_isWay_5 (by decide) (fun c_4 => ?_) (fun c_4 => ?_)
  · -- 5 -> 28
    have b_5 := bI_f hr_1 c_4
    skip
    refine lv_iconst (v := nI 0) C.1 C.2.1 d_Md_isWay_28 rfl ?_
    exact gr_i C hlk hret (gm_nb (Or.inl rfl)) hh (by refine ⟨rfl, ?_⟩; first | (simp [nI_0, nI_one, bI, wyB, *]; done) | (unfold wyB; rw [nI_clamp (by omega)]; simp_all [nI_0, nI_one, bI])) d_Md_isWay_29
  · -- 5 -> 8
    have b_6 := bI_t hr_1 c_4
    obtain ⟨n_8, hn_8, en_8⟩ := hV.1
    obtain ⟨j_7, hj_7, ej_7⟩ := lpB_j en_8 hn_8 b_6
    subst ej_7
    skip
    refine lv_iload_n C.1 C.2.1 d_Md_isWay_8 rfl (lv_at hl 2 rfl) ?_
    refine lv_iconst (v := nI 0) C.1 C.2.1 d_Md_isWay_9 rfl ?_
    refine lv_aload_n C.1 C.2.1 d_Md_isWay_10 rfl (lv_at hl 0 rfl) ?_
    refine gg_r C hh (Md_0 hM) rfl in_Md 2 (by decide) rfl tw_567 rfl d_Md_isWay_11 ?_
    refine lv_iload_n C.1 C.2.1 d_Md_isWay_14 rfl (lv_at hl 1 rfl) ?_
    refine ga_i C hh (Md_2 hM) (k := j_7) rfl (by omega) (by omega) d_Md_isWay_15 ?_
    refine lv_iconst (v := nI 1) C.1 C.2.1 d_Md_isWay_16 rfl ?_
    refine lv_isub C.1 C.2.1 d_Md_isWay_17 ?_
    refine gc_i hh (gc_runS (As := [.int w, .int (nI 0), .int ((I (r + 2) j_7) - (nI 1))]) (rest := []) (n := 3) C hml hh (c_Md_isIn l D cs sh sz I J w (nI 0) ((I (r + 2) j_7) - (nI 1))) (tg_S tw_684 tw_685 tw_64 tw_686) (by decide +kernel) ⟨rfl, rfl, by decide, by decide, Nat.zero_le _, Nat.zero_le _⟩ rfl hl.1 rfl (Nat.le_of_ble_eq_true rfl) d_Md_isWay_18) (fun r_9 I_10 J_11 H locs hr_9 hh => ?_)
    obtain ⟨e_r_9, hr_9⟩ := hr_9
    rw [(Prod.mk.inj e_r_9).1, (Prod.mk.inj e_r_9).2] at hh
    refine lv_if_eq (tgt := 28) C.1 C.2.1 d_Md_isWay_21 (by decide) (fun c_12 => ?_) (fun c_12 => ?_)
    · -- 21 -> 28
      have b_13 := bI_f hr_9 c_12
      skip
      refine lv_iconst (v := nI 0) C.1 C.2.1 d_Md_isWay_28 rfl ?_
      exact gr_i C hlk hret (gm_nb (Or.inl rfl)) hh (by refine ⟨rfl, ?_⟩; first | (simp [nI_0, nI_one, bI, wyB, *]; done) | (unfold wyB; rw [nI_clamp (by omega)]; simp_all [nI_0, nI_one, bI])) d_Md_isWay_29
    · -- 21 -> 24
      have b_14 := bI_t hr_9 c_12
      skip
      refine lv_iconst (v := nI 1) C.1 C.2.1 d_Md_isWay_24 rfl ?_
      refine lv_goto (tgt := 29) C.1 C.2.1 d_Md_isWay_25 (by decide) ?_
      exact gr_i C hlk hret (gm_nb (Or.inr rfl)) hh (by refine ⟨rfl, ?_⟩; first | (simp [nI_0, nI_one, bI, wyB, *]; done) | (unfold wyB; rw [nI_clamp (by omega)]; simp_all [nI_0, nI_one, bI])) d_Md_isWay_29

set_option maxHeartbeats 4000000 in
set_option maxRecDepth 100000 in
theorem c_Md_isName (l : Launch) (D : va_G) (cs : Nat → ClassId) (sh : gm_H) (sz : Nat) (I : gm_I) (J : gm_J) (r : Nat) (hM : is_Md sh r) (hV : inv_Md I r) (v w : Int32) : CI l y_Md_isName w_Md_isName { frames := 2, cells := 0, slots := 0, locals := 43 } D cs sh sz I J [.ref r, .int v, .int w] (fun x u => u = (I, J) ∧ x = bI (nmB I r v w)) := by
  refine gm_start (by decide) (Nat.le_of_ble_eq_true rfl) ?_
  intro p' e' s' m' be' me' co' ls C hml hlk hret hh hl
  have hl : lv_has ls 3 [(0, .ref r), (1, .int v), (2, .int w)] := hl
  refine lv_aload_n C.1 C.2.1 d_Md_isName_0 rfl (lv_at hl 0 rfl) ?_
  refine lv_iload_n C.1 C.2.1 d_Md_isName_1 rfl (lv_at hl 1 rfl) ?_
  refine gc_i hh (gc_runV (As := [.int v]) (rest := []) (n := 1) C hml hh (c_Md_isLoop l D cs sh sz I J r hM hV v) (tg_V tw_695 tw_697 tw_26 tw_64 tw_698) (by decide +kernel) ⟨rfl, rfl, by decide, by decide, Nat.zero_le _, Nat.zero_le _⟩ (Md_0 hM) rfl rfl hl.1 rfl (Nat.le_of_ble_eq_true rfl) d_Md_isName_2) (fun r_1 I_2 J_3 H locs hr_1 hh => ?_)
  obtain ⟨e_r_1, hr_1⟩ := hr_1
  rw [(Prod.mk.inj e_r_1).1, (Prod.mk.inj e_r_1).2] at hh
  refine lv_if_eq (tgt := 28) C.1 C.2.1 d_Md_isName_5 (by decide) (fun c_4 => ?_) (fun c_4 => ?_)
  · -- 5 -> 28
    have b_5 := bI_f hr_1 c_4
    skip
    refine lv_iconst (v := nI 0) C.1 C.2.1 d_Md_isName_28 rfl ?_
    exact gr_i C hlk hret (gm_nb (Or.inl rfl)) hh (by refine ⟨rfl, ?_⟩; first | (simp [nI_0, nI_one, bI, nmB, *]; done) | (unfold nmB; rw [nI_clamp (by omega)]; simp_all [nI_0, nI_one, bI])) d_Md_isName_29
  · -- 5 -> 8
    have b_6 := bI_t hr_1 c_4
    obtain ⟨n_8, hn_8, en_8⟩ := hV.1
    obtain ⟨j_7, hj_7, ej_7⟩ := lpB_j en_8 hn_8 b_6
    subst ej_7
    skip
    refine lv_iload_n C.1 C.2.1 d_Md_isName_8 rfl (lv_at hl 2 rfl) ?_
    refine lv_iconst (v := nI 0) C.1 C.2.1 d_Md_isName_9 rfl ?_
    refine lv_aload_n C.1 C.2.1 d_Md_isName_10 rfl (lv_at hl 0 rfl) ?_
    refine gg_r C hh (Md_0 hM) rfl in_Md 1 (by decide) rfl tw_566 rfl d_Md_isName_11 ?_
    refine lv_iload_n C.1 C.2.1 d_Md_isName_14 rfl (lv_at hl 1 rfl) ?_
    refine ga_i C hh (Md_1 hM) (k := j_7) rfl (by omega) (by omega) d_Md_isName_15 ?_
    refine lv_iconst (v := nI 1) C.1 C.2.1 d_Md_isName_16 rfl ?_
    refine lv_isub C.1 C.2.1 d_Md_isName_17 ?_
    refine gc_i hh (gc_runS (As := [.int w, .int (nI 0), .int ((I (r + 1) j_7) - (nI 1))]) (rest := []) (n := 3) C hml hh (c_Md_isIn l D cs sh sz I J w (nI 0) ((I (r + 1) j_7) - (nI 1))) (tg_S tw_684 tw_685 tw_64 tw_686) (by decide +kernel) ⟨rfl, rfl, by decide, by decide, Nat.zero_le _, Nat.zero_le _⟩ rfl hl.1 rfl (Nat.le_of_ble_eq_true rfl) d_Md_isName_18) (fun r_9 I_10 J_11 H locs hr_9 hh => ?_)
    obtain ⟨e_r_9, hr_9⟩ := hr_9
    rw [(Prod.mk.inj e_r_9).1, (Prod.mk.inj e_r_9).2] at hh
    refine lv_if_eq (tgt := 28) C.1 C.2.1 d_Md_isName_21 (by decide) (fun c_12 => ?_) (fun c_12 => ?_)
    · -- 21 -> 28
      have b_13 := bI_f hr_9 c_12
      skip
      refine lv_iconst (v := nI 0) C.1 C.2.1 d_Md_isName_28 rfl ?_
      exact gr_i C hlk hret (gm_nb (Or.inl rfl)) hh (by refine ⟨rfl, ?_⟩; first | (simp [nI_0, nI_one, bI, nmB, *]; done) | (unfold nmB; rw [nI_clamp (by omega)]; simp_all [nI_0, nI_one, bI])) d_Md_isName_29
    · -- 21 -> 24
      have b_14 := bI_t hr_9 c_12
      skip
      refine lv_iconst (v := nI 1) C.1 C.2.1 d_Md_isName_24 rfl ?_
      refine lv_goto (tgt := 29) C.1 C.2.1 d_Md_isName_25 (by decide) ?_
      exact gr_i C hlk hret (gm_nb (Or.inr rfl)) hh (by refine ⟨rfl, ?_⟩; first | (simp [nI_0, nI_one, bI, nmB, *]; done) | (unfold nmB; rw [nI_clamp (by omega)]; simp_all [nI_0, nI_one, bI])) d_Md_isName_29

set_option maxHeartbeats 4000000 in
set_option maxRecDepth 100000 in
theorem c_Md_areNumbers (l : Launch) (D : va_G) (cs : Nat → ClassId) (sh : gm_H) (sz : Nat) (I : gm_I) (J : gm_J) (r : Nat) (hM : is_Md sh r) (hV : inv_Md I r) (j nm : Nat) (a b c most : Int32) (hj : j < 8) (hnm : I (r + 1) j = nI nm) (hn3 : nm ≤ 3) : CI l y_Md_areNumbers w_Md_areNumbers { frames := 1, cells := 0, slots := 0, locals := 22 } D cs sh sz I J [.ref r, .int (nI j), .int a, .int b, .int c, .int most] (fun x u => u = (I, J) ∧ x = bI (numB nm a b c most)) := by
  refine gm_start (by decide) (Nat.le_of_ble_eq_true rfl) ?_
  intro p' e' s' m' be' me' co' ls C hml hlk hret hh hl
  have hl : lv_has ls 6 [(0, .ref r), (1, .int (nI j)), (2, .int a), (3, .int b), (4, .int c), (5, .int most)] := hl
  refine lv_iload_n C.1 C.2.1 d_Md_areNumbers_0 rfl (lv_at hl 2 rfl) ?_
  refine lv_iload C.1 C.2.1 d_Md_areNumbers_1 (lv_at hl 5 rfl) ?_
  refine lv_ineg C.1 C.2.1 d_Md_areNumbers_3 ?_
  refine lv_iload C.1 C.2.1 d_Md_areNumbers_4 (lv_at hl 5 rfl) ?_
  refine gc_i hh (gc_runS (As := [.int a, .int (-most), .int most]) (rest := []) (n := 3) C hml hh (c_Md_isIn l D cs sh sz I J a (-most) most) (tg_S tw_684 tw_685 tw_64 tw_686) (by decide +kernel) ⟨rfl, rfl, by decide, by decide, Nat.zero_le _, Nat.zero_le _⟩ rfl hl.1 rfl (Nat.le_of_ble_eq_true rfl) d_Md_areNumbers_6) (fun r_1 I_2 J_3 H locs hr_1 hh => ?_)
  obtain ⟨e_r_1, hr_1⟩ := hr_1
  rw [(Prod.mk.inj e_r_1).1, (Prod.mk.inj e_r_1).2] at hh
  refine lv_if_eq (tgt := 37) C.1 C.2.1 d_Md_areNumbers_9 (by decide) (fun c_4 => ?_) (fun c_4 => ?_)
  · -- 9 -> 37
    have b_5 := bI_f hr_1 c_4
    skip
    refine lv_iconst (v := nI 0) C.1 C.2.1 d_Md_areNumbers_37 rfl ?_
    exact gr_i C hlk hret (gm_nb (Or.inl rfl)) hh (by refine ⟨rfl, ?_⟩; simp_all [nI_0, nI_one, bI, numB] <;> omega) d_Md_areNumbers_38
  · -- 9 -> 12
    have b_6 := bI_t hr_1 c_4
    skip
    refine lv_iload_n C.1 C.2.1 d_Md_areNumbers_12 rfl (lv_at hl 3 rfl) ?_
    refine lv_iload C.1 C.2.1 d_Md_areNumbers_13 (lv_at hl 5 rfl) ?_
    refine lv_ineg C.1 C.2.1 d_Md_areNumbers_15 ?_
    refine lv_iload C.1 C.2.1 d_Md_areNumbers_16 (lv_at hl 5 rfl) ?_
    refine gc_i hh (gc_runS (As := [.int b, .int (-most), .int most]) (rest := []) (n := 3) C hml hh (c_Md_isIn l D cs sh sz I J b (-most) most) (tg_S tw_684 tw_685 tw_64 tw_686) (by decide +kernel) ⟨rfl, rfl, by decide, by decide, Nat.zero_le _, Nat.zero_le _⟩ rfl hl.1 rfl (Nat.le_of_ble_eq_true rfl) d_Md_areNumbers_18) (fun r_7 I_8 J_9 H locs hr_7 hh => ?_)
    obtain ⟨e_r_7, hr_7⟩ := hr_7
    rw [(Prod.mk.inj e_r_7).1, (Prod.mk.inj e_r_7).2] at hh
    refine lv_if_eq (tgt := 37) C.1 C.2.1 d_Md_areNumbers_21 (by decide) (fun c_10 => ?_) (fun c_10 => ?_)
    · -- 21 -> 37
      have b_11 := bI_f hr_7 c_10
      skip
      refine lv_iconst (v := nI 0) C.1 C.2.1 d_Md_areNumbers_37 rfl ?_
      exact gr_i C hlk hret (gm_nb (Or.inl rfl)) hh (by refine ⟨rfl, ?_⟩; simp_all [nI_0, nI_one, bI, numB] <;> omega) d_Md_areNumbers_38
    · -- 21 -> 24
      have b_12 := bI_t hr_7 c_10
      skip
      refine lv_iload C.1 C.2.1 d_Md_areNumbers_24 (lv_at hl 4 rfl) ?_
      refine lv_iload C.1 C.2.1 d_Md_areNumbers_26 (lv_at hl 5 rfl) ?_
      refine lv_ineg C.1 C.2.1 d_Md_areNumbers_28 ?_
      refine lv_iload C.1 C.2.1 d_Md_areNumbers_29 (lv_at hl 5 rfl) ?_
      refine gc_i hh (gc_runS (As := [.int c, .int (-most), .int most]) (rest := []) (n := 3) C hml hh (c_Md_isIn l D cs sh sz I J c (-most) most) (tg_S tw_684 tw_685 tw_64 tw_686) (by decide +kernel) ⟨rfl, rfl, by decide, by decide, Nat.zero_le _, Nat.zero_le _⟩ rfl hl.1 rfl (Nat.le_of_ble_eq_true rfl) d_Md_areNumbers_31) (fun r_13 I_14 J_15 H locs hr_13 hh => ?_)
      obtain ⟨e_r_13, hr_13⟩ := hr_13
      rw [(Prod.mk.inj e_r_13).1, (Prod.mk.inj e_r_13).2] at hh
      refine lv_if_ne (tgt := 39) C.1 C.2.1 d_Md_areNumbers_34 (by decide) (fun c_16 => ?_) (fun c_16 => ?_)
      · -- 34 -> 39
        have b_17 := bI_t hr_13 c_16
        skip
        refine lv_iload_n C.1 C.2.1 d_Md_areNumbers_39 rfl (lv_at hl 2 rfl) ?_
        refine lv_if_ne (tgt := 54) C.1 C.2.1 d_Md_areNumbers_40 (by decide) (fun c_18 => ?_) (fun c_18 => ?_)
        · -- 40 -> 54
          skip
          refine lv_iload_n C.1 C.2.1 d_Md_areNumbers_54 rfl (lv_at hl 3 rfl) ?_
          refine lv_if_eq (tgt := 68) C.1 C.2.1 d_Md_areNumbers_55 (by decide) (fun c_19 => ?_) (fun c_19 => ?_)
          · -- 55 -> 68
            skip
            refine lv_iload C.1 C.2.1 d_Md_areNumbers_68 (lv_at hl 4 rfl) ?_
            refine lv_if_eq (tgt := 83) C.1 C.2.1 d_Md_areNumbers_70 (by decide) (fun c_20 => ?_) (fun c_20 => ?_)
            · -- 70 -> 83
              skip
              refine lv_iconst (v := nI 1) C.1 C.2.1 d_Md_areNumbers_83 rfl ?_
              refine lv_goto (tgt := 88) C.1 C.2.1 d_Md_areNumbers_84 (by decide) ?_
              exact gr_i C hlk hret (gm_nb (Or.inr rfl)) hh (by refine ⟨rfl, ?_⟩; simp_all [nI_0, nI_one, bI, numB] <;> omega) d_Md_areNumbers_88
            · -- 70 -> 73
              skip
              refine lv_aload_n C.1 C.2.1 d_Md_areNumbers_73 rfl (lv_at hl 0 rfl) ?_
              refine gg_r C hh (Md_0 hM) rfl in_Md 1 (by decide) rfl tw_566 rfl d_Md_areNumbers_74 ?_
              refine lv_iload_n C.1 C.2.1 d_Md_areNumbers_77 rfl (lv_at hl 1 rfl) ?_
              refine ga_i C hh (Md_1 hM) (k := j) rfl (by omega) (by omega) d_Md_areNumbers_78 ?_
              refine gm_eqi hnm ?_
              refine lv_iconst (v := nI 2) C.1 C.2.1 d_Md_areNumbers_79 rfl ?_
              refine lv_icmp_le (tgt := 87) C.1 C.2.1 d_Md_areNumbers_80 (by decide) (fun c_21 => ?_) (fun c_21 => ?_)
              · -- 80 -> 87
                have c_21 := gm_let (by omega) (by omega) c_21
                have c_21' := Nat.not_lt.mpr c_21
                refine lv_iconst (v := nI 0) C.1 C.2.1 d_Md_areNumbers_87 rfl ?_
                exact gr_i C hlk hret (gm_nb (Or.inl rfl)) hh (by refine ⟨rfl, ?_⟩; simp_all [nI_0, nI_one, bI, numB] <;> omega) d_Md_areNumbers_88
              · -- 80 -> 83
                have c_21 := gm_lef (by omega) (by omega) c_21
                have c_21' := Nat.not_le.mpr c_21
                refine lv_iconst (v := nI 1) C.1 C.2.1 d_Md_areNumbers_83 rfl ?_
                refine lv_goto (tgt := 88) C.1 C.2.1 d_Md_areNumbers_84 (by decide) ?_
                exact gr_i C hlk hret (gm_nb (Or.inr rfl)) hh (by refine ⟨rfl, ?_⟩; simp_all [nI_0, nI_one, bI, numB] <;> omega) d_Md_areNumbers_88
          · -- 55 -> 58
            skip
            refine lv_aload_n C.1 C.2.1 d_Md_areNumbers_58 rfl (lv_at hl 0 rfl) ?_
            refine gg_r C hh (Md_0 hM) rfl in_Md 1 (by decide) rfl tw_566 rfl d_Md_areNumbers_59 ?_
            refine lv_iload_n C.1 C.2.1 d_Md_areNumbers_62 rfl (lv_at hl 1 rfl) ?_
            refine ga_i C hh (Md_1 hM) (k := j) rfl (by omega) (by omega) d_Md_areNumbers_63 ?_
            refine gm_eqi hnm ?_
            refine lv_iconst (v := nI 1) C.1 C.2.1 d_Md_areNumbers_64 rfl ?_
            refine lv_icmp_le (tgt := 87) C.1 C.2.1 d_Md_areNumbers_65 (by decide) (fun c_22 => ?_) (fun c_22 => ?_)
            · -- 65 -> 87
              have c_22 := gm_let (by omega) (by omega) c_22
              have c_22' := Nat.not_lt.mpr c_22
              refine lv_iconst (v := nI 0) C.1 C.2.1 d_Md_areNumbers_87 rfl ?_
              exact gr_i C hlk hret (gm_nb (Or.inl rfl)) hh (by refine ⟨rfl, ?_⟩; simp_all [nI_0, nI_one, bI, numB] <;> omega) d_Md_areNumbers_88
            · -- 65 -> 68
              have c_22 := gm_lef (by omega) (by omega) c_22
              have c_22' := Nat.not_le.mpr c_22
              refine lv_iload C.1 C.2.1 d_Md_areNumbers_68 (lv_at hl 4 rfl) ?_
              refine lv_if_eq (tgt := 83) C.1 C.2.1 d_Md_areNumbers_70 (by decide) (fun c_23 => ?_) (fun c_23 => ?_)
              · -- 70 -> 83
                skip
                refine lv_iconst (v := nI 1) C.1 C.2.1 d_Md_areNumbers_83 rfl ?_
                refine lv_goto (tgt := 88) C.1 C.2.1 d_Md_areNumbers_84 (by decide) ?_
                exact gr_i C hlk hret (gm_nb (Or.inr rfl)) hh (by refine ⟨rfl, ?_⟩; simp_all [nI_0, nI_one, bI, numB] <;> omega) d_Md_areNumbers_88
              · -- 70 -> 73
                skip
                refine lv_aload_n C.1 C.2.1 d_Md_areNumbers_73 rfl (lv_at hl 0 rfl) ?_
                refine gg_r C hh (Md_0 hM) rfl in_Md 1 (by decide) rfl tw_566 rfl d_Md_areNumbers_74 ?_
                refine lv_iload_n C.1 C.2.1 d_Md_areNumbers_77 rfl (lv_at hl 1 rfl) ?_
                refine ga_i C hh (Md_1 hM) (k := j) rfl (by omega) (by omega) d_Md_areNumbers_78 ?_
                refine gm_eqi hnm ?_
                refine lv_iconst (v := nI 2) C.1 C.2.1 d_Md_areNumbers_79 rfl ?_
                refine lv_icmp_le (tgt := 87) C.1 C.2.1 d_Md_areNumbers_80 (by decide) (fun c_24 => ?_) (fun c_24 => ?_)
                · -- 80 -> 87
                  have c_24 := gm_let (by omega) (by omega) c_24
                  have c_24' := Nat.not_lt.mpr c_24
                  refine lv_iconst (v := nI 0) C.1 C.2.1 d_Md_areNumbers_87 rfl ?_
                  exact gr_i C hlk hret (gm_nb (Or.inl rfl)) hh (by refine ⟨rfl, ?_⟩; simp_all [nI_0, nI_one, bI, numB] <;> omega) d_Md_areNumbers_88
                · -- 80 -> 83
                  have c_24 := gm_lef (by omega) (by omega) c_24
                  have c_24' := Nat.not_le.mpr c_24
                  refine lv_iconst (v := nI 1) C.1 C.2.1 d_Md_areNumbers_83 rfl ?_
                  refine lv_goto (tgt := 88) C.1 C.2.1 d_Md_areNumbers_84 (by decide) ?_
                  exact gr_i C hlk hret (gm_nb (Or.inr rfl)) hh (by refine ⟨rfl, ?_⟩; simp_all [nI_0, nI_one, bI, numB] <;> omega) d_Md_areNumbers_88
        · -- 40 -> 43
          skip
          refine lv_iload_n C.1 C.2.1 d_Md_areNumbers_43 rfl (lv_at hl 3 rfl) ?_
          refine lv_if_ne (tgt := 54) C.1 C.2.1 d_Md_areNumbers_44 (by decide) (fun c_25 => ?_) (fun c_25 => ?_)
          · -- 44 -> 54
            skip
            refine lv_iload_n C.1 C.2.1 d_Md_areNumbers_54 rfl (lv_at hl 3 rfl) ?_
            refine lv_if_eq (tgt := 68) C.1 C.2.1 d_Md_areNumbers_55 (by decide) (fun c_26 => ?_) (fun c_26 => ?_)
            · -- 55 -> 68
              skip
              refine lv_iload C.1 C.2.1 d_Md_areNumbers_68 (lv_at hl 4 rfl) ?_
              refine lv_if_eq (tgt := 83) C.1 C.2.1 d_Md_areNumbers_70 (by decide) (fun c_27 => ?_) (fun c_27 => ?_)
              · -- 70 -> 83
                skip
                refine lv_iconst (v := nI 1) C.1 C.2.1 d_Md_areNumbers_83 rfl ?_
                refine lv_goto (tgt := 88) C.1 C.2.1 d_Md_areNumbers_84 (by decide) ?_
                exact gr_i C hlk hret (gm_nb (Or.inr rfl)) hh (by refine ⟨rfl, ?_⟩; simp_all [nI_0, nI_one, bI, numB] <;> omega) d_Md_areNumbers_88
              · -- 70 -> 73
                skip
                refine lv_aload_n C.1 C.2.1 d_Md_areNumbers_73 rfl (lv_at hl 0 rfl) ?_
                refine gg_r C hh (Md_0 hM) rfl in_Md 1 (by decide) rfl tw_566 rfl d_Md_areNumbers_74 ?_
                refine lv_iload_n C.1 C.2.1 d_Md_areNumbers_77 rfl (lv_at hl 1 rfl) ?_
                refine ga_i C hh (Md_1 hM) (k := j) rfl (by omega) (by omega) d_Md_areNumbers_78 ?_
                refine gm_eqi hnm ?_
                refine lv_iconst (v := nI 2) C.1 C.2.1 d_Md_areNumbers_79 rfl ?_
                refine lv_icmp_le (tgt := 87) C.1 C.2.1 d_Md_areNumbers_80 (by decide) (fun c_28 => ?_) (fun c_28 => ?_)
                · -- 80 -> 87
                  have c_28 := gm_let (by omega) (by omega) c_28
                  have c_28' := Nat.not_lt.mpr c_28
                  refine lv_iconst (v := nI 0) C.1 C.2.1 d_Md_areNumbers_87 rfl ?_
                  exact gr_i C hlk hret (gm_nb (Or.inl rfl)) hh (by refine ⟨rfl, ?_⟩; simp_all [nI_0, nI_one, bI, numB] <;> omega) d_Md_areNumbers_88
                · -- 80 -> 83
                  have c_28 := gm_lef (by omega) (by omega) c_28
                  have c_28' := Nat.not_le.mpr c_28
                  refine lv_iconst (v := nI 1) C.1 C.2.1 d_Md_areNumbers_83 rfl ?_
                  refine lv_goto (tgt := 88) C.1 C.2.1 d_Md_areNumbers_84 (by decide) ?_
                  exact gr_i C hlk hret (gm_nb (Or.inr rfl)) hh (by refine ⟨rfl, ?_⟩; simp_all [nI_0, nI_one, bI, numB] <;> omega) d_Md_areNumbers_88
            · -- 55 -> 58
              skip
              refine lv_aload_n C.1 C.2.1 d_Md_areNumbers_58 rfl (lv_at hl 0 rfl) ?_
              refine gg_r C hh (Md_0 hM) rfl in_Md 1 (by decide) rfl tw_566 rfl d_Md_areNumbers_59 ?_
              refine lv_iload_n C.1 C.2.1 d_Md_areNumbers_62 rfl (lv_at hl 1 rfl) ?_
              refine ga_i C hh (Md_1 hM) (k := j) rfl (by omega) (by omega) d_Md_areNumbers_63 ?_
              refine gm_eqi hnm ?_
              refine lv_iconst (v := nI 1) C.1 C.2.1 d_Md_areNumbers_64 rfl ?_
              refine lv_icmp_le (tgt := 87) C.1 C.2.1 d_Md_areNumbers_65 (by decide) (fun c_29 => ?_) (fun c_29 => ?_)
              · -- 65 -> 87
                have c_29 := gm_let (by omega) (by omega) c_29
                have c_29' := Nat.not_lt.mpr c_29
                refine lv_iconst (v := nI 0) C.1 C.2.1 d_Md_areNumbers_87 rfl ?_
                exact gr_i C hlk hret (gm_nb (Or.inl rfl)) hh (by refine ⟨rfl, ?_⟩; simp_all [nI_0, nI_one, bI, numB] <;> omega) d_Md_areNumbers_88
              · -- 65 -> 68
                have c_29 := gm_lef (by omega) (by omega) c_29
                have c_29' := Nat.not_le.mpr c_29
                refine lv_iload C.1 C.2.1 d_Md_areNumbers_68 (lv_at hl 4 rfl) ?_
                refine lv_if_eq (tgt := 83) C.1 C.2.1 d_Md_areNumbers_70 (by decide) (fun c_30 => ?_) (fun c_30 => ?_)
                · -- 70 -> 83
                  skip
                  refine lv_iconst (v := nI 1) C.1 C.2.1 d_Md_areNumbers_83 rfl ?_
                  refine lv_goto (tgt := 88) C.1 C.2.1 d_Md_areNumbers_84 (by decide) ?_
                  exact gr_i C hlk hret (gm_nb (Or.inr rfl)) hh (by refine ⟨rfl, ?_⟩; simp_all [nI_0, nI_one, bI, numB] <;> omega) d_Md_areNumbers_88
                · -- 70 -> 73
                  skip
                  refine lv_aload_n C.1 C.2.1 d_Md_areNumbers_73 rfl (lv_at hl 0 rfl) ?_
                  refine gg_r C hh (Md_0 hM) rfl in_Md 1 (by decide) rfl tw_566 rfl d_Md_areNumbers_74 ?_
                  refine lv_iload_n C.1 C.2.1 d_Md_areNumbers_77 rfl (lv_at hl 1 rfl) ?_
                  refine ga_i C hh (Md_1 hM) (k := j) rfl (by omega) (by omega) d_Md_areNumbers_78 ?_
                  refine gm_eqi hnm ?_
                  refine lv_iconst (v := nI 2) C.1 C.2.1 d_Md_areNumbers_79 rfl ?_
                  refine lv_icmp_le (tgt := 87) C.1 C.2.1 d_Md_areNumbers_80 (by decide) (fun c_31 => ?_) (fun c_31 => ?_)
                  · -- 80 -> 87
                    have c_31 := gm_let (by omega) (by omega) c_31
                    have c_31' := Nat.not_lt.mpr c_31
                    refine lv_iconst (v := nI 0) C.1 C.2.1 d_Md_areNumbers_87 rfl ?_
                    exact gr_i C hlk hret (gm_nb (Or.inl rfl)) hh (by refine ⟨rfl, ?_⟩; simp_all [nI_0, nI_one, bI, numB] <;> omega) d_Md_areNumbers_88
                  · -- 80 -> 83
                    have c_31 := gm_lef (by omega) (by omega) c_31
                    have c_31' := Nat.not_le.mpr c_31
                    refine lv_iconst (v := nI 1) C.1 C.2.1 d_Md_areNumbers_83 rfl ?_
                    refine lv_goto (tgt := 88) C.1 C.2.1 d_Md_areNumbers_84 (by decide) ?_
                    exact gr_i C hlk hret (gm_nb (Or.inr rfl)) hh (by refine ⟨rfl, ?_⟩; simp_all [nI_0, nI_one, bI, numB] <;> omega) d_Md_areNumbers_88
          · -- 44 -> 47
            skip
            refine lv_iload C.1 C.2.1 d_Md_areNumbers_47 (lv_at hl 4 rfl) ?_
            refine lv_if_ne (tgt := 54) C.1 C.2.1 d_Md_areNumbers_49 (by decide) (fun c_32 => ?_) (fun c_32 => ?_)
            · -- 49 -> 54
              skip
              refine lv_iload_n C.1 C.2.1 d_Md_areNumbers_54 rfl (lv_at hl 3 rfl) ?_
              refine lv_if_eq (tgt := 68) C.1 C.2.1 d_Md_areNumbers_55 (by decide) (fun c_33 => ?_) (fun c_33 => ?_)
              · -- 55 -> 68
                skip
                refine lv_iload C.1 C.2.1 d_Md_areNumbers_68 (lv_at hl 4 rfl) ?_
                refine lv_if_eq (tgt := 83) C.1 C.2.1 d_Md_areNumbers_70 (by decide) (fun c_34 => ?_) (fun c_34 => ?_)
                · -- 70 -> 83
                  skip
                  refine lv_iconst (v := nI 1) C.1 C.2.1 d_Md_areNumbers_83 rfl ?_
                  refine lv_goto (tgt := 88) C.1 C.2.1 d_Md_areNumbers_84 (by decide) ?_
                  exact gr_i C hlk hret (gm_nb (Or.inr rfl)) hh (by refine ⟨rfl, ?_⟩; simp_all [nI_0, nI_one, bI, numB] <;> omega) d_Md_areNumbers_88
                · -- 70 -> 73
                  skip
                  refine lv_aload_n C.1 C.2.1 d_Md_areNumbers_73 rfl (lv_at hl 0 rfl) ?_
                  refine gg_r C hh (Md_0 hM) rfl in_Md 1 (by decide) rfl tw_566 rfl d_Md_areNumbers_74 ?_
                  refine lv_iload_n C.1 C.2.1 d_Md_areNumbers_77 rfl (lv_at hl 1 rfl) ?_
                  refine ga_i C hh (Md_1 hM) (k := j) rfl (by omega) (by omega) d_Md_areNumbers_78 ?_
                  refine gm_eqi hnm ?_
                  refine lv_iconst (v := nI 2) C.1 C.2.1 d_Md_areNumbers_79 rfl ?_
                  refine lv_icmp_le (tgt := 87) C.1 C.2.1 d_Md_areNumbers_80 (by decide) (fun c_35 => ?_) (fun c_35 => ?_)
                  · -- 80 -> 87
                    have c_35 := gm_let (by omega) (by omega) c_35
                    have c_35' := Nat.not_lt.mpr c_35
                    refine lv_iconst (v := nI 0) C.1 C.2.1 d_Md_areNumbers_87 rfl ?_
                    exact gr_i C hlk hret (gm_nb (Or.inl rfl)) hh (by refine ⟨rfl, ?_⟩; simp_all [nI_0, nI_one, bI, numB] <;> omega) d_Md_areNumbers_88
                  · -- 80 -> 83
                    have c_35 := gm_lef (by omega) (by omega) c_35
                    have c_35' := Nat.not_le.mpr c_35
                    refine lv_iconst (v := nI 1) C.1 C.2.1 d_Md_areNumbers_83 rfl ?_
                    refine lv_goto (tgt := 88) C.1 C.2.1 d_Md_areNumbers_84 (by decide) ?_
                    exact gr_i C hlk hret (gm_nb (Or.inr rfl)) hh (by refine ⟨rfl, ?_⟩; simp_all [nI_0, nI_one, bI, numB] <;> omega) d_Md_areNumbers_88
              · -- 55 -> 58
                skip
                refine lv_aload_n C.1 C.2.1 d_Md_areNumbers_58 rfl (lv_at hl 0 rfl) ?_
                refine gg_r C hh (Md_0 hM) rfl in_Md 1 (by decide) rfl tw_566 rfl d_Md_areNumbers_59 ?_
                refine lv_iload_n C.1 C.2.1 d_Md_areNumbers_62 rfl (lv_at hl 1 rfl) ?_
                refine ga_i C hh (Md_1 hM) (k := j) rfl (by omega) (by omega) d_Md_areNumbers_63 ?_
                refine gm_eqi hnm ?_
                refine lv_iconst (v := nI 1) C.1 C.2.1 d_Md_areNumbers_64 rfl ?_
                refine lv_icmp_le (tgt := 87) C.1 C.2.1 d_Md_areNumbers_65 (by decide) (fun c_36 => ?_) (fun c_36 => ?_)
                · -- 65 -> 87
                  have c_36 := gm_let (by omega) (by omega) c_36
                  have c_36' := Nat.not_lt.mpr c_36
                  refine lv_iconst (v := nI 0) C.1 C.2.1 d_Md_areNumbers_87 rfl ?_
                  exact gr_i C hlk hret (gm_nb (Or.inl rfl)) hh (by refine ⟨rfl, ?_⟩; simp_all [nI_0, nI_one, bI, numB] <;> omega) d_Md_areNumbers_88
                · -- 65 -> 68
                  have c_36 := gm_lef (by omega) (by omega) c_36
                  have c_36' := Nat.not_le.mpr c_36
                  refine lv_iload C.1 C.2.1 d_Md_areNumbers_68 (lv_at hl 4 rfl) ?_
                  refine lv_if_eq (tgt := 83) C.1 C.2.1 d_Md_areNumbers_70 (by decide) (fun c_37 => ?_) (fun c_37 => ?_)
                  · -- 70 -> 83
                    skip
                    refine lv_iconst (v := nI 1) C.1 C.2.1 d_Md_areNumbers_83 rfl ?_
                    refine lv_goto (tgt := 88) C.1 C.2.1 d_Md_areNumbers_84 (by decide) ?_
                    exact gr_i C hlk hret (gm_nb (Or.inr rfl)) hh (by refine ⟨rfl, ?_⟩; simp_all [nI_0, nI_one, bI, numB] <;> omega) d_Md_areNumbers_88
                  · -- 70 -> 73
                    skip
                    refine lv_aload_n C.1 C.2.1 d_Md_areNumbers_73 rfl (lv_at hl 0 rfl) ?_
                    refine gg_r C hh (Md_0 hM) rfl in_Md 1 (by decide) rfl tw_566 rfl d_Md_areNumbers_74 ?_
                    refine lv_iload_n C.1 C.2.1 d_Md_areNumbers_77 rfl (lv_at hl 1 rfl) ?_
                    refine ga_i C hh (Md_1 hM) (k := j) rfl (by omega) (by omega) d_Md_areNumbers_78 ?_
                    refine gm_eqi hnm ?_
                    refine lv_iconst (v := nI 2) C.1 C.2.1 d_Md_areNumbers_79 rfl ?_
                    refine lv_icmp_le (tgt := 87) C.1 C.2.1 d_Md_areNumbers_80 (by decide) (fun c_38 => ?_) (fun c_38 => ?_)
                    · -- 80 -> 87
                      have c_38 := gm_let (by omega) (by omega) c_38
                      have c_38' := Nat.not_lt.mpr c_38
                      refine lv_iconst (v := nI 0) C.1 C.2.1 d_Md_areNumbers_87 rfl ?_
                      exact gr_i C hlk hret (gm_nb (Or.inl rfl)) hh (by refine ⟨rfl, ?_⟩; simp_all [nI_0, nI_one, bI, numB] <;> omega) d_Md_areNumbers_88
                    · -- 80 -> 83
                      have c_38 := gm_lef (by omega) (by omega) c_38
                      have c_38' := Nat.not_le.mpr c_38
                      refine lv_iconst (v := nI 1) C.1 C.2.1 d_Md_areNumbers_83 rfl ?_
                      refine lv_goto (tgt := 88) C.1 C.2.1 d_Md_areNumbers_84 (by decide) ?_
                      exact gr_i C hlk hret (gm_nb (Or.inr rfl)) hh (by refine ⟨rfl, ?_⟩; simp_all [nI_0, nI_one, bI, numB] <;> omega) d_Md_areNumbers_88
            · -- 49 -> 52
              skip
              refine lv_iconst (v := nI 0) C.1 C.2.1 d_Md_areNumbers_52 rfl ?_
              exact gr_i C hlk hret (gm_nb (Or.inl rfl)) hh (by refine ⟨rfl, ?_⟩; simp_all [nI_0, nI_one, bI, numB] <;> omega) d_Md_areNumbers_53
      · -- 34 -> 37
        have b_39 := bI_f hr_13 c_16
        skip
        refine lv_iconst (v := nI 0) C.1 C.2.1 d_Md_areNumbers_37 rfl ?_
        exact gr_i C hlk hret (gm_nb (Or.inl rfl)) hh (by refine ⟨rfl, ?_⟩; simp_all [nI_0, nI_one, bI, numB] <;> omega) d_Md_areNumbers_38

set_option maxHeartbeats 4000000 in
set_option maxRecDepth 100000 in
theorem c_Md_isRow (l : Launch) (D : va_G) (cs : Nat → ClassId) (sh : gm_H) (sz : Nat) (I : gm_I) (J : gm_J) (r : Nat) (hM : is_Md sh r) (hV : inv_Md I r) (j nm : Nat) (a b c d : Int32) (hj : j < 8) (hnm : I (r + 1) j = nI nm) (hn3 : nm ≤ 3) : CI l y_Md_isRow w_Md_isRow { frames := 2, cells := 0, slots := 0, locals := 47 } D cs sh sz I J [.ref r, .int (nI j), .int a, .int b, .int c, .int d] (fun x u => u = (I, J) ∧ x = bI (rowB nm a b c d)) := by
  refine gm_start (by decide) (Nat.le_of_ble_eq_true rfl) ?_
  intro p' e' s' m' be' me' co' ls C hml hlk hret hh hl
  have hl : lv_has ls 6 [(0, .ref r), (1, .int (nI j)), (2, .int a), (3, .int b), (4, .int c), (5, .int d)] := hl
  refine lv_aload_n C.1 C.2.1 d_Md_isRow_0 rfl (lv_at hl 0 rfl) ?_
  refine lv_iload_n C.1 C.2.1 d_Md_isRow_1 rfl (lv_at hl 1 rfl) ?_
  refine lv_iload_n C.1 C.2.1 d_Md_isRow_2 rfl (lv_at hl 2 rfl) ?_
  refine lv_iload_n C.1 C.2.1 d_Md_isRow_3 rfl (lv_at hl 3 rfl) ?_
  refine lv_iload C.1 C.2.1 d_Md_isRow_4 (lv_at hl 4 rfl) ?_
  refine lv_bipush (v := nI 9) C.1 C.2.1 d_Md_isRow_6 rfl ?_
  refine gc_i hh (gc_runV (As := [.int (nI j), .int a, .int b, .int c, .int (nI 9)]) (rest := []) (n := 5) C hml hh (c_Md_areNumbers l D cs sh sz I J r hM hV j nm a b c (nI 9) hj hnm hn3) (tg_V tw_703 tw_705 tw_28 tw_64 tw_706) (by decide +kernel) ⟨rfl, rfl, by decide, by decide, Nat.zero_le _, Nat.zero_le _⟩ (Md_0 hM) rfl rfl hl.1 rfl (Nat.le_of_ble_eq_true rfl) d_Md_isRow_8) (fun r_1 I_2 J_3 H locs hr_1 hh => ?_)
  obtain ⟨e_r_1, hr_1⟩ := hr_1
  rw [(Prod.mk.inj e_r_1).1, (Prod.mk.inj e_r_1).2] at hh
  refine lv_if_eq (tgt := 32) C.1 C.2.1 d_Md_isRow_11 (by decide) (fun c_4 => ?_) (fun c_4 => ?_)
  · -- 11 -> 32
    have b_5 := bI_f hr_1 c_4
    skip
    refine lv_iconst (v := nI 0) C.1 C.2.1 d_Md_isRow_32 rfl ?_
    exact gr_i C hlk hret (gm_nb (Or.inl rfl)) hh (by refine ⟨rfl, ?_⟩; simp_all [nI_0, nI_one, bI, rowB]) d_Md_isRow_33
  · -- 11 -> 14
    have b_6 := bI_t hr_1 c_4
    skip
    refine lv_iload C.1 C.2.1 d_Md_isRow_14 (lv_at hl 5 rfl) ?_
    refine lv_sipush (v := (-1000)) C.1 C.2.1 d_Md_isRow_16 rfl ?_
    refine lv_sipush (v := nI 1000) C.1 C.2.1 d_Md_isRow_19 rfl ?_
    refine gc_i hh (gc_runS (As := [.int d, .int (-1000), .int (nI 1000)]) (rest := []) (n := 3) C hml hh (c_Md_isIn l D cs sh sz I J d (-1000) (nI 1000)) (tg_S tw_684 tw_685 tw_64 tw_686) (by decide +kernel) ⟨rfl, rfl, by decide, by decide, Nat.zero_le _, Nat.zero_le _⟩ rfl hl.1 rfl (Nat.le_of_ble_eq_true rfl) d_Md_isRow_22) (fun r_7 I_8 J_9 H locs hr_7 hh => ?_)
    obtain ⟨e_r_7, hr_7⟩ := hr_7
    rw [(Prod.mk.inj e_r_7).1, (Prod.mk.inj e_r_7).2] at hh
    refine lv_if_eq (tgt := 32) C.1 C.2.1 d_Md_isRow_25 (by decide) (fun c_10 => ?_) (fun c_10 => ?_)
    · -- 25 -> 32
      have b_11 := bI_f hr_7 c_10
      skip
      refine lv_iconst (v := nI 0) C.1 C.2.1 d_Md_isRow_32 rfl ?_
      exact gr_i C hlk hret (gm_nb (Or.inl rfl)) hh (by refine ⟨rfl, ?_⟩; simp_all [nI_0, nI_one, bI, rowB]) d_Md_isRow_33
    · -- 25 -> 28
      have b_12 := bI_t hr_7 c_10
      skip
      refine lv_iconst (v := nI 1) C.1 C.2.1 d_Md_isRow_28 rfl ?_
      refine lv_goto (tgt := 33) C.1 C.2.1 d_Md_isRow_29 (by decide) ?_
      exact gr_i C hlk hret (gm_nb (Or.inr rfl)) hh (by refine ⟨rfl, ?_⟩; simp_all [nI_0, nI_one, bI, rowB]) d_Md_isRow_33
