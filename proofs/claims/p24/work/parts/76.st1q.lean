set_option maxHeartbeats 4000000 in
set_option maxRecDepth 100000 in
theorem c_FT_walkF (l : Launch) (D : va_G) (cs : Nat → ClassId) (sh : gm_H) (sz : Nat) (I : gm_I) (J : gm_J) (B : Nat) (hF : is_FT cs sh B) (hV : inv_FT I B) (n : Nat) (en : I B 1 = nI n) (hn : n ≤ 8) (v w : Int32) : CI l y_FT_walk w_FT_walk { frames := 3, cells := 0, slots := 0, locals := 70 } D cs sh sz I J [.ref B, .int v, .int w] (fun x u => (inI v 0 (nI n - 1) = false ∧ x = -2 ∧ u = (I, J)) ∨ (inI v 0 (nI n - 1) = true ∧ inI w (nI 0) (nI 1000) = false ∧ x = -3 ∧ u = (I, J)) ∨ ∃ j i, j < n ∧ v = nI j ∧ w = nI i ∧ i ≤ 1000 ∧ x = nI (cwN I (B + 12 + 21 * j) i (get3 J (B + 12 + 21 * j + 4))).1 ∧ u.1 = I ∧ but2 (B + 12 + 21 * j) J u.2 ∧ get3 u.2 (B + 12 + 21 * j + 4) = (cwN I (B + 12 + 21 * j) i (get3 J (B + 12 + 21 * j + 4))).2) := by
  refine gm_start (by decide) (Nat.le_of_ble_eq_true rfl) ?_
  intro p' e' s' m' be' me' co' ls C hml hlk hret hh hl
  have hl : lv_has ls 5 [(0, .ref B), (1, .int v), (2, .int w)] := hl
  refine lv_aload_n C.1 C.2.1 d_FT_walk_0 rfl (lv_at hl 0 rfl) ?_
  refine lv_iload_n C.1 C.2.1 d_FT_walk_1 rfl (lv_at hl 1 rfl) ?_
  refine gc_i hh (gc_runV (As := [.int v]) (rest := []) (n := 1) C hml hh (c_FT_isLoop l D cs sh sz I J B hF hV n en hn v) (tg_V tw_264 tw_266 tw_0 tw_57 tw_267) (by decide +kernel) ⟨rfl, rfl, by decide, by decide, Nat.zero_le _, Nat.zero_le _⟩ hF.1 rfl rfl hl.1 rfl (Nat.le_of_ble_eq_true rfl) d_FT_walk_2) (fun r_1 I_2 J_3 H locs hr_1 hh => ?_)
  obtain ⟨e_r_1, hr_1⟩ := hr_1
  rw [(Prod.mk.inj e_r_1).1, (Prod.mk.inj e_r_1).2] at hh
  refine lv_if_ne (tgt := 11) C.1 C.2.1 d_FT_walk_5 (by decide) (fun c_4 => ?_) (fun c_4 => ?_)
  · -- 5 -> 11
    have b_5 := bI_t hr_1 c_4
    obtain ⟨j_6, hj_6, ej_6⟩ := inI_nat (by omega) b_5
    subst ej_6
    skip
    refine lv_iload_n C.1 C.2.1 d_FT_walk_11 rfl (lv_at hl 2 rfl) ?_
    refine lv_if_lt (tgt := 22) C.1 C.2.1 d_FT_walk_12 (by decide) (fun c_7 => ?_) (fun c_7 => ?_)
    · -- 12 -> 22
      skip
      refine lv_bipush (v := (-3)) C.1 C.2.1 d_FT_walk_22 rfl ?_
      exact gr_i C hlk hret rfl hh (by refine Or.inr (Or.inl ⟨by assumption, ?_, rfl, rfl⟩); unfold inI; simp_all [nI_0]) d_FT_walk_24
    · -- 12 -> 15
      skip
      obtain ⟨i_8, hi_8, ei_8⟩ := nI_of (by assumption : ¬ w < 0)
      subst ei_8
      refine lv_iload_n C.1 C.2.1 d_FT_walk_15 rfl (lv_at hl 2 rfl) ?_
      refine lv_sipush (v := nI 1000) C.1 C.2.1 d_FT_walk_16 rfl ?_
      refine lv_icmp_le (tgt := 25) C.1 C.2.1 d_FT_walk_19 (by decide) (fun c_9 => ?_) (fun c_9 => ?_)
      · -- 19 -> 25
        have c_9 := gm_let (by omega) (by omega) c_9
        have c_9' := Nat.not_lt.mpr c_9
        refine lv_aload_n C.1 C.2.1 d_FT_walk_25 rfl (lv_at hl 0 rfl) ?_
        refine gg_r C hh hF.1 rfl in_FT 0 (by decide) rfl tw_210 rfl d_FT_walk_26 ?_
        refine lv_iload_n C.1 C.2.1 d_FT_walk_29 rfl (lv_at hl 1 rfl) ?_
        refine ga_q C hh 2 hF.2.1 (Cn := "FallingTerms$Loop") rfl (k := j_6) (v := B + 12 + 21 * j_6) rfl (by omega) (by omega) (if_pos (by omega)) d_FT_walk_30 ?_
        obtain ⟨p_10, ep_10⟩ : ∃ z : Nat, z = B + 12 + 21 * j_6 := ⟨_, rfl⟩
        have hp_10 : is_Lp cs sh p_10 := by rw [ep_10]; exact hF.2.2.2.2.2.2.2.2.2.2 j_6 (by omega)
        refine gm_eqr ep_10.symm ?_
        refine lv_astore_n (lv' := [(3, .ref p_10), (0, .ref B), (1, .int (nI j_6)), (2, .int (nI i_8))]) C.1 C.2.1 d_FT_walk_31 rfl hl (by decide) rfl (fun ls hl => ?_)
        refine lv_iconst (v := nI 0) C.1 C.2.1 d_FT_walk_32 rfl ?_
        refine lv_istore (lv' := [(4, .int (nI 0)), (3, .ref p_10), (0, .ref B), (1, .int (nI j_6)), (2, .int (nI i_8))]) C.1 C.2.1 d_FT_walk_33 hl (by decide) rfl (fun ls hl => ?_)
        have K35 : ∀ (n_35 : Nat) (d : Nat) (t : V3) (J35 : gm_J) (hd : d ≤ i_8) (ht : cwN I p_10 i_8 (get3 J (p_10 + 4)) = (d + (cwN I p_10 (i_8 - d) t).1, (cwN I p_10 (i_8 - d) t).2)) (hg : get3 J35 (p_10 + 4) = t) (hB : but2 p_10 J J35) (hm_35 : i_8 - d < n_35), ∀ (H : Heap) (locs : List Loc) (ls : Array Slot), gm_St D cs sh (gm_A sh) s'.heap sz I J35 H locs → lv_has ls 5 [(0, .ref B), (1, .int (nI j_6)), (2, .int (nI i_8)), (3, .ref p_10), (4, .int (nI d))] → W p' l e' { frames := 3, cells := 0, slots := 0, locals := 70 } s' m' ([.ref B, .int (nI j_6), .int (nI i_8)] : List Value).toArray be' me' co' H locs 0 0 (MQ be' (va_Qi (fun x u => (inI (nI j_6) 0 (nI n - 1) = false ∧ x = -2 ∧ u = (I, J)) ∨ (inI (nI j_6) 0 (nI n - 1) = true ∧ inI (nI i_8) (nI 0) (nI 1000) = false ∧ x = -3 ∧ u = (I, J)) ∨ ∃ j i, j < n ∧ (nI j_6) = nI j ∧ (nI i_8) = nI i ∧ i ≤ 1000 ∧ x = nI (cwN I (B + 12 + 21 * j) i (get3 J (B + 12 + 21 * j + 4))).1 ∧ u.1 = I ∧ but2 (B + 12 + 21 * j) J u.2 ∧ get3 u.2 (B + 12 + 21 * j + 4) = (cwN I (B + 12 + 21 * j) i (get3 J (B + 12 + 21 * j + 4))).2) (gm_B D cs sh sz) (gm_A sh)) ([.ref B, .int (nI j_6), .int (nI i_8)] : List Value).toArray s' 0 0 (gm_A sh)) (F0 m' 35 ls []) := by
          intro n_35
          induction n_35 with
          | zero => intro d t J35 hd ht hg hB hm_35; exact absurd hm_35 (Nat.not_lt_zero _)
          | succ n_35 ih35 =>
            intro d t J35 hd ht hg hB hm_35 H locs ls hh hl
            refine lv_iload C.1 C.2.1 d_FT_walk_35 (lv_at hl 4 rfl) ?_
            refine lv_iload_n C.1 C.2.1 d_FT_walk_37 rfl (lv_at hl 2 rfl) ?_
            refine lv_icmp_ge (tgt := 61) C.1 C.2.1 d_FT_walk_38 (by decide) (fun c_11 => ?_) (fun c_11 => ?_)
            · -- 38 -> 61
              have c_11 := gm_get (by omega) (by omega) c_11
              have c_11' := Nat.not_lt.mpr c_11
              refine lv_iload_n C.1 C.2.1 d_FT_walk_61 rfl (lv_at hl 2 rfl) ?_
              exact gr_i C hlk hret rfl hh (by refine Or.inr (Or.inr ⟨_, _, by assumption, rfl, rfl, by omega, ?_⟩); rw [← ep_10, cwN_end ht (by omega)]; exact ⟨by rw [show d = i_8 by omega], rfl, hB, hg⟩) d_FT_walk_62
            · -- 38 -> 41
              have c_11 := gm_gef (by omega) (by omega) c_11
              have c_11' := Nat.not_le.mpr c_11
              refine lv_aload_n C.1 C.2.1 d_FT_walk_41 rfl (lv_at hl 3 rfl) ?_
              refine lv_aload_n C.1 C.2.1 d_FT_walk_42 rfl (lv_at hl 3 rfl) ?_
              refine gn_r C hh hp_10.1 rfl in_Lp 4 (by decide) rfl tw_165 rfl d_FT_walk_43 ?_
              refine gc_i hh (gc_runV (As := [.ref (p_10 + 4)]) (rest := []) (n := 1) C hml hh (c_Lp_advance l D cs sh sz I J35 p_10 hp_10 (by have h_ := hV.2.1 j_6 (by omega); rw [← ep_10] at h_; exact h_ : inv_Lp I p_10) (p_10 + 4) hp_10.2.2.2.1 (by omega)) (tg_V tw_517 tw_518 tw_519 tw_59 tw_520) (by decide +kernel) ⟨rfl, rfl, by decide, by decide, Nat.zero_le _, Nat.zero_le _⟩ hp_10.1 rfl rfl hl.1 rfl (Nat.le_of_ble_eq_true rfl) d_FT_walk_46) (fun r_12 I_13 J_14 H locs hr_12 hh => ?_)
              obtain ⟨J2_a_15, b_a_15, x_a_15, e_a_15⟩ := hr_12
              rw [hg] at x_a_15 e_a_15
              have f_a_15 := (Prod.mk.inj e_a_15).2
              rw [(Prod.mk.inj e_a_15).1] at hh
              have g_a_15 : get3 J_14 (p_10 + 4) = (cw1 I p_10 t).2 := by rw [f_a_15, get3_set3]
              have d_a_15 : but2 p_10 J J_14 := fun q h1 h2 => by rw [f_a_15, set3_off _ _ h1, b_a_15 q h2]; exact hB q h1 h2
              refine lv_if_ge (tgt := 55) C.1 C.2.1 d_FT_walk_49 (by decide) (fun c_16 => ?_) (fun c_16 => ?_)
              · -- 49 -> 55
                skip
                refine lv_iinc (v := nI (d + 1)) (lv' := [(4, .int (nI (d + 1))), (0, .ref B), (1, .int (nI j_6)), (2, .int (nI i_8)), (3, .ref p_10)]) C.1 C.2.1 d_FT_walk_55 hl (k := 4) rfl (gm_inc d 1) (by decide) rfl (fun ls hl => ?_)
                refine lv_goto (tgt := 35) C.1 C.2.1 d_FT_walk_58 (by decide) ?_
                exact ih35 (d + 1) ((cw1 I p_10 t).2) J_14 (by omega) (by exact cwN_step ht (by omega) (by rw [← x_a_15]; exact Int32.not_lt.mpr (by assumption))) (by exact g_a_15) (by exact d_a_15) (by omega) _ _ _ hh (lv_sub hl [1, 2, 3, 4, 0] rfl)
              · -- 49 -> 52
                skip
                refine lv_iload C.1 C.2.1 d_FT_walk_52 (lv_at hl 4 rfl) ?_
                exact gr_i C hlk hret rfl hh (by have hs_ : (cw1 I p_10 t).1 < 0 := (by rw [← x_a_15]; exact Int32.not_le.mp (by assumption)); refine Or.inr (Or.inr ⟨_, _, by assumption, rfl, rfl, by omega, ?_⟩); rw [← ep_10, cwN_stop ht hs_]; exact ⟨rfl, rfl, d_a_15, g_a_15.trans (cw1_stay (by have h_ := hV.2.1 j_6 (by omega); rw [← ep_10] at h_; exact h_ : inv_Lp I p_10) hs_)⟩) d_FT_walk_54
        exact K35 _ 0 (get3 J (p_10 + 4)) J (by omega) (by simp) (by rfl) (by exact fun _ _ _ => rfl) (Nat.lt_succ_self _) _ _ _ hh (lv_sub hl [2, 3, 4, 1, 0] rfl)
      · -- 19 -> 22
        have c_9 := gm_lef (by omega) (by omega) c_9
        have c_9' := Nat.not_le.mpr c_9
        refine lv_bipush (v := (-3)) C.1 C.2.1 d_FT_walk_22 rfl ?_
        exact gr_i C hlk hret rfl hh (by refine Or.inr (Or.inl ⟨by assumption, ?_, rfl, rfl⟩); unfold inI; simp_all [nI_0]) d_FT_walk_24
  · -- 5 -> 8
    have b_17 := bI_f hr_1 c_4
    skip
    refine lv_bipush (v := (-2)) C.1 C.2.1 d_FT_walk_8 rfl ?_
    exact gr_i C hlk hret rfl hh (by exact Or.inl ⟨by assumption, rfl, rfl⟩) d_FT_walk_10

set_option maxHeartbeats 4000000 in
set_option maxRecDepth 100000 in
theorem c_FT_ringFromF (l : Launch) (D : va_G) (cs : Nat → ClassId) (sh : gm_H) (sz : Nat) (I : gm_I) (J : gm_J) (B : Nat) (hF : is_FT cs sh B) (hV : inv_FT I B) (j o : Nat) (hj : j < 8) (eo : o = B + 12 + 21 * j) (ho : is_Lp cs sh o) (a b c : Int32) : CI l y_FT_ringFrom w_FT_ringFrom { frames := 3, cells := 0, slots := 0, locals := 70 } D cs sh sz I J [.ref B, .ref o, .int a, .int b, .int c] (fun x u => x = nI (cbF I o (v3 a b c) 200 1 (v3 a b c)) ∧ u.1 = I ∧ get3 u.2 (B + 9) = v3 a b c ∧ but5 B o J u.2) := by
  refine gm_start (by decide) (Nat.le_of_ble_eq_true rfl) ?_
  intro p' e' s' m' be' me' co' ls C hml hlk hret hh hl
  have hl : lv_has ls 6 [(0, .ref B), (1, .ref o), (2, .int a), (3, .int b), (4, .int c)] := hl
  refine lv_aload_n C.1 C.2.1 d_FT_ringFrom_0 rfl (lv_at hl 0 rfl) ?_
  refine gg_r C hh hF.1 rfl in_FT 8 (by decide) rfl tw_218 rfl d_FT_ringFrom_1 ?_
  refine lv_iconst (v := nI 0) C.1 C.2.1 d_FT_ringFrom_4 rfl ?_
  refine lv_iload_n C.1 C.2.1 d_FT_ringFrom_5 rfl (lv_at hl 2 rfl) ?_
  refine lv_i2l (v := a.toInt64) C.1 C.2.1 d_FT_ringFrom_6 rfl ?_
  refine gs_l C hh hF.2.2.2.2.2.2.2.1 (k := 0) rfl (by omega) (by omega) d_FT_ringFrom_7 (fun H locs hh => ?_)
  obtain ⟨J_1, eJ_1⟩ : ∃ z : gm_J, z = gm_up J (B + 9) 0 a.toInt64 := ⟨_, rfl⟩
  rw [← eJ_1] at hh
  refine lv_aload_n C.1 C.2.1 d_FT_ringFrom_8 rfl (lv_at hl 0 rfl) ?_
  refine gg_r C hh hF.1 rfl in_FT 8 (by decide) rfl tw_218 rfl d_FT_ringFrom_9 ?_
  refine lv_iconst (v := nI 1) C.1 C.2.1 d_FT_ringFrom_12 rfl ?_
  refine lv_iload_n C.1 C.2.1 d_FT_ringFrom_13 rfl (lv_at hl 3 rfl) ?_
  refine lv_i2l (v := b.toInt64) C.1 C.2.1 d_FT_ringFrom_14 rfl ?_
  refine gs_l C hh hF.2.2.2.2.2.2.2.1 (k := 1) rfl (by omega) (by omega) d_FT_ringFrom_15 (fun H locs hh => ?_)
  obtain ⟨J_2, eJ_2⟩ : ∃ z : gm_J, z = gm_up J_1 (B + 9) 1 b.toInt64 := ⟨_, rfl⟩
  rw [← eJ_2] at hh
  refine lv_aload_n C.1 C.2.1 d_FT_ringFrom_16 rfl (lv_at hl 0 rfl) ?_
  refine gg_r C hh hF.1 rfl in_FT 8 (by decide) rfl tw_218 rfl d_FT_ringFrom_17 ?_
  refine lv_iconst (v := nI 2) C.1 C.2.1 d_FT_ringFrom_20 rfl ?_
  refine lv_iload C.1 C.2.1 d_FT_ringFrom_21 (lv_at hl 4 rfl) ?_
  refine lv_i2l (v := c.toInt64) C.1 C.2.1 d_FT_ringFrom_23 rfl ?_
  refine gs_l C hh hF.2.2.2.2.2.2.2.1 (k := 2) rfl (by omega) (by omega) d_FT_ringFrom_24 (fun H locs hh => ?_)
  obtain ⟨J_3, eJ_3⟩ : ∃ z : gm_J, z = gm_up J_2 (B + 9) 2 c.toInt64 := ⟨_, rfl⟩
  rw [← eJ_3] at hh
  have hh : gm_St D cs sh (gm_A sh) s'.heap sz I (set3 J (B + 9) (v3 a b c)) H locs := by simp only [eJ_1, eJ_2, eJ_3] at hh; exact hh
  refine lv_aload_n C.1 C.2.1 d_FT_ringFrom_25 rfl (lv_at hl 0 rfl) ?_
  refine gg_r C hh hF.1 rfl in_FT 8 (by decide) rfl tw_218 rfl d_FT_ringFrom_26 ?_
  refine lv_aload_n C.1 C.2.1 d_FT_ringFrom_29 rfl (lv_at hl 0 rfl) ?_
  refine gg_r C hh hF.1 rfl in_FT 9 (by decide) rfl tw_219 rfl d_FT_ringFrom_30 ?_
  refine gc_v hh (gc_runS (As := [.ref (B + 9), .ref (B + 10)]) (rest := []) (n := 2) C hml hh (c_FT_copyState l D cs sh sz I (set3 J (B + 9) (v3 a b c)) (B + 9) (B + 10) hF.2.2.2.2.2.2.2.1 hF.2.2.2.2.2.2.2.2.1 (by omega)) (tg_S tw_551 tw_532 tw_57 tw_533) (by decide +kernel) ⟨rfl, rfl, by decide, by decide, Nat.zero_le _, Nat.zero_le _⟩ rfl hl.1 rfl (Nat.le_of_ble_eq_true rfl) d_FT_ringFrom_33) (fun I_5 J_6 H locs hr_4 hh => ?_)
  rw [(Prod.mk.inj hr_4).1, (Prod.mk.inj hr_4).2] at hh
  refine lv_aload_n C.1 C.2.1 d_FT_ringFrom_36 rfl (lv_at hl 0 rfl) ?_
  refine gg_r C hh hF.1 rfl in_FT 8 (by decide) rfl tw_218 rfl d_FT_ringFrom_37 ?_
  refine lv_aload_n C.1 C.2.1 d_FT_ringFrom_40 rfl (lv_at hl 0 rfl) ?_
  refine gg_r C hh hF.1 rfl in_FT 10 (by decide) rfl tw_220 rfl d_FT_ringFrom_41 ?_
  refine gc_v hh (gc_runS (As := [.ref (B + 9), .ref (B + 11)]) (rest := []) (n := 2) C hml hh (c_FT_copyState l D cs sh sz I (set3 (set3 J (B + 9) (v3 a b c)) (B + 10) (get3 (set3 J (B + 9) (v3 a b c)) (B + 9))) (B + 9) (B + 11) hF.2.2.2.2.2.2.2.1 hF.2.2.2.2.2.2.2.2.2.1 (by omega)) (tg_S tw_551 tw_532 tw_57 tw_533) (by decide +kernel) ⟨rfl, rfl, by decide, by decide, Nat.zero_le _, Nat.zero_le _⟩ rfl hl.1 rfl (Nat.le_of_ble_eq_true rfl) d_FT_ringFrom_44) (fun I_8 J_9 H locs hr_7 hh => ?_)
  rw [(Prod.mk.inj hr_7).1, (Prod.mk.inj hr_7).2] at hh
  refine lv_iconst (v := nI 1) C.1 C.2.1 d_FT_ringFrom_47 rfl ?_
  refine lv_istore (lv' := [(5, .int (nI 1)), (0, .ref B), (1, .ref o), (2, .int a), (3, .int b), (4, .int c)]) C.1 C.2.1 d_FT_ringFrom_48 hl (by decide) rfl (fun ls hl => ?_)
  have K50 : ∀ (n_50 : Nat) (k : Nat) (J50 : gm_J) (hk : k ≤ 200) (hn0 : get3 J50 (B + 10) = itr I o (v3 a b c) k) (hs0 : get3 J50 (B + 9) = v3 a b c) (hm0 : ∃ p, p ≤ k ∧ get3 J50 (B + 11) = itr I o (v3 a b c) p) (hD : ∀ q, q < k → ¬ (cw1 I o (itr I o (v3 a b c) q)).1 < 0) (hE : ∀ q, 1 ≤ q → q ≤ k → itr I o (v3 a b c) q ≠ v3 a b c) (hB : but5 B o J J50) (ht : cbF I o (v3 a b c) 200 1 (v3 a b c) = cbF I o (v3 a b c) (200 - k) (k + 1) (itr I o (v3 a b c) k)) (hm_50 : 201 - k < n_50), ∀ (H : Heap) (locs : List Loc) (ls : Array Slot), gm_St D cs sh (gm_A sh) s'.heap sz I J50 H locs → lv_has ls 6 [(0, .ref B), (1, .ref o), (2, .int a), (3, .int b), (4, .int c), (5, .int (nI (k + 1)))] → W p' l e' { frames := 3, cells := 0, slots := 0, locals := 70 } s' m' ([.ref B, .ref o, .int a, .int b, .int c] : List Value).toArray be' me' co' H locs 0 0 (MQ be' (va_Qi (fun x u => x = nI (cbF I o (v3 a b c) 200 1 (v3 a b c)) ∧ u.1 = I ∧ get3 u.2 (B + 9) = v3 a b c ∧ but5 B o J u.2) (gm_B D cs sh sz) (gm_A sh)) ([.ref B, .ref o, .int a, .int b, .int c] : List Value).toArray s' 0 0 (gm_A sh)) (F0 m' 50 ls []) := by
    intro n_50
    induction n_50 with
    | zero => intro k J50 hk hn0 hs0 hm0 hD hE hB ht hm_50; exact absurd hm_50 (Nat.not_lt_zero _)
    | succ n_50 ih50 =>
      intro k J50 hk hn0 hs0 hm0 hD hE hB ht hm_50 H locs ls hh hl
      refine lv_iload C.1 C.2.1 d_FT_ringFrom_50 (lv_at hl 5 rfl) ?_
      refine lv_sipush (v := nI 200) C.1 C.2.1 d_FT_ringFrom_52 rfl ?_
      refine lv_icmp_gt (tgt := 131) C.1 C.2.1 d_FT_ringFrom_55 (by decide) (fun c_10 => ?_) (fun c_10 => ?_)
      · -- 55 -> 131
        have c_10 := gm_gtt (by omega) (by omega) c_10
        have c_10' := Nat.not_le.mpr c_10
        refine lv_iconst (v := nI 0) C.1 C.2.1 d_FT_ringFrom_131 rfl ?_
        exact gr_i C hlk hret rfl hh (by refine ⟨?_, rfl, hs0, hB⟩; rw [ht, show 200 - k = 0 by omega]; rfl) d_FT_ringFrom_132
      · -- 55 -> 58
        have c_10 := gm_gtf (by omega) (by omega) c_10
        have c_10' := Nat.not_lt.mpr c_10
        refine lv_aload_n C.1 C.2.1 d_FT_ringFrom_58 rfl (lv_at hl 1 rfl) ?_
        refine lv_aload_n C.1 C.2.1 d_FT_ringFrom_59 rfl (lv_at hl 0 rfl) ?_
        refine gg_r C hh hF.1 rfl in_FT 9 (by decide) rfl tw_219 rfl d_FT_ringFrom_60 ?_
        refine gc_i hh (gc_runV (As := [.ref (B + 10)]) (rest := []) (n := 1) C hml hh (c_Lp_advance l D cs sh sz I J50 o ho (by have h_ := hV.2.1 j (by omega); rw [← eo] at h_; exact h_ : inv_Lp I o) (B + 10) hF.2.2.2.2.2.2.2.2.1 (by omega)) (tg_V tw_517 tw_518 tw_519 tw_59 tw_520) (by decide +kernel) ⟨rfl, rfl, by decide, by decide, Nat.zero_le _, Nat.zero_le _⟩ ho.1 rfl rfl hl.1 rfl (Nat.le_of_ble_eq_true rfl) d_FT_ringFrom_63) (fun r_11 I_12 J_13 H locs hr_11 hh => ?_)
        obtain ⟨J2_a_14, b_a_14, x_a_14, e_a_14⟩ := hr_11
        rw [hn0] at x_a_14 e_a_14
        have f_a_14 := (Prod.mk.inj e_a_14).2
        rw [(Prod.mk.inj e_a_14).1] at hh
        have n_a_14 : get3 J_13 (B + 10) = itr I o (v3 a b c) (k + 1) := by rw [f_a_14, get3_set3]; rfl
        have s_a_14 : get3 J_13 (B + 9) = v3 a b c := by rw [f_a_14, get3_off _ _ (by omega), get3_but b_a_14 (by omega)]; exact hs0
        have m_a_14 : ∃ p, p ≤ k ∧ get3 J_13 (B + 11) = itr I o (v3 a b c) p := by obtain ⟨p, hp, ep⟩ := hm0; exact ⟨p, hp, by rw [f_a_14, get3_off _ _ (by omega), get3_but b_a_14 (by omega)]; exact ep⟩
        have d_a_14 : but5 B o J J_13 := fun q h1 h2 h3 h4 => by rw [f_a_14, set3_off _ _ h3, b_a_14 q h1]; exact hB q h1 h2 h3 h4
        refine lv_if_ge (tgt := 71) C.1 C.2.1 d_FT_ringFrom_66 (by decide) (fun c_15 => ?_) (fun c_15 => ?_)
        · -- 66 -> 71
          skip
          refine lv_aload_n C.1 C.2.1 d_FT_ringFrom_71 rfl (lv_at hl 0 rfl) ?_
          refine gg_r C hh hF.1 rfl in_FT 9 (by decide) rfl tw_219 rfl d_FT_ringFrom_72 ?_
          refine lv_aload_n C.1 C.2.1 d_FT_ringFrom_75 rfl (lv_at hl 0 rfl) ?_
          refine gg_r C hh hF.1 rfl in_FT 8 (by decide) rfl tw_218 rfl d_FT_ringFrom_76 ?_
          refine gc_i hh (gc_runS (As := [.ref (B + 10), .ref (B + 9)]) (rest := []) (n := 2) C hml hh (c_FT_sameState l D cs sh sz I J_13 (B + 10) (B + 9) hF.2.2.2.2.2.2.2.2.1 hF.2.2.2.2.2.2.2.1) (tg_S tw_552 tw_553 tw_57 tw_554) (by decide +kernel) ⟨rfl, rfl, by decide, by decide, Nat.zero_le _, Nat.zero_le _⟩ rfl hl.1 rfl (Nat.le_of_ble_eq_true rfl) d_FT_ringFrom_79) (fun r_16 I_17 J_18 H locs hr_16 hh => ?_)
          obtain ⟨e_r_16, hr_16⟩ := hr_16
          rw [(Prod.mk.inj e_r_16).1, (Prod.mk.inj e_r_16).2] at hh
          refine lv_if_eq (tgt := 88) C.1 C.2.1 d_FT_ringFrom_82 (by decide) (fun c_19 => ?_) (fun c_19 => ?_)
          · -- 82 -> 88
            have b_20 := bI_f hr_16 c_19
            skip
            refine lv_aload_n C.1 C.2.1 d_FT_ringFrom_88 rfl (lv_at hl 0 rfl) ?_
            refine gg_r C hh hF.1 rfl in_FT 9 (by decide) rfl tw_219 rfl d_FT_ringFrom_89 ?_
            refine lv_aload_n C.1 C.2.1 d_FT_ringFrom_92 rfl (lv_at hl 0 rfl) ?_
            refine gg_r C hh hF.1 rfl in_FT 10 (by decide) rfl tw_220 rfl d_FT_ringFrom_93 ?_
            refine gc_i hh (gc_runS (As := [.ref (B + 10), .ref (B + 11)]) (rest := []) (n := 2) C hml hh (c_FT_sameState l D cs sh sz I J_13 (B + 10) (B + 11) hF.2.2.2.2.2.2.2.2.1 hF.2.2.2.2.2.2.2.2.2.1) (tg_S tw_552 tw_553 tw_57 tw_554) (by decide +kernel) ⟨rfl, rfl, by decide, by decide, Nat.zero_le _, Nat.zero_le _⟩ rfl hl.1 rfl (Nat.le_of_ble_eq_true rfl) d_FT_ringFrom_96) (fun r_21 I_22 J_23 H locs hr_21 hh => ?_)
            obtain ⟨e_r_21, hr_21⟩ := hr_21
            rw [(Prod.mk.inj e_r_21).1, (Prod.mk.inj e_r_21).2] at hh
            refine lv_if_eq (tgt := 104) C.1 C.2.1 d_FT_ringFrom_99 (by decide) (fun c_24 => ?_) (fun c_24 => ?_)
            · -- 99 -> 104
              have b_25 := bI_f hr_21 c_24
              skip
              refine lv_iload C.1 C.2.1 d_FT_ringFrom_104 (lv_at hl 5 rfl) ?_
              refine lv_iload C.1 C.2.1 d_FT_ringFrom_106 (lv_at hl 5 rfl) ?_
              refine lv_iconst (v := nI 1) C.1 C.2.1 d_FT_ringFrom_108 rfl ?_
              refine lv_isub C.1 C.2.1 d_FT_ringFrom_109 ?_
              refine gm_eqi (nI_pred _) ?_
              refine lv_iand C.1 C.2.1 d_FT_ringFrom_110 ?_
              refine lv_if_ne (tgt := 125) C.1 C.2.1 d_FT_ringFrom_111 (by decide) (fun c_26 => ?_) (fun c_26 => ?_)
              · -- 111 -> 125
                skip
                refine lv_iinc (v := nI (k + 1 + 1)) (lv' := [(5, .int (nI (k + 1 + 1))), (0, .ref B), (1, .ref o), (2, .int a), (3, .int b), (4, .int c)]) C.1 C.2.1 d_FT_ringFrom_125 hl (k := 5) rfl (gm_inc (k + 1) 1) (by decide) rfl (fun ls hl => ?_)
                refine lv_goto (tgt := 50) C.1 C.2.1 d_FT_ringFrom_128 (by decide) ?_
                exact ih50 (k + 1) J_13 (by omega) (by exact n_a_14) (by exact s_a_14) (by obtain ⟨p, hp, ep⟩ := m_a_14; exact ⟨p, by omega, ep⟩) (by exact all_succ hD (by rw [← x_a_14]; exact Int32.not_lt.mpr (by assumption))) (by intro q h1 h2; by_cases hq : q = k + 1; (rw [hq, ← n_a_14]; intro hc; exact absurd (hc.trans s_a_14.symm) (of_decide_eq_false (by assumption))); exact hE q h1 (by omega)) (by exact d_a_14) (by rw [ht, show 200 - k = (200 - (k + 1)) + 1 by omega]; exact cbF_in (by rw [← x_a_14]; exact Int32.not_lt.mpr (by assumption)) (fun hc => absurd ((n_a_14.trans hc).trans s_a_14.symm) (of_decide_eq_false (by assumption)))) (by omega) _ _ _ hh (lv_sub hl [1, 2, 3, 4, 5, 0] rfl)
              · -- 111 -> 114
                skip
                refine lv_aload_n C.1 C.2.1 d_FT_ringFrom_114 rfl (lv_at hl 0 rfl) ?_
                refine gg_r C hh hF.1 rfl in_FT 9 (by decide) rfl tw_219 rfl d_FT_ringFrom_115 ?_
                refine lv_aload_n C.1 C.2.1 d_FT_ringFrom_118 rfl (lv_at hl 0 rfl) ?_
                refine gg_r C hh hF.1 rfl in_FT 10 (by decide) rfl tw_220 rfl d_FT_ringFrom_119 ?_
                refine gc_v hh (gc_runS (As := [.ref (B + 10), .ref (B + 11)]) (rest := []) (n := 2) C hml hh (c_FT_copyState l D cs sh sz I J_13 (B + 10) (B + 11) hF.2.2.2.2.2.2.2.2.1 hF.2.2.2.2.2.2.2.2.2.1 (by omega)) (tg_S tw_551 tw_532 tw_57 tw_533) (by decide +kernel) ⟨rfl, rfl, by decide, by decide, Nat.zero_le _, Nat.zero_le _⟩ rfl hl.1 rfl (Nat.le_of_ble_eq_true rfl) d_FT_ringFrom_122) (fun I_28 J_29 H locs hr_27 hh => ?_)
                rw [(Prod.mk.inj hr_27).1, (Prod.mk.inj hr_27).2] at hh
                refine lv_iinc (v := nI (k + 1 + 1)) (lv' := [(5, .int (nI (k + 1 + 1))), (0, .ref B), (1, .ref o), (2, .int a), (3, .int b), (4, .int c)]) C.1 C.2.1 d_FT_ringFrom_125 hl (k := 5) rfl (gm_inc (k + 1) 1) (by decide) rfl (fun ls hl => ?_)
                refine lv_goto (tgt := 50) C.1 C.2.1 d_FT_ringFrom_128 (by decide) ?_
                exact ih50 (k + 1) (set3 J_13 (B + 11) (get3 J_13 (B + 10))) (by omega) (by rw [get3_off _ _ (by omega)]; exact n_a_14) (by rw [get3_off _ _ (by omega)]; exact s_a_14) (by exact ⟨k + 1, Nat.le_refl _, by rw [get3_set3]; exact n_a_14⟩) (by exact all_succ hD (by rw [← x_a_14]; exact Int32.not_lt.mpr (by assumption))) (by intro q h1 h2; by_cases hq : q = k + 1; (rw [hq, ← n_a_14]; intro hc; exact absurd (hc.trans s_a_14.symm) (of_decide_eq_false (by assumption))); exact hE q h1 (by omega)) (by intro q h1 h2 h3 h4; rw [set3_off _ _ h4]; exact d_a_14 q h1 h2 h3 h4) (by rw [ht, show 200 - k = (200 - (k + 1)) + 1 by omega]; exact cbF_in (by rw [← x_a_14]; exact Int32.not_lt.mpr (by assumption)) (fun hc => absurd ((n_a_14.trans hc).trans s_a_14.symm) (of_decide_eq_false (by assumption)))) (by omega) _ _ _ hh (lv_sub hl [1, 2, 3, 4, 5, 0] rfl)
            · -- 99 -> 102
              have b_30 := bI_t hr_21 c_24
              skip
              refine lv_iconst (v := nI 0) C.1 C.2.1 d_FT_ringFrom_102 rfl ?_
              exact gr_i C hlk hret rfl hh (by obtain ⟨p_, hp_, ep_⟩ := m_a_14; refine ⟨?_, rfl, s_a_14, d_a_14⟩; have hne_ : itr I o (v3 a b c) (k + 1) ≠ v3 a b c := (fun hc => absurd ((n_a_14.trans hc).trans s_a_14.symm) (of_decide_eq_false (by assumption))); have hd_ : ¬ (cw1 I o (itr I o (v3 a b c) k)).1 < 0 := (by rw [← x_a_14]; exact Int32.not_lt.mpr (by assumption)); rw [ht, show 200 - k = (199 - k) + 1 by omega, cbF_in hd_ hne_]; exact (congrArg nI (cbF_ring (p := p_) (k := k + 1) (by omega) (all_succ hD hd_) (fun q h1 h2 => by by_cases hq : q = k + 1; (rw [hq]; exact hne_); exact hE q h1 (by omega)) ((n_a_14.symm.trans (of_decide_eq_true (by assumption))).trans ep_))).symm) d_FT_ringFrom_103
          · -- 82 -> 85
            have b_31 := bI_t hr_16 c_19
            skip
            refine lv_iload C.1 C.2.1 d_FT_ringFrom_85 (lv_at hl 5 rfl) ?_
            exact gr_i C hlk hret rfl hh (by refine ⟨?_, rfl, s_a_14, d_a_14⟩; rw [ht, show 200 - k = (199 - k) + 1 by omega, cbF_yes (by rw [← x_a_14]; exact Int32.not_lt.mpr (by assumption)) ((n_a_14.symm.trans (of_decide_eq_true (by assumption))).trans s_a_14)]) d_FT_ringFrom_87
        · -- 66 -> 69
          skip
          refine lv_iconst (v := nI 0) C.1 C.2.1 d_FT_ringFrom_69 rfl ?_
          exact gr_i C hlk hret rfl hh (by refine ⟨?_, rfl, s_a_14, d_a_14⟩; rw [ht, show 200 - k = (199 - k) + 1 by omega, cbF_no (by rw [← x_a_14]; exact Int32.not_le.mp (by assumption))]) d_FT_ringFrom_70
  exact K50 _ 0 (set3 (set3 (set3 J (B + 9) (v3 a b c)) (B + 10) (get3 (set3 J (B + 9) (v3 a b c)) (B + 9))) (B + 11) (get3 (set3 (set3 J (B + 9) (v3 a b c)) (B + 10) (get3 (set3 J (B + 9) (v3 a b c)) (B + 9))) (B + 9))) (by omega) (by rw [get3_off _ _ (by omega), get3_set3, get3_set3]; rfl) (by rw [get3_off _ _ (by omega), get3_off _ _ (by omega), get3_set3]) (by exact ⟨0, Nat.le_refl 0, by rw [get3_set3, get3_off _ _ (by omega), get3_set3]; rfl⟩) (by intro q hq; omega) (by intro q h1 h2; omega) (by intro q h1 h2 h3 h4; rw [set3_off _ _ h4, set3_off _ _ h3, set3_off _ _ h2]) (by rfl) (Nat.lt_succ_self _) _ _ _ hh (lv_sub hl [1, 2, 3, 4, 5, 0] rfl)
