set_option maxHeartbeats 4000000 in
set_option maxRecDepth 100000 in
theorem c_Md_lasts (l : Launch) (D : va_G) (cs : Nat → ClassId) (sh : gm_H) (sz : Nat) (I : gm_I) (J : gm_J) (r : Nat) (hM : is_Md sh r) (hV : inv_Md I r) (hb : ∃ b, I r 20 = bI b) (j : Nat) (hj : j < 8) : CI l y_Md_lasts w_Md_lasts { frames := 4, cells := 0, slots := 0, locals := 103 } D cs sh sz I J [.ref r, .int (nI j)] (fun x u => x = bI (lastN I J r j (nN (I (r + 2) j))) ∧ eqS r I J u.1 u.2) := by
  refine gm_start (by decide) (Nat.le_of_ble_eq_true rfl) ?_
  intro p' e' s' m' be' me' co' ls C hml hlk hret hh hl
  have hl : lv_has ls 5 [(0, .ref r), (1, .int (nI j))] := hl
  obtain ⟨wn, hwn, ewn⟩ := hV.2.2.1 j (by omega)
  refine lv_iconst (v := nI 0) C.1 C.2.1 d_Md_lasts_0 rfl ?_
  refine lv_istore_n (lv' := [(2, .int (nI 0)), (0, .ref r), (1, .int (nI j))]) C.1 C.2.1 d_Md_lasts_1 rfl hl (by decide) rfl (fun ls hl => ?_)
  have K2 : ∀ (n_2 : Nat) (w : Nat) (I2 : gm_I) (J2 : gm_J) (hw : w ≤ wn) (hla : lastN I J r j w = true) (hE2 : eqS r I J I2 J2) (hm_2 : wn - w < n_2), ∀ (H : Heap) (locs : List Loc) (ls : Array Slot), gm_St D cs sh (gm_A sh) s'.heap sz I2 J2 H locs → lv_has ls 5 [(0, .ref r), (1, .int (nI j)), (2, .int (nI w))] → W p' l e' { frames := 4, cells := 0, slots := 0, locals := 103 } s' m' ([.ref r, .int (nI j)] : List Value).toArray be' me' co' H locs 0 0 (MQ be' (va_Qi (fun x u => x = bI (lastN I J r j (nN (I (r + 2) j))) ∧ eqS r I J u.1 u.2) (gm_B D cs sh sz) (gm_A sh)) ([.ref r, .int (nI j)] : List Value).toArray s' 0 0 (gm_A sh)) (F0 m' 2 ls []) := by
    intro n_2
    induction n_2 with
    | zero => intro w I2 J2 hw hla hE2 hm_2; exact absurd hm_2 (Nat.not_lt_zero _)
    | succ n_2 ih2 =>
      intro w I2 J2 hw hla hE2 hm_2 H locs ls hh hl
      refine lv_iload_n C.1 C.2.1 d_Md_lasts_2 rfl (lv_at hl 2 rfl) ?_
      refine lv_aload_n C.1 C.2.1 d_Md_lasts_3 rfl (lv_at hl 0 rfl) ?_
      refine gg_r C hh (Md_0 hM) rfl in_Md 2 (by decide) rfl tw_567 rfl d_Md_lasts_4 ?_
      refine lv_iload_n C.1 C.2.1 d_Md_lasts_7 rfl (lv_at hl 1 rfl) ?_
      refine ga_i C hh (Md_2 hM) (k := j) rfl (by omega) (by omega) d_Md_lasts_8 ?_
      refine gm_eqi (y := I (r + 2) j) (by exact hE2.1 _ _ (by omega)) ?_
      refine gm_eqi ewn ?_
      refine lv_icmp_ge (tgt := 66) C.1 C.2.1 d_Md_lasts_9 (by decide) (fun c_1 => ?_) (fun c_1 => ?_)
      · -- 9 -> 66
        have c_1 := gm_get (by omega) (by omega) c_1
        have c_1' := Nat.not_lt.mpr c_1
        refine lv_iconst (v := nI 1) C.1 C.2.1 d_Md_lasts_66 rfl ?_
        exact gr_i C hlk hret (gm_nb (Or.inr rfl)) hh (by refine ⟨?_, hE2⟩; rw [ewn, nN_nI (by omega), ← show w = wn by omega, hla]; rfl) d_Md_lasts_67
      · -- 9 -> 12
        have c_1 := gm_gef (by omega) (by omega) c_1
        have c_1' := Nat.not_le.mpr c_1
        refine lv_aload_n C.1 C.2.1 d_Md_lasts_12 rfl (lv_at hl 0 rfl) ?_
        refine lv_iload_n C.1 C.2.1 d_Md_lasts_13 rfl (lv_at hl 1 rfl) ?_
        refine lv_iload_n C.1 C.2.1 d_Md_lasts_14 rfl (lv_at hl 2 rfl) ?_
        refine lv_iconst (v := nI 1) C.1 C.2.1 d_Md_lasts_15 rfl ?_
        obtain ⟨gg_2, hgg_2, egg_2⟩ := hV.2.2.2.1 j (by omega)
        obtain ⟨tt_3, htt_3, ett_3⟩ := hV.2.2.2.2.1 (3 * j + w) (by omega)
        refine gc_v hh (gc_runV (As := [.int (nI j), .int (nI w), .int (nI 1)]) (rest := []) (n := 3) C hml hh (c_Md_space l D cs sh sz I2 J2 r hM (inv_eqS hE2 hV) j (by omega) w (by omega) gg_2 tt_3 hgg_2 htt_3 ((hE2.1 _ _ (by omega)).trans egg_2) ((hE2.1 _ _ (by omega)).trans ett_3) (nI 1) (true) rfl) (tg_V tw_742 tw_744 tw_31 tw_64 tw_745) (by decide +kernel) ⟨rfl, rfl, by decide, by decide, Nat.zero_le _, Nat.zero_le _⟩ (Md_0 hM) rfl rfl hl.1 rfl (Nat.le_of_ble_eq_true rfl) d_Md_lasts_16) (fun I_9 J_10 H locs hr_8 hh => ?_)
        obtain ⟨nn_4, enn_4⟩ : ∃ z : Nat, z = gg_2 + tt_3 + (true).toNat := ⟨_, rfl⟩
        have hnn_4 : nn_4 ≤ 8 := by have := Bool.toNat_le (true); omega
        rw [← enn_4] at hr_8
        obtain ⟨Is_5, eIs_5⟩ : ∃ z : gm_I, z = gm_up I2 r 15 (nI nn_4) := ⟨_, rfl⟩
        obtain ⟨Js_6, eJs_6⟩ : ∃ z : gm_J, z = spJ J2 r nn_4 (rowF I2 J2 r j w gg_2 tt_3) := ⟨_, rfl⟩
        rw [← eIs_5, ← eJs_6] at hr_8
        rw [(Prod.mk.inj hr_8).1, (Prod.mk.inj hr_8).2] at hh
        have hn_Is_5 : Is_5 r 15 = nI nn_4 := by rw [eIs_5]; exact gm_up_same _ _ _ _
        obtain ⟨b0_7, hb0_7⟩ := hE2.2.2
        have h1b0_7 : Is_5 r 20 = bI b0_7 := by rw [eIs_5, gm_up_ne _ _ (by omega)]; exact hb0_7
        have sc_Is_5 : ∀ z : Sc, eqS r I J (scI Is_5 r z) (scJ Js_6 r z) := fun z => by rw [eIs_5, eJs_6]; exact eqS_trans hE2 eqS_sc
        have sb_Is_5 : eqS r I J Is_5 Js_6 := by have := sc_Is_5 (b0_7, Js_6 r 21, Js_6 r 22, G3 Js_6 r, (Js_6 r 26, Js_6 r 27, Js_6 r 28)); rw [scJ_id] at this; unfold scI at this; rw [lsI_id h1b0_7] at this; exact this
        have rq_Is_5 : ∀ c, c < 4 → ∀ i, i < nn_4 → rwF Js_6 r c i = rF I J r j w c i := by rw [eJs_6]; exact rw_eq hE2 egg_2 ett_3 hgg_2 htt_3
        have nq_Is_5 : nn_4 = rN I r j w (true) := by rw [enn_4]; exact (rN_eq egg_2 ett_3 hgg_2 htt_3).symm
        have hh : gm_St D cs sh (gm_A sh) s'.heap sz (scI Is_5 r (b0_7, Js_6 r 21, Js_6 r 22, G3 Js_6 r, (Js_6 r 26, Js_6 r 27, Js_6 r 28))) (scJ Js_6 r (b0_7, Js_6 r 21, Js_6 r 22, G3 Js_6 r, (Js_6 r 26, Js_6 r 27, Js_6 r 28))) H locs := by rw [scJ_id]; unfold scI; rw [lsI_id h1b0_7]; exact hh
        refine lv_aload_n C.1 C.2.1 d_Md_lasts_19 rfl (lv_at hl 0 rfl) ?_
        refine gc_i hh (gc_runV (As := []) (rest := []) (n := 0) C hml hh (c_Md_isNothing l D cs sh sz Is_5 Js_6 r hM (b0_7, Js_6 r 21, Js_6 r 22, G3 Js_6 r, (Js_6 r 26, Js_6 r 27, Js_6 r 28)) nn_4 hn_Is_5 hnn_4) (tg_V tw_750 tw_752 tw_33 tw_64 tw_753) (by decide +kernel) ⟨rfl, rfl, by decide, by decide, Nat.zero_le _, Nat.zero_le _⟩ (Md_0 hM) rfl rfl hl.1 rfl (Nat.le_of_ble_eq_true rfl) d_Md_lasts_20) (fun r_11 I_12 J_13 H locs hr_11 hh => ?_)
        obtain ⟨hr_11, c_14, qhr_11⟩ := hr_11
        rw [(Prod.mk.inj qhr_11).1, (Prod.mk.inj qhr_11).2] at hh
        refine lv_if_ne (tgt := 60) C.1 C.2.1 d_Md_lasts_23 (by decide) (fun c_15 => ?_) (fun c_15 => ?_)
        · -- 23 -> 60
          have b_16 := bI_t hr_11 c_15
          skip
          refine lv_iinc (v := nI (w + 1)) (lv' := [(2, .int (nI (w + 1))), (0, .ref r), (1, .int (nI j))]) C.1 C.2.1 d_Md_lasts_60 hl (k := 2) rfl (gm_inc w 1) (by decide) rfl (fun ls hl => ?_)
          refine lv_goto (tgt := 2) C.1 C.2.1 d_Md_lasts_63 (by decide) ?_
          exact ih2 (w + 1) (scI Is_5 r c_14) (scJ Js_6 r c_14) (by omega) (by subst hr_11; simp only [lastN]; rw [hla, Bool.true_and]; unfold lastW; rw [← nq_Is_5, ← nothB_congr rq_Is_5, ← leastT_congr rq_Is_5, ← chG_eqS sb_Is_5]; first | (rw [show nothB (rwF Js_6 r) nn_4 = true by assumption]; rfl) | (rw [show leastT (rwF Js_6 r) (chG Is_5 r (3 * j + w) (J r 29) (J r 30) (J r 31)) nn_4 (J r 32 - chC I r (3 * j + w) (J r 29) (J r 30) (J r 31)) = true by assumption]; exact Bool.or_true _)) (by exact sc_Is_5 _) (by omega) _ _ _ hh (lv_sub hl [1, 2, 0] rfl)
        · -- 23 -> 26
          have b_17 := bI_f hr_11 c_15
          skip
          refine lv_aload_n C.1 C.2.1 d_Md_lasts_26 rfl (lv_at hl 0 rfl) ?_
          refine lv_iload_n C.1 C.2.1 d_Md_lasts_27 rfl (lv_at hl 1 rfl) ?_
          refine lv_iload_n C.1 C.2.1 d_Md_lasts_28 rfl (lv_at hl 2 rfl) ?_
          refine lv_aload_n C.1 C.2.1 d_Md_lasts_29 rfl (lv_at hl 0 rfl) ?_
          refine gg_l C hh (Md_0 hM) rfl in_Md 29 (by decide) rfl tw_594 rfl d_Md_lasts_30 ?_
          refine gm_eql (y := J r 29) (by rw [scJ_o _ (by omega)]; exact sb_Is_5.2.1 _ _ (by omega)) ?_
          refine lv_aload_n C.1 C.2.1 d_Md_lasts_33 rfl (lv_at hl 0 rfl) ?_
          refine gg_l C hh (Md_0 hM) rfl in_Md 30 (by decide) rfl tw_595 rfl d_Md_lasts_34 ?_
          refine gm_eql (y := J r 30) (by rw [scJ_o _ (by omega)]; exact sb_Is_5.2.1 _ _ (by omega)) ?_
          refine lv_aload_n C.1 C.2.1 d_Md_lasts_37 rfl (lv_at hl 0 rfl) ?_
          refine gg_l C hh (Md_0 hM) rfl in_Md 31 (by decide) rfl tw_596 rfl d_Md_lasts_38 ?_
          refine gm_eql (y := J r 31) (by rw [scJ_o _ (by omega)]; exact sb_Is_5.2.1 _ _ (by omega)) ?_
          refine gc_l hh (gc_runV (As := [.int (nI j), .int (nI w), .long (J r 29), .long (J r 30), .long (J r 31)]) (rest := []) (n := 5) C hml hh (c_Md_changed l D cs sh sz Is_5 Js_6 r hM c_14 j w (by omega) (by omega) (J r 29) (J r 30) (J r 31)) (tg_V tw_803 tw_805 tw_44 tw_64 tw_806) (by decide +kernel) ⟨rfl, rfl, by decide, by decide, Nat.zero_le _, Nat.zero_le _⟩ (Md_0 hM) rfl rfl hl.1 rfl (Nat.le_of_ble_eq_true rfl) d_Md_lasts_41) (fun r_18 I_19 J_20 H locs hr_18 hh => ?_)
          obtain ⟨hr_18, qhr_18⟩ := hr_18
          rw [(Prod.mk.inj qhr_18).1, (Prod.mk.inj qhr_18).2] at hh
          have hh : gm_St D cs sh (gm_A sh) s'.heap sz (scI Is_5 r (c_14.1, c_14.2.1, c_14.2.2.1, (chG Is_5 r (3 * j + w) (J r 29) (J r 30) (J r 31)), c_14.2.2.2.2)) (scJ Js_6 r (c_14.1, c_14.2.1, c_14.2.2.1, (chG Is_5 r (3 * j + w) (J r 29) (J r 30) (J r 31)), c_14.2.2.2.2)) H locs := hh
          rw [chC_eqS sb_Is_5] at hr_18
          refine lv_lstore_n (lv' := [(3, .long r_18), (0, .ref r), (1, .int (nI j)), (2, .int (nI w))]) C.1 C.2.1 d_Md_lasts_44 rfl hl (by decide) rfl (fun ls hl => ?_)
          refine lv_aload_n C.1 C.2.1 d_Md_lasts_45 rfl (lv_at hl 1 rfl) ?_
          refine lv_aload_n C.1 C.2.1 d_Md_lasts_46 rfl (lv_at hl 1 rfl) ?_
          refine gg_l C hh (Md_0 hM) rfl in_Md 32 (by decide) rfl tw_597 rfl d_Md_lasts_47 ?_
          refine gm_eql (y := J r 32) (by rw [scJ_o _ (by omega)]; exact sb_Is_5.2.1 _ _ (by omega)) ?_
          refine lv_lload_n C.1 C.2.1 d_Md_lasts_50 rfl (lv_at hl 0 rfl) ?_
          refine lv_lsub C.1 C.2.1 d_Md_lasts_51 ?_
          refine gc_i hh (gc_runV (As := [.long ((J r 32) - r_18)]) (rest := []) (n := 1) C hml hh (c_Md_isLeast l D cs sh sz Is_5 Js_6 r hM (c_14.1, c_14.2.1, c_14.2.2.1, (chG Is_5 r (3 * j + w) (J r 29) (J r 30) (J r 31)), c_14.2.2.2.2) nn_4 hn_Is_5 hnn_4 ((J r 32) - r_18)) (tg_V tw_787 tw_789 tw_41 tw_64 tw_790) (by decide +kernel) ⟨rfl, rfl, by decide, by decide, Nat.zero_le _, Nat.zero_le _⟩ (Md_0 hM) rfl rfl hl.1 rfl (Nat.le_of_ble_eq_true rfl) d_Md_lasts_52) (fun r_21 I_22 J_23 H locs hr_21 hh => ?_)
          obtain ⟨hr_21, c_24, qhr_21⟩ := hr_21
          rw [(Prod.mk.inj qhr_21).1, (Prod.mk.inj qhr_21).2] at hh
          refine lv_if_ne (tgt := 60) C.1 C.2.1 d_Md_lasts_55 (by decide) (fun c_25 => ?_) (fun c_25 => ?_)
          · -- 55 -> 60
            have b_26 := bI_t hr_21 c_25
            skip
            refine lv_iinc (v := nI (w + 1)) (lv' := [(2, .int (nI (w + 1))), (3, .long r_18), (0, .ref r), (1, .int (nI j))]) C.1 C.2.1 d_Md_lasts_60 hl (k := 3) rfl (gm_inc w 1) (by decide) rfl (fun ls hl => ?_)
            refine lv_goto (tgt := 2) C.1 C.2.1 d_Md_lasts_63 (by decide) ?_
            exact ih2 (w + 1) (scI Is_5 r c_24) (scJ Js_6 r c_24) (by omega) (by subst hr_11 hr_18 hr_21; simp only [lastN]; rw [hla, Bool.true_and]; unfold lastW; rw [← nq_Is_5, ← nothB_congr rq_Is_5, ← leastT_congr rq_Is_5, ← chG_eqS sb_Is_5]; first | (rw [show nothB (rwF Js_6 r) nn_4 = true by assumption]; rfl) | (rw [show leastT (rwF Js_6 r) (chG Is_5 r (3 * j + w) (J r 29) (J r 30) (J r 31)) nn_4 (J r 32 - chC I r (3 * j + w) (J r 29) (J r 30) (J r 31)) = true by assumption]; exact Bool.or_true _)) (by exact sc_Is_5 _) (by omega) _ _ _ hh (lv_sub hl [2, 3, 0] rfl)
          · -- 55 -> 58
            have b_27 := bI_f hr_21 c_25
            skip
            refine lv_iconst (v := nI 0) C.1 C.2.1 d_Md_lasts_58 rfl ?_
            exact gr_i C hlk hret (gm_nb (Or.inl rfl)) hh (by subst hr_11 hr_18 hr_21; refine ⟨?_, sc_Is_5 _⟩; rw [ewn, nN_nI (by omega), lastN_f (w := w) (by unfold lastW; rw [← nq_Is_5, ← nothB_congr rq_Is_5, ← leastT_congr rq_Is_5, ← chG_eqS sb_Is_5, show nothB (rwF Js_6 r) nn_4 = false by assumption, show leastT (rwF Js_6 r) (chG Is_5 r (3 * j + w) (J r 29) (J r 30) (J r 31)) nn_4 (J r 32 - chC I r (3 * j + w) (J r 29) (J r 30) (J r 31)) = false by assumption]; rfl) (by omega)]; rfl) d_Md_lasts_59
  exact K2 _ 0 I J (by omega) (by rfl) (by exact eqS_rf hb) (Nat.lt_succ_self _) _ _ _ hh (lv_sub hl [1, 2, 0] rfl)
