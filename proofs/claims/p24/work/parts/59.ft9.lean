set_option maxHeartbeats 4000000 in
set_option maxRecDepth 100000 in
theorem c_FT_within (l : Launch) (D : va_G) (cs : Nat → ClassId) (sh : gm_H) (sz : Nat) (I : gm_I) (J : gm_J) (v m : Int32) : CI l y_FT_within w_FT_within { frames := 0, cells := 0, slots := 0, locals := 0 } D cs sh sz I J [.int v, .int m] (fun x u => u = (I, J) ∧ x = bI (inI v (-m) m)) := by
  refine gm_start (by decide) (Nat.le_of_ble_eq_true rfl) ?_
  intro p' e' s' m' be' me' co' ls C hml hlk hret hh hl
  have hl : lv_has ls 2 [(0, .int v), (1, .int m)] := hl
  refine lv_iload_n C.1 C.2.1 d_FT_within_0 rfl (lv_at hl 0 rfl) ?_
  refine lv_iload_n C.1 C.2.1 d_FT_within_1 rfl (lv_at hl 1 rfl) ?_
  refine lv_ineg C.1 C.2.1 d_FT_within_2 ?_
  refine lv_icmp_lt (tgt := 15) C.1 C.2.1 d_FT_within_3 (by decide) (fun c_1 => ?_) (fun c_1 => ?_)
  · -- 3 -> 15
    skip
    refine lv_iconst (v := nI 0) C.1 C.2.1 d_FT_within_15 rfl ?_
    exact gr_i C hlk hret (gm_nb (Or.inl rfl)) hh (by refine ⟨rfl, ?_⟩; simp [nI_0, nI_one, bI, inI, *]) d_FT_within_16
  · -- 3 -> 6
    skip
    refine lv_iload_n C.1 C.2.1 d_FT_within_6 rfl (lv_at hl 0 rfl) ?_
    refine lv_iload_n C.1 C.2.1 d_FT_within_7 rfl (lv_at hl 1 rfl) ?_
    refine lv_icmp_gt (tgt := 15) C.1 C.2.1 d_FT_within_8 (by decide) (fun c_2 => ?_) (fun c_2 => ?_)
    · -- 8 -> 15
      skip
      refine lv_iconst (v := nI 0) C.1 C.2.1 d_FT_within_15 rfl ?_
      exact gr_i C hlk hret (gm_nb (Or.inl rfl)) hh (by refine ⟨rfl, ?_⟩; simp [nI_0, nI_one, bI, inI, *]) d_FT_within_16
    · -- 8 -> 11
      skip
      refine lv_iconst (v := nI 1) C.1 C.2.1 d_FT_within_11 rfl ?_
      refine lv_goto (tgt := 16) C.1 C.2.1 d_FT_within_12 (by decide) ?_
      exact gr_i C hlk hret (gm_nb (Or.inr rfl)) hh (by refine ⟨rfl, ?_⟩; simp [nI_0, nI_one, bI, inI, *]) d_FT_within_16

set_option maxHeartbeats 4000000 in
set_option maxRecDepth 100000 in
theorem c_FT_weightsFit (l : Launch) (D : va_G) (cs : Nat → ClassId) (sh : gm_H) (sz : Nat) (I : gm_I) (J : gm_J) (nm : Nat) (hnm : nm ≤ 3) (a b c m : Int32) : CI l y_FT_weightsFit w_FT_weightsFit { frames := 1, cells := 0, slots := 0, locals := 21 } D cs sh sz I J [.int (nI nm), .int a, .int b, .int c, .int m] (fun x u => u = (I, J) ∧ x = bI (numB nm a b c m)) := by
  refine gm_start (by decide) (Nat.le_of_ble_eq_true rfl) ?_
  intro p' e' s' m' be' me' co' ls C hml hlk hret hh hl
  have hl : lv_has ls 7 [(0, .int (nI nm)), (1, .int a), (2, .int b), (3, .int c), (4, .int m)] := hl
  refine lv_iload_n C.1 C.2.1 d_FT_weightsFit_0 rfl (lv_at hl 1 rfl) ?_
  refine lv_iload C.1 C.2.1 d_FT_weightsFit_1 (lv_at hl 4 rfl) ?_
  refine gc_i hh (gc_runS (As := [.int a, .int m]) (rest := []) (n := 2) C hml hh (c_FT_within l D cs sh sz I J a m) (tg_S tw_275 tw_276 tw_57 tw_277) (by decide +kernel) ⟨rfl, rfl, by decide, by decide, Nat.zero_le _, Nat.zero_le _⟩ rfl hl.1 rfl (Nat.le_of_ble_eq_true rfl) d_FT_weightsFit_3) (fun r_1 I_2 J_3 H locs hr_1 hh => ?_)
  obtain ⟨e_r_1, hr_1⟩ := hr_1
  rw [(Prod.mk.inj e_r_1).1, (Prod.mk.inj e_r_1).2] at hh
  refine lv_if_eq (tgt := 31) C.1 C.2.1 d_FT_weightsFit_6 (by decide) (fun c_4 => ?_) (fun c_4 => ?_)
  · -- 6 -> 31
    have b_5 := bI_f hr_1 c_4
    skip
    refine lv_iconst (v := nI 0) C.1 C.2.1 d_FT_weightsFit_31 rfl ?_
    refine lv_istore (lv' := [(5, .int (nI 0)), (0, .int (nI nm)), (1, .int a), (2, .int b), (3, .int c), (4, .int m)]) C.1 C.2.1 d_FT_weightsFit_32 hl (by decide) rfl (fun ls hl => ?_)
    refine lv_iload_n C.1 C.2.1 d_FT_weightsFit_34 rfl (lv_at hl 3 rfl) ?_
    refine lv_if_eq (tgt := 43) C.1 C.2.1 d_FT_weightsFit_35 (by decide) (fun c_6 => ?_) (fun c_6 => ?_)
    · -- 35 -> 43
      skip
      refine lv_iload_n C.1 C.2.1 d_FT_weightsFit_43 rfl (lv_at hl 4 rfl) ?_
      refine lv_if_eq (tgt := 52) C.1 C.2.1 d_FT_weightsFit_44 (by decide) (fun c_7 => ?_) (fun c_7 => ?_)
      · -- 44 -> 52
        skip
        refine lv_iconst (v := nI 1) C.1 C.2.1 d_FT_weightsFit_52 rfl ?_
        refine lv_goto (tgt := 57) C.1 C.2.1 d_FT_weightsFit_53 (by decide) ?_
        refine lv_istore (lv' := [(6, .int (nI 1)), (5, .int (nI 0)), (0, .int (nI nm)), (1, .int a), (2, .int b), (3, .int c), (4, .int m)]) C.1 C.2.1 d_FT_weightsFit_57 hl (by decide) rfl (fun ls hl => ?_)
        refine lv_iload C.1 C.2.1 d_FT_weightsFit_59 (lv_at hl 1 rfl) ?_
        refine lv_if_eq (tgt := 85) C.1 C.2.1 d_FT_weightsFit_61 (by decide) (fun c_ => ?_) (fun c_ => absurd (by decide) c_)
        refine lv_iconst (v := nI 0) C.1 C.2.1 d_FT_weightsFit_85 rfl ?_
        exact gr_i C hlk hret (gm_nb (Or.inl rfl)) hh (by refine ⟨rfl, ?_⟩; simp_all [nI_0, nI_one, bI, numB] <;> omega) d_FT_weightsFit_86
      · -- 44 -> 47
        skip
        refine lv_iload_n C.1 C.2.1 d_FT_weightsFit_47 rfl (lv_at hl 1 rfl) ?_
        refine lv_iconst (v := nI 2) C.1 C.2.1 d_FT_weightsFit_48 rfl ?_
        refine lv_icmp_le (tgt := 56) C.1 C.2.1 d_FT_weightsFit_49 (by decide) (fun c_8 => ?_) (fun c_8 => ?_)
        · -- 49 -> 56
          have c_8 := gm_let (by omega) (by omega) c_8
          have c_8' := Nat.not_lt.mpr c_8
          refine lv_iconst (v := nI 0) C.1 C.2.1 d_FT_weightsFit_56 rfl ?_
          refine lv_istore (lv' := [(6, .int (nI 0)), (5, .int (nI 0)), (0, .int (nI nm)), (1, .int a), (2, .int b), (3, .int c), (4, .int m)]) C.1 C.2.1 d_FT_weightsFit_57 hl (by decide) rfl (fun ls hl => ?_)
          refine lv_iload C.1 C.2.1 d_FT_weightsFit_59 (lv_at hl 1 rfl) ?_
          refine lv_if_eq (tgt := 85) C.1 C.2.1 d_FT_weightsFit_61 (by decide) (fun c_ => ?_) (fun c_ => absurd (by decide) c_)
          refine lv_iconst (v := nI 0) C.1 C.2.1 d_FT_weightsFit_85 rfl ?_
          exact gr_i C hlk hret (gm_nb (Or.inl rfl)) hh (by refine ⟨rfl, ?_⟩; simp_all [nI_0, nI_one, bI, numB] <;> omega) d_FT_weightsFit_86
        · -- 49 -> 52
          have c_8 := gm_lef (by omega) (by omega) c_8
          have c_8' := Nat.not_le.mpr c_8
          refine lv_iconst (v := nI 1) C.1 C.2.1 d_FT_weightsFit_52 rfl ?_
          refine lv_goto (tgt := 57) C.1 C.2.1 d_FT_weightsFit_53 (by decide) ?_
          refine lv_istore (lv' := [(6, .int (nI 1)), (5, .int (nI 0)), (0, .int (nI nm)), (1, .int a), (2, .int b), (3, .int c), (4, .int m)]) C.1 C.2.1 d_FT_weightsFit_57 hl (by decide) rfl (fun ls hl => ?_)
          refine lv_iload C.1 C.2.1 d_FT_weightsFit_59 (lv_at hl 1 rfl) ?_
          refine lv_if_eq (tgt := 85) C.1 C.2.1 d_FT_weightsFit_61 (by decide) (fun c_ => ?_) (fun c_ => absurd (by decide) c_)
          refine lv_iconst (v := nI 0) C.1 C.2.1 d_FT_weightsFit_85 rfl ?_
          exact gr_i C hlk hret (gm_nb (Or.inl rfl)) hh (by refine ⟨rfl, ?_⟩; simp_all [nI_0, nI_one, bI, numB] <;> omega) d_FT_weightsFit_86
    · -- 35 -> 38
      skip
      refine lv_iload_n C.1 C.2.1 d_FT_weightsFit_38 rfl (lv_at hl 1 rfl) ?_
      refine lv_iconst (v := nI 1) C.1 C.2.1 d_FT_weightsFit_39 rfl ?_
      refine lv_icmp_le (tgt := 56) C.1 C.2.1 d_FT_weightsFit_40 (by decide) (fun c_9 => ?_) (fun c_9 => ?_)
      · -- 40 -> 56
        have c_9 := gm_let (by omega) (by omega) c_9
        have c_9' := Nat.not_lt.mpr c_9
        refine lv_iconst (v := nI 0) C.1 C.2.1 d_FT_weightsFit_56 rfl ?_
        refine lv_istore (lv' := [(6, .int (nI 0)), (5, .int (nI 0)), (0, .int (nI nm)), (1, .int a), (2, .int b), (3, .int c), (4, .int m)]) C.1 C.2.1 d_FT_weightsFit_57 hl (by decide) rfl (fun ls hl => ?_)
        refine lv_iload C.1 C.2.1 d_FT_weightsFit_59 (lv_at hl 1 rfl) ?_
        refine lv_if_eq (tgt := 85) C.1 C.2.1 d_FT_weightsFit_61 (by decide) (fun c_ => ?_) (fun c_ => absurd (by decide) c_)
        refine lv_iconst (v := nI 0) C.1 C.2.1 d_FT_weightsFit_85 rfl ?_
        exact gr_i C hlk hret (gm_nb (Or.inl rfl)) hh (by refine ⟨rfl, ?_⟩; simp_all [nI_0, nI_one, bI, numB] <;> omega) d_FT_weightsFit_86
      · -- 40 -> 43
        have c_9 := gm_lef (by omega) (by omega) c_9
        have c_9' := Nat.not_le.mpr c_9
        refine lv_iload_n C.1 C.2.1 d_FT_weightsFit_43 rfl (lv_at hl 4 rfl) ?_
        refine lv_if_eq (tgt := 52) C.1 C.2.1 d_FT_weightsFit_44 (by decide) (fun c_10 => ?_) (fun c_10 => ?_)
        · -- 44 -> 52
          skip
          refine lv_iconst (v := nI 1) C.1 C.2.1 d_FT_weightsFit_52 rfl ?_
          refine lv_goto (tgt := 57) C.1 C.2.1 d_FT_weightsFit_53 (by decide) ?_
          refine lv_istore (lv' := [(6, .int (nI 1)), (5, .int (nI 0)), (0, .int (nI nm)), (1, .int a), (2, .int b), (3, .int c), (4, .int m)]) C.1 C.2.1 d_FT_weightsFit_57 hl (by decide) rfl (fun ls hl => ?_)
          refine lv_iload C.1 C.2.1 d_FT_weightsFit_59 (lv_at hl 1 rfl) ?_
          refine lv_if_eq (tgt := 85) C.1 C.2.1 d_FT_weightsFit_61 (by decide) (fun c_ => ?_) (fun c_ => absurd (by decide) c_)
          refine lv_iconst (v := nI 0) C.1 C.2.1 d_FT_weightsFit_85 rfl ?_
          exact gr_i C hlk hret (gm_nb (Or.inl rfl)) hh (by refine ⟨rfl, ?_⟩; simp_all [nI_0, nI_one, bI, numB] <;> omega) d_FT_weightsFit_86
        · -- 44 -> 47
          skip
          refine lv_iload_n C.1 C.2.1 d_FT_weightsFit_47 rfl (lv_at hl 1 rfl) ?_
          refine lv_iconst (v := nI 2) C.1 C.2.1 d_FT_weightsFit_48 rfl ?_
          refine lv_icmp_le (tgt := 56) C.1 C.2.1 d_FT_weightsFit_49 (by decide) (fun c_11 => ?_) (fun c_11 => ?_)
          · -- 49 -> 56
            have c_11 := gm_let (by omega) (by omega) c_11
            have c_11' := Nat.not_lt.mpr c_11
            refine lv_iconst (v := nI 0) C.1 C.2.1 d_FT_weightsFit_56 rfl ?_
            refine lv_istore (lv' := [(6, .int (nI 0)), (5, .int (nI 0)), (0, .int (nI nm)), (1, .int a), (2, .int b), (3, .int c), (4, .int m)]) C.1 C.2.1 d_FT_weightsFit_57 hl (by decide) rfl (fun ls hl => ?_)
            refine lv_iload C.1 C.2.1 d_FT_weightsFit_59 (lv_at hl 1 rfl) ?_
            refine lv_if_eq (tgt := 85) C.1 C.2.1 d_FT_weightsFit_61 (by decide) (fun c_ => ?_) (fun c_ => absurd (by decide) c_)
            refine lv_iconst (v := nI 0) C.1 C.2.1 d_FT_weightsFit_85 rfl ?_
            exact gr_i C hlk hret (gm_nb (Or.inl rfl)) hh (by refine ⟨rfl, ?_⟩; simp_all [nI_0, nI_one, bI, numB] <;> omega) d_FT_weightsFit_86
          · -- 49 -> 52
            have c_11 := gm_lef (by omega) (by omega) c_11
            have c_11' := Nat.not_le.mpr c_11
            refine lv_iconst (v := nI 1) C.1 C.2.1 d_FT_weightsFit_52 rfl ?_
            refine lv_goto (tgt := 57) C.1 C.2.1 d_FT_weightsFit_53 (by decide) ?_
            refine lv_istore (lv' := [(6, .int (nI 1)), (5, .int (nI 0)), (0, .int (nI nm)), (1, .int a), (2, .int b), (3, .int c), (4, .int m)]) C.1 C.2.1 d_FT_weightsFit_57 hl (by decide) rfl (fun ls hl => ?_)
            refine lv_iload C.1 C.2.1 d_FT_weightsFit_59 (lv_at hl 1 rfl) ?_
            refine lv_if_eq (tgt := 85) C.1 C.2.1 d_FT_weightsFit_61 (by decide) (fun c_ => ?_) (fun c_ => absurd (by decide) c_)
            refine lv_iconst (v := nI 0) C.1 C.2.1 d_FT_weightsFit_85 rfl ?_
            exact gr_i C hlk hret (gm_nb (Or.inl rfl)) hh (by refine ⟨rfl, ?_⟩; simp_all [nI_0, nI_one, bI, numB] <;> omega) d_FT_weightsFit_86
  · -- 6 -> 9
    have b_12 := bI_t hr_1 c_4
    skip
    refine lv_iload_n C.1 C.2.1 d_FT_weightsFit_9 rfl (lv_at hl 2 rfl) ?_
    refine lv_iload C.1 C.2.1 d_FT_weightsFit_10 (lv_at hl 4 rfl) ?_
    refine gc_i hh (gc_runS (As := [.int b, .int m]) (rest := []) (n := 2) C hml hh (c_FT_within l D cs sh sz I J b m) (tg_S tw_275 tw_276 tw_57 tw_277) (by decide +kernel) ⟨rfl, rfl, by decide, by decide, Nat.zero_le _, Nat.zero_le _⟩ rfl hl.1 rfl (Nat.le_of_ble_eq_true rfl) d_FT_weightsFit_12) (fun r_13 I_14 J_15 H locs hr_13 hh => ?_)
    obtain ⟨e_r_13, hr_13⟩ := hr_13
    rw [(Prod.mk.inj e_r_13).1, (Prod.mk.inj e_r_13).2] at hh
    refine lv_if_eq (tgt := 31) C.1 C.2.1 d_FT_weightsFit_15 (by decide) (fun c_16 => ?_) (fun c_16 => ?_)
    · -- 15 -> 31
      have b_17 := bI_f hr_13 c_16
      skip
      refine lv_iconst (v := nI 0) C.1 C.2.1 d_FT_weightsFit_31 rfl ?_
      refine lv_istore (lv' := [(5, .int (nI 0)), (0, .int (nI nm)), (1, .int a), (2, .int b), (3, .int c), (4, .int m)]) C.1 C.2.1 d_FT_weightsFit_32 hl (by decide) rfl (fun ls hl => ?_)
      refine lv_iload_n C.1 C.2.1 d_FT_weightsFit_34 rfl (lv_at hl 3 rfl) ?_
      refine lv_if_eq (tgt := 43) C.1 C.2.1 d_FT_weightsFit_35 (by decide) (fun c_18 => ?_) (fun c_18 => ?_)
      · -- 35 -> 43
        skip
        refine lv_iload_n C.1 C.2.1 d_FT_weightsFit_43 rfl (lv_at hl 4 rfl) ?_
        refine lv_if_eq (tgt := 52) C.1 C.2.1 d_FT_weightsFit_44 (by decide) (fun c_19 => ?_) (fun c_19 => ?_)
        · -- 44 -> 52
          skip
          refine lv_iconst (v := nI 1) C.1 C.2.1 d_FT_weightsFit_52 rfl ?_
          refine lv_goto (tgt := 57) C.1 C.2.1 d_FT_weightsFit_53 (by decide) ?_
          refine lv_istore (lv' := [(6, .int (nI 1)), (5, .int (nI 0)), (0, .int (nI nm)), (1, .int a), (2, .int b), (3, .int c), (4, .int m)]) C.1 C.2.1 d_FT_weightsFit_57 hl (by decide) rfl (fun ls hl => ?_)
          refine lv_iload C.1 C.2.1 d_FT_weightsFit_59 (lv_at hl 1 rfl) ?_
          refine lv_if_eq (tgt := 85) C.1 C.2.1 d_FT_weightsFit_61 (by decide) (fun c_ => ?_) (fun c_ => absurd (by decide) c_)
          refine lv_iconst (v := nI 0) C.1 C.2.1 d_FT_weightsFit_85 rfl ?_
          exact gr_i C hlk hret (gm_nb (Or.inl rfl)) hh (by refine ⟨rfl, ?_⟩; simp_all [nI_0, nI_one, bI, numB] <;> omega) d_FT_weightsFit_86
        · -- 44 -> 47
          skip
          refine lv_iload_n C.1 C.2.1 d_FT_weightsFit_47 rfl (lv_at hl 1 rfl) ?_
          refine lv_iconst (v := nI 2) C.1 C.2.1 d_FT_weightsFit_48 rfl ?_
          refine lv_icmp_le (tgt := 56) C.1 C.2.1 d_FT_weightsFit_49 (by decide) (fun c_20 => ?_) (fun c_20 => ?_)
          · -- 49 -> 56
            have c_20 := gm_let (by omega) (by omega) c_20
            have c_20' := Nat.not_lt.mpr c_20
            refine lv_iconst (v := nI 0) C.1 C.2.1 d_FT_weightsFit_56 rfl ?_
            refine lv_istore (lv' := [(6, .int (nI 0)), (5, .int (nI 0)), (0, .int (nI nm)), (1, .int a), (2, .int b), (3, .int c), (4, .int m)]) C.1 C.2.1 d_FT_weightsFit_57 hl (by decide) rfl (fun ls hl => ?_)
            refine lv_iload C.1 C.2.1 d_FT_weightsFit_59 (lv_at hl 1 rfl) ?_
            refine lv_if_eq (tgt := 85) C.1 C.2.1 d_FT_weightsFit_61 (by decide) (fun c_ => ?_) (fun c_ => absurd (by decide) c_)
            refine lv_iconst (v := nI 0) C.1 C.2.1 d_FT_weightsFit_85 rfl ?_
            exact gr_i C hlk hret (gm_nb (Or.inl rfl)) hh (by refine ⟨rfl, ?_⟩; simp_all [nI_0, nI_one, bI, numB] <;> omega) d_FT_weightsFit_86
          · -- 49 -> 52
            have c_20 := gm_lef (by omega) (by omega) c_20
            have c_20' := Nat.not_le.mpr c_20
            refine lv_iconst (v := nI 1) C.1 C.2.1 d_FT_weightsFit_52 rfl ?_
            refine lv_goto (tgt := 57) C.1 C.2.1 d_FT_weightsFit_53 (by decide) ?_
            refine lv_istore (lv' := [(6, .int (nI 1)), (5, .int (nI 0)), (0, .int (nI nm)), (1, .int a), (2, .int b), (3, .int c), (4, .int m)]) C.1 C.2.1 d_FT_weightsFit_57 hl (by decide) rfl (fun ls hl => ?_)
            refine lv_iload C.1 C.2.1 d_FT_weightsFit_59 (lv_at hl 1 rfl) ?_
            refine lv_if_eq (tgt := 85) C.1 C.2.1 d_FT_weightsFit_61 (by decide) (fun c_ => ?_) (fun c_ => absurd (by decide) c_)
            refine lv_iconst (v := nI 0) C.1 C.2.1 d_FT_weightsFit_85 rfl ?_
            exact gr_i C hlk hret (gm_nb (Or.inl rfl)) hh (by refine ⟨rfl, ?_⟩; simp_all [nI_0, nI_one, bI, numB] <;> omega) d_FT_weightsFit_86
      · -- 35 -> 38
        skip
        refine lv_iload_n C.1 C.2.1 d_FT_weightsFit_38 rfl (lv_at hl 1 rfl) ?_
        refine lv_iconst (v := nI 1) C.1 C.2.1 d_FT_weightsFit_39 rfl ?_
        refine lv_icmp_le (tgt := 56) C.1 C.2.1 d_FT_weightsFit_40 (by decide) (fun c_21 => ?_) (fun c_21 => ?_)
        · -- 40 -> 56
          have c_21 := gm_let (by omega) (by omega) c_21
          have c_21' := Nat.not_lt.mpr c_21
          refine lv_iconst (v := nI 0) C.1 C.2.1 d_FT_weightsFit_56 rfl ?_
          refine lv_istore (lv' := [(6, .int (nI 0)), (5, .int (nI 0)), (0, .int (nI nm)), (1, .int a), (2, .int b), (3, .int c), (4, .int m)]) C.1 C.2.1 d_FT_weightsFit_57 hl (by decide) rfl (fun ls hl => ?_)
          refine lv_iload C.1 C.2.1 d_FT_weightsFit_59 (lv_at hl 1 rfl) ?_
          refine lv_if_eq (tgt := 85) C.1 C.2.1 d_FT_weightsFit_61 (by decide) (fun c_ => ?_) (fun c_ => absurd (by decide) c_)
          refine lv_iconst (v := nI 0) C.1 C.2.1 d_FT_weightsFit_85 rfl ?_
          exact gr_i C hlk hret (gm_nb (Or.inl rfl)) hh (by refine ⟨rfl, ?_⟩; simp_all [nI_0, nI_one, bI, numB] <;> omega) d_FT_weightsFit_86
        · -- 40 -> 43
          have c_21 := gm_lef (by omega) (by omega) c_21
          have c_21' := Nat.not_le.mpr c_21
          refine lv_iload_n C.1 C.2.1 d_FT_weightsFit_43 rfl (lv_at hl 4 rfl) ?_
          refine lv_if_eq (tgt := 52) C.1 C.2.1 d_FT_weightsFit_44 (by decide) (fun c_22 => ?_) (fun c_22 => ?_)
          · -- 44 -> 52
            skip
            refine lv_iconst (v := nI 1) C.1 C.2.1 d_FT_weightsFit_52 rfl ?_
            refine lv_goto (tgt := 57) C.1 C.2.1 d_FT_weightsFit_53 (by decide) ?_
            refine lv_istore (lv' := [(6, .int (nI 1)), (5, .int (nI 0)), (0, .int (nI nm)), (1, .int a), (2, .int b), (3, .int c), (4, .int m)]) C.1 C.2.1 d_FT_weightsFit_57 hl (by decide) rfl (fun ls hl => ?_)
            refine lv_iload C.1 C.2.1 d_FT_weightsFit_59 (lv_at hl 1 rfl) ?_
            refine lv_if_eq (tgt := 85) C.1 C.2.1 d_FT_weightsFit_61 (by decide) (fun c_ => ?_) (fun c_ => absurd (by decide) c_)
            refine lv_iconst (v := nI 0) C.1 C.2.1 d_FT_weightsFit_85 rfl ?_
            exact gr_i C hlk hret (gm_nb (Or.inl rfl)) hh (by refine ⟨rfl, ?_⟩; simp_all [nI_0, nI_one, bI, numB] <;> omega) d_FT_weightsFit_86
          · -- 44 -> 47
            skip
            refine lv_iload_n C.1 C.2.1 d_FT_weightsFit_47 rfl (lv_at hl 1 rfl) ?_
            refine lv_iconst (v := nI 2) C.1 C.2.1 d_FT_weightsFit_48 rfl ?_
            refine lv_icmp_le (tgt := 56) C.1 C.2.1 d_FT_weightsFit_49 (by decide) (fun c_23 => ?_) (fun c_23 => ?_)
            · -- 49 -> 56
              have c_23 := gm_let (by omega) (by omega) c_23
              have c_23' := Nat.not_lt.mpr c_23
              refine lv_iconst (v := nI 0) C.1 C.2.1 d_FT_weightsFit_56 rfl ?_
              refine lv_istore (lv' := [(6, .int (nI 0)), (5, .int (nI 0)), (0, .int (nI nm)), (1, .int a), (2, .int b), (3, .int c), (4, .int m)]) C.1 C.2.1 d_FT_weightsFit_57 hl (by decide) rfl (fun ls hl => ?_)
              refine lv_iload C.1 C.2.1 d_FT_weightsFit_59 (lv_at hl 1 rfl) ?_
              refine lv_if_eq (tgt := 85) C.1 C.2.1 d_FT_weightsFit_61 (by decide) (fun c_ => ?_) (fun c_ => absurd (by decide) c_)
              refine lv_iconst (v := nI 0) C.1 C.2.1 d_FT_weightsFit_85 rfl ?_
              exact gr_i C hlk hret (gm_nb (Or.inl rfl)) hh (by refine ⟨rfl, ?_⟩; simp_all [nI_0, nI_one, bI, numB] <;> omega) d_FT_weightsFit_86
            · -- 49 -> 52
              have c_23 := gm_lef (by omega) (by omega) c_23
              have c_23' := Nat.not_le.mpr c_23
              refine lv_iconst (v := nI 1) C.1 C.2.1 d_FT_weightsFit_52 rfl ?_
              refine lv_goto (tgt := 57) C.1 C.2.1 d_FT_weightsFit_53 (by decide) ?_
              refine lv_istore (lv' := [(6, .int (nI 1)), (5, .int (nI 0)), (0, .int (nI nm)), (1, .int a), (2, .int b), (3, .int c), (4, .int m)]) C.1 C.2.1 d_FT_weightsFit_57 hl (by decide) rfl (fun ls hl => ?_)
              refine lv_iload C.1 C.2.1 d_FT_weightsFit_59 (lv_at hl 1 rfl) ?_
              refine lv_if_eq (tgt := 85) C.1 C.2.1 d_FT_weightsFit_61 (by decide) (fun c_ => ?_) (fun c_ => absurd (by decide) c_)
              refine lv_iconst (v := nI 0) C.1 C.2.1 d_FT_weightsFit_85 rfl ?_
              exact gr_i C hlk hret (gm_nb (Or.inl rfl)) hh (by refine ⟨rfl, ?_⟩; simp_all [nI_0, nI_one, bI, numB] <;> omega) d_FT_weightsFit_86
    · -- 15 -> 18
      have b_24 := bI_t hr_13 c_16
      skip
      refine lv_iload_n C.1 C.2.1 d_FT_weightsFit_18 rfl (lv_at hl 3 rfl) ?_
      refine lv_iload C.1 C.2.1 d_FT_weightsFit_19 (lv_at hl 4 rfl) ?_
      refine gc_i hh (gc_runS (As := [.int c, .int m]) (rest := []) (n := 2) C hml hh (c_FT_within l D cs sh sz I J c m) (tg_S tw_275 tw_276 tw_57 tw_277) (by decide +kernel) ⟨rfl, rfl, by decide, by decide, Nat.zero_le _, Nat.zero_le _⟩ rfl hl.1 rfl (Nat.le_of_ble_eq_true rfl) d_FT_weightsFit_21) (fun r_25 I_26 J_27 H locs hr_25 hh => ?_)
      obtain ⟨e_r_25, hr_25⟩ := hr_25
      rw [(Prod.mk.inj e_r_25).1, (Prod.mk.inj e_r_25).2] at hh
      refine lv_if_eq (tgt := 31) C.1 C.2.1 d_FT_weightsFit_24 (by decide) (fun c_28 => ?_) (fun c_28 => ?_)
      · -- 24 -> 31
        have b_29 := bI_f hr_25 c_28
        skip
        refine lv_iconst (v := nI 0) C.1 C.2.1 d_FT_weightsFit_31 rfl ?_
        refine lv_istore (lv' := [(5, .int (nI 0)), (0, .int (nI nm)), (1, .int a), (2, .int b), (3, .int c), (4, .int m)]) C.1 C.2.1 d_FT_weightsFit_32 hl (by decide) rfl (fun ls hl => ?_)
        refine lv_iload_n C.1 C.2.1 d_FT_weightsFit_34 rfl (lv_at hl 3 rfl) ?_
        refine lv_if_eq (tgt := 43) C.1 C.2.1 d_FT_weightsFit_35 (by decide) (fun c_30 => ?_) (fun c_30 => ?_)
        · -- 35 -> 43
          skip
          refine lv_iload_n C.1 C.2.1 d_FT_weightsFit_43 rfl (lv_at hl 4 rfl) ?_
          refine lv_if_eq (tgt := 52) C.1 C.2.1 d_FT_weightsFit_44 (by decide) (fun c_31 => ?_) (fun c_31 => ?_)
          · -- 44 -> 52
            skip
            refine lv_iconst (v := nI 1) C.1 C.2.1 d_FT_weightsFit_52 rfl ?_
            refine lv_goto (tgt := 57) C.1 C.2.1 d_FT_weightsFit_53 (by decide) ?_
            refine lv_istore (lv' := [(6, .int (nI 1)), (5, .int (nI 0)), (0, .int (nI nm)), (1, .int a), (2, .int b), (3, .int c), (4, .int m)]) C.1 C.2.1 d_FT_weightsFit_57 hl (by decide) rfl (fun ls hl => ?_)
            refine lv_iload C.1 C.2.1 d_FT_weightsFit_59 (lv_at hl 1 rfl) ?_
            refine lv_if_eq (tgt := 85) C.1 C.2.1 d_FT_weightsFit_61 (by decide) (fun c_ => ?_) (fun c_ => absurd (by decide) c_)
            refine lv_iconst (v := nI 0) C.1 C.2.1 d_FT_weightsFit_85 rfl ?_
            exact gr_i C hlk hret (gm_nb (Or.inl rfl)) hh (by refine ⟨rfl, ?_⟩; simp_all [nI_0, nI_one, bI, numB] <;> omega) d_FT_weightsFit_86
          · -- 44 -> 47
            skip
            refine lv_iload_n C.1 C.2.1 d_FT_weightsFit_47 rfl (lv_at hl 1 rfl) ?_
            refine lv_iconst (v := nI 2) C.1 C.2.1 d_FT_weightsFit_48 rfl ?_
            refine lv_icmp_le (tgt := 56) C.1 C.2.1 d_FT_weightsFit_49 (by decide) (fun c_32 => ?_) (fun c_32 => ?_)
            · -- 49 -> 56
              have c_32 := gm_let (by omega) (by omega) c_32
              have c_32' := Nat.not_lt.mpr c_32
              refine lv_iconst (v := nI 0) C.1 C.2.1 d_FT_weightsFit_56 rfl ?_
              refine lv_istore (lv' := [(6, .int (nI 0)), (5, .int (nI 0)), (0, .int (nI nm)), (1, .int a), (2, .int b), (3, .int c), (4, .int m)]) C.1 C.2.1 d_FT_weightsFit_57 hl (by decide) rfl (fun ls hl => ?_)
              refine lv_iload C.1 C.2.1 d_FT_weightsFit_59 (lv_at hl 1 rfl) ?_
              refine lv_if_eq (tgt := 85) C.1 C.2.1 d_FT_weightsFit_61 (by decide) (fun c_ => ?_) (fun c_ => absurd (by decide) c_)
              refine lv_iconst (v := nI 0) C.1 C.2.1 d_FT_weightsFit_85 rfl ?_
              exact gr_i C hlk hret (gm_nb (Or.inl rfl)) hh (by refine ⟨rfl, ?_⟩; simp_all [nI_0, nI_one, bI, numB] <;> omega) d_FT_weightsFit_86
            · -- 49 -> 52
              have c_32 := gm_lef (by omega) (by omega) c_32
              have c_32' := Nat.not_le.mpr c_32
              refine lv_iconst (v := nI 1) C.1 C.2.1 d_FT_weightsFit_52 rfl ?_
              refine lv_goto (tgt := 57) C.1 C.2.1 d_FT_weightsFit_53 (by decide) ?_
              refine lv_istore (lv' := [(6, .int (nI 1)), (5, .int (nI 0)), (0, .int (nI nm)), (1, .int a), (2, .int b), (3, .int c), (4, .int m)]) C.1 C.2.1 d_FT_weightsFit_57 hl (by decide) rfl (fun ls hl => ?_)
              refine lv_iload C.1 C.2.1 d_FT_weightsFit_59 (lv_at hl 1 rfl) ?_
              refine lv_if_eq (tgt := 85) C.1 C.2.1 d_FT_weightsFit_61 (by decide) (fun c_ => ?_) (fun c_ => absurd (by decide) c_)
              refine lv_iconst (v := nI 0) C.1 C.2.1 d_FT_weightsFit_85 rfl ?_
              exact gr_i C hlk hret (gm_nb (Or.inl rfl)) hh (by refine ⟨rfl, ?_⟩; simp_all [nI_0, nI_one, bI, numB] <;> omega) d_FT_weightsFit_86
        · -- 35 -> 38
          skip
          refine lv_iload_n C.1 C.2.1 d_FT_weightsFit_38 rfl (lv_at hl 1 rfl) ?_
          refine lv_iconst (v := nI 1) C.1 C.2.1 d_FT_weightsFit_39 rfl ?_
          refine lv_icmp_le (tgt := 56) C.1 C.2.1 d_FT_weightsFit_40 (by decide) (fun c_33 => ?_) (fun c_33 => ?_)
          · -- 40 -> 56
            have c_33 := gm_let (by omega) (by omega) c_33
            have c_33' := Nat.not_lt.mpr c_33
            refine lv_iconst (v := nI 0) C.1 C.2.1 d_FT_weightsFit_56 rfl ?_
            refine lv_istore (lv' := [(6, .int (nI 0)), (5, .int (nI 0)), (0, .int (nI nm)), (1, .int a), (2, .int b), (3, .int c), (4, .int m)]) C.1 C.2.1 d_FT_weightsFit_57 hl (by decide) rfl (fun ls hl => ?_)
            refine lv_iload C.1 C.2.1 d_FT_weightsFit_59 (lv_at hl 1 rfl) ?_
            refine lv_if_eq (tgt := 85) C.1 C.2.1 d_FT_weightsFit_61 (by decide) (fun c_ => ?_) (fun c_ => absurd (by decide) c_)
            refine lv_iconst (v := nI 0) C.1 C.2.1 d_FT_weightsFit_85 rfl ?_
            exact gr_i C hlk hret (gm_nb (Or.inl rfl)) hh (by refine ⟨rfl, ?_⟩; simp_all [nI_0, nI_one, bI, numB] <;> omega) d_FT_weightsFit_86
          · -- 40 -> 43
            have c_33 := gm_lef (by omega) (by omega) c_33
            have c_33' := Nat.not_le.mpr c_33
            refine lv_iload_n C.1 C.2.1 d_FT_weightsFit_43 rfl (lv_at hl 4 rfl) ?_
            refine lv_if_eq (tgt := 52) C.1 C.2.1 d_FT_weightsFit_44 (by decide) (fun c_34 => ?_) (fun c_34 => ?_)
            · -- 44 -> 52
              skip
              refine lv_iconst (v := nI 1) C.1 C.2.1 d_FT_weightsFit_52 rfl ?_
              refine lv_goto (tgt := 57) C.1 C.2.1 d_FT_weightsFit_53 (by decide) ?_
              refine lv_istore (lv' := [(6, .int (nI 1)), (5, .int (nI 0)), (0, .int (nI nm)), (1, .int a), (2, .int b), (3, .int c), (4, .int m)]) C.1 C.2.1 d_FT_weightsFit_57 hl (by decide) rfl (fun ls hl => ?_)
              refine lv_iload C.1 C.2.1 d_FT_weightsFit_59 (lv_at hl 1 rfl) ?_
              refine lv_if_eq (tgt := 85) C.1 C.2.1 d_FT_weightsFit_61 (by decide) (fun c_ => ?_) (fun c_ => absurd (by decide) c_)
              refine lv_iconst (v := nI 0) C.1 C.2.1 d_FT_weightsFit_85 rfl ?_
              exact gr_i C hlk hret (gm_nb (Or.inl rfl)) hh (by refine ⟨rfl, ?_⟩; simp_all [nI_0, nI_one, bI, numB] <;> omega) d_FT_weightsFit_86
            · -- 44 -> 47
              skip
              refine lv_iload_n C.1 C.2.1 d_FT_weightsFit_47 rfl (lv_at hl 1 rfl) ?_
              refine lv_iconst (v := nI 2) C.1 C.2.1 d_FT_weightsFit_48 rfl ?_
              refine lv_icmp_le (tgt := 56) C.1 C.2.1 d_FT_weightsFit_49 (by decide) (fun c_35 => ?_) (fun c_35 => ?_)
              · -- 49 -> 56
                have c_35 := gm_let (by omega) (by omega) c_35
                have c_35' := Nat.not_lt.mpr c_35
                refine lv_iconst (v := nI 0) C.1 C.2.1 d_FT_weightsFit_56 rfl ?_
                refine lv_istore (lv' := [(6, .int (nI 0)), (5, .int (nI 0)), (0, .int (nI nm)), (1, .int a), (2, .int b), (3, .int c), (4, .int m)]) C.1 C.2.1 d_FT_weightsFit_57 hl (by decide) rfl (fun ls hl => ?_)
                refine lv_iload C.1 C.2.1 d_FT_weightsFit_59 (lv_at hl 1 rfl) ?_
                refine lv_if_eq (tgt := 85) C.1 C.2.1 d_FT_weightsFit_61 (by decide) (fun c_ => ?_) (fun c_ => absurd (by decide) c_)
                refine lv_iconst (v := nI 0) C.1 C.2.1 d_FT_weightsFit_85 rfl ?_
                exact gr_i C hlk hret (gm_nb (Or.inl rfl)) hh (by refine ⟨rfl, ?_⟩; simp_all [nI_0, nI_one, bI, numB] <;> omega) d_FT_weightsFit_86
              · -- 49 -> 52
                have c_35 := gm_lef (by omega) (by omega) c_35
                have c_35' := Nat.not_le.mpr c_35
                refine lv_iconst (v := nI 1) C.1 C.2.1 d_FT_weightsFit_52 rfl ?_
                refine lv_goto (tgt := 57) C.1 C.2.1 d_FT_weightsFit_53 (by decide) ?_
                refine lv_istore (lv' := [(6, .int (nI 1)), (5, .int (nI 0)), (0, .int (nI nm)), (1, .int a), (2, .int b), (3, .int c), (4, .int m)]) C.1 C.2.1 d_FT_weightsFit_57 hl (by decide) rfl (fun ls hl => ?_)
                refine lv_iload C.1 C.2.1 d_FT_weightsFit_59 (lv_at hl 1 rfl) ?_
                refine lv_if_eq (tgt := 85) C.1 C.2.1 d_FT_weightsFit_61 (by decide) (fun c_ => ?_) (fun c_ => absurd (by decide) c_)
                refine lv_iconst (v := nI 0) C.1 C.2.1 d_FT_weightsFit_85 rfl ?_
                exact gr_i C hlk hret (gm_nb (Or.inl rfl)) hh (by refine ⟨rfl, ?_⟩; simp_all [nI_0, nI_one, bI, numB] <;> omega) d_FT_weightsFit_86
      · -- 24 -> 27
        have b_36 := bI_t hr_25 c_28
        skip
        refine lv_iconst (v := nI 1) C.1 C.2.1 d_FT_weightsFit_27 rfl ?_
        refine lv_goto (tgt := 32) C.1 C.2.1 d_FT_weightsFit_28 (by decide) ?_
        refine lv_istore (lv' := [(5, .int (nI 1)), (0, .int (nI nm)), (1, .int a), (2, .int b), (3, .int c), (4, .int m)]) C.1 C.2.1 d_FT_weightsFit_32 hl (by decide) rfl (fun ls hl => ?_)
        refine lv_iload_n C.1 C.2.1 d_FT_weightsFit_34 rfl (lv_at hl 3 rfl) ?_
        refine lv_if_eq (tgt := 43) C.1 C.2.1 d_FT_weightsFit_35 (by decide) (fun c_37 => ?_) (fun c_37 => ?_)
        · -- 35 -> 43
          skip
          refine lv_iload_n C.1 C.2.1 d_FT_weightsFit_43 rfl (lv_at hl 4 rfl) ?_
          refine lv_if_eq (tgt := 52) C.1 C.2.1 d_FT_weightsFit_44 (by decide) (fun c_38 => ?_) (fun c_38 => ?_)
          · -- 44 -> 52
            skip
            refine lv_iconst (v := nI 1) C.1 C.2.1 d_FT_weightsFit_52 rfl ?_
            refine lv_goto (tgt := 57) C.1 C.2.1 d_FT_weightsFit_53 (by decide) ?_
            refine lv_istore (lv' := [(6, .int (nI 1)), (5, .int (nI 1)), (0, .int (nI nm)), (1, .int a), (2, .int b), (3, .int c), (4, .int m)]) C.1 C.2.1 d_FT_weightsFit_57 hl (by decide) rfl (fun ls hl => ?_)
            refine lv_iload C.1 C.2.1 d_FT_weightsFit_59 (lv_at hl 1 rfl) ?_
            refine lv_if_eq (tgt := 85) C.1 C.2.1 d_FT_weightsFit_61 (by decide) (fun c_ => absurd c_ (by decide)) (fun c_ => ?_)
            refine lv_iload C.1 C.2.1 d_FT_weightsFit_64 (lv_at hl 0 rfl) ?_
            refine lv_if_eq (tgt := 85) C.1 C.2.1 d_FT_weightsFit_66 (by decide) (fun c_ => absurd c_ (by decide)) (fun c_ => ?_)
            refine lv_iload_n C.1 C.2.1 d_FT_weightsFit_69 rfl (lv_at hl 3 rfl) ?_
            refine lv_if_ne (tgt := 81) C.1 C.2.1 d_FT_weightsFit_70 (by decide) (fun c_39 => ?_) (fun c_39 => ?_)
            · -- 70 -> 81
              skip
              refine lv_iconst (v := nI 1) C.1 C.2.1 d_FT_weightsFit_81 rfl ?_
              refine lv_goto (tgt := 86) C.1 C.2.1 d_FT_weightsFit_82 (by decide) ?_
              exact gr_i C hlk hret (gm_nb (Or.inr rfl)) hh (by refine ⟨rfl, ?_⟩; simp_all [nI_0, nI_one, bI, numB] <;> omega) d_FT_weightsFit_86
            · -- 70 -> 73
              skip
              refine lv_iload_n C.1 C.2.1 d_FT_weightsFit_73 rfl (lv_at hl 4 rfl) ?_
              refine lv_if_ne (tgt := 81) C.1 C.2.1 d_FT_weightsFit_74 (by decide) (fun c_40 => ?_) (fun c_40 => ?_)
              · -- 74 -> 81
                skip
                refine lv_iconst (v := nI 1) C.1 C.2.1 d_FT_weightsFit_81 rfl ?_
                refine lv_goto (tgt := 86) C.1 C.2.1 d_FT_weightsFit_82 (by decide) ?_
                exact gr_i C hlk hret (gm_nb (Or.inr rfl)) hh (by refine ⟨rfl, ?_⟩; simp_all [nI_0, nI_one, bI, numB] <;> omega) d_FT_weightsFit_86
              · -- 74 -> 77
                skip
                refine lv_iload_n C.1 C.2.1 d_FT_weightsFit_77 rfl (lv_at hl 5 rfl) ?_
                refine lv_if_eq (tgt := 85) C.1 C.2.1 d_FT_weightsFit_78 (by decide) (fun c_41 => ?_) (fun c_41 => ?_)
                · -- 78 -> 85
                  skip
                  refine lv_iconst (v := nI 0) C.1 C.2.1 d_FT_weightsFit_85 rfl ?_
                  exact gr_i C hlk hret (gm_nb (Or.inl rfl)) hh (by refine ⟨rfl, ?_⟩; simp_all [nI_0, nI_one, bI, numB] <;> omega) d_FT_weightsFit_86
                · -- 78 -> 81
                  skip
                  refine lv_iconst (v := nI 1) C.1 C.2.1 d_FT_weightsFit_81 rfl ?_
                  refine lv_goto (tgt := 86) C.1 C.2.1 d_FT_weightsFit_82 (by decide) ?_
                  exact gr_i C hlk hret (gm_nb (Or.inr rfl)) hh (by refine ⟨rfl, ?_⟩; simp_all [nI_0, nI_one, bI, numB] <;> omega) d_FT_weightsFit_86
          · -- 44 -> 47
            skip
            refine lv_iload_n C.1 C.2.1 d_FT_weightsFit_47 rfl (lv_at hl 1 rfl) ?_
            refine lv_iconst (v := nI 2) C.1 C.2.1 d_FT_weightsFit_48 rfl ?_
            refine lv_icmp_le (tgt := 56) C.1 C.2.1 d_FT_weightsFit_49 (by decide) (fun c_42 => ?_) (fun c_42 => ?_)
            · -- 49 -> 56
              have c_42 := gm_let (by omega) (by omega) c_42
              have c_42' := Nat.not_lt.mpr c_42
              refine lv_iconst (v := nI 0) C.1 C.2.1 d_FT_weightsFit_56 rfl ?_
              refine lv_istore (lv' := [(6, .int (nI 0)), (5, .int (nI 1)), (0, .int (nI nm)), (1, .int a), (2, .int b), (3, .int c), (4, .int m)]) C.1 C.2.1 d_FT_weightsFit_57 hl (by decide) rfl (fun ls hl => ?_)
              refine lv_iload C.1 C.2.1 d_FT_weightsFit_59 (lv_at hl 1 rfl) ?_
              refine lv_if_eq (tgt := 85) C.1 C.2.1 d_FT_weightsFit_61 (by decide) (fun c_ => absurd c_ (by decide)) (fun c_ => ?_)
              refine lv_iload C.1 C.2.1 d_FT_weightsFit_64 (lv_at hl 0 rfl) ?_
              refine lv_if_eq (tgt := 85) C.1 C.2.1 d_FT_weightsFit_66 (by decide) (fun c_ => ?_) (fun c_ => absurd (by decide) c_)
              refine lv_iconst (v := nI 0) C.1 C.2.1 d_FT_weightsFit_85 rfl ?_
              exact gr_i C hlk hret (gm_nb (Or.inl rfl)) hh (by refine ⟨rfl, ?_⟩; simp_all [nI_0, nI_one, bI, numB] <;> omega) d_FT_weightsFit_86
            · -- 49 -> 52
              have c_42 := gm_lef (by omega) (by omega) c_42
              have c_42' := Nat.not_le.mpr c_42
              refine lv_iconst (v := nI 1) C.1 C.2.1 d_FT_weightsFit_52 rfl ?_
              refine lv_goto (tgt := 57) C.1 C.2.1 d_FT_weightsFit_53 (by decide) ?_
              refine lv_istore (lv' := [(6, .int (nI 1)), (5, .int (nI 1)), (0, .int (nI nm)), (1, .int a), (2, .int b), (3, .int c), (4, .int m)]) C.1 C.2.1 d_FT_weightsFit_57 hl (by decide) rfl (fun ls hl => ?_)
              refine lv_iload C.1 C.2.1 d_FT_weightsFit_59 (lv_at hl 1 rfl) ?_
              refine lv_if_eq (tgt := 85) C.1 C.2.1 d_FT_weightsFit_61 (by decide) (fun c_ => absurd c_ (by decide)) (fun c_ => ?_)
              refine lv_iload C.1 C.2.1 d_FT_weightsFit_64 (lv_at hl 0 rfl) ?_
              refine lv_if_eq (tgt := 85) C.1 C.2.1 d_FT_weightsFit_66 (by decide) (fun c_ => absurd c_ (by decide)) (fun c_ => ?_)
              refine lv_iload_n C.1 C.2.1 d_FT_weightsFit_69 rfl (lv_at hl 3 rfl) ?_
              refine lv_if_ne (tgt := 81) C.1 C.2.1 d_FT_weightsFit_70 (by decide) (fun c_43 => ?_) (fun c_43 => ?_)
              · -- 70 -> 81
                skip
                refine lv_iconst (v := nI 1) C.1 C.2.1 d_FT_weightsFit_81 rfl ?_
                refine lv_goto (tgt := 86) C.1 C.2.1 d_FT_weightsFit_82 (by decide) ?_
                exact gr_i C hlk hret (gm_nb (Or.inr rfl)) hh (by refine ⟨rfl, ?_⟩; simp_all [nI_0, nI_one, bI, numB] <;> omega) d_FT_weightsFit_86
              · -- 70 -> 73
                skip
                refine lv_iload_n C.1 C.2.1 d_FT_weightsFit_73 rfl (lv_at hl 4 rfl) ?_
                refine lv_if_ne (tgt := 81) C.1 C.2.1 d_FT_weightsFit_74 (by decide) (fun c_44 => ?_) (fun c_44 => ?_)
                · -- 74 -> 81
                  skip
                  refine lv_iconst (v := nI 1) C.1 C.2.1 d_FT_weightsFit_81 rfl ?_
                  refine lv_goto (tgt := 86) C.1 C.2.1 d_FT_weightsFit_82 (by decide) ?_
                  exact gr_i C hlk hret (gm_nb (Or.inr rfl)) hh (by refine ⟨rfl, ?_⟩; simp_all [nI_0, nI_one, bI, numB] <;> omega) d_FT_weightsFit_86
                · -- 74 -> 77
                  skip
                  refine lv_iload_n C.1 C.2.1 d_FT_weightsFit_77 rfl (lv_at hl 5 rfl) ?_
                  refine lv_if_eq (tgt := 85) C.1 C.2.1 d_FT_weightsFit_78 (by decide) (fun c_45 => ?_) (fun c_45 => ?_)
                  · -- 78 -> 85
                    skip
                    refine lv_iconst (v := nI 0) C.1 C.2.1 d_FT_weightsFit_85 rfl ?_
                    exact gr_i C hlk hret (gm_nb (Or.inl rfl)) hh (by refine ⟨rfl, ?_⟩; simp_all [nI_0, nI_one, bI, numB] <;> omega) d_FT_weightsFit_86
                  · -- 78 -> 81
                    skip
                    refine lv_iconst (v := nI 1) C.1 C.2.1 d_FT_weightsFit_81 rfl ?_
                    refine lv_goto (tgt := 86) C.1 C.2.1 d_FT_weightsFit_82 (by decide) ?_
                    exact gr_i C hlk hret (gm_nb (Or.inr rfl)) hh (by refine ⟨rfl, ?_⟩; simp_all [nI_0, nI_one, bI, numB] <;> omega) d_FT_weightsFit_86
        · -- 35 -> 38
          skip
          refine lv_iload_n C.1 C.2.1 d_FT_weightsFit_38 rfl (lv_at hl 1 rfl) ?_
          refine lv_iconst (v := nI 1) C.1 C.2.1 d_FT_weightsFit_39 rfl ?_
          refine lv_icmp_le (tgt := 56) C.1 C.2.1 d_FT_weightsFit_40 (by decide) (fun c_46 => ?_) (fun c_46 => ?_)
          · -- 40 -> 56
            have c_46 := gm_let (by omega) (by omega) c_46
            have c_46' := Nat.not_lt.mpr c_46
            refine lv_iconst (v := nI 0) C.1 C.2.1 d_FT_weightsFit_56 rfl ?_
            refine lv_istore (lv' := [(6, .int (nI 0)), (5, .int (nI 1)), (0, .int (nI nm)), (1, .int a), (2, .int b), (3, .int c), (4, .int m)]) C.1 C.2.1 d_FT_weightsFit_57 hl (by decide) rfl (fun ls hl => ?_)
            refine lv_iload C.1 C.2.1 d_FT_weightsFit_59 (lv_at hl 1 rfl) ?_
            refine lv_if_eq (tgt := 85) C.1 C.2.1 d_FT_weightsFit_61 (by decide) (fun c_ => absurd c_ (by decide)) (fun c_ => ?_)
            refine lv_iload C.1 C.2.1 d_FT_weightsFit_64 (lv_at hl 0 rfl) ?_
            refine lv_if_eq (tgt := 85) C.1 C.2.1 d_FT_weightsFit_66 (by decide) (fun c_ => ?_) (fun c_ => absurd (by decide) c_)
            refine lv_iconst (v := nI 0) C.1 C.2.1 d_FT_weightsFit_85 rfl ?_
            exact gr_i C hlk hret (gm_nb (Or.inl rfl)) hh (by refine ⟨rfl, ?_⟩; simp_all [nI_0, nI_one, bI, numB] <;> omega) d_FT_weightsFit_86
          · -- 40 -> 43
            have c_46 := gm_lef (by omega) (by omega) c_46
            have c_46' := Nat.not_le.mpr c_46
            refine lv_iload_n C.1 C.2.1 d_FT_weightsFit_43 rfl (lv_at hl 4 rfl) ?_
            refine lv_if_eq (tgt := 52) C.1 C.2.1 d_FT_weightsFit_44 (by decide) (fun c_47 => ?_) (fun c_47 => ?_)
            · -- 44 -> 52
              skip
              refine lv_iconst (v := nI 1) C.1 C.2.1 d_FT_weightsFit_52 rfl ?_
              refine lv_goto (tgt := 57) C.1 C.2.1 d_FT_weightsFit_53 (by decide) ?_
              refine lv_istore (lv' := [(6, .int (nI 1)), (5, .int (nI 1)), (0, .int (nI nm)), (1, .int a), (2, .int b), (3, .int c), (4, .int m)]) C.1 C.2.1 d_FT_weightsFit_57 hl (by decide) rfl (fun ls hl => ?_)
              refine lv_iload C.1 C.2.1 d_FT_weightsFit_59 (lv_at hl 1 rfl) ?_
              refine lv_if_eq (tgt := 85) C.1 C.2.1 d_FT_weightsFit_61 (by decide) (fun c_ => absurd c_ (by decide)) (fun c_ => ?_)
              refine lv_iload C.1 C.2.1 d_FT_weightsFit_64 (lv_at hl 0 rfl) ?_
              refine lv_if_eq (tgt := 85) C.1 C.2.1 d_FT_weightsFit_66 (by decide) (fun c_ => absurd c_ (by decide)) (fun c_ => ?_)
              refine lv_iload_n C.1 C.2.1 d_FT_weightsFit_69 rfl (lv_at hl 3 rfl) ?_
              refine lv_if_ne (tgt := 81) C.1 C.2.1 d_FT_weightsFit_70 (by decide) (fun c_48 => ?_) (fun c_48 => ?_)
              · -- 70 -> 81
                skip
                refine lv_iconst (v := nI 1) C.1 C.2.1 d_FT_weightsFit_81 rfl ?_
                refine lv_goto (tgt := 86) C.1 C.2.1 d_FT_weightsFit_82 (by decide) ?_
                exact gr_i C hlk hret (gm_nb (Or.inr rfl)) hh (by refine ⟨rfl, ?_⟩; simp_all [nI_0, nI_one, bI, numB] <;> omega) d_FT_weightsFit_86
              · -- 70 -> 73
                skip
                refine lv_iload_n C.1 C.2.1 d_FT_weightsFit_73 rfl (lv_at hl 4 rfl) ?_
                refine lv_if_ne (tgt := 81) C.1 C.2.1 d_FT_weightsFit_74 (by decide) (fun c_49 => ?_) (fun c_49 => ?_)
                · -- 74 -> 81
                  skip
                  refine lv_iconst (v := nI 1) C.1 C.2.1 d_FT_weightsFit_81 rfl ?_
                  refine lv_goto (tgt := 86) C.1 C.2.1 d_FT_weightsFit_82 (by decide) ?_
                  exact gr_i C hlk hret (gm_nb (Or.inr rfl)) hh (by refine ⟨rfl, ?_⟩; simp_all [nI_0, nI_one, bI, numB] <;> omega) d_FT_weightsFit_86
                · -- 74 -> 77
                  skip
                  refine lv_iload_n C.1 C.2.1 d_FT_weightsFit_77 rfl (lv_at hl 5 rfl) ?_
                  refine lv_if_eq (tgt := 85) C.1 C.2.1 d_FT_weightsFit_78 (by decide) (fun c_50 => ?_) (fun c_50 => ?_)
                  · -- 78 -> 85
                    skip
                    refine lv_iconst (v := nI 0) C.1 C.2.1 d_FT_weightsFit_85 rfl ?_
                    exact gr_i C hlk hret (gm_nb (Or.inl rfl)) hh (by refine ⟨rfl, ?_⟩; simp_all [nI_0, nI_one, bI, numB] <;> omega) d_FT_weightsFit_86
                  · -- 78 -> 81
                    skip
                    refine lv_iconst (v := nI 1) C.1 C.2.1 d_FT_weightsFit_81 rfl ?_
                    refine lv_goto (tgt := 86) C.1 C.2.1 d_FT_weightsFit_82 (by decide) ?_
                    exact gr_i C hlk hret (gm_nb (Or.inr rfl)) hh (by refine ⟨rfl, ?_⟩; simp_all [nI_0, nI_one, bI, numB] <;> omega) d_FT_weightsFit_86
            · -- 44 -> 47
              skip
              refine lv_iload_n C.1 C.2.1 d_FT_weightsFit_47 rfl (lv_at hl 1 rfl) ?_
              refine lv_iconst (v := nI 2) C.1 C.2.1 d_FT_weightsFit_48 rfl ?_
              refine lv_icmp_le (tgt := 56) C.1 C.2.1 d_FT_weightsFit_49 (by decide) (fun c_51 => ?_) (fun c_51 => ?_)
              · -- 49 -> 56
                have c_51 := gm_let (by omega) (by omega) c_51
                have c_51' := Nat.not_lt.mpr c_51
                refine lv_iconst (v := nI 0) C.1 C.2.1 d_FT_weightsFit_56 rfl ?_
                refine lv_istore (lv' := [(6, .int (nI 0)), (5, .int (nI 1)), (0, .int (nI nm)), (1, .int a), (2, .int b), (3, .int c), (4, .int m)]) C.1 C.2.1 d_FT_weightsFit_57 hl (by decide) rfl (fun ls hl => ?_)
                refine lv_iload C.1 C.2.1 d_FT_weightsFit_59 (lv_at hl 1 rfl) ?_
                refine lv_if_eq (tgt := 85) C.1 C.2.1 d_FT_weightsFit_61 (by decide) (fun c_ => absurd c_ (by decide)) (fun c_ => ?_)
                refine lv_iload C.1 C.2.1 d_FT_weightsFit_64 (lv_at hl 0 rfl) ?_
                refine lv_if_eq (tgt := 85) C.1 C.2.1 d_FT_weightsFit_66 (by decide) (fun c_ => ?_) (fun c_ => absurd (by decide) c_)
                refine lv_iconst (v := nI 0) C.1 C.2.1 d_FT_weightsFit_85 rfl ?_
                exact gr_i C hlk hret (gm_nb (Or.inl rfl)) hh (by refine ⟨rfl, ?_⟩; simp_all [nI_0, nI_one, bI, numB] <;> omega) d_FT_weightsFit_86
              · -- 49 -> 52
                have c_51 := gm_lef (by omega) (by omega) c_51
                have c_51' := Nat.not_le.mpr c_51
                refine lv_iconst (v := nI 1) C.1 C.2.1 d_FT_weightsFit_52 rfl ?_
                refine lv_goto (tgt := 57) C.1 C.2.1 d_FT_weightsFit_53 (by decide) ?_
                refine lv_istore (lv' := [(6, .int (nI 1)), (5, .int (nI 1)), (0, .int (nI nm)), (1, .int a), (2, .int b), (3, .int c), (4, .int m)]) C.1 C.2.1 d_FT_weightsFit_57 hl (by decide) rfl (fun ls hl => ?_)
                refine lv_iload C.1 C.2.1 d_FT_weightsFit_59 (lv_at hl 1 rfl) ?_
                refine lv_if_eq (tgt := 85) C.1 C.2.1 d_FT_weightsFit_61 (by decide) (fun c_ => absurd c_ (by decide)) (fun c_ => ?_)
                refine lv_iload C.1 C.2.1 d_FT_weightsFit_64 (lv_at hl 0 rfl) ?_
                refine lv_if_eq (tgt := 85) C.1 C.2.1 d_FT_weightsFit_66 (by decide) (fun c_ => absurd c_ (by decide)) (fun c_ => ?_)
                refine lv_iload_n C.1 C.2.1 d_FT_weightsFit_69 rfl (lv_at hl 3 rfl) ?_
                refine lv_if_ne (tgt := 81) C.1 C.2.1 d_FT_weightsFit_70 (by decide) (fun c_52 => ?_) (fun c_52 => ?_)
                · -- 70 -> 81
                  skip
                  refine lv_iconst (v := nI 1) C.1 C.2.1 d_FT_weightsFit_81 rfl ?_
                  refine lv_goto (tgt := 86) C.1 C.2.1 d_FT_weightsFit_82 (by decide) ?_
                  exact gr_i C hlk hret (gm_nb (Or.inr rfl)) hh (by refine ⟨rfl, ?_⟩; simp_all [nI_0, nI_one, bI, numB] <;> omega) d_FT_weightsFit_86
                · -- 70 -> 73
                  skip
                  refine lv_iload_n C.1 C.2.1 d_FT_weightsFit_73 rfl (lv_at hl 4 rfl) ?_
                  refine lv_if_ne (tgt := 81) C.1 C.2.1 d_FT_weightsFit_74 (by decide) (fun c_53 => ?_) (fun c_53 => ?_)
                  · -- 74 -> 81
                    skip
                    refine lv_iconst (v := nI 1) C.1 C.2.1 d_FT_weightsFit_81 rfl ?_
                    refine lv_goto (tgt := 86) C.1 C.2.1 d_FT_weightsFit_82 (by decide) ?_
                    exact gr_i C hlk hret (gm_nb (Or.inr rfl)) hh (by refine ⟨rfl, ?_⟩; simp_all [nI_0, nI_one, bI, numB] <;> omega) d_FT_weightsFit_86
                  · -- 74 -> 77
                    skip
                    refine lv_iload_n C.1 C.2.1 d_FT_weightsFit_77 rfl (lv_at hl 5 rfl) ?_
                    refine lv_if_eq (tgt := 85) C.1 C.2.1 d_FT_weightsFit_78 (by decide) (fun c_54 => ?_) (fun c_54 => ?_)
                    · -- 78 -> 85
                      skip
                      refine lv_iconst (v := nI 0) C.1 C.2.1 d_FT_weightsFit_85 rfl ?_
                      exact gr_i C hlk hret (gm_nb (Or.inl rfl)) hh (by refine ⟨rfl, ?_⟩; simp_all [nI_0, nI_one, bI, numB] <;> omega) d_FT_weightsFit_86
                    · -- 78 -> 81
                      skip
                      refine lv_iconst (v := nI 1) C.1 C.2.1 d_FT_weightsFit_81 rfl ?_
                      refine lv_goto (tgt := 86) C.1 C.2.1 d_FT_weightsFit_82 (by decide) ?_
                      exact gr_i C hlk hret (gm_nb (Or.inr rfl)) hh (by refine ⟨rfl, ?_⟩; simp_all [nI_0, nI_one, bI, numB] <;> omega) d_FT_weightsFit_86

set_option maxHeartbeats 4000000 in
set_option maxRecDepth 100000 in
theorem c_FT_rowFits (l : Launch) (D : va_G) (cs : Nat → ClassId) (sh : gm_H) (sz : Nat) (I : gm_I) (J : gm_J) (B : Nat) (hF : is_FT cs sh B) (hV : inv_FT I B) (j nm : Nat) (hj : j < 8) (enm : I (B + 12 + 21 * j) 0 = nI nm) (hnm : nm ≤ 3) (a b c d : Int32) : CI l y_FT_rowFits w_FT_rowFits { frames := 2, cells := 0, slots := 0, locals := 47 } D cs sh sz I J [.ref B, .int (nI j), .int a, .int b, .int c, .int d] (fun x u => u = (I, J) ∧ x = bI (rowB nm a b c d)) := by
  refine gm_start (by decide) (Nat.le_of_ble_eq_true rfl) ?_
  intro p' e' s' m' be' me' co' ls C hml hlk hret hh hl
  have hl : lv_has ls 6 [(0, .ref B), (1, .int (nI j)), (2, .int a), (3, .int b), (4, .int c), (5, .int d)] := hl
  refine lv_aload_n C.1 C.2.1 d_FT_rowFits_0 rfl (lv_at hl 0 rfl) ?_
  refine gg_r C hh hF.1 rfl in_FT 0 (by decide) rfl tw_210 rfl d_FT_rowFits_1 ?_
  refine lv_iload_n C.1 C.2.1 d_FT_rowFits_4 rfl (lv_at hl 1 rfl) ?_
  refine ga_q C hh 2 hF.2.1 (Cn := "FallingTerms$Loop") rfl (k := j) (v := B + 12 + 21 * j) rfl (by omega) (by omega) (if_pos (by omega)) d_FT_rowFits_5 ?_
  obtain ⟨p_1, ep_1⟩ : ∃ z : Nat, z = B + 12 + 21 * j := ⟨_, rfl⟩
  have hp_1 : is_Lp cs sh p_1 := by rw [ep_1]; exact hF.2.2.2.2.2.2.2.2.2.2 j (by omega)
  refine gm_eqr ep_1.symm ?_
  refine gn_i C hh hp_1.1 rfl in_Lp 0 (by decide) rfl tw_153 rfl d_FT_rowFits_6 ?_
  refine gm_eqi (by rw [ep_1]; exact enm : _ = nI nm) ?_
  refine lv_iload_n C.1 C.2.1 d_FT_rowFits_9 rfl (lv_at hl 2 rfl) ?_
  refine lv_iload_n C.1 C.2.1 d_FT_rowFits_10 rfl (lv_at hl 3 rfl) ?_
  refine lv_iload C.1 C.2.1 d_FT_rowFits_11 (lv_at hl 4 rfl) ?_
  refine lv_bipush (v := nI 9) C.1 C.2.1 d_FT_rowFits_13 rfl ?_
  refine gc_i hh (gc_runS (As := [.int (nI nm), .int a, .int b, .int c, .int (nI 9)]) (rest := []) (n := 5) C hml hh (c_FT_weightsFit l D cs sh sz I J nm (by omega) a b c (nI 9)) (tg_S tw_272 tw_273 tw_57 tw_274) (by decide +kernel) ⟨rfl, rfl, by decide, by decide, Nat.zero_le _, Nat.zero_le _⟩ rfl hl.1 rfl (Nat.le_of_ble_eq_true rfl) d_FT_rowFits_15) (fun r_2 I_3 J_4 H locs hr_2 hh => ?_)
  obtain ⟨e_r_2, hr_2⟩ := hr_2
  rw [(Prod.mk.inj e_r_2).1, (Prod.mk.inj e_r_2).2] at hh
  refine lv_if_eq (tgt := 36) C.1 C.2.1 d_FT_rowFits_18 (by decide) (fun c_5 => ?_) (fun c_5 => ?_)
  · -- 18 -> 36
    have b_6 := bI_f hr_2 c_5
    skip
    refine lv_iconst (v := nI 0) C.1 C.2.1 d_FT_rowFits_36 rfl ?_
    exact gr_i C hlk hret (gm_nb (Or.inl rfl)) hh (by refine ⟨rfl, ?_⟩; unfold rowB; rw [show (-1000 : Int32) = -(nI 1000) by decide]; simp_all [nI_0, nI_one, bI]) d_FT_rowFits_37
  · -- 18 -> 21
    have b_7 := bI_t hr_2 c_5
    skip
    refine lv_iload C.1 C.2.1 d_FT_rowFits_21 (lv_at hl 5 rfl) ?_
    refine lv_sipush (v := nI 1000) C.1 C.2.1 d_FT_rowFits_23 rfl ?_
    refine gc_i hh (gc_runS (As := [.int d, .int (nI 1000)]) (rest := []) (n := 2) C hml hh (c_FT_within l D cs sh sz I J d (nI 1000)) (tg_S tw_275 tw_276 tw_57 tw_277) (by decide +kernel) ⟨rfl, rfl, by decide, by decide, Nat.zero_le _, Nat.zero_le _⟩ rfl hl.1 rfl (Nat.le_of_ble_eq_true rfl) d_FT_rowFits_26) (fun r_8 I_9 J_10 H locs hr_8 hh => ?_)
    obtain ⟨e_r_8, hr_8⟩ := hr_8
    rw [(Prod.mk.inj e_r_8).1, (Prod.mk.inj e_r_8).2] at hh
    refine lv_if_eq (tgt := 36) C.1 C.2.1 d_FT_rowFits_29 (by decide) (fun c_11 => ?_) (fun c_11 => ?_)
    · -- 29 -> 36
      have b_12 := bI_f hr_8 c_11
      skip
      refine lv_iconst (v := nI 0) C.1 C.2.1 d_FT_rowFits_36 rfl ?_
      exact gr_i C hlk hret (gm_nb (Or.inl rfl)) hh (by refine ⟨rfl, ?_⟩; unfold rowB; rw [show (-1000 : Int32) = -(nI 1000) by decide]; simp_all [nI_0, nI_one, bI]) d_FT_rowFits_37
    · -- 29 -> 32
      have b_13 := bI_t hr_8 c_11
      skip
      refine lv_iconst (v := nI 1) C.1 C.2.1 d_FT_rowFits_32 rfl ?_
      refine lv_goto (tgt := 37) C.1 C.2.1 d_FT_rowFits_33 (by decide) ?_
      exact gr_i C hlk hret (gm_nb (Or.inr rfl)) hh (by refine ⟨rfl, ?_⟩; unfold rowB; rw [show (-1000 : Int32) = -(nI 1000) by decide]; simp_all [nI_0, nI_one, bI]) d_FT_rowFits_37

set_option maxHeartbeats 4000000 in
set_option maxRecDepth 100000 in
theorem c_FT_isLoop (l : Launch) (D : va_G) (cs : Nat → ClassId) (sh : gm_H) (sz : Nat) (I : gm_I) (J : gm_J) (B : Nat) (hF : is_FT cs sh B) (hV : inv_FT I B) (n : Nat) (en : I B 1 = nI n) (hn : n ≤ 8) (v : Int32) : CI l y_FT_isLoop w_FT_isLoop { frames := 0, cells := 0, slots := 0, locals := 0 } D cs sh sz I J [.ref B, .int v] (fun x u => u = (I, J) ∧ x = bI (inI v 0 (nI n - 1))) := by
  refine gm_start (by decide) (Nat.le_of_ble_eq_true rfl) ?_
  intro p' e' s' m' be' me' co' ls C hml hlk hret hh hl
  have hl : lv_has ls 2 [(0, .ref B), (1, .int v)] := hl
  refine lv_iload_n C.1 C.2.1 d_FT_isLoop_0 rfl (lv_at hl 1 rfl) ?_
  refine lv_if_lt (tgt := 16) C.1 C.2.1 d_FT_isLoop_1 (by decide) (fun c_1 => ?_) (fun c_1 => ?_)
  · -- 1 -> 16
    skip
    refine lv_iconst (v := nI 0) C.1 C.2.1 d_FT_isLoop_16 rfl ?_
    exact gr_i C hlk hret (gm_nb (Or.inl rfl)) hh (by refine ⟨rfl, ?_⟩; rw [inI_dec (by omega)]; simp [nI_0, nI_one, bI, *]) d_FT_isLoop_17
  · -- 1 -> 4
    skip
    refine lv_iload_n C.1 C.2.1 d_FT_isLoop_4 rfl (lv_at hl 1 rfl) ?_
    refine lv_aload_n C.1 C.2.1 d_FT_isLoop_5 rfl (lv_at hl 0 rfl) ?_
    refine gg_i C hh hF.1 rfl in_FT 1 (by decide) rfl tw_211 rfl d_FT_isLoop_6 ?_
    refine gm_eqi en ?_
    refine lv_icmp_ge (tgt := 16) C.1 C.2.1 d_FT_isLoop_9 (by decide) (fun c_2 => ?_) (fun c_2 => ?_)
    · -- 9 -> 16
      skip
      refine lv_iconst (v := nI 0) C.1 C.2.1 d_FT_isLoop_16 rfl ?_
      exact gr_i C hlk hret (gm_nb (Or.inl rfl)) hh (by refine ⟨rfl, ?_⟩; rw [inI_dec (by omega)]; simp [nI_0, nI_one, bI, *]) d_FT_isLoop_17
    · -- 9 -> 12
      skip
      refine lv_iconst (v := nI 1) C.1 C.2.1 d_FT_isLoop_12 rfl ?_
      refine lv_goto (tgt := 17) C.1 C.2.1 d_FT_isLoop_13 (by decide) ?_
      exact gr_i C hlk hret (gm_nb (Or.inr rfl)) hh (by refine ⟨rfl, ?_⟩; rw [inI_dec (by omega)]; simp [nI_0, nI_one, bI, *]) d_FT_isLoop_17
