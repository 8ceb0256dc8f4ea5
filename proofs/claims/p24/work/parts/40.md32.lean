set_option maxHeartbeats 4000000 in
set_option maxRecDepth 100000 in
theorem c_Md_taken (l : Launch) (D : va_G) (cs : Nat → ClassId) (sh : gm_H) (sz : Nat) (I : gm_I) (J : gm_J) (r : Nat) (hM : is_Md sh r) (hV : inv_Md I r) (hb : ∃ b, I r 20 = bI b) (j : Nat) (hj : j < 8) (e : Int32) (x : Bool) (he : e = bI x) (o z : Nat) (ho : o < 8) (hz : z < 8) (a b c : Int32) : CI l y_Md_taken w_Md_taken { frames := 4, cells := 0, slots := 0, locals := 108 } D cs sh sz I J [.ref r, .int (nI j), .int e, .int (nI o), .int (nI z), .int a, .int b, .int c] (fun y u => y = nI ((tkN I J r j x o z a b c (nN (I (r + 2) j))).getD 0) ∧ eqS r I J u.1 u.2) := by
  refine gm_start (by decide) (Nat.le_of_ble_eq_true rfl) ?_
  intro p' e' s' m' be' me' co' ls C hml hlk hret hh hl
  have hl : lv_has ls 12 [(0, .ref r), (1, .int (nI j)), (2, .int e), (3, .int (nI o)), (4, .int (nI z)), (5, .int a), (6, .int b), (7, .int c)] := hl
  obtain ⟨wn, hwn, ewn⟩ := hV.2.2.1 j (by omega)
  refine lv_iconst (v := nI 0) C.1 C.2.1 d_Md_taken_0 rfl ?_
  refine lv_istore (lv' := [(8, .int (nI 0)), (0, .ref r), (1, .int (nI j)), (2, .int e), (3, .int (nI o)), (4, .int (nI z)), (5, .int a), (6, .int b), (7, .int c)]) C.1 C.2.1 d_Md_taken_1 hl (by decide) rfl (fun ls hl => ?_)
  refine lv_iconst (v := nI 0) C.1 C.2.1 d_Md_taken_3 rfl ?_
  refine lv_istore (lv' := [(9, .int (nI 0)), (8, .int (nI 0)), (0, .ref r), (1, .int (nI j)), (2, .int e), (3, .int (nI o)), (4, .int (nI z)), (5, .int a), (6, .int b), (7, .int c)]) C.1 C.2.1 d_Md_taken_4 hl (by decide) rfl (fun ls hl => ?_)
  have K6 : ∀ (n_6 : Nat) (w : Nat) (s : Nat) (I6 : gm_I) (J6 : gm_J) (hw : w ≤ wn) (hs : tkN I J r j x o z a b c w = some s) (hE6 : eqS r I J I6 J6) (hm_6 : wn - w < n_6), ∀ (H : Heap) (locs : List Loc) (ls : Array Slot), gm_St D cs sh (gm_A sh) s'.heap sz I6 J6 H locs → lv_has ls 12 [(0, .ref r), (1, .int (nI j)), (2, .int e), (3, .int (nI o)), (4, .int (nI z)), (5, .int a), (6, .int b), (7, .int c), (8, .int (nI s)), (9, .int (nI w))] → W p' l e' { frames := 4, cells := 0, slots := 0, locals := 108 } s' m' ([.ref r, .int (nI j), .int e, .int (nI o), .int (nI z), .int a, .int b, .int c] : List Value).toArray be' me' co' H locs 0 0 (MQ be' (va_Qi (fun y u => y = nI ((tkN I J r j x o z a b c (nN (I (r + 2) j))).getD 0) ∧ eqS r I J u.1 u.2) (gm_B D cs sh sz) (gm_A sh)) ([.ref r, .int (nI j), .int e, .int (nI o), .int (nI z), .int a, .int b, .int c] : List Value).toArray s' 0 0 (gm_A sh)) (F0 m' 6 ls []) := by
    intro n_6
    induction n_6 with
    | zero => intro w s I6 J6 hw hs hE6 hm_6; exact absurd hm_6 (Nat.not_lt_zero _)
    | succ n_6 ih6 =>
      intro w s I6 J6 hw hs hE6 hm_6 H locs ls hh hl
      refine lv_iload C.1 C.2.1 d_Md_taken_6 (lv_at hl 9 rfl) ?_
      refine lv_aload_n C.1 C.2.1 d_Md_taken_8 rfl (lv_at hl 0 rfl) ?_
      refine gg_r C hh (Md_0 hM) rfl in_Md 2 (by decide) rfl tw_567 rfl d_Md_taken_9 ?_
      refine lv_iload_n C.1 C.2.1 d_Md_taken_12 rfl (lv_at hl 1 rfl) ?_
      refine ga_i C hh (Md_2 hM) (k := j) rfl (by first | omega | exact gm_dv (by omega)) (by omega) d_Md_taken_13 ?_
      refine gm_eqi (y := I (r + 2) j) (by exact hE6.1 _ _ (by omega)) ?_
      refine gm_eqi ewn ?_
      refine lv_icmp_ge (tgt := 129) C.1 C.2.1 d_Md_taken_14 (by decide) (fun c_1 => ?_) (fun c_1 => ?_)
      · -- 14 -> 129
        have c_1 := gm_get (by first | omega | exact gm_dv (by omega)) (by first | omega | exact gm_dv (by omega)) c_1
        have c_1' := Nat.not_lt.mpr c_1
        refine lv_iload C.1 C.2.1 d_Md_taken_129 (lv_at hl 8 rfl) ?_
        exact gr_i C hlk hret rfl hh (by refine ⟨?_, hE6⟩; rw [ewn, nN_nI (by omega), ← show w = wn by omega, hs]; rfl) d_Md_taken_131
      · -- 14 -> 17
        have c_1 := gm_gef (by first | omega | exact gm_dv (by omega)) (by first | omega | exact gm_dv (by omega)) c_1
        have c_1' := Nat.not_le.mpr c_1
        refine lv_iload_n C.1 C.2.1 d_Md_taken_17 rfl (lv_at hl 3 rfl) ?_
        refine lv_iload C.1 C.2.1 d_Md_taken_18 (lv_at hl 9 rfl) ?_
        refine lv_ishr C.1 C.2.1 d_Md_taken_20 ?_
        refine gm_eqi (gm_shr (by first | omega | exact gm_dv (by omega)) (by first | omega | exact gm_dv (by omega))) ?_
        refine lv_iconst (v := nI 1) C.1 C.2.1 d_Md_taken_21 rfl ?_
        refine lv_iand C.1 C.2.1 d_Md_taken_22 ?_
        refine gm_eqi (gm_and1 (by first | omega | exact gm_dv (by omega))) ?_
        refine lv_iconst (v := nI 1) C.1 C.2.1 d_Md_taken_23 rfl ?_
        refine lv_icmp_ne (tgt := 123) C.1 C.2.1 d_Md_taken_24 (by decide) (fun c_2 => ?_) (fun c_2 => ?_)
        · -- 24 -> 123
          have c_2 := gm_net (by first | omega | exact gm_dv (by omega)) (by first | omega | exact gm_dv (by omega)) c_2
          refine lv_iinc (v := nI (w + 1)) (lv' := [(9, .int (nI (w + 1))), (0, .ref r), (1, .int (nI j)), (2, .int e), (3, .int (nI o)), (4, .int (nI z)), (5, .int a), (6, .int b), (7, .int c), (8, .int (nI s))]) C.1 C.2.1 d_Md_taken_123 hl (k := 9) rfl (gm_inc w 1) (by decide) rfl (fun ls hl => ?_)
          refine lv_goto (tgt := 6) C.1 C.2.1 d_Md_taken_126 (by decide) ?_
          exact ih6 (w + 1) s I6 J6 (by omega) (by skip; refine tkN_on hs ?_; unfold tkW; first | (rw [if_neg (by omega)]; done) | (rw [if_pos (by omega), if_pos (by omega)]; done) | (rw [if_pos (by omega), if_neg (by omega), if_neg (by assumption), if_pos ⟨by assumption, by assumption⟩]; done) | (rw [if_pos (by omega), if_neg (by omega), if_neg (by assumption), if_neg (by rintro ⟨q1, q2⟩; first | contradiction | (rw [show bndW I J r j w x a b c = false by assumption] at q2; exact absurd q2 (by decide)))]; done)) (by exact hE6) (by omega) _ _ _ hh (lv_sub hl [1, 2, 3, 4, 5, 6, 7, 8, 9, 0] rfl)
        · -- 24 -> 27
          have c_2 := gm_nef (by first | omega | exact gm_dv (by omega)) (by first | omega | exact gm_dv (by omega)) c_2
          refine lv_iload C.1 C.2.1 d_Md_taken_27 (lv_at hl 4 rfl) ?_
          refine lv_iload C.1 C.2.1 d_Md_taken_29 (lv_at hl 9 rfl) ?_
          refine lv_ishr C.1 C.2.1 d_Md_taken_31 ?_
          refine gm_eqi (gm_shr (by first | omega | exact gm_dv (by omega)) (by first | omega | exact gm_dv (by omega))) ?_
          refine lv_iconst (v := nI 1) C.1 C.2.1 d_Md_taken_32 rfl ?_
          refine lv_iand C.1 C.2.1 d_Md_taken_33 ?_
          refine gm_eqi (gm_and1 (by first | omega | exact gm_dv (by omega))) ?_
          refine lv_iconst (v := nI 1) C.1 C.2.1 d_Md_taken_34 rfl ?_
          refine lv_icmp_ne (tgt := 42) C.1 C.2.1 d_Md_taken_35 (by decide) (fun c_3 => ?_) (fun c_3 => ?_)
          · -- 35 -> 42
            have c_3 := gm_net (by first | omega | exact gm_dv (by omega)) (by first | omega | exact gm_dv (by omega)) c_3
            refine lv_iconst (v := nI 0) C.1 C.2.1 d_Md_taken_42 rfl ?_
            refine lv_istore (lv' := [(10, .int (nI 0)), (0, .ref r), (1, .int (nI j)), (2, .int e), (3, .int (nI o)), (4, .int (nI z)), (5, .int a), (6, .int b), (7, .int c), (8, .int (nI s)), (9, .int (nI w))]) C.1 C.2.1 d_Md_taken_43 hl (by decide) rfl (fun ls hl => ?_)
            refine lv_aload_n C.1 C.2.1 d_Md_taken_45 rfl (lv_at hl 1 rfl) ?_
            refine lv_iload_n C.1 C.2.1 d_Md_taken_46 rfl (lv_at hl 2 rfl) ?_
            refine lv_iload C.1 C.2.1 d_Md_taken_47 (lv_at hl 10 rfl) ?_
            refine lv_iload_n C.1 C.2.1 d_Md_taken_49 rfl (lv_at hl 3 rfl) ?_
            obtain ⟨gg_4, hgg_4, egg_4⟩ := hV.2.2.2.1 j (by omega)
            obtain ⟨tt_5, htt_5, ett_5⟩ := hV.2.2.2.2.1 (3 * j + w) (by omega)
            refine gc_v hh (gc_runV (As := [.int (nI j), .int (nI w), .int e]) (rest := []) (n := 3) C hml hh (c_Md_space l D cs sh sz I6 J6 r hM (inv_eqS hE6 hV) j (by omega) w (by omega) gg_4 tt_5 hgg_4 htt_5 ((hE6.1 _ _ (by omega)).trans egg_4) ((hE6.1 _ _ (by omega)).trans ett_5) e (x) he) (tg_V tw_742 tw_744 tw_31 tw_64 tw_745) (by decide +kernel) ⟨rfl, rfl, by decide, by decide, Nat.zero_le _, Nat.zero_le _⟩ (Md_0 hM) rfl rfl hl.1 rfl (Nat.le_of_ble_eq_true rfl) d_Md_taken_50) (fun I_11 J_12 H locs hr_10 hh => ?_)
            obtain ⟨nn_6, enn_6⟩ : ∃ z : Nat, z = gg_4 + tt_5 + (x).toNat := ⟨_, rfl⟩
            have hnn_6 : nn_6 ≤ 8 := by have := Bool.toNat_le (x); omega
            rw [← enn_6] at hr_10
            obtain ⟨Is_7, eIs_7⟩ : ∃ z : gm_I, z = gm_up I6 r 15 (nI nn_6) := ⟨_, rfl⟩
            obtain ⟨Js_8, eJs_8⟩ : ∃ z : gm_J, z = spJ J6 r nn_6 (rowF I6 J6 r j w gg_4 tt_5) := ⟨_, rfl⟩
            rw [← eIs_7, ← eJs_8] at hr_10
            rw [(Prod.mk.inj hr_10).1, (Prod.mk.inj hr_10).2] at hh
            have hn_Is_7 : Is_7 r 15 = nI nn_6 := by rw [eIs_7]; exact gm_up_same _ _ _ _
            obtain ⟨b0_9, hb0_9⟩ := hE6.2.2
            have h1b0_9 : Is_7 r 20 = bI b0_9 := by rw [eIs_7, gm_up_ne _ _ (by omega)]; exact hb0_9
            have sc_Is_7 : ∀ z : Sc, eqS r I J (scI Is_7 r z) (scJ Js_8 r z) := fun z => by rw [eIs_7, eJs_8]; exact eqS_trans hE6 eqS_sc
            have sb_Is_7 : eqS r I J Is_7 Js_8 := by have := sc_Is_7 (b0_9, Js_8 r 21, Js_8 r 22, G3 Js_8 r, (Js_8 r 26, Js_8 r 27, Js_8 r 28)); rw [scJ_id] at this; unfold scI at this; rw [lsI_id h1b0_9] at this; exact this
            have rq_Is_7 : ∀ c, c < 4 → ∀ i, i < nn_6 → rwF Js_8 r c i = rF I J r j w c i := by rw [eJs_8]; exact rw_eq hE6 egg_4 ett_5 hgg_4 htt_5
            have nq_Is_7 : nn_6 = rN I r j w (x) := by rw [enn_6]; exact (rN_eq egg_4 ett_5 hgg_4 htt_5).symm
            have hh : gm_St D cs sh (gm_A sh) s'.heap sz (scI Is_7 r (b0_9, Js_8 r 21, Js_8 r 22, G3 Js_8 r, (Js_8 r 26, Js_8 r 27, Js_8 r 28))) (scJ Js_8 r (b0_9, Js_8 r 21, Js_8 r 22, G3 Js_8 r, (Js_8 r 26, Js_8 r 27, Js_8 r 28))) H locs := by rw [scJ_id]; unfold scI; rw [lsI_id h1b0_9]; exact hh
            refine lv_iload C.1 C.2.1 d_Md_taken_53 (lv_at hl 0 rfl) ?_
            refine lv_if_eq (tgt := 63) C.1 C.2.1 d_Md_taken_55 (by decide) (fun c_ => ?_) (fun c_ => absurd (by decide) c_)
            refine lv_aload_n C.1 C.2.1 d_Md_taken_63 rfl (lv_at hl 1 rfl) ?_
            refine lv_iload_n C.1 C.2.1 d_Md_taken_64 rfl (lv_at hl 2 rfl) ?_
            refine lv_iload C.1 C.2.1 d_Md_taken_65 (lv_at hl 10 rfl) ?_
            refine lv_iload C.1 C.2.1 d_Md_taken_67 (lv_at hl 6 rfl) ?_
            refine lv_iload C.1 C.2.1 d_Md_taken_69 (lv_at hl 7 rfl) ?_
            refine lv_iload C.1 C.2.1 d_Md_taken_71 (lv_at hl 8 rfl) ?_
            refine gc_i hh (gc_runV (As := [.int (nI j), .int (nI w), .int a, .int b, .int c]) (rest := []) (n := 5) C hml hh (c_Md_falls l D cs sh sz Is_7 Js_8 r hM (b0_9, Js_8 r 21, Js_8 r 22, G3 Js_8 r, (Js_8 r 26, Js_8 r 27, Js_8 r 28)) nn_6 hn_Is_7 hnn_6 j w (by omega) (by omega) a b c) (tg_V tw_799 tw_801 tw_43 tw_64 tw_802) (by decide +kernel) ⟨rfl, rfl, by decide, by decide, Nat.zero_le _, Nat.zero_le _⟩ (Md_0 hM) rfl rfl hl.1 rfl (Nat.le_of_ble_eq_true rfl) d_Md_taken_73) (fun r_13 I_14 J_15 H locs hr_13 hh => ?_)
            obtain ⟨hr_13, c_16, qhr_13⟩ := hr_13
            rw [(Prod.mk.inj qhr_13).1, (Prod.mk.inj qhr_13).2] at hh
            replace hr_13 : r_13 = howW I J r j w (x) a b c := by rw [hr_13]; unfold howW tmG; rw [← nq_Is_7, ← fallsV_congr rq_Is_7, chG_eqS sb_Is_7, chC_eqS sb_Is_7]
            refine lv_istore (lv' := [(11, .int r_13), (10, .int (nI 0)), (0, .ref r), (1, .int (nI j)), (2, .int e), (3, .int (nI o)), (4, .int (nI z)), (5, .int a), (6, .int b), (7, .int c), (8, .int (nI s)), (9, .int (nI w))]) C.1 C.2.1 d_Md_taken_76 hl (by decide) rfl (fun ls hl => ?_)
            refine lv_iload C.1 C.2.1 d_Md_taken_78 (lv_at hl 0 rfl) ?_
            refine lv_if_ne (tgt := 85) C.1 C.2.1 d_Md_taken_80 (by decide) (fun c_17 => ?_) (fun c_17 => ?_)
            · -- 80 -> 85
              skip
              refine lv_iload C.1 C.2.1 d_Md_taken_85 (lv_at hl 10 rfl) ?_
              refine lv_iload C.1 C.2.1 d_Md_taken_87 (lv_at hl 0 rfl) ?_
              refine lv_bipush (v := nI 6) C.1 C.2.1 d_Md_taken_89 rfl ?_
              refine lv_icmp_ne (tgt := 119) C.1 C.2.1 d_Md_taken_91 (by decide) (fun c_18 => ?_) (fun c_18 => ?_)
              · -- 91 -> 119
                skip
                refine lv_iconst (v := nI 0) C.1 C.2.1 d_Md_taken_119 rfl ?_
                refine lv_iadd C.1 C.2.1 d_Md_taken_120 ?_
                refine gm_eqi (nI_add _ _) ?_
                refine lv_istore (lv' := [(8, .int (nI (s + 0))), (11, .int r_13), (10, .int (nI 0)), (0, .ref r), (1, .int (nI j)), (2, .int e), (3, .int (nI o)), (4, .int (nI z)), (5, .int a), (6, .int b), (7, .int c), (9, .int (nI w))]) C.1 C.2.1 d_Md_taken_121 hl (by decide) rfl (fun ls hl => ?_)
                refine lv_iinc (v := nI (w + 1)) (lv' := [(9, .int (nI (w + 1))), (8, .int (nI (s + 0))), (11, .int r_13), (10, .int (nI 0)), (0, .ref r), (1, .int (nI j)), (2, .int e), (3, .int (nI o)), (4, .int (nI z)), (5, .int a), (6, .int b), (7, .int c)]) C.1 C.2.1 d_Md_taken_123 hl (k := 11) rfl (gm_inc w 1) (by decide) rfl (fun ls hl => ?_)
                refine lv_goto (tgt := 6) C.1 C.2.1 d_Md_taken_126 (by decide) ?_
                exact ih6 (w + 1) (s + 0) (scI Is_7 r c_16) (scJ Js_8 r c_16) (by omega) (by subst hr_13; refine tkN_on hs ?_; unfold tkW; first | (rw [if_neg (by omega)]; done) | (rw [if_pos (by omega), if_pos (by omega)]; done) | (rw [if_pos (by omega), if_neg (by omega), if_neg (by assumption), if_pos ⟨by assumption, by assumption⟩]; done) | (rw [if_pos (by omega), if_neg (by omega), if_neg (by assumption), if_neg (by rintro ⟨q1, q2⟩; first | contradiction | (rw [show bndW I J r j w x a b c = false by assumption] at q2; exact absurd q2 (by decide)))]; done)) (by exact sc_Is_7 _) (by omega) _ _ _ hh (lv_sub hl [4, 5, 6, 7, 8, 9, 10, 11, 1, 0] rfl)
              · -- 91 -> 94
                skip
                refine lv_iload C.1 C.2.1 d_Md_taken_94 (lv_at hl 1 rfl) ?_
                refine lv_if_ne (tgt := 112) C.1 C.2.1 d_Md_taken_96 (by decide) (fun c_ => absurd (by decide) c_) (fun c_ => ?_)
                refine lv_aload_n C.1 C.2.1 d_Md_taken_99 rfl (lv_at hl 2 rfl) ?_
                refine lv_iload C.1 C.2.1 d_Md_taken_100 (lv_at hl 7 rfl) ?_
                refine lv_iload C.1 C.2.1 d_Md_taken_102 (lv_at hl 8 rfl) ?_
                refine lv_iload C.1 C.2.1 d_Md_taken_104 (lv_at hl 9 rfl) ?_
                refine gc_i hh (gc_runV (As := [.int a, .int b, .int c]) (rest := [.int (nI s)]) (n := 3) C hml hh (c_Md_isBounded l D cs sh sz Is_7 Js_8 r hM c_16 nn_6 hn_Is_7 hnn_6 a b c) (tg_V tw_795 tw_797 tw_42 tw_64 tw_798) (by decide +kernel) ⟨rfl, rfl, by decide, by decide, Nat.zero_le _, Nat.zero_le _⟩ (Md_0 hM) rfl rfl hl.1 rfl (Nat.le_of_ble_eq_true rfl) d_Md_taken_106) (fun r_19 I_20 J_21 H locs hr_19 hh => ?_)
                obtain ⟨hr_19, c_22, qhr_19⟩ := hr_19
                rw [(Prod.mk.inj qhr_19).1, (Prod.mk.inj qhr_19).2] at hh
                replace hr_19 : r_19 = bI (bndW I J r j w (x) a b c) := by rw [hr_19]; unfold bndW; rw [← nq_Is_7, ← LQ_congr rq_Is_7]
                refine lv_if_eq (tgt := 119) C.1 C.2.1 d_Md_taken_109 (by decide) (fun c_23 => ?_) (fun c_23 => ?_)
                · -- 109 -> 119
                  have b_24 := bI_f hr_19 c_23
                  skip
                  refine lv_iconst (v := nI 0) C.1 C.2.1 d_Md_taken_119 rfl ?_
                  refine lv_iadd C.1 C.2.1 d_Md_taken_120 ?_
                  refine gm_eqi (nI_add _ _) ?_
                  refine lv_istore (lv' := [(8, .int (nI (s + 0))), (11, .int r_13), (10, .int (nI 0)), (0, .ref r), (1, .int (nI j)), (2, .int e), (3, .int (nI o)), (4, .int (nI z)), (5, .int a), (6, .int b), (7, .int c), (9, .int (nI w))]) C.1 C.2.1 d_Md_taken_121 hl (by decide) rfl (fun ls hl => ?_)
                  refine lv_iinc (v := nI (w + 1)) (lv' := [(9, .int (nI (w + 1))), (8, .int (nI (s + 0))), (11, .int r_13), (10, .int (nI 0)), (0, .ref r), (1, .int (nI j)), (2, .int e), (3, .int (nI o)), (4, .int (nI z)), (5, .int a), (6, .int b), (7, .int c)]) C.1 C.2.1 d_Md_taken_123 hl (k := 11) rfl (gm_inc w 1) (by decide) rfl (fun ls hl => ?_)
                  refine lv_goto (tgt := 6) C.1 C.2.1 d_Md_taken_126 (by decide) ?_
                  exact ih6 (w + 1) (s + 0) (scI Is_7 r c_22) (scJ Js_8 r c_22) (by omega) (by subst hr_13; refine tkN_on hs ?_; unfold tkW; first | (rw [if_neg (by omega)]; done) | (rw [if_pos (by omega), if_pos (by omega)]; done) | (rw [if_pos (by omega), if_neg (by omega), if_neg (by assumption), if_pos ⟨by assumption, by assumption⟩]; done) | (rw [if_pos (by omega), if_neg (by omega), if_neg (by assumption), if_neg (by rintro ⟨q1, q2⟩; first | contradiction | (rw [show bndW I J r j w x a b c = false by assumption] at q2; exact absurd q2 (by decide)))]; done)) (by exact sc_Is_7 _) (by omega) _ _ _ hh (lv_sub hl [4, 5, 6, 7, 8, 9, 10, 11, 1, 0] rfl)
                · -- 109 -> 112
                  have b_25 := bI_t hr_19 c_23
                  skip
                  refine lv_iconst (v := nI 1) C.1 C.2.1 d_Md_taken_112 rfl ?_
                  refine lv_iload C.1 C.2.1 d_Md_taken_113 (lv_at hl 11 rfl) ?_
                  refine lv_ishl C.1 C.2.1 d_Md_taken_115 ?_
                  refine gm_eqi (gm_shl (by first | omega | exact gm_dv (by omega)) (by first | omega | exact gm_dv (by omega))) ?_
                  refine lv_goto (tgt := 120) C.1 C.2.1 d_Md_taken_116 (by decide) ?_
                  refine lv_iadd C.1 C.2.1 d_Md_taken_120 ?_
                  refine gm_eqi (nI_add _ _) ?_
                  refine lv_istore (lv' := [(8, .int (nI (s + (1 * 2 ^ w)))), (11, .int r_13), (10, .int (nI 0)), (0, .ref r), (1, .int (nI j)), (2, .int e), (3, .int (nI o)), (4, .int (nI z)), (5, .int a), (6, .int b), (7, .int c), (9, .int (nI w))]) C.1 C.2.1 d_Md_taken_121 hl (by decide) rfl (fun ls hl => ?_)
                  refine lv_iinc (v := nI (w + 1)) (lv' := [(9, .int (nI (w + 1))), (8, .int (nI (s + (1 * 2 ^ w)))), (11, .int r_13), (10, .int (nI 0)), (0, .ref r), (1, .int (nI j)), (2, .int e), (3, .int (nI o)), (4, .int (nI z)), (5, .int a), (6, .int b), (7, .int c)]) C.1 C.2.1 d_Md_taken_123 hl (k := 11) rfl (gm_inc w 1) (by decide) rfl (fun ls hl => ?_)
                  refine lv_goto (tgt := 6) C.1 C.2.1 d_Md_taken_126 (by decide) ?_
                  exact ih6 (w + 1) (s + (1 * 2 ^ w)) (scI Is_7 r c_22) (scJ Js_8 r c_22) (by omega) (by subst hr_13; refine tkN_on hs ?_; unfold tkW; first | (rw [if_neg (by omega)]; done) | (rw [if_pos (by omega), if_pos (by omega)]; done) | (rw [if_pos (by omega), if_neg (by omega), if_neg (by assumption), if_pos ⟨by assumption, by assumption⟩]; done) | (rw [if_pos (by omega), if_neg (by omega), if_neg (by assumption), if_neg (by rintro ⟨q1, q2⟩; first | contradiction | (rw [show bndW I J r j w x a b c = false by assumption] at q2; exact absurd q2 (by decide)))]; done)) (by exact sc_Is_7 _) (by omega) _ _ _ hh (lv_sub hl [4, 5, 6, 7, 8, 9, 10, 11, 1, 0] rfl)
            · -- 80 -> 83
              skip
              refine lv_iconst (v := nI 0) C.1 C.2.1 d_Md_taken_83 rfl ?_
              exact gr_i C hlk hret rfl hh (by subst hr_13; refine ⟨?_, sc_Is_7 _⟩; rw [ewn, nN_nI (by omega), tkN_none hs (by unfold tkW; rw [if_pos (by omega), if_neg (by omega), if_pos (by assumption)]) (by omega)]; rfl) d_Md_taken_84
          · -- 35 -> 38
            have c_3 := gm_nef (by first | omega | exact gm_dv (by omega)) (by first | omega | exact gm_dv (by omega)) c_3
            refine lv_iconst (v := nI 1) C.1 C.2.1 d_Md_taken_38 rfl ?_
            refine lv_goto (tgt := 43) C.1 C.2.1 d_Md_taken_39 (by decide) ?_
            refine lv_istore (lv' := [(10, .int (nI 1)), (0, .ref r), (1, .int (nI j)), (2, .int e), (3, .int (nI o)), (4, .int (nI z)), (5, .int a), (6, .int b), (7, .int c), (8, .int (nI s)), (9, .int (nI w))]) C.1 C.2.1 d_Md_taken_43 hl (by decide) rfl (fun ls hl => ?_)
            refine lv_aload_n C.1 C.2.1 d_Md_taken_45 rfl (lv_at hl 1 rfl) ?_
            refine lv_iload_n C.1 C.2.1 d_Md_taken_46 rfl (lv_at hl 2 rfl) ?_
            refine lv_iload C.1 C.2.1 d_Md_taken_47 (lv_at hl 10 rfl) ?_
            refine lv_iload_n C.1 C.2.1 d_Md_taken_49 rfl (lv_at hl 3 rfl) ?_
            obtain ⟨gg_26, hgg_26, egg_26⟩ := hV.2.2.2.1 j (by omega)
            obtain ⟨tt_27, htt_27, ett_27⟩ := hV.2.2.2.2.1 (3 * j + w) (by omega)
            refine gc_v hh (gc_runV (As := [.int (nI j), .int (nI w), .int e]) (rest := []) (n := 3) C hml hh (c_Md_space l D cs sh sz I6 J6 r hM (inv_eqS hE6 hV) j (by omega) w (by omega) gg_26 tt_27 hgg_26 htt_27 ((hE6.1 _ _ (by omega)).trans egg_26) ((hE6.1 _ _ (by omega)).trans ett_27) e (x) he) (tg_V tw_742 tw_744 tw_31 tw_64 tw_745) (by decide +kernel) ⟨rfl, rfl, by decide, by decide, Nat.zero_le _, Nat.zero_le _⟩ (Md_0 hM) rfl rfl hl.1 rfl (Nat.le_of_ble_eq_true rfl) d_Md_taken_50) (fun I_33 J_34 H locs hr_32 hh => ?_)
            obtain ⟨nn_28, enn_28⟩ : ∃ z : Nat, z = gg_26 + tt_27 + (x).toNat := ⟨_, rfl⟩
            have hnn_28 : nn_28 ≤ 8 := by have := Bool.toNat_le (x); omega
            rw [← enn_28] at hr_32
            obtain ⟨Is_29, eIs_29⟩ : ∃ z : gm_I, z = gm_up I6 r 15 (nI nn_28) := ⟨_, rfl⟩
            obtain ⟨Js_30, eJs_30⟩ : ∃ z : gm_J, z = spJ J6 r nn_28 (rowF I6 J6 r j w gg_26 tt_27) := ⟨_, rfl⟩
            rw [← eIs_29, ← eJs_30] at hr_32
            rw [(Prod.mk.inj hr_32).1, (Prod.mk.inj hr_32).2] at hh
            have hn_Is_29 : Is_29 r 15 = nI nn_28 := by rw [eIs_29]; exact gm_up_same _ _ _ _
            obtain ⟨b0_31, hb0_31⟩ := hE6.2.2
            have h1b0_31 : Is_29 r 20 = bI b0_31 := by rw [eIs_29, gm_up_ne _ _ (by omega)]; exact hb0_31
            have sc_Is_29 : ∀ z : Sc, eqS r I J (scI Is_29 r z) (scJ Js_30 r z) := fun z => by rw [eIs_29, eJs_30]; exact eqS_trans hE6 eqS_sc
            have sb_Is_29 : eqS r I J Is_29 Js_30 := by have := sc_Is_29 (b0_31, Js_30 r 21, Js_30 r 22, G3 Js_30 r, (Js_30 r 26, Js_30 r 27, Js_30 r 28)); rw [scJ_id] at this; unfold scI at this; rw [lsI_id h1b0_31] at this; exact this
            have rq_Is_29 : ∀ c, c < 4 → ∀ i, i < nn_28 → rwF Js_30 r c i = rF I J r j w c i := by rw [eJs_30]; exact rw_eq hE6 egg_26 ett_27 hgg_26 htt_27
            have nq_Is_29 : nn_28 = rN I r j w (x) := by rw [enn_28]; exact (rN_eq egg_26 ett_27 hgg_26 htt_27).symm
            have hh : gm_St D cs sh (gm_A sh) s'.heap sz (scI Is_29 r (b0_31, Js_30 r 21, Js_30 r 22, G3 Js_30 r, (Js_30 r 26, Js_30 r 27, Js_30 r 28))) (scJ Js_30 r (b0_31, Js_30 r 21, Js_30 r 22, G3 Js_30 r, (Js_30 r 26, Js_30 r 27, Js_30 r 28))) H locs := by rw [scJ_id]; unfold scI; rw [lsI_id h1b0_31]; exact hh
            refine lv_iload C.1 C.2.1 d_Md_taken_53 (lv_at hl 0 rfl) ?_
            refine lv_if_eq (tgt := 63) C.1 C.2.1 d_Md_taken_55 (by decide) (fun c_ => absurd c_ (by decide)) (fun c_ => ?_)
            refine lv_bipush (v := nI 6) C.1 C.2.1 d_Md_taken_58 rfl ?_
            refine lv_goto (tgt := 76) C.1 C.2.1 d_Md_taken_60 (by decide) ?_
            refine lv_istore (lv' := [(11, .int (nI 6)), (10, .int (nI 1)), (0, .ref r), (1, .int (nI j)), (2, .int e), (3, .int (nI o)), (4, .int (nI z)), (5, .int a), (6, .int b), (7, .int c), (8, .int (nI s)), (9, .int (nI w))]) C.1 C.2.1 d_Md_taken_76 hl (by decide) rfl (fun ls hl => ?_)
            refine lv_iload C.1 C.2.1 d_Md_taken_78 (lv_at hl 0 rfl) ?_
            refine lv_if_ne (tgt := 85) C.1 C.2.1 d_Md_taken_80 (by decide) (fun c_ => ?_) (fun c_ => absurd c_ (by decide))
            refine lv_iload C.1 C.2.1 d_Md_taken_85 (lv_at hl 10 rfl) ?_
            refine lv_iload C.1 C.2.1 d_Md_taken_87 (lv_at hl 0 rfl) ?_
            refine lv_bipush (v := nI 6) C.1 C.2.1 d_Md_taken_89 rfl ?_
            refine lv_icmp_ne (tgt := 119) C.1 C.2.1 d_Md_taken_91 (by decide) (fun c_ => absurd (by decide) c_) (fun c_ => ?_)
            refine lv_iload C.1 C.2.1 d_Md_taken_94 (lv_at hl 1 rfl) ?_
            refine lv_if_ne (tgt := 112) C.1 C.2.1 d_Md_taken_96 (by decide) (fun c_ => ?_) (fun c_ => absurd c_ (by decide))
            refine lv_iconst (v := nI 1) C.1 C.2.1 d_Md_taken_112 rfl ?_
            refine lv_iload C.1 C.2.1 d_Md_taken_113 (lv_at hl 11 rfl) ?_
            refine lv_ishl C.1 C.2.1 d_Md_taken_115 ?_
            refine gm_eqi (gm_shl (by first | omega | exact gm_dv (by omega)) (by first | omega | exact gm_dv (by omega))) ?_
            refine lv_goto (tgt := 120) C.1 C.2.1 d_Md_taken_116 (by decide) ?_
            refine lv_iadd C.1 C.2.1 d_Md_taken_120 ?_
            refine gm_eqi (nI_add _ _) ?_
            refine lv_istore (lv' := [(8, .int (nI (s + (1 * 2 ^ w)))), (11, .int (nI 6)), (10, .int (nI 1)), (0, .ref r), (1, .int (nI j)), (2, .int e), (3, .int (nI o)), (4, .int (nI z)), (5, .int a), (6, .int b), (7, .int c), (9, .int (nI w))]) C.1 C.2.1 d_Md_taken_121 hl (by decide) rfl (fun ls hl => ?_)
            refine lv_iinc (v := nI (w + 1)) (lv' := [(9, .int (nI (w + 1))), (8, .int (nI (s + (1 * 2 ^ w)))), (11, .int (nI 6)), (10, .int (nI 1)), (0, .ref r), (1, .int (nI j)), (2, .int e), (3, .int (nI o)), (4, .int (nI z)), (5, .int a), (6, .int b), (7, .int c)]) C.1 C.2.1 d_Md_taken_123 hl (k := 11) rfl (gm_inc w 1) (by decide) rfl (fun ls hl => ?_)
            refine lv_goto (tgt := 6) C.1 C.2.1 d_Md_taken_126 (by decide) ?_
            exact ih6 (w + 1) (s + (1 * 2 ^ w)) (scI Is_29 r (b0_31, Js_30 r 21, Js_30 r 22, G3 Js_30 r, (Js_30 r 26, Js_30 r 27, Js_30 r 28))) (scJ Js_30 r (b0_31, Js_30 r 21, Js_30 r 22, G3 Js_30 r, (Js_30 r 26, Js_30 r 27, Js_30 r 28))) (by omega) (by skip; refine tkN_on hs ?_; unfold tkW; first | (rw [if_neg (by omega)]; done) | (rw [if_pos (by omega), if_pos (by omega)]; done) | (rw [if_pos (by omega), if_neg (by omega), if_neg (by assumption), if_pos ⟨by assumption, by assumption⟩]; done) | (rw [if_pos (by omega), if_neg (by omega), if_neg (by assumption), if_neg (by rintro ⟨q1, q2⟩; first | contradiction | (rw [show bndW I J r j w x a b c = false by assumption] at q2; exact absurd q2 (by decide)))]; done)) (by exact sc_Is_29 _) (by omega) _ _ _ hh (lv_sub hl [4, 5, 6, 7, 8, 9, 10, 11, 1, 0] rfl)
  exact K6 _ 0 0 I J (by omega) (by rfl) (by exact eqS_rf hb) (Nat.lt_succ_self _) _ _ _ hh (lv_sub hl [2, 3, 4, 5, 6, 7, 8, 9, 1, 0] rfl)
