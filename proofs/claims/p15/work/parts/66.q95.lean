set_option maxHeartbeats 4000000 in
set_option maxRecDepth 100000 in
theorem c_Pf_takenByQ (l : Launch) (D : va_G) (cs : Nat → ClassId) (sh : gm_H) (sz : Nat) (I : gm_I) (J : gm_J) (f : Nat) (hf : is_Pf sh f) (o : Nat) (ho : is_Lp cs sh o) (g h : Nat) (hg : is_Sa cs sh g h) (m op : Nat) (em : I o 3 = nI m) (hm : m ≤ 3) (eop : I f 2 = nI op) (hop : op < 8) (a b c : Int32) (Z : Nat → zT) (hZ : ∀ w, w < m → zok I J (o + 6 + 5 * w) (h + 12 * w) a b c (Z w)) : CI l y_Pf_takenBy w_Pf_takenBy { frames := 3, cells := 0, slots := 0, locals := 73 } D cs sh sz I J [.ref f, .ref o, .ref g, .int a, .int b, .int c] (fun x u => u = (I, J) ∧ x = nI ((ckN Z op m).getD 0)) := by
  refine gm_start (by decide) (Nat.le_of_ble_eq_true rfl) ?_
  intro p' e' s' m' be' me' co' ls C hml hlk hret hh hl
  have hl : lv_has ls 8 [(0, .ref f), (1, .ref o), (2, .ref g), (3, .int a), (4, .int b), (5, .int c)] := hl
  refine lv_iconst (v := nI 0) C.1 C.2.1 d_Pf_takenBy_0 rfl ?_
  refine lv_istore (lv' := [(6, .int (nI 0)), (0, .ref f), (1, .ref o), (2, .ref g), (3, .int a), (4, .int b), (5, .int c)]) C.1 C.2.1 d_Pf_takenBy_1 hl (by decide) rfl (fun ls hl => ?_)
  refine lv_iconst (v := nI 0) C.1 C.2.1 d_Pf_takenBy_3 rfl ?_
  refine lv_istore (lv' := [(7, .int (nI 0)), (6, .int (nI 0)), (0, .ref f), (1, .ref o), (2, .ref g), (3, .int a), (4, .int b), (5, .int c)]) C.1 C.2.1 d_Pf_takenBy_4 hl (by decide) rfl (fun ls hl => ?_)
  have K6 : ∀ (n_6 : Nat) (k : Nat) (s_ : Nat) (hk : k ≤ m) (hs : ckN Z op k = some s_) (hl2 : s_ < 2 ^ k) (hm_6 : m - k < n_6), ∀ (H : Heap) (locs : List Loc) (ls : Array Slot), gm_St D cs sh (gm_A sh) s'.heap sz I J H locs → lv_has ls 8 [(0, .ref f), (1, .ref o), (2, .ref g), (3, .int a), (4, .int b), (5, .int c), (6, .int (nI s_)), (7, .int (nI k))] → W p' l e' { frames := 3, cells := 0, slots := 0, locals := 73 } s' m' ([.ref f, .ref o, .ref g, .int a, .int b, .int c] : List Value).toArray be' me' co' H locs 0 0 (MQ be' (va_Qi (fun x u => u = (I, J) ∧ x = nI ((ckN Z op m).getD 0)) (gm_B D cs sh sz) (gm_A sh)) ([.ref f, .ref o, .ref g, .int a, .int b, .int c] : List Value).toArray s' 0 0 (gm_A sh)) (F0 m' 6 ls []) := by
    intro n_6
    induction n_6 with
    | zero => intro k s_ hk hs hl2 hm_6; exact absurd hm_6 (Nat.not_lt_zero _)
    | succ n_6 ih6 =>
      intro k s_ hk hs hl2 hm_6 H locs ls hh hl
      refine lv_iload C.1 C.2.1 d_Pf_takenBy_6 (lv_at hl 7 rfl) ?_
      refine lv_aload_n C.1 C.2.1 d_Pf_takenBy_8 rfl (lv_at hl 1 rfl) ?_
      refine gn_i C hh ho.1 rfl in_Lp 3 (by decide) rfl tw_162 rfl d_Pf_takenBy_9 ?_
      refine gm_eqi em ?_
      refine lv_icmp_ge (tgt := 108) C.1 C.2.1 d_Pf_takenBy_12 (by decide) (fun c_1 => ?_) (fun c_1 => ?_)
      · -- 12 -> 108
        have c_1 := gm_get (by first | omega | exact gm_dv (by omega)) (by first | omega | exact gm_dv (by omega)) c_1
        have c_1' := Nat.not_lt.mpr c_1
        refine lv_iload C.1 C.2.1 d_Pf_takenBy_108 (lv_at hl 6 rfl) ?_
        exact gr_i C hlk hret rfl hh (by first | (refine ⟨rfl, ?_⟩; rw [ckN_none hs (by unfold ckW; rw [if_pos (by omega), if_neg (by rw [show (Z k).2.1 = false by assumption]; decide)]) (by omega)]; rfl) | (refine ⟨rfl, ?_⟩; rw [← show k = m by omega, hs]; rfl)) d_Pf_takenBy_110
      · -- 12 -> 15
        have c_1 := gm_gef (by first | omega | exact gm_dv (by omega)) (by first | omega | exact gm_dv (by omega)) c_1
        have c_1' := Nat.not_le.mpr c_1
        refine lv_aload_n C.1 C.2.1 d_Pf_takenBy_15 rfl (lv_at hl 0 rfl) ?_
        refine gg_i C hh hf.1 rfl in_Pf 2 (by decide) rfl tw_87 rfl d_Pf_takenBy_16 ?_
        refine gm_eqi eop ?_
        refine lv_iload C.1 C.2.1 d_Pf_takenBy_19 (lv_at hl 7 rfl) ?_
        refine lv_ishr C.1 C.2.1 d_Pf_takenBy_21 ?_
        refine gm_eqi (gm_shr (by first | omega | exact gm_dv (by omega)) (by first | omega | exact gm_dv (by omega))) ?_
        refine lv_iconst (v := nI 1) C.1 C.2.1 d_Pf_takenBy_22 rfl ?_
        refine lv_iand C.1 C.2.1 d_Pf_takenBy_23 ?_
        refine gm_eqi (gm_and1 (by first | omega | exact gm_dv (by omega))) ?_
        refine lv_if_ne (tgt := 30) C.1 C.2.1 d_Pf_takenBy_24 (by decide) (fun c_2 => ?_) (fun c_2 => ?_)
        · -- 24 -> 30
          have c_2 := gm_net (b := 0) (by first | omega | exact gm_dv (by omega)) (by omega) c_2
          refine lv_aload_n C.1 C.2.1 d_Pf_takenBy_30 rfl (lv_at hl 1 rfl) ?_
          refine gn_r C hh ho.1 rfl in_Lp 2 (by decide) rfl tw_159 rfl d_Pf_takenBy_31 ?_
          refine lv_iload C.1 C.2.1 d_Pf_takenBy_34 (lv_at hl 7 rfl) ?_
          refine ga_q C hh 4 ho.2.2.1 (Cn := "FallingTerms$Way") rfl (k := k) (v := o + 6 + 5 * k) rfl (by first | omega | exact gm_dv (by omega)) (by omega) (if_pos (by omega)) d_Pf_takenBy_36 ?_
          obtain ⟨p_3, ep_3⟩ : ∃ z : Nat, z = o + 6 + 5 * k := ⟨_, rfl⟩
          have hp_3 : is_Wy sh p_3 := by rw [ep_3]; exact ho.2.2.2.2.2 k (by omega)
          refine gm_eqr ep_3.symm ?_
          refine lv_aload_n C.1 C.2.1 d_Pf_takenBy_37 rfl (lv_at hl 2 rfl) ?_
          refine lv_iload C.1 C.2.1 d_Pf_takenBy_38 (lv_at hl 7 rfl) ?_
          refine ga_q C hh 3 hg.1 (Cn := "FallingTerms$Space") rfl (k := k) (v := h + 12 * k) rfl (by first | omega | exact gm_dv (by omega)) (by omega) (if_pos (by omega)) d_Pf_takenBy_40 ?_
          obtain ⟨p_4, ep_4⟩ : ∃ z : Nat, z = h + 12 * k := ⟨_, rfl⟩
          have hp_4 : is_Sp sh p_4 := by rw [ep_4]; exact hg.2 k (by omega)
          refine gm_eqr ep_4.symm ?_
          refine lv_iload_n C.1 C.2.1 d_Pf_takenBy_41 rfl (lv_at hl 3 rfl) ?_
          refine lv_iload C.1 C.2.1 d_Pf_takenBy_42 (lv_at hl 4 rfl) ?_
          refine lv_iload C.1 C.2.1 d_Pf_takenBy_44 (lv_at hl 5 rfl) ?_
          refine lv_iconst (v := nI 0) C.1 C.2.1 d_Pf_takenBy_46 rfl ?_
          have hzk_ := hZ k (by omega)
          rw [← ep_3, ← ep_4] at hzk_
          obtain ⟨ln_, n_, e1_, l1_, e2_, l2_, z1_, z2_, z3_⟩ := hzk_
          refine gc_i hh (gc_runV (As := [.ref p_4, .int a, .int b, .int c, .int (nI 0)]) (rest := []) (n := 5) C hml hh (c_Wy_lessens l D cs sh sz I J p_3 hp_3 p_4 hp_4 ln_ e1_ l1_ n_ e2_ l2_ a b c (nI 0)) (tg_V tw_443 tw_407 tw_408 tw_62 tw_409) (by decide +kernel) ⟨rfl, rfl, by decide, by decide, Nat.zero_le _, Nat.zero_le _⟩ hp_3.1 rfl rfl hl.1 rfl (Nat.le_of_ble_eq_true rfl) d_Pf_takenBy_47) (fun r_5 I_6 J_7 H locs hr_5 hh => ?_)
          obtain ⟨e_r_5, hr_5⟩ := hr_5
          rw [(Prod.mk.inj e_r_5).1, (Prod.mk.inj e_r_5).2] at hh
          obtain ⟨br_5, hr_5, ihr_5⟩ := hr_5
          rw [show br_5 = (Z k).2.1 from Bool.eq_iff_iff.mpr (ihr_5.trans z2_.symm)] at hr_5
          refine lv_if_ne (tgt := 55) C.1 C.2.1 d_Pf_takenBy_50 (by decide) (fun c_8 => ?_) (fun c_8 => ?_)
          · -- 50 -> 55
            have b_9 := bI_t hr_5 c_8
            skip
            refine lv_aload_n C.1 C.2.1 d_Pf_takenBy_55 rfl (lv_at hl 2 rfl) ?_
            refine lv_iload C.1 C.2.1 d_Pf_takenBy_56 (lv_at hl 7 rfl) ?_
            refine ga_q C hh 3 hg.1 (Cn := "FallingTerms$Space") rfl (k := k) (v := h + 12 * k) rfl (by first | omega | exact gm_dv (by omega)) (by omega) (if_pos (by omega)) d_Pf_takenBy_58 ?_
            refine gm_eqr ep_4.symm ?_
            refine lv_iload_n C.1 C.2.1 d_Pf_takenBy_59 rfl (lv_at hl 3 rfl) ?_
            refine lv_iload C.1 C.2.1 d_Pf_takenBy_60 (lv_at hl 4 rfl) ?_
            refine lv_iload C.1 C.2.1 d_Pf_takenBy_62 (lv_at hl 5 rfl) ?_
            refine gc_i hh (gc_runV (As := [.int a, .int b, .int c]) (rest := []) (n := 3) C hml hh (c_Sp_bounds l D cs sh sz I J p_4 hp_4 ln_ e1_ l1_ n_ e2_ l2_ a b c) (tg_V tw_444 tw_403 tw_404 tw_63 tw_405) (by decide +kernel) ⟨rfl, rfl, by decide, by decide, Nat.zero_le _, Nat.zero_le _⟩ hp_4.1 rfl rfl hl.1 rfl (Nat.le_of_ble_eq_true rfl) d_Pf_takenBy_64) (fun r_10 I_11 J_12 H locs hr_10 hh => ?_)
            obtain ⟨e_r_10, hr_10⟩ := hr_10
            rw [(Prod.mk.inj e_r_10).1, (Prod.mk.inj e_r_10).2] at hh
            obtain ⟨br_10, hr_10, ihr_10⟩ := hr_10
            rw [show br_10 = (Z k).1 from Bool.eq_iff_iff.mpr (ihr_10.trans z1_.symm)] at hr_10
            refine lv_if_eq (tgt := 102) C.1 C.2.1 d_Pf_takenBy_67 (by decide) (fun c_13 => ?_) (fun c_13 => ?_)
            · -- 67 -> 102
              have b_14 := bI_f hr_10 c_13
              skip
              refine lv_iinc (v := nI (k + 1)) (lv' := [(7, .int (nI (k + 1))), (0, .ref f), (1, .ref o), (2, .ref g), (3, .int a), (4, .int b), (5, .int c), (6, .int (nI s_))]) C.1 C.2.1 d_Pf_takenBy_102 hl (k := 7) rfl (gm_inc k 1) (by decide) rfl (fun ls hl => ?_)
              refine lv_goto (tgt := 6) C.1 C.2.1 d_Pf_takenBy_105 (by decide) ?_
              exact ih6 (k + 1) s_ (by omega) (by skip; refine ckN_on hs ?_; unfold ckW; first | (rw [if_neg (by omega)]; done) | (rw [if_pos (by omega), if_pos (by assumption), if_pos ⟨by assumption, by assumption⟩]; done) | (rw [if_pos (by omega), if_pos (by assumption), if_neg (by rintro ⟨q1, q2⟩; first | (rw [show (Z k).1 = false by assumption] at q1; cases q1) | (rw [show (Z k).2.2 = false by assumption] at q2; cases q2))]; done)) (by exact (ckN_key (n := k + 1) (Z := Z) (o := op) (by omega) (by skip; refine ckN_on hs ?_; unfold ckW; first | (rw [if_neg (by omega)]; done) | (rw [if_pos (by omega), if_pos (by assumption), if_pos ⟨by assumption, by assumption⟩]; done) | (rw [if_pos (by omega), if_pos (by assumption), if_neg (by rintro ⟨q1, q2⟩; first | (rw [show (Z k).1 = false by assumption] at q1; cases q1) | (rw [show (Z k).2.2 = false by assumption] at q2; cases q2))]; done))).1) (by omega) _ _ _ hh (lv_sub hl [1, 2, 3, 4, 5, 6, 7, 0] rfl)
            · -- 67 -> 70
              have b_15 := bI_t hr_10 c_13
              skip
              refine lv_aload_n C.1 C.2.1 d_Pf_takenBy_70 rfl (lv_at hl 1 rfl) ?_
              refine gn_r C hh ho.1 rfl in_Lp 2 (by decide) rfl tw_159 rfl d_Pf_takenBy_71 ?_
              refine lv_iload C.1 C.2.1 d_Pf_takenBy_74 (lv_at hl 7 rfl) ?_
              refine ga_q C hh 4 ho.2.2.1 (Cn := "FallingTerms$Way") rfl (k := k) (v := o + 6 + 5 * k) rfl (by first | omega | exact gm_dv (by omega)) (by omega) (if_pos (by omega)) d_Pf_takenBy_76 ?_
              refine gm_eqr ep_3.symm ?_
              refine lv_aload_n C.1 C.2.1 d_Pf_takenBy_77 rfl (lv_at hl 2 rfl) ?_
              refine lv_iload C.1 C.2.1 d_Pf_takenBy_78 (lv_at hl 7 rfl) ?_
              refine ga_q C hh 3 hg.1 (Cn := "FallingTerms$Space") rfl (k := k) (v := h + 12 * k) rfl (by first | omega | exact gm_dv (by omega)) (by omega) (if_pos (by omega)) d_Pf_takenBy_80 ?_
              refine gm_eqr ep_4.symm ?_
              refine lv_iload_n C.1 C.2.1 d_Pf_takenBy_81 rfl (lv_at hl 3 rfl) ?_
              refine lv_iload C.1 C.2.1 d_Pf_takenBy_82 (lv_at hl 4 rfl) ?_
              refine lv_iload C.1 C.2.1 d_Pf_takenBy_84 (lv_at hl 5 rfl) ?_
              refine lv_iconst (v := nI 1) C.1 C.2.1 d_Pf_takenBy_86 rfl ?_
              refine gc_i hh (gc_runV (As := [.ref p_4, .int a, .int b, .int c, .int (nI 1)]) (rest := []) (n := 5) C hml hh (c_Wy_lessens l D cs sh sz I J p_3 hp_3 p_4 hp_4 ln_ e1_ l1_ n_ e2_ l2_ a b c (nI 1)) (tg_V tw_443 tw_407 tw_408 tw_62 tw_409) (by decide +kernel) ⟨rfl, rfl, by decide, by decide, Nat.zero_le _, Nat.zero_le _⟩ hp_3.1 rfl rfl hl.1 rfl (Nat.le_of_ble_eq_true rfl) d_Pf_takenBy_87) (fun r_16 I_17 J_18 H locs hr_16 hh => ?_)
              obtain ⟨e_r_16, hr_16⟩ := hr_16
              rw [(Prod.mk.inj e_r_16).1, (Prod.mk.inj e_r_16).2] at hh
              obtain ⟨br_16, hr_16, ihr_16⟩ := hr_16
              rw [show br_16 = (Z k).2.2 from Bool.eq_iff_iff.mpr (ihr_16.trans z3_.symm)] at hr_16
              refine lv_if_eq (tgt := 102) C.1 C.2.1 d_Pf_takenBy_90 (by decide) (fun c_19 => ?_) (fun c_19 => ?_)
              · -- 90 -> 102
                have b_20 := bI_f hr_16 c_19
                skip
                refine lv_iinc (v := nI (k + 1)) (lv' := [(7, .int (nI (k + 1))), (0, .ref f), (1, .ref o), (2, .ref g), (3, .int a), (4, .int b), (5, .int c), (6, .int (nI s_))]) C.1 C.2.1 d_Pf_takenBy_102 hl (k := 7) rfl (gm_inc k 1) (by decide) rfl (fun ls hl => ?_)
                refine lv_goto (tgt := 6) C.1 C.2.1 d_Pf_takenBy_105 (by decide) ?_
                exact ih6 (k + 1) s_ (by omega) (by skip; refine ckN_on hs ?_; unfold ckW; first | (rw [if_neg (by omega)]; done) | (rw [if_pos (by omega), if_pos (by assumption), if_pos ⟨by assumption, by assumption⟩]; done) | (rw [if_pos (by omega), if_pos (by assumption), if_neg (by rintro ⟨q1, q2⟩; first | (rw [show (Z k).1 = false by assumption] at q1; cases q1) | (rw [show (Z k).2.2 = false by assumption] at q2; cases q2))]; done)) (by exact (ckN_key (n := k + 1) (Z := Z) (o := op) (by omega) (by skip; refine ckN_on hs ?_; unfold ckW; first | (rw [if_neg (by omega)]; done) | (rw [if_pos (by omega), if_pos (by assumption), if_pos ⟨by assumption, by assumption⟩]; done) | (rw [if_pos (by omega), if_pos (by assumption), if_neg (by rintro ⟨q1, q2⟩; first | (rw [show (Z k).1 = false by assumption] at q1; cases q1) | (rw [show (Z k).2.2 = false by assumption] at q2; cases q2))]; done))).1) (by omega) _ _ _ hh (lv_sub hl [1, 2, 3, 4, 5, 6, 7, 0] rfl)
              · -- 90 -> 93
                have b_21 := bI_t hr_16 c_19
                skip
                refine lv_iload C.1 C.2.1 d_Pf_takenBy_93 (lv_at hl 6 rfl) ?_
                refine lv_iconst (v := nI 1) C.1 C.2.1 d_Pf_takenBy_95 rfl ?_
                refine lv_iload C.1 C.2.1 d_Pf_takenBy_96 (lv_at hl 7 rfl) ?_
                refine lv_ishl C.1 C.2.1 d_Pf_takenBy_98 ?_
                refine gm_eqi (gm_shl (by first | omega | exact gm_dv (by omega)) (by first | omega | exact gm_dv (by omega))) ?_
                refine lv_ior C.1 C.2.1 d_Pf_takenBy_99 ?_
                refine gm_eqi (nI_or (by omega) (by assumption)) ?_
                refine lv_istore (lv' := [(6, .int (nI (s_ + 1 * 2 ^ k))), (0, .ref f), (1, .ref o), (2, .ref g), (3, .int a), (4, .int b), (5, .int c), (7, .int (nI k))]) C.1 C.2.1 d_Pf_takenBy_100 hl (by decide) rfl (fun ls hl => ?_)
                refine lv_iinc (v := nI (k + 1)) (lv' := [(7, .int (nI (k + 1))), (6, .int (nI (s_ + 1 * 2 ^ k))), (0, .ref f), (1, .ref o), (2, .ref g), (3, .int a), (4, .int b), (5, .int c)]) C.1 C.2.1 d_Pf_takenBy_102 hl (k := 7) rfl (gm_inc k 1) (by decide) rfl (fun ls hl => ?_)
                refine lv_goto (tgt := 6) C.1 C.2.1 d_Pf_takenBy_105 (by decide) ?_
                exact ih6 (k + 1) (s_ + 1 * 2 ^ k) (by omega) (by skip; refine ckN_on hs ?_; unfold ckW; first | (rw [if_neg (by omega)]; done) | (rw [if_pos (by omega), if_pos (by assumption), if_pos ⟨by assumption, by assumption⟩]; done) | (rw [if_pos (by omega), if_pos (by assumption), if_neg (by rintro ⟨q1, q2⟩; first | (rw [show (Z k).1 = false by assumption] at q1; cases q1) | (rw [show (Z k).2.2 = false by assumption] at q2; cases q2))]; done)) (by exact (ckN_key (n := k + 1) (Z := Z) (o := op) (by omega) (by skip; refine ckN_on hs ?_; unfold ckW; first | (rw [if_neg (by omega)]; done) | (rw [if_pos (by omega), if_pos (by assumption), if_pos ⟨by assumption, by assumption⟩]; done) | (rw [if_pos (by omega), if_pos (by assumption), if_neg (by rintro ⟨q1, q2⟩; first | (rw [show (Z k).1 = false by assumption] at q1; cases q1) | (rw [show (Z k).2.2 = false by assumption] at q2; cases q2))]; done))).1) (by omega) _ _ _ hh (lv_sub hl [2, 3, 4, 5, 6, 7, 1, 0] rfl)
          · -- 50 -> 53
            have b_22 := bI_f hr_5 c_8
            skip
            refine lv_iconst (v := nI 0) C.1 C.2.1 d_Pf_takenBy_53 rfl ?_
            exact gr_i C hlk hret rfl hh (by first | (refine ⟨rfl, ?_⟩; rw [ckN_none hs (by unfold ckW; rw [if_pos (by omega), if_neg (by rw [show (Z k).2.1 = false by assumption]; decide)]) (by omega)]; rfl) | (refine ⟨rfl, ?_⟩; rw [← show k = m by omega, hs]; rfl)) d_Pf_takenBy_54
        · -- 24 -> 27
          have c_2 := gm_nef (b := 0) (by first | omega | exact gm_dv (by omega)) (by omega) c_2
          refine lv_goto (tgt := 102) C.1 C.2.1 d_Pf_takenBy_27 (by decide) ?_
          refine lv_iinc (v := nI (k + 1)) (lv' := [(7, .int (nI (k + 1))), (0, .ref f), (1, .ref o), (2, .ref g), (3, .int a), (4, .int b), (5, .int c), (6, .int (nI s_))]) C.1 C.2.1 d_Pf_takenBy_102 hl (k := 7) rfl (gm_inc k 1) (by decide) rfl (fun ls hl => ?_)
          refine lv_goto (tgt := 6) C.1 C.2.1 d_Pf_takenBy_105 (by decide) ?_
          exact ih6 (k + 1) s_ (by omega) (by skip; refine ckN_on hs ?_; unfold ckW; first | (rw [if_neg (by omega)]; done) | (rw [if_pos (by omega), if_pos (by assumption), if_pos ⟨by assumption, by assumption⟩]; done) | (rw [if_pos (by omega), if_pos (by assumption), if_neg (by rintro ⟨q1, q2⟩; first | (rw [show (Z k).1 = false by assumption] at q1; cases q1) | (rw [show (Z k).2.2 = false by assumption] at q2; cases q2))]; done)) (by exact (ckN_key (n := k + 1) (Z := Z) (o := op) (by omega) (by skip; refine ckN_on hs ?_; unfold ckW; first | (rw [if_neg (by omega)]; done) | (rw [if_pos (by omega), if_pos (by assumption), if_pos ⟨by assumption, by assumption⟩]; done) | (rw [if_pos (by omega), if_pos (by assumption), if_neg (by rintro ⟨q1, q2⟩; first | (rw [show (Z k).1 = false by assumption] at q1; cases q1) | (rw [show (Z k).2.2 = false by assumption] at q2; cases q2))]; done))).1) (by omega) _ _ _ hh (lv_sub hl [1, 2, 3, 4, 5, 6, 7, 0] rfl)
  exact K6 _ 0 0 (by omega) (by rfl) (by decide) (Nat.lt_succ_self _) _ _ _ hh (lv_sub hl [2, 3, 4, 5, 6, 7, 1, 0] rfl)
