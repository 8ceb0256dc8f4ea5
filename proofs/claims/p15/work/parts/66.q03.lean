set_option maxHeartbeats 4000000 in
set_option maxRecDepth 100000 in
theorem c_Sp_reduceQ (l : Launch) (D : va_G) (cs : Nat → ClassId) (sh : gm_H) (sz : Nat) (I : gm_I) (J : gm_J) (g L f : Nat) (hg : sh g = some (.inr (.inr (.inl L)))) (hf : f + 3 < L) (hL : L < 2 ^ 30) (hb : sp_lt (sp_vec J g f)) : CV l y_Sp_reduce w_Sp_reduce { frames := 0, cells := 0, slots := 0, locals := 0 } D cs sh sz I J [.ref g, .int (nI f)] (fun u => redP I J g f u) := by
  refine gm_start (by decide) (Nat.le_of_ble_eq_true rfl) ?_
  intro p' e' s' m' be' me' co' ls C hml hlk hret hh hl
  have hl : lv_has ls 10 [(0, .ref g), (1, .int (nI f))] := hl
  refine lv_lconst (v := 0) C.1 C.2.1 d_Sp_reduce_0 rfl ?_
  refine lv_topl (fun x_1 ex_1 => ?_)
  refine lv_lstore_n (lv' := [(2, .long x_1), (0, .ref g), (1, .int (nI f))]) C.1 C.2.1 d_Sp_reduce_1 rfl hl (by decide) rfl (fun ls hl => ?_)
  refine lv_iconst (v := nI 0) C.1 C.2.1 d_Sp_reduce_2 rfl ?_
  refine lv_istore (lv' := [(4, .int (nI 0)), (2, .long x_1), (0, .ref g), (1, .int (nI f))]) C.1 C.2.1 d_Sp_reduce_3 hl (by decide) rfl (fun ls hl => ?_)
  have K5 : ∀ (n_5 : Nat) (k : Nat) (c : Int64) (hk : k ≤ 4) (hc : c.toInt = sp_ek (sp_vec J g f) k) (hm_5 : 4 - k < n_5), ∀ (H : Heap) (locs : List Loc) (ls : Array Slot), gm_St D cs sh (gm_A sh) s'.heap sz I J H locs → lv_has ls 10 [(0, .ref g), (1, .int (nI f)), (2, .long c), (4, .int (nI k))] → W p' l e' { frames := 0, cells := 0, slots := 0, locals := 0 } s' m' ([.ref g, .int (nI f)] : List Value).toArray be' me' co' H locs 0 0 (MQ be' (va_Qv (fun u => redP I J g f u) (gm_B D cs sh sz) (gm_A sh)) ([.ref g, .int (nI f)] : List Value).toArray s' 0 0 (gm_A sh)) (F0 m' 5 ls []) := by
    intro n_5
    induction n_5 with
    | zero => intro k c hk hc hm_5; exact absurd hm_5 (Nat.not_lt_zero _)
    | succ n_5 ih5 =>
      intro k c hk hc hm_5 H locs ls hh hl
      refine lv_iload C.1 C.2.1 d_Sp_reduce_5 (lv_at hl 3 rfl) ?_
      refine lv_iconst (v := nI 4) C.1 C.2.1 d_Sp_reduce_7 rfl ?_
      refine lv_icmp_ge (tgt := 61) C.1 C.2.1 d_Sp_reduce_8 (by decide) (fun c_2 => ?_) (fun c_2 => ?_)
      · -- 8 -> 61
        have c_2 := gm_get (by omega) (by omega) c_2
        have c_2' := Nat.not_lt.mpr c_2
        refine lv_lload_n C.1 C.2.1 d_Sp_reduce_61 rfl (lv_at hl 2 rfl) ?_
        refine lv_lconst (v := 0) C.1 C.2.1 d_Sp_reduce_62 rfl ?_
        refine W.lcmp C.1 C.2.1 d_Sp_reduce_63 ?_
        refine lv_if_ge (tgt := 72) C.1 C.2.1 d_Sp_reduce_64 (by decide) (fun c_3 => ?_) (fun c_3 => ?_)
        · -- 64 -> 72
          have c_3 := gm_lget c_3
          refine lv_lload_n C.1 C.2.1 d_Sp_reduce_72 rfl (lv_at hl 2 rfl) ?_
          refine lv_lstore (lv' := [(4, .long c), (0, .ref g), (1, .int (nI f)), (2, .long c)]) C.1 C.2.1 d_Sp_reduce_73 hl (by decide) rfl (fun ls hl => ?_)
          refine lv_iconst (v := nI 0) C.1 C.2.1 d_Sp_reduce_75 rfl ?_
          refine lv_istore (lv' := [(6, .int (nI 0)), (4, .long c), (0, .ref g), (1, .int (nI f)), (2, .long c)]) C.1 C.2.1 d_Sp_reduce_76 hl (by decide) rfl (fun ls hl => ?_)
          have hck : c.toInt = sp_ek (sp_vec J g f) 4 := by have hq_ := hc; rw [show k = 4 by omega] at hq_; exact hq_
          have hdv : c.toInt = (dd_g (sp_vec J g f) : Int) := by subst ex_1; first | exact (sp_dv_g hb hck).1 (by assumption) | exact (sp_dv_g hb hck).2 (by assumption)
          have K78 : ∀ (n_78 : Nat) (kd : Nat) (J78 : gm_J) (hkd : kd ≤ 4) (hJ : J78 = sp_dv J g f c kd) (hm_78 : 4 - kd < n_78), ∀ (H : Heap) (locs : List Loc) (ls : Array Slot), gm_St D cs sh (gm_A sh) s'.heap sz I J78 H locs → lv_has ls 10 [(0, .ref g), (1, .int (nI f)), (4, .long c), (6, .int (nI kd))] → W p' l e' { frames := 0, cells := 0, slots := 0, locals := 0 } s' m' ([.ref g, .int (nI f)] : List Value).toArray be' me' co' H locs 0 0 (MQ be' (va_Qv (fun u => redP I J g f u) (gm_B D cs sh sz) (gm_A sh)) ([.ref g, .int (nI f)] : List Value).toArray s' 0 0 (gm_A sh)) (F0 m' 78 ls []) := by
            intro n_78
            induction n_78 with
            | zero => intro kd J78 hkd hJ hm_78; exact absurd hm_78 (Nat.not_lt_zero _)
            | succ n_78 ih78 =>
              intro kd J78 hkd hJ hm_78 H locs ls hh hl
              refine lv_lload C.1 C.2.1 d_Sp_reduce_78 (lv_at hl 2 rfl) ?_
              refine lv_lconst (v := 1) C.1 C.2.1 d_Sp_reduce_80 rfl ?_
              refine W.lcmp C.1 C.2.1 d_Sp_reduce_81 ?_
              refine lv_if_le (tgt := 108) C.1 C.2.1 d_Sp_reduce_82 (by decide) (fun c_4 => ?_) (fun c_4 => ?_)
              · -- 82 -> 108
                have c_4 := gm_llet c_4
                exact gr_v C hlk hret hh (by exact sp_red_post hb hdv hJ (by omega) (by first | exact Or.inl (by omega) | exact Or.inr (by assumption))) d_Sp_reduce_108
              · -- 82 -> 85
                have c_4 := gm_llef c_4
                refine lv_iload C.1 C.2.1 d_Sp_reduce_85 (lv_at hl 3 rfl) ?_
                refine lv_iconst (v := nI 4) C.1 C.2.1 d_Sp_reduce_87 rfl ?_
                refine lv_icmp_ge (tgt := 108) C.1 C.2.1 d_Sp_reduce_88 (by decide) (fun c_5 => ?_) (fun c_5 => ?_)
                · -- 88 -> 108
                  have c_5 := gm_get (by omega) (by omega) c_5
                  have c_5' := Nat.not_lt.mpr c_5
                  exact gr_v C hlk hret hh (by exact sp_red_post hb hdv hJ (by omega) (by first | exact Or.inl (by omega) | exact Or.inr (by assumption))) d_Sp_reduce_108
                · -- 88 -> 91
                  have c_5 := gm_gef (by omega) (by omega) c_5
                  have c_5' := Nat.not_le.mpr c_5
                  refine lv_aload_n C.1 C.2.1 d_Sp_reduce_91 rfl (lv_at hl 0 rfl) ?_
                  refine lv_iload_n C.1 C.2.1 d_Sp_reduce_92 rfl (lv_at hl 1 rfl) ?_
                  refine lv_iload C.1 C.2.1 d_Sp_reduce_93 (lv_at hl 3 rfl) ?_
                  refine lv_iadd C.1 C.2.1 d_Sp_reduce_95 ?_
                  refine gm_eqi (nI_add _ _) ?_
                  refine lv_dup2_11 C.1 C.2.1 d_Sp_reduce_96 rfl rfl ?_
                  refine ga_l C hh hg (k := f + kd) rfl (by omega) (by omega) d_Sp_reduce_97 ?_
                  refine lv_lload C.1 C.2.1 d_Sp_reduce_98 (lv_at hl 2 rfl) ?_
                  refine lv_ldiv C.1 C.2.1 d_Sp_reduce_100 (by first | assumption | exact gm_nz1 (by assumption)) ?_
                  refine gs_l C hh hg (k := f + kd) rfl (by omega) (by omega) d_Sp_reduce_101 (fun H locs hh => ?_)
                  obtain ⟨J_6, eJ_6⟩ : ∃ z : gm_J, z = gm_up J78 g (f + kd) ((J78 g (f + kd)) / c) := ⟨_, rfl⟩
                  rw [← eJ_6] at hh
                  refine lv_iinc (v := nI (kd + 1)) (lv' := [(6, .int (nI (kd + 1))), (0, .ref g), (1, .int (nI f)), (4, .long c)]) C.1 C.2.1 d_Sp_reduce_102 hl (k := 3) rfl (gm_inc kd 1) (by decide) rfl (fun ls hl => ?_)
                  refine lv_goto (tgt := 78) C.1 C.2.1 d_Sp_reduce_105 (by decide) ?_
                  exact ih78 (kd + 1) J_6 (by omega) (by subst ex_1 eJ_6; exact sp_dv_up hJ) (by omega) _ _ _ hh (lv_sub hl [1, 2, 3, 0] rfl)
          exact K78 _ 0 J (by omega) (by exact sp_dv_0 _ _ _ _) (Nat.lt_succ_self _) _ _ _ hh (lv_sub hl [2, 3, 1, 0] rfl)
        · -- 64 -> 67
          have c_3 := gm_lgef c_3
          refine lv_lload_n C.1 C.2.1 d_Sp_reduce_67 rfl (lv_at hl 2 rfl) ?_
          refine lv_lneg C.1 C.2.1 d_Sp_reduce_68 ?_
          refine lv_goto (tgt := 73) C.1 C.2.1 d_Sp_reduce_69 (by decide) ?_
          refine lv_topl (fun x_7 ex_7 => ?_)
          refine lv_lstore (lv' := [(4, .long x_7), (0, .ref g), (1, .int (nI f)), (2, .long c)]) C.1 C.2.1 d_Sp_reduce_73 hl (by decide) rfl (fun ls hl => ?_)
          refine lv_iconst (v := nI 0) C.1 C.2.1 d_Sp_reduce_75 rfl ?_
          refine lv_istore (lv' := [(6, .int (nI 0)), (4, .long x_7), (0, .ref g), (1, .int (nI f)), (2, .long c)]) C.1 C.2.1 d_Sp_reduce_76 hl (by decide) rfl (fun ls hl => ?_)
          have hck : c.toInt = sp_ek (sp_vec J g f) 4 := by have hq_ := hc; rw [show k = 4 by omega] at hq_; exact hq_
          have hdv : x_7.toInt = (dd_g (sp_vec J g f) : Int) := by subst ex_1 ex_7; first | exact (sp_dv_g hb hck).1 (by assumption) | exact (sp_dv_g hb hck).2 (by assumption)
          have K78 : ∀ (n_78 : Nat) (kd : Nat) (J78 : gm_J) (hkd : kd ≤ 4) (hJ : J78 = sp_dv J g f x_7 kd) (hm_78 : 4 - kd < n_78), ∀ (H : Heap) (locs : List Loc) (ls : Array Slot), gm_St D cs sh (gm_A sh) s'.heap sz I J78 H locs → lv_has ls 10 [(0, .ref g), (1, .int (nI f)), (4, .long x_7), (6, .int (nI kd))] → W p' l e' { frames := 0, cells := 0, slots := 0, locals := 0 } s' m' ([.ref g, .int (nI f)] : List Value).toArray be' me' co' H locs 0 0 (MQ be' (va_Qv (fun u => redP I J g f u) (gm_B D cs sh sz) (gm_A sh)) ([.ref g, .int (nI f)] : List Value).toArray s' 0 0 (gm_A sh)) (F0 m' 78 ls []) := by
            intro n_78
            induction n_78 with
            | zero => intro kd J78 hkd hJ hm_78; exact absurd hm_78 (Nat.not_lt_zero _)
            | succ n_78 ih78 =>
              intro kd J78 hkd hJ hm_78 H locs ls hh hl
              refine lv_lload C.1 C.2.1 d_Sp_reduce_78 (lv_at hl 2 rfl) ?_
              refine lv_lconst (v := 1) C.1 C.2.1 d_Sp_reduce_80 rfl ?_
              refine W.lcmp C.1 C.2.1 d_Sp_reduce_81 ?_
              refine lv_if_le (tgt := 108) C.1 C.2.1 d_Sp_reduce_82 (by decide) (fun c_8 => ?_) (fun c_8 => ?_)
              · -- 82 -> 108
                have c_8 := gm_llet c_8
                exact gr_v C hlk hret hh (by exact sp_red_post hb hdv hJ (by omega) (by first | exact Or.inl (by omega) | exact Or.inr (by assumption))) d_Sp_reduce_108
              · -- 82 -> 85
                have c_8 := gm_llef c_8
                refine lv_iload C.1 C.2.1 d_Sp_reduce_85 (lv_at hl 3 rfl) ?_
                refine lv_iconst (v := nI 4) C.1 C.2.1 d_Sp_reduce_87 rfl ?_
                refine lv_icmp_ge (tgt := 108) C.1 C.2.1 d_Sp_reduce_88 (by decide) (fun c_9 => ?_) (fun c_9 => ?_)
                · -- 88 -> 108
                  have c_9 := gm_get (by omega) (by omega) c_9
                  have c_9' := Nat.not_lt.mpr c_9
                  exact gr_v C hlk hret hh (by exact sp_red_post hb hdv hJ (by omega) (by first | exact Or.inl (by omega) | exact Or.inr (by assumption))) d_Sp_reduce_108
                · -- 88 -> 91
                  have c_9 := gm_gef (by omega) (by omega) c_9
                  have c_9' := Nat.not_le.mpr c_9
                  refine lv_aload_n C.1 C.2.1 d_Sp_reduce_91 rfl (lv_at hl 0 rfl) ?_
                  refine lv_iload_n C.1 C.2.1 d_Sp_reduce_92 rfl (lv_at hl 1 rfl) ?_
                  refine lv_iload C.1 C.2.1 d_Sp_reduce_93 (lv_at hl 3 rfl) ?_
                  refine lv_iadd C.1 C.2.1 d_Sp_reduce_95 ?_
                  refine gm_eqi (nI_add _ _) ?_
                  refine lv_dup2_11 C.1 C.2.1 d_Sp_reduce_96 rfl rfl ?_
                  refine ga_l C hh hg (k := f + kd) rfl (by omega) (by omega) d_Sp_reduce_97 ?_
                  refine lv_lload C.1 C.2.1 d_Sp_reduce_98 (lv_at hl 2 rfl) ?_
                  refine lv_ldiv C.1 C.2.1 d_Sp_reduce_100 (by first | assumption | exact gm_nz1 (by assumption)) ?_
                  refine gs_l C hh hg (k := f + kd) rfl (by omega) (by omega) d_Sp_reduce_101 (fun H locs hh => ?_)
                  obtain ⟨J_10, eJ_10⟩ : ∃ z : gm_J, z = gm_up J78 g (f + kd) ((J78 g (f + kd)) / x_7) := ⟨_, rfl⟩
                  rw [← eJ_10] at hh
                  refine lv_iinc (v := nI (kd + 1)) (lv' := [(6, .int (nI (kd + 1))), (0, .ref g), (1, .int (nI f)), (4, .long x_7)]) C.1 C.2.1 d_Sp_reduce_102 hl (k := 3) rfl (gm_inc kd 1) (by decide) rfl (fun ls hl => ?_)
                  refine lv_goto (tgt := 78) C.1 C.2.1 d_Sp_reduce_105 (by decide) ?_
                  exact ih78 (kd + 1) J_10 (by omega) (by subst ex_1 ex_7 eJ_10; exact sp_dv_up hJ) (by omega) _ _ _ hh (lv_sub hl [1, 2, 3, 0] rfl)
          exact K78 _ 0 J (by omega) (by exact sp_dv_0 _ _ _ _) (Nat.lt_succ_self _) _ _ _ hh (lv_sub hl [2, 3, 1, 0] rfl)
      · -- 8 -> 11
        have c_2 := gm_gef (by omega) (by omega) c_2
        have c_2' := Nat.not_le.mpr c_2
        refine lv_aload_n C.1 C.2.1 d_Sp_reduce_11 rfl (lv_at hl 0 rfl) ?_
        refine lv_iload_n C.1 C.2.1 d_Sp_reduce_12 rfl (lv_at hl 1 rfl) ?_
        refine lv_iload C.1 C.2.1 d_Sp_reduce_13 (lv_at hl 3 rfl) ?_
        refine lv_iadd C.1 C.2.1 d_Sp_reduce_15 ?_
        refine gm_eqi (nI_add _ _) ?_
        refine ga_l C hh hg (k := f + k) rfl (by omega) (by omega) d_Sp_reduce_16 ?_
        refine lv_topl (fun x_11 ex_11 => ?_)
        refine lv_lstore (lv' := [(5, .long x_11), (0, .ref g), (1, .int (nI f)), (2, .long c), (4, .int (nI k))]) C.1 C.2.1 d_Sp_reduce_17 hl (by decide) rfl (fun ls hl => ?_)
        refine lv_iconst (v := nI 0) C.1 C.2.1 d_Sp_reduce_19 rfl ?_
        refine lv_istore (lv' := [(7, .int (nI 0)), (5, .long x_11), (0, .ref g), (1, .int (nI f)), (2, .long c), (4, .int (nI k))]) C.1 C.2.1 d_Sp_reduce_20 hl (by decide) rfl (fun ls hl => ?_)
        have K22 : ∀ (n_22 : Nat) (i : Nat) (d : Int64) (o : Int64) (hi : i ≤ 100) (he : dd_eu (100 - i) d.toInt o.toInt = sp_ek (sp_vec J g f) (k + 1)) (hd : d.toInt.natAbs < 2 ^ 50) (ho : o.toInt.natAbs < 2 ^ 50) (hm_22 : 100 - i < n_22), ∀ (H : Heap) (locs : List Loc) (ls : Array Slot), gm_St D cs sh (gm_A sh) s'.heap sz I J H locs → lv_has ls 10 [(0, .ref g), (1, .int (nI f)), (2, .long d), (4, .int (nI k)), (5, .long o), (7, .int (nI i))] → W p' l e' { frames := 0, cells := 0, slots := 0, locals := 0 } s' m' ([.ref g, .int (nI f)] : List Value).toArray be' me' co' H locs 0 0 (MQ be' (va_Qv (fun u => redP I J g f u) (gm_B D cs sh sz) (gm_A sh)) ([.ref g, .int (nI f)] : List Value).toArray s' 0 0 (gm_A sh)) (F0 m' 22 ls []) := by
          intro n_22
          induction n_22 with
          | zero => intro i d o hi he hd ho hm_22; exact absurd hm_22 (Nat.not_lt_zero _)
          | succ n_22 ih22 =>
            intro i d o hi he hd ho hm_22 H locs ls hh hl
            refine lv_iload C.1 C.2.1 d_Sp_reduce_22 (lv_at hl 5 rfl) ?_
            refine lv_bipush (v := nI 100) C.1 C.2.1 d_Sp_reduce_24 rfl ?_
            refine lv_icmp_ge (tgt := 55) C.1 C.2.1 d_Sp_reduce_26 (by decide) (fun c_12 => ?_) (fun c_12 => ?_)
            · -- 26 -> 55
              have c_12 := gm_get (by omega) (by omega) c_12
              have c_12' := Nat.not_lt.mpr c_12
              refine lv_iinc (v := nI (k + 1)) (lv' := [(4, .int (nI (k + 1))), (0, .ref g), (1, .int (nI f)), (2, .long d), (5, .long o), (7, .int (nI i))]) C.1 C.2.1 d_Sp_reduce_55 hl (k := 3) rfl (gm_inc k 1) (by decide) rfl (fun ls hl => ?_)
              refine lv_goto (tgt := 5) C.1 C.2.1 d_Sp_reduce_58 (by decide) ?_
              exact ih5 (k + 1) d (by omega) (by exact sp_in_out he (by first | exact Or.inl (by omega) | exact Or.inr (by assumption))) (by omega) _ _ _ hh (lv_sub hl [1, 2, 3, 0] rfl)
            · -- 26 -> 29
              have c_12 := gm_gef (by omega) (by omega) c_12
              have c_12' := Nat.not_le.mpr c_12
              refine lv_lload C.1 C.2.1 d_Sp_reduce_29 (lv_at hl 4 rfl) ?_
              refine lv_lconst (v := 0) C.1 C.2.1 d_Sp_reduce_31 rfl ?_
              refine W.lcmp C.1 C.2.1 d_Sp_reduce_32 ?_
              refine lv_if_eq (tgt := 55) C.1 C.2.1 d_Sp_reduce_33 (by decide) (fun c_13 => ?_) (fun c_13 => ?_)
              · -- 33 -> 55
                have c_13 := gm_leqt c_13
                refine lv_iinc (v := nI (k + 1)) (lv' := [(4, .int (nI (k + 1))), (0, .ref g), (1, .int (nI f)), (2, .long d), (5, .long o), (7, .int (nI i))]) C.1 C.2.1 d_Sp_reduce_55 hl (k := 3) rfl (gm_inc k 1) (by decide) rfl (fun ls hl => ?_)
                refine lv_goto (tgt := 5) C.1 C.2.1 d_Sp_reduce_58 (by decide) ?_
                exact ih5 (k + 1) d (by omega) (by exact sp_in_out he (by first | exact Or.inl (by omega) | exact Or.inr (by assumption))) (by omega) _ _ _ hh (lv_sub hl [1, 2, 3, 0] rfl)
              · -- 33 -> 36
                have c_13 := gm_leqf c_13
                refine lv_lload_n C.1 C.2.1 d_Sp_reduce_36 rfl (lv_at hl 2 rfl) ?_
                refine lv_lload C.1 C.2.1 d_Sp_reduce_37 (lv_at hl 4 rfl) ?_
                refine lv_lrem C.1 C.2.1 d_Sp_reduce_39 (by first | assumption | exact gm_nz1 (by assumption)) ?_
                refine lv_topl (fun x_14 ex_14 => ?_)
                refine lv_lstore (lv' := [(8, .long x_14), (0, .ref g), (1, .int (nI f)), (2, .long d), (4, .int (nI k)), (5, .long o), (7, .int (nI i))]) C.1 C.2.1 d_Sp_reduce_40 hl (by decide) rfl (fun ls hl => ?_)
                refine lv_lload C.1 C.2.1 d_Sp_reduce_42 (lv_at hl 5 rfl) ?_
                refine lv_lstore_n (lv' := [(2, .long o), (8, .long x_14), (0, .ref g), (1, .int (nI f)), (4, .int (nI k)), (5, .long o), (7, .int (nI i))]) C.1 C.2.1 d_Sp_reduce_44 rfl hl (by decide) rfl (fun ls hl => ?_)
                refine lv_lload C.1 C.2.1 d_Sp_reduce_45 (lv_at hl 1 rfl) ?_
                refine lv_lstore (lv' := [(5, .long x_14), (2, .long o), (8, .long x_14), (0, .ref g), (1, .int (nI f)), (4, .int (nI k)), (7, .int (nI i))]) C.1 C.2.1 d_Sp_reduce_47 hl (by decide) rfl (fun ls hl => ?_)
                refine lv_iinc (v := nI (i + 1)) (lv' := [(7, .int (nI (i + 1))), (5, .long x_14), (2, .long o), (8, .long x_14), (0, .ref g), (1, .int (nI f)), (4, .int (nI k))]) C.1 C.2.1 d_Sp_reduce_49 hl (k := 6) rfl (gm_inc i 1) (by decide) rfl (fun ls hl => ?_)
                refine lv_goto (tgt := 22) C.1 C.2.1 d_Sp_reduce_52 (by decide) ?_
                exact ih22 (i + 1) o x_14 (by omega) (by subst ex_1 ex_11 ex_14; exact sp_in_step he (by omega) (by assumption) hd) (by exact ho) (by subst ex_1 ex_11 ex_14; exact sp_in_lt hd) (by omega) _ _ _ hh (lv_sub hl [4, 5, 2, 6, 1, 0] rfl)
        exact K22 _ 0 c x_11 (by omega) (by subst ex_1 ex_11; exact sp_in_start (by omega) hc) (by rw [hc]; exact sp_ek_lt hb k (by omega)) (by subst ex_1 ex_11; rw [← sp_vec_c J g f (by omega)]; exact sp_lt_c hb (by omega)) (Nat.lt_succ_self _) _ _ _ hh (lv_sub hl [2, 3, 4, 5, 1, 0] rfl)
  exact K5 _ 0 x_1 (by omega) (by subst ex_1; rfl) (Nat.lt_succ_self _) _ _ _ hh (lv_sub hl [2, 3, 1, 0] rfl)

set_option maxHeartbeats 4000000 in
set_option maxRecDepth 100000 in
theorem c_Sp_shiftQ (l : Launch) (D : va_G) (cs : Nat → ClassId) (sh : gm_H) (sz : Nat) (I : gm_I) (J : gm_J) (q : Nat) (hs : is_Sp sh q) (g L f : Nat) (hg : sh g = some (.inr (.inr (.inl L)))) (hf : f + 3 < L) (hL : L < 2 ^ 30) (hgp : g ≠ q + 5) (ux uw : Int64) (sx wx : Int) (hux : dd_R ux sx 17496000) (huw : dd_R uw wx 17496000) (hvb : dd_bd (sp_vec J g f)) (hpb : dd_bd (sp_vec J (q + 5) 0)) : CV l y_Sp_shift w_Sp_shift { frames := 1, cells := 0, slots := 0, locals := 29 } D cs sh sz I J [.ref q, .ref g, .int (nI f), .long ux, .long uw] (fun u => shP I J q g f sx wx u) := by
  refine gm_start (by decide) (Nat.le_of_ble_eq_true rfl) ?_
  intro p' e' s' m' be' me' co' ls C hml hlk hret hh hl
  have hl : lv_has ls 8 [(0, .ref q), (1, .ref g), (2, .int (nI f)), (3, .long ux), (5, .long uw)] := hl
  refine lv_iconst (v := nI 0) C.1 C.2.1 d_Sp_shift_0 rfl ?_
  refine lv_istore (lv' := [(7, .int (nI 0)), (0, .ref q), (1, .ref g), (2, .int (nI f)), (3, .long ux), (5, .long uw)]) C.1 C.2.1 d_Sp_shift_1 hl (by decide) rfl (fun ls hl => ?_)
  refine lv_iload C.1 C.2.1 d_Sp_shift_3 (lv_at hl 0 rfl) ?_
  refine lv_iconst (v := nI 4) C.1 C.2.1 d_Sp_shift_5 rfl ?_
  refine lv_icmp_ge (tgt := 40) C.1 C.2.1 d_Sp_shift_6 (by decide) (fun c_ => absurd c_ (by decide)) (fun c_ => ?_)
  refine lv_aload_n C.1 C.2.1 d_Sp_shift_9 rfl (lv_at hl 2 rfl) ?_
  refine lv_iload_n C.1 C.2.1 d_Sp_shift_10 rfl (lv_at hl 3 rfl) ?_
  refine lv_iload C.1 C.2.1 d_Sp_shift_11 (lv_at hl 0 rfl) ?_
  refine lv_iadd C.1 C.2.1 d_Sp_shift_13 ?_
  refine gm_eqi (nI_add _ _) ?_
  refine lv_lload_n C.1 C.2.1 d_Sp_shift_14 rfl (lv_at hl 4 rfl) ?_
  refine lv_aload_n C.1 C.2.1 d_Sp_shift_15 rfl (lv_at hl 2 rfl) ?_
  refine lv_iload_n C.1 C.2.1 d_Sp_shift_16 rfl (lv_at hl 3 rfl) ?_
  refine lv_iload C.1 C.2.1 d_Sp_shift_17 (lv_at hl 0 rfl) ?_
  refine lv_iadd C.1 C.2.1 d_Sp_shift_19 ?_
  refine gm_eqi (nI_add _ _) ?_
  refine ga_l C hh hg (k := f + 0) rfl (by omega) (by omega) d_Sp_shift_20 ?_
  refine lv_lmul C.1 C.2.1 d_Sp_shift_21 ?_
  refine lv_lload C.1 C.2.1 d_Sp_shift_22 (lv_at hl 5 rfl) ?_
  refine lv_aload_n C.1 C.2.1 d_Sp_shift_24 rfl (lv_at hl 1 rfl) ?_
  refine gg_r C hh hs.1 rfl in_Sp 6 (by decide) rfl tw_191 rfl d_Sp_shift_25 ?_
  refine lv_iload C.1 C.2.1 d_Sp_shift_28 (lv_at hl 0 rfl) ?_
  refine ga_l C hh hs.2.2.2.2.2 (k := 0) rfl (by omega) (by omega) d_Sp_shift_30 ?_
  refine lv_lmul C.1 C.2.1 d_Sp_shift_31 ?_
  refine lv_lsub C.1 C.2.1 d_Sp_shift_32 ?_
  refine gs_l C hh hg (k := f + 0) rfl (by omega) (by omega) d_Sp_shift_33 (fun H locs hh => ?_)
  obtain ⟨J_1, eJ_1⟩ : ∃ z : gm_J, z = gm_up J g (f + 0) ((ux * (J g (f + 0))) - (uw * (J (q + 5) 0))) := ⟨_, rfl⟩
  rw [← eJ_1] at hh
  refine lv_iinc (v := nI 1) (lv' := [(7, .int (nI 1)), (0, .ref q), (1, .ref g), (2, .int (nI f)), (3, .long ux), (5, .long uw)]) C.1 C.2.1 d_Sp_shift_34 hl (k := 0) rfl (gm_inc 0 1) (by decide) rfl (fun ls hl => ?_)
  refine lv_goto (tgt := 3) C.1 C.2.1 d_Sp_shift_37 (by decide) ?_
  refine lv_iload C.1 C.2.1 d_Sp_shift_3 (lv_at hl 0 rfl) ?_
  refine lv_iconst (v := nI 4) C.1 C.2.1 d_Sp_shift_5 rfl ?_
  refine lv_icmp_ge (tgt := 40) C.1 C.2.1 d_Sp_shift_6 (by decide) (fun c_ => absurd c_ (by decide)) (fun c_ => ?_)
  refine lv_aload_n C.1 C.2.1 d_Sp_shift_9 rfl (lv_at hl 2 rfl) ?_
  refine lv_iload_n C.1 C.2.1 d_Sp_shift_10 rfl (lv_at hl 3 rfl) ?_
  refine lv_iload C.1 C.2.1 d_Sp_shift_11 (lv_at hl 0 rfl) ?_
  refine lv_iadd C.1 C.2.1 d_Sp_shift_13 ?_
  refine gm_eqi (nI_add _ _) ?_
  refine lv_lload_n C.1 C.2.1 d_Sp_shift_14 rfl (lv_at hl 4 rfl) ?_
  refine lv_aload_n C.1 C.2.1 d_Sp_shift_15 rfl (lv_at hl 2 rfl) ?_
  refine lv_iload_n C.1 C.2.1 d_Sp_shift_16 rfl (lv_at hl 3 rfl) ?_
  refine lv_iload C.1 C.2.1 d_Sp_shift_17 (lv_at hl 0 rfl) ?_
  refine lv_iadd C.1 C.2.1 d_Sp_shift_19 ?_
  refine gm_eqi (nI_add _ _) ?_
  refine ga_l C hh hg (k := f + 1) rfl (by omega) (by omega) d_Sp_shift_20 ?_
  refine gm_eql (y := J g (f + 1)) (by rw [eJ_1, gm_up_ne _ _ (Or.inr (by omega))]) ?_
  refine lv_lmul C.1 C.2.1 d_Sp_shift_21 ?_
  refine lv_lload C.1 C.2.1 d_Sp_shift_22 (lv_at hl 5 rfl) ?_
  refine lv_aload_n C.1 C.2.1 d_Sp_shift_24 rfl (lv_at hl 1 rfl) ?_
  refine gg_r C hh hs.1 rfl in_Sp 6 (by decide) rfl tw_191 rfl d_Sp_shift_25 ?_
  refine lv_iload C.1 C.2.1 d_Sp_shift_28 (lv_at hl 0 rfl) ?_
  refine ga_l C hh hs.2.2.2.2.2 (k := 1) rfl (by omega) (by omega) d_Sp_shift_30 ?_
  refine gm_eql (y := J (q + 5) 1) (by rw [eJ_1, gm_up_ne _ _ (Or.inl (by omega))]) ?_
  refine lv_lmul C.1 C.2.1 d_Sp_shift_31 ?_
  refine lv_lsub C.1 C.2.1 d_Sp_shift_32 ?_
  refine gs_l C hh hg (k := f + 1) rfl (by omega) (by omega) d_Sp_shift_33 (fun H locs hh => ?_)
  obtain ⟨J_2, eJ_2⟩ : ∃ z : gm_J, z = gm_up J_1 g (f + 1) ((ux * (J g (f + 1))) - (uw * (J (q + 5) 1))) := ⟨_, rfl⟩
  rw [← eJ_2] at hh
  refine lv_iinc (v := nI 2) (lv' := [(7, .int (nI 2)), (0, .ref q), (1, .ref g), (2, .int (nI f)), (3, .long ux), (5, .long uw)]) C.1 C.2.1 d_Sp_shift_34 hl (k := 0) rfl (gm_inc 1 1) (by decide) rfl (fun ls hl => ?_)
  refine lv_goto (tgt := 3) C.1 C.2.1 d_Sp_shift_37 (by decide) ?_
  refine lv_iload C.1 C.2.1 d_Sp_shift_3 (lv_at hl 0 rfl) ?_
  refine lv_iconst (v := nI 4) C.1 C.2.1 d_Sp_shift_5 rfl ?_
  refine lv_icmp_ge (tgt := 40) C.1 C.2.1 d_Sp_shift_6 (by decide) (fun c_ => absurd c_ (by decide)) (fun c_ => ?_)
  refine lv_aload_n C.1 C.2.1 d_Sp_shift_9 rfl (lv_at hl 2 rfl) ?_
  refine lv_iload_n C.1 C.2.1 d_Sp_shift_10 rfl (lv_at hl 3 rfl) ?_
  refine lv_iload C.1 C.2.1 d_Sp_shift_11 (lv_at hl 0 rfl) ?_
  refine lv_iadd C.1 C.2.1 d_Sp_shift_13 ?_
  refine gm_eqi (nI_add _ _) ?_
  refine lv_lload_n C.1 C.2.1 d_Sp_shift_14 rfl (lv_at hl 4 rfl) ?_
  refine lv_aload_n C.1 C.2.1 d_Sp_shift_15 rfl (lv_at hl 2 rfl) ?_
  refine lv_iload_n C.1 C.2.1 d_Sp_shift_16 rfl (lv_at hl 3 rfl) ?_
  refine lv_iload C.1 C.2.1 d_Sp_shift_17 (lv_at hl 0 rfl) ?_
  refine lv_iadd C.1 C.2.1 d_Sp_shift_19 ?_
  refine gm_eqi (nI_add _ _) ?_
  refine ga_l C hh hg (k := f + 2) rfl (by omega) (by omega) d_Sp_shift_20 ?_
  refine gm_eql (y := J g (f + 2)) (by rw [eJ_2, gm_up_ne _ _ (Or.inr (by omega)), eJ_1, gm_up_ne _ _ (Or.inr (by omega))]) ?_
  refine lv_lmul C.1 C.2.1 d_Sp_shift_21 ?_
  refine lv_lload C.1 C.2.1 d_Sp_shift_22 (lv_at hl 5 rfl) ?_
  refine lv_aload_n C.1 C.2.1 d_Sp_shift_24 rfl (lv_at hl 1 rfl) ?_
  refine gg_r C hh hs.1 rfl in_Sp 6 (by decide) rfl tw_191 rfl d_Sp_shift_25 ?_
  refine lv_iload C.1 C.2.1 d_Sp_shift_28 (lv_at hl 0 rfl) ?_
  refine ga_l C hh hs.2.2.2.2.2 (k := 2) rfl (by omega) (by omega) d_Sp_shift_30 ?_
  refine gm_eql (y := J (q + 5) 2) (by rw [eJ_2, gm_up_ne _ _ (Or.inl (by omega)), eJ_1, gm_up_ne _ _ (Or.inl (by omega))]) ?_
  refine lv_lmul C.1 C.2.1 d_Sp_shift_31 ?_
  refine lv_lsub C.1 C.2.1 d_Sp_shift_32 ?_
  refine gs_l C hh hg (k := f + 2) rfl (by omega) (by omega) d_Sp_shift_33 (fun H locs hh => ?_)
  obtain ⟨J_3, eJ_3⟩ : ∃ z : gm_J, z = gm_up J_2 g (f + 2) ((ux * (J g (f + 2))) - (uw * (J (q + 5) 2))) := ⟨_, rfl⟩
  rw [← eJ_3] at hh
  refine lv_iinc (v := nI 3) (lv' := [(7, .int (nI 3)), (0, .ref q), (1, .ref g), (2, .int (nI f)), (3, .long ux), (5, .long uw)]) C.1 C.2.1 d_Sp_shift_34 hl (k := 0) rfl (gm_inc 2 1) (by decide) rfl (fun ls hl => ?_)
  refine lv_goto (tgt := 3) C.1 C.2.1 d_Sp_shift_37 (by decide) ?_
  refine lv_iload C.1 C.2.1 d_Sp_shift_3 (lv_at hl 0 rfl) ?_
  refine lv_iconst (v := nI 4) C.1 C.2.1 d_Sp_shift_5 rfl ?_
  refine lv_icmp_ge (tgt := 40) C.1 C.2.1 d_Sp_shift_6 (by decide) (fun c_ => absurd c_ (by decide)) (fun c_ => ?_)
  refine lv_aload_n C.1 C.2.1 d_Sp_shift_9 rfl (lv_at hl 2 rfl) ?_
  refine lv_iload_n C.1 C.2.1 d_Sp_shift_10 rfl (lv_at hl 3 rfl) ?_
  refine lv_iload C.1 C.2.1 d_Sp_shift_11 (lv_at hl 0 rfl) ?_
  refine lv_iadd C.1 C.2.1 d_Sp_shift_13 ?_
  refine gm_eqi (nI_add _ _) ?_
  refine lv_lload_n C.1 C.2.1 d_Sp_shift_14 rfl (lv_at hl 4 rfl) ?_
  refine lv_aload_n C.1 C.2.1 d_Sp_shift_15 rfl (lv_at hl 2 rfl) ?_
  refine lv_iload_n C.1 C.2.1 d_Sp_shift_16 rfl (lv_at hl 3 rfl) ?_
  refine lv_iload C.1 C.2.1 d_Sp_shift_17 (lv_at hl 0 rfl) ?_
  refine lv_iadd C.1 C.2.1 d_Sp_shift_19 ?_
  refine gm_eqi (nI_add _ _) ?_
  refine ga_l C hh hg (k := f + 3) rfl (by omega) (by omega) d_Sp_shift_20 ?_
  refine gm_eql (y := J g (f + 3)) (by rw [eJ_3, gm_up_ne _ _ (Or.inr (by omega)), eJ_2, gm_up_ne _ _ (Or.inr (by omega)), eJ_1, gm_up_ne _ _ (Or.inr (by omega))]) ?_
  refine lv_lmul C.1 C.2.1 d_Sp_shift_21 ?_
  refine lv_lload C.1 C.2.1 d_Sp_shift_22 (lv_at hl 5 rfl) ?_
  refine lv_aload_n C.1 C.2.1 d_Sp_shift_24 rfl (lv_at hl 1 rfl) ?_
  refine gg_r C hh hs.1 rfl in_Sp 6 (by decide) rfl tw_191 rfl d_Sp_shift_25 ?_
  refine lv_iload C.1 C.2.1 d_Sp_shift_28 (lv_at hl 0 rfl) ?_
  refine ga_l C hh hs.2.2.2.2.2 (k := 3) rfl (by omega) (by omega) d_Sp_shift_30 ?_
  refine gm_eql (y := J (q + 5) 3) (by rw [eJ_3, gm_up_ne _ _ (Or.inl (by omega)), eJ_2, gm_up_ne _ _ (Or.inl (by omega)), eJ_1, gm_up_ne _ _ (Or.inl (by omega))]) ?_
  refine lv_lmul C.1 C.2.1 d_Sp_shift_31 ?_
  refine lv_lsub C.1 C.2.1 d_Sp_shift_32 ?_
  refine gs_l C hh hg (k := f + 3) rfl (by omega) (by omega) d_Sp_shift_33 (fun H locs hh => ?_)
  obtain ⟨J_4, eJ_4⟩ : ∃ z : gm_J, z = gm_up J_3 g (f + 3) ((ux * (J g (f + 3))) - (uw * (J (q + 5) 3))) := ⟨_, rfl⟩
  rw [← eJ_4] at hh
  refine lv_iinc (v := nI 4) (lv' := [(7, .int (nI 4)), (0, .ref q), (1, .ref g), (2, .int (nI f)), (3, .long ux), (5, .long uw)]) C.1 C.2.1 d_Sp_shift_34 hl (k := 0) rfl (gm_inc 3 1) (by decide) rfl (fun ls hl => ?_)
  refine lv_goto (tgt := 3) C.1 C.2.1 d_Sp_shift_37 (by decide) ?_
  refine lv_iload C.1 C.2.1 d_Sp_shift_3 (lv_at hl 0 rfl) ?_
  refine lv_iconst (v := nI 4) C.1 C.2.1 d_Sp_shift_5 rfl ?_
  refine lv_icmp_ge (tgt := 40) C.1 C.2.1 d_Sp_shift_6 (by decide) (fun c_ => ?_) (fun c_ => absurd (by decide) c_)
  refine lv_aload_n C.1 C.2.1 d_Sp_shift_40 rfl (lv_at hl 2 rfl) ?_
  refine lv_iload_n C.1 C.2.1 d_Sp_shift_41 rfl (lv_at hl 3 rfl) ?_
  have e4_ : J_4 = sp_up4 J g f (ux * J g f - uw * J (q + 5) 0) (ux * J g (f + 1) - uw * J (q + 5) 1) (ux * J g (f + 2) - uw * J (q + 5) 2) (ux * J g (f + 3) - uw * J (q + 5) 3) := by subst eJ_1 eJ_2 eJ_3 eJ_4; rfl
  have v4_ := sp_shift_eq e4_ hux huw hvb hpb
  refine gc_v hh (gc_runS (As := [.ref g, .int (nI f)]) (rest := []) (n := 2) C hml hh (c_Sp_reduceQ l D cs sh sz I J_4 g L f hg hf hL v4_.2) (tg_S tw_359 tw_360 tw_63 tw_361) (by decide +kernel) ⟨rfl, rfl, by decide, by decide, Nat.zero_le _, Nat.zero_le _⟩ rfl hl.1 rfl (Nat.le_of_ble_eq_true rfl) d_Sp_shift_42) (fun I_6 J_7 H locs hr_5 hh => ?_)
  exact gr_v C hlk hret hh (by exact sp_shift_post e4_ v4_.1 hr_5) d_Sp_shift_45

set_option maxHeartbeats 4000000 in
set_option maxRecDepth 100000 in
theorem c_Sp_appendBetweenQ (l : Launch) (D : va_G) (cs : Nat → ClassId) (sh : gm_H) (sz : Nat) (I : gm_I) (J : gm_J) (q : Nat) (hs : is_Sp sh q) (n : Nat) (en : I q 3 = nI n) (hn32 : n ≤ 32) (i j : Nat) (hi : i < 32) (hj : j < 32) (sx wx : Int) (hs1 : dd_R (J (q + 4) i) sx 17496000) (hs2 : dd_R (J (q + 4) j) wx 17496000) (hv1 : dd_bd (sp_vec J (q + 2) (4 * j))) (hv2 : dd_bd (sp_vec J (q + 2) (4 * i))) : CV l y_Sp_appendBetween w_Sp_appendBetween { frames := 1, cells := 0, slots := 0, locals := 29 } D cs sh sz I J [.ref q, .int (nI i), .int (nI j)] (fun u => btP I J q i j n sx wx u) := by
  refine gm_start (by decide) (Nat.le_of_ble_eq_true rfl) ?_
  intro p' e' s' m' be' me' co' ls C hml hlk hret hh hl
  have hl : lv_has ls 4 [(0, .ref q), (1, .int (nI i)), (2, .int (nI j))] := hl
  refine lv_iconst (v := nI 0) C.1 C.2.1 d_Sp_appendBetween_0 rfl ?_
  refine lv_istore_n (lv' := [(3, .int (nI 0)), (0, .ref q), (1, .int (nI i)), (2, .int (nI j))]) C.1 C.2.1 d_Sp_appendBetween_1 rfl hl (by decide) rfl (fun ls hl => ?_)
  refine lv_iload_n C.1 C.2.1 d_Sp_appendBetween_2 rfl (lv_at hl 0 rfl) ?_
  refine lv_iconst (v := nI 4) C.1 C.2.1 d_Sp_appendBetween_3 rfl ?_
  refine lv_icmp_ge (tgt := 54) C.1 C.2.1 d_Sp_appendBetween_4 (by decide) (fun c_ => absurd c_ (by decide)) (fun c_ => ?_)
  refine lv_aload_n C.1 C.2.1 d_Sp_appendBetween_7 rfl (lv_at hl 1 rfl) ?_
  refine gg_r C hh hs.1 rfl in_Sp 6 (by decide) rfl tw_191 rfl d_Sp_appendBetween_8 ?_
  refine lv_iload_n C.1 C.2.1 d_Sp_appendBetween_11 rfl (lv_at hl 0 rfl) ?_
  refine lv_aload_n C.1 C.2.1 d_Sp_appendBetween_12 rfl (lv_at hl 1 rfl) ?_
  refine gg_r C hh hs.1 rfl in_Sp 5 (by decide) rfl tw_190 rfl d_Sp_appendBetween_13 ?_
  refine lv_iload_n C.1 C.2.1 d_Sp_appendBetween_16 rfl (lv_at hl 2 rfl) ?_
  refine ga_l C hh hs.2.2.2.2.1 (k := i) rfl (by omega) (by omega) d_Sp_appendBetween_17 ?_
  refine lv_aload_n C.1 C.2.1 d_Sp_appendBetween_18 rfl (lv_at hl 1 rfl) ?_
  refine gg_r C hh hs.1 rfl in_Sp 2 (by decide) rfl tw_187 rfl d_Sp_appendBetween_19 ?_
  refine lv_iconst (v := nI 4) C.1 C.2.1 d_Sp_appendBetween_22 rfl ?_
  refine lv_iload_n C.1 C.2.1 d_Sp_appendBetween_23 rfl (lv_at hl 3 rfl) ?_
  refine lv_imul C.1 C.2.1 d_Sp_appendBetween_24 ?_
  refine gm_eqi (pk_mul _ _) ?_
  refine lv_iload_n C.1 C.2.1 d_Sp_appendBetween_25 rfl (lv_at hl 0 rfl) ?_
  refine lv_iadd C.1 C.2.1 d_Sp_appendBetween_26 ?_
  refine gm_eqi (nI_add _ _) ?_
  refine ga_l C hh hs.2.2.1 (k := (4 * j) + 0) rfl (by omega) (by omega) d_Sp_appendBetween_27 ?_
  refine lv_lmul C.1 C.2.1 d_Sp_appendBetween_28 ?_
  refine lv_aload_n C.1 C.2.1 d_Sp_appendBetween_29 rfl (lv_at hl 1 rfl) ?_
  refine gg_r C hh hs.1 rfl in_Sp 5 (by decide) rfl tw_190 rfl d_Sp_appendBetween_30 ?_
  refine lv_iload_n C.1 C.2.1 d_Sp_appendBetween_33 rfl (lv_at hl 3 rfl) ?_
  refine ga_l C hh hs.2.2.2.2.1 (k := j) rfl (by omega) (by omega) d_Sp_appendBetween_34 ?_
  refine lv_aload_n C.1 C.2.1 d_Sp_appendBetween_35 rfl (lv_at hl 1 rfl) ?_
  refine gg_r C hh hs.1 rfl in_Sp 2 (by decide) rfl tw_187 rfl d_Sp_appendBetween_36 ?_
  refine lv_iconst (v := nI 4) C.1 C.2.1 d_Sp_appendBetween_39 rfl ?_
  refine lv_iload_n C.1 C.2.1 d_Sp_appendBetween_40 rfl (lv_at hl 2 rfl) ?_
  refine lv_imul C.1 C.2.1 d_Sp_appendBetween_41 ?_
  refine gm_eqi (pk_mul _ _) ?_
  refine lv_iload_n C.1 C.2.1 d_Sp_appendBetween_42 rfl (lv_at hl 0 rfl) ?_
  refine lv_iadd C.1 C.2.1 d_Sp_appendBetween_43 ?_
  refine gm_eqi (nI_add _ _) ?_
  refine ga_l C hh hs.2.2.1 (k := (4 * i) + 0) rfl (by omega) (by omega) d_Sp_appendBetween_44 ?_
  refine lv_lmul C.1 C.2.1 d_Sp_appendBetween_45 ?_
  refine lv_lsub C.1 C.2.1 d_Sp_appendBetween_46 ?_
  refine gs_l C hh hs.2.2.2.2.2 (k := 0) rfl (by omega) (by omega) d_Sp_appendBetween_47 (fun H locs hh => ?_)
  obtain ⟨J_1, eJ_1⟩ : ∃ z : gm_J, z = gm_up J (q + 5) 0 (((J (q + 4) i) * (J (q + 2) ((4 * j) + 0))) - ((J (q + 4) j) * (J (q + 2) ((4 * i) + 0)))) := ⟨_, rfl⟩
  rw [← eJ_1] at hh
  refine lv_iinc (v := nI 1) (lv' := [(3, .int (nI 1)), (0, .ref q), (1, .int (nI i)), (2, .int (nI j))]) C.1 C.2.1 d_Sp_appendBetween_48 hl (k := 0) rfl (gm_inc 0 1) (by decide) rfl (fun ls hl => ?_)
  refine lv_goto (tgt := 2) C.1 C.2.1 d_Sp_appendBetween_51 (by decide) ?_
  refine lv_iload_n C.1 C.2.1 d_Sp_appendBetween_2 rfl (lv_at hl 0 rfl) ?_
  refine lv_iconst (v := nI 4) C.1 C.2.1 d_Sp_appendBetween_3 rfl ?_
  refine lv_icmp_ge (tgt := 54) C.1 C.2.1 d_Sp_appendBetween_4 (by decide) (fun c_ => absurd c_ (by decide)) (fun c_ => ?_)
  refine lv_aload_n C.1 C.2.1 d_Sp_appendBetween_7 rfl (lv_at hl 1 rfl) ?_
  refine gg_r C hh hs.1 rfl in_Sp 6 (by decide) rfl tw_191 rfl d_Sp_appendBetween_8 ?_
  refine lv_iload_n C.1 C.2.1 d_Sp_appendBetween_11 rfl (lv_at hl 0 rfl) ?_
  refine lv_aload_n C.1 C.2.1 d_Sp_appendBetween_12 rfl (lv_at hl 1 rfl) ?_
  refine gg_r C hh hs.1 rfl in_Sp 5 (by decide) rfl tw_190 rfl d_Sp_appendBetween_13 ?_
  refine lv_iload_n C.1 C.2.1 d_Sp_appendBetween_16 rfl (lv_at hl 2 rfl) ?_
  refine ga_l C hh hs.2.2.2.2.1 (k := i) rfl (by omega) (by omega) d_Sp_appendBetween_17 ?_
  refine gm_eql (y := J (q + 4) i) (by rw [eJ_1, gm_up_ne _ _ (Or.inl (by omega))]) ?_
  refine lv_aload_n C.1 C.2.1 d_Sp_appendBetween_18 rfl (lv_at hl 1 rfl) ?_
  refine gg_r C hh hs.1 rfl in_Sp 2 (by decide) rfl tw_187 rfl d_Sp_appendBetween_19 ?_
  refine lv_iconst (v := nI 4) C.1 C.2.1 d_Sp_appendBetween_22 rfl ?_
  refine lv_iload_n C.1 C.2.1 d_Sp_appendBetween_23 rfl (lv_at hl 3 rfl) ?_
  refine lv_imul C.1 C.2.1 d_Sp_appendBetween_24 ?_
  refine gm_eqi (pk_mul _ _) ?_
  refine lv_iload_n C.1 C.2.1 d_Sp_appendBetween_25 rfl (lv_at hl 0 rfl) ?_
  refine lv_iadd C.1 C.2.1 d_Sp_appendBetween_26 ?_
  refine gm_eqi (nI_add _ _) ?_
  refine ga_l C hh hs.2.2.1 (k := (4 * j) + 1) rfl (by omega) (by omega) d_Sp_appendBetween_27 ?_
  refine gm_eql (y := J (q + 2) ((4 * j) + 1)) (by rw [eJ_1, gm_up_ne _ _ (Or.inl (by omega))]) ?_
  refine lv_lmul C.1 C.2.1 d_Sp_appendBetween_28 ?_
  refine lv_aload_n C.1 C.2.1 d_Sp_appendBetween_29 rfl (lv_at hl 1 rfl) ?_
  refine gg_r C hh hs.1 rfl in_Sp 5 (by decide) rfl tw_190 rfl d_Sp_appendBetween_30 ?_
  refine lv_iload_n C.1 C.2.1 d_Sp_appendBetween_33 rfl (lv_at hl 3 rfl) ?_
  refine ga_l C hh hs.2.2.2.2.1 (k := j) rfl (by omega) (by omega) d_Sp_appendBetween_34 ?_
  refine gm_eql (y := J (q + 4) j) (by rw [eJ_1, gm_up_ne _ _ (Or.inl (by omega))]) ?_
  refine lv_aload_n C.1 C.2.1 d_Sp_appendBetween_35 rfl (lv_at hl 1 rfl) ?_
  refine gg_r C hh hs.1 rfl in_Sp 2 (by decide) rfl tw_187 rfl d_Sp_appendBetween_36 ?_
  refine lv_iconst (v := nI 4) C.1 C.2.1 d_Sp_appendBetween_39 rfl ?_
  refine lv_iload_n C.1 C.2.1 d_Sp_appendBetween_40 rfl (lv_at hl 2 rfl) ?_
  refine lv_imul C.1 C.2.1 d_Sp_appendBetween_41 ?_
  refine gm_eqi (pk_mul _ _) ?_
  refine lv_iload_n C.1 C.2.1 d_Sp_appendBetween_42 rfl (lv_at hl 0 rfl) ?_
  refine lv_iadd C.1 C.2.1 d_Sp_appendBetween_43 ?_
  refine gm_eqi (nI_add _ _) ?_
  refine ga_l C hh hs.2.2.1 (k := (4 * i) + 1) rfl (by omega) (by omega) d_Sp_appendBetween_44 ?_
  refine gm_eql (y := J (q + 2) ((4 * i) + 1)) (by rw [eJ_1, gm_up_ne _ _ (Or.inl (by omega))]) ?_
  refine lv_lmul C.1 C.2.1 d_Sp_appendBetween_45 ?_
  refine lv_lsub C.1 C.2.1 d_Sp_appendBetween_46 ?_
  refine gs_l C hh hs.2.2.2.2.2 (k := 1) rfl (by omega) (by omega) d_Sp_appendBetween_47 (fun H locs hh => ?_)
  obtain ⟨J_2, eJ_2⟩ : ∃ z : gm_J, z = gm_up J_1 (q + 5) 1 (((J (q + 4) i) * (J (q + 2) ((4 * j) + 1))) - ((J (q + 4) j) * (J (q + 2) ((4 * i) + 1)))) := ⟨_, rfl⟩
  rw [← eJ_2] at hh
  refine lv_iinc (v := nI 2) (lv' := [(3, .int (nI 2)), (0, .ref q), (1, .int (nI i)), (2, .int (nI j))]) C.1 C.2.1 d_Sp_appendBetween_48 hl (k := 0) rfl (gm_inc 1 1) (by decide) rfl (fun ls hl => ?_)
  refine lv_goto (tgt := 2) C.1 C.2.1 d_Sp_appendBetween_51 (by decide) ?_
  refine lv_iload_n C.1 C.2.1 d_Sp_appendBetween_2 rfl (lv_at hl 0 rfl) ?_
  refine lv_iconst (v := nI 4) C.1 C.2.1 d_Sp_appendBetween_3 rfl ?_
  refine lv_icmp_ge (tgt := 54) C.1 C.2.1 d_Sp_appendBetween_4 (by decide) (fun c_ => absurd c_ (by decide)) (fun c_ => ?_)
  refine lv_aload_n C.1 C.2.1 d_Sp_appendBetween_7 rfl (lv_at hl 1 rfl) ?_
  refine gg_r C hh hs.1 rfl in_Sp 6 (by decide) rfl tw_191 rfl d_Sp_appendBetween_8 ?_
  refine lv_iload_n C.1 C.2.1 d_Sp_appendBetween_11 rfl (lv_at hl 0 rfl) ?_
  refine lv_aload_n C.1 C.2.1 d_Sp_appendBetween_12 rfl (lv_at hl 1 rfl) ?_
  refine gg_r C hh hs.1 rfl in_Sp 5 (by decide) rfl tw_190 rfl d_Sp_appendBetween_13 ?_
  refine lv_iload_n C.1 C.2.1 d_Sp_appendBetween_16 rfl (lv_at hl 2 rfl) ?_
  refine ga_l C hh hs.2.2.2.2.1 (k := i) rfl (by omega) (by omega) d_Sp_appendBetween_17 ?_
  refine gm_eql (y := J (q + 4) i) (by rw [eJ_2, gm_up_ne _ _ (Or.inl (by omega)), eJ_1, gm_up_ne _ _ (Or.inl (by omega))]) ?_
  refine lv_aload_n C.1 C.2.1 d_Sp_appendBetween_18 rfl (lv_at hl 1 rfl) ?_
  refine gg_r C hh hs.1 rfl in_Sp 2 (by decide) rfl tw_187 rfl d_Sp_appendBetween_19 ?_
  refine lv_iconst (v := nI 4) C.1 C.2.1 d_Sp_appendBetween_22 rfl ?_
  refine lv_iload_n C.1 C.2.1 d_Sp_appendBetween_23 rfl (lv_at hl 3 rfl) ?_
  refine lv_imul C.1 C.2.1 d_Sp_appendBetween_24 ?_
  refine gm_eqi (pk_mul _ _) ?_
  refine lv_iload_n C.1 C.2.1 d_Sp_appendBetween_25 rfl (lv_at hl 0 rfl) ?_
  refine lv_iadd C.1 C.2.1 d_Sp_appendBetween_26 ?_
  refine gm_eqi (nI_add _ _) ?_
  refine ga_l C hh hs.2.2.1 (k := (4 * j) + 2) rfl (by omega) (by omega) d_Sp_appendBetween_27 ?_
  refine gm_eql (y := J (q + 2) ((4 * j) + 2)) (by rw [eJ_2, gm_up_ne _ _ (Or.inl (by omega)), eJ_1, gm_up_ne _ _ (Or.inl (by omega))]) ?_
  refine lv_lmul C.1 C.2.1 d_Sp_appendBetween_28 ?_
  refine lv_aload_n C.1 C.2.1 d_Sp_appendBetween_29 rfl (lv_at hl 1 rfl) ?_
  refine gg_r C hh hs.1 rfl in_Sp 5 (by decide) rfl tw_190 rfl d_Sp_appendBetween_30 ?_
  refine lv_iload_n C.1 C.2.1 d_Sp_appendBetween_33 rfl (lv_at hl 3 rfl) ?_
  refine ga_l C hh hs.2.2.2.2.1 (k := j) rfl (by omega) (by omega) d_Sp_appendBetween_34 ?_
  refine gm_eql (y := J (q + 4) j) (by rw [eJ_2, gm_up_ne _ _ (Or.inl (by omega)), eJ_1, gm_up_ne _ _ (Or.inl (by omega))]) ?_
  refine lv_aload_n C.1 C.2.1 d_Sp_appendBetween_35 rfl (lv_at hl 1 rfl) ?_
  refine gg_r C hh hs.1 rfl in_Sp 2 (by decide) rfl tw_187 rfl d_Sp_appendBetween_36 ?_
  refine lv_iconst (v := nI 4) C.1 C.2.1 d_Sp_appendBetween_39 rfl ?_
  refine lv_iload_n C.1 C.2.1 d_Sp_appendBetween_40 rfl (lv_at hl 2 rfl) ?_
  refine lv_imul C.1 C.2.1 d_Sp_appendBetween_41 ?_
  refine gm_eqi (pk_mul _ _) ?_
  refine lv_iload_n C.1 C.2.1 d_Sp_appendBetween_42 rfl (lv_at hl 0 rfl) ?_
  refine lv_iadd C.1 C.2.1 d_Sp_appendBetween_43 ?_
  refine gm_eqi (nI_add _ _) ?_
  refine ga_l C hh hs.2.2.1 (k := (4 * i) + 2) rfl (by omega) (by omega) d_Sp_appendBetween_44 ?_
  refine gm_eql (y := J (q + 2) ((4 * i) + 2)) (by rw [eJ_2, gm_up_ne _ _ (Or.inl (by omega)), eJ_1, gm_up_ne _ _ (Or.inl (by omega))]) ?_
  refine lv_lmul C.1 C.2.1 d_Sp_appendBetween_45 ?_
  refine lv_lsub C.1 C.2.1 d_Sp_appendBetween_46 ?_
  refine gs_l C hh hs.2.2.2.2.2 (k := 2) rfl (by omega) (by omega) d_Sp_appendBetween_47 (fun H locs hh => ?_)
  obtain ⟨J_3, eJ_3⟩ : ∃ z : gm_J, z = gm_up J_2 (q + 5) 2 (((J (q + 4) i) * (J (q + 2) ((4 * j) + 2))) - ((J (q + 4) j) * (J (q + 2) ((4 * i) + 2)))) := ⟨_, rfl⟩
  rw [← eJ_3] at hh
  refine lv_iinc (v := nI 3) (lv' := [(3, .int (nI 3)), (0, .ref q), (1, .int (nI i)), (2, .int (nI j))]) C.1 C.2.1 d_Sp_appendBetween_48 hl (k := 0) rfl (gm_inc 2 1) (by decide) rfl (fun ls hl => ?_)
  refine lv_goto (tgt := 2) C.1 C.2.1 d_Sp_appendBetween_51 (by decide) ?_
  refine lv_iload_n C.1 C.2.1 d_Sp_appendBetween_2 rfl (lv_at hl 0 rfl) ?_
  refine lv_iconst (v := nI 4) C.1 C.2.1 d_Sp_appendBetween_3 rfl ?_
  refine lv_icmp_ge (tgt := 54) C.1 C.2.1 d_Sp_appendBetween_4 (by decide) (fun c_ => absurd c_ (by decide)) (fun c_ => ?_)
  refine lv_aload_n C.1 C.2.1 d_Sp_appendBetween_7 rfl (lv_at hl 1 rfl) ?_
  refine gg_r C hh hs.1 rfl in_Sp 6 (by decide) rfl tw_191 rfl d_Sp_appendBetween_8 ?_
  refine lv_iload_n C.1 C.2.1 d_Sp_appendBetween_11 rfl (lv_at hl 0 rfl) ?_
  refine lv_aload_n C.1 C.2.1 d_Sp_appendBetween_12 rfl (lv_at hl 1 rfl) ?_
  refine gg_r C hh hs.1 rfl in_Sp 5 (by decide) rfl tw_190 rfl d_Sp_appendBetween_13 ?_
  refine lv_iload_n C.1 C.2.1 d_Sp_appendBetween_16 rfl (lv_at hl 2 rfl) ?_
  refine ga_l C hh hs.2.2.2.2.1 (k := i) rfl (by omega) (by omega) d_Sp_appendBetween_17 ?_
  refine gm_eql (y := J (q + 4) i) (by rw [eJ_3, gm_up_ne _ _ (Or.inl (by omega)), eJ_2, gm_up_ne _ _ (Or.inl (by omega)), eJ_1, gm_up_ne _ _ (Or.inl (by omega))]) ?_
  refine lv_aload_n C.1 C.2.1 d_Sp_appendBetween_18 rfl (lv_at hl 1 rfl) ?_
  refine gg_r C hh hs.1 rfl in_Sp 2 (by decide) rfl tw_187 rfl d_Sp_appendBetween_19 ?_
  refine lv_iconst (v := nI 4) C.1 C.2.1 d_Sp_appendBetween_22 rfl ?_
  refine lv_iload_n C.1 C.2.1 d_Sp_appendBetween_23 rfl (lv_at hl 3 rfl) ?_
  refine lv_imul C.1 C.2.1 d_Sp_appendBetween_24 ?_
  refine gm_eqi (pk_mul _ _) ?_
  refine lv_iload_n C.1 C.2.1 d_Sp_appendBetween_25 rfl (lv_at hl 0 rfl) ?_
  refine lv_iadd C.1 C.2.1 d_Sp_appendBetween_26 ?_
  refine gm_eqi (nI_add _ _) ?_
  refine ga_l C hh hs.2.2.1 (k := (4 * j) + 3) rfl (by omega) (by omega) d_Sp_appendBetween_27 ?_
  refine gm_eql (y := J (q + 2) ((4 * j) + 3)) (by rw [eJ_3, gm_up_ne _ _ (Or.inl (by omega)), eJ_2, gm_up_ne _ _ (Or.inl (by omega)), eJ_1, gm_up_ne _ _ (Or.inl (by omega))]) ?_
  refine lv_lmul C.1 C.2.1 d_Sp_appendBetween_28 ?_
  refine lv_aload_n C.1 C.2.1 d_Sp_appendBetween_29 rfl (lv_at hl 1 rfl) ?_
  refine gg_r C hh hs.1 rfl in_Sp 5 (by decide) rfl tw_190 rfl d_Sp_appendBetween_30 ?_
  refine lv_iload_n C.1 C.2.1 d_Sp_appendBetween_33 rfl (lv_at hl 3 rfl) ?_
  refine ga_l C hh hs.2.2.2.2.1 (k := j) rfl (by omega) (by omega) d_Sp_appendBetween_34 ?_
  refine gm_eql (y := J (q + 4) j) (by rw [eJ_3, gm_up_ne _ _ (Or.inl (by omega)), eJ_2, gm_up_ne _ _ (Or.inl (by omega)), eJ_1, gm_up_ne _ _ (Or.inl (by omega))]) ?_
  refine lv_aload_n C.1 C.2.1 d_Sp_appendBetween_35 rfl (lv_at hl 1 rfl) ?_
  refine gg_r C hh hs.1 rfl in_Sp 2 (by decide) rfl tw_187 rfl d_Sp_appendBetween_36 ?_
  refine lv_iconst (v := nI 4) C.1 C.2.1 d_Sp_appendBetween_39 rfl ?_
  refine lv_iload_n C.1 C.2.1 d_Sp_appendBetween_40 rfl (lv_at hl 2 rfl) ?_
  refine lv_imul C.1 C.2.1 d_Sp_appendBetween_41 ?_
  refine gm_eqi (pk_mul _ _) ?_
  refine lv_iload_n C.1 C.2.1 d_Sp_appendBetween_42 rfl (lv_at hl 0 rfl) ?_
  refine lv_iadd C.1 C.2.1 d_Sp_appendBetween_43 ?_
  refine gm_eqi (nI_add _ _) ?_
  refine ga_l C hh hs.2.2.1 (k := (4 * i) + 3) rfl (by omega) (by omega) d_Sp_appendBetween_44 ?_
  refine gm_eql (y := J (q + 2) ((4 * i) + 3)) (by rw [eJ_3, gm_up_ne _ _ (Or.inl (by omega)), eJ_2, gm_up_ne _ _ (Or.inl (by omega)), eJ_1, gm_up_ne _ _ (Or.inl (by omega))]) ?_
  refine lv_lmul C.1 C.2.1 d_Sp_appendBetween_45 ?_
  refine lv_lsub C.1 C.2.1 d_Sp_appendBetween_46 ?_
  refine gs_l C hh hs.2.2.2.2.2 (k := 3) rfl (by omega) (by omega) d_Sp_appendBetween_47 (fun H locs hh => ?_)
  obtain ⟨J_4, eJ_4⟩ : ∃ z : gm_J, z = gm_up J_3 (q + 5) 3 (((J (q + 4) i) * (J (q + 2) ((4 * j) + 3))) - ((J (q + 4) j) * (J (q + 2) ((4 * i) + 3)))) := ⟨_, rfl⟩
  rw [← eJ_4] at hh
  refine lv_iinc (v := nI 4) (lv' := [(3, .int (nI 4)), (0, .ref q), (1, .int (nI i)), (2, .int (nI j))]) C.1 C.2.1 d_Sp_appendBetween_48 hl (k := 0) rfl (gm_inc 3 1) (by decide) rfl (fun ls hl => ?_)
  refine lv_goto (tgt := 2) C.1 C.2.1 d_Sp_appendBetween_51 (by decide) ?_
  refine lv_iload_n C.1 C.2.1 d_Sp_appendBetween_2 rfl (lv_at hl 0 rfl) ?_
  refine lv_iconst (v := nI 4) C.1 C.2.1 d_Sp_appendBetween_3 rfl ?_
  refine lv_icmp_ge (tgt := 54) C.1 C.2.1 d_Sp_appendBetween_4 (by decide) (fun c_ => ?_) (fun c_ => absurd (by decide) c_)
  refine lv_aload_n C.1 C.2.1 d_Sp_appendBetween_54 rfl (lv_at hl 1 rfl) ?_
  refine gg_r C hh hs.1 rfl in_Sp 6 (by decide) rfl tw_191 rfl d_Sp_appendBetween_55 ?_
  refine lv_iconst (v := nI 0) C.1 C.2.1 d_Sp_appendBetween_58 rfl ?_
  have e4_ : J_4 = sp_up4 J (q + 5) 0 (J (q + 4) i * J (q + 2) (4 * j) - J (q + 4) j * J (q + 2) (4 * i)) (J (q + 4) i * J (q + 2) (4 * j + 1) - J (q + 4) j * J (q + 2) (4 * i + 1)) (J (q + 4) i * J (q + 2) (4 * j + 2) - J (q + 4) j * J (q + 2) (4 * i + 2)) (J (q + 4) i * J (q + 2) (4 * j + 3) - J (q + 4) j * J (q + 2) (4 * i + 3)) := by subst eJ_1 eJ_2 eJ_3 eJ_4; rfl
  have v4_ := sp_btw_eq e4_ hs1 hs2 hv1 hv2
  refine gc_v hh (gc_runS (As := [.ref (q + 5), .int (nI 0)]) (rest := []) (n := 2) C hml hh (c_Sp_reduceQ l D cs sh sz I J_4 (q + 5) 4 0 hs.2.2.2.2.2 (by omega) (by omega) v4_.2) (tg_S tw_359 tw_360 tw_63 tw_361) (by decide +kernel) ⟨rfl, rfl, by decide, by decide, Nat.zero_le _, Nat.zero_le _⟩ rfl hl.1 rfl (Nat.le_of_ble_eq_true rfl) d_Sp_appendBetween_59) (fun I_6 J_7 H locs hr_5 hh => ?_)
  have ehr_5 : I_6 = I := hr_5.1
  rw [ehr_5] at hh hr_5
  refine lv_aload_n C.1 C.2.1 d_Sp_appendBetween_62 rfl (lv_at hl 1 rfl) ?_
  refine lv_aload_n C.1 C.2.1 d_Sp_appendBetween_63 rfl (lv_at hl 1 rfl) ?_
  refine gg_r C hh hs.1 rfl in_Sp 4 (by decide) rfl tw_189 rfl d_Sp_appendBetween_64 ?_
  refine lv_iload_n C.1 C.2.1 d_Sp_appendBetween_67 rfl (lv_at hl 2 rfl) ?_
  refine ga_i C hh hs.2.2.2.1 (k := i) rfl (by omega) (by omega) d_Sp_appendBetween_68 ?_
  refine lv_aload_n C.1 C.2.1 d_Sp_appendBetween_69 rfl (lv_at hl 1 rfl) ?_
  refine gg_r C hh hs.1 rfl in_Sp 4 (by decide) rfl tw_189 rfl d_Sp_appendBetween_70 ?_
  refine lv_iload_n C.1 C.2.1 d_Sp_appendBetween_73 rfl (lv_at hl 3 rfl) ?_
  refine ga_i C hh hs.2.2.2.1 (k := j) rfl (by omega) (by omega) d_Sp_appendBetween_74 ?_
  refine lv_iand C.1 C.2.1 d_Sp_appendBetween_75 ?_
  refine lv_aload_n C.1 C.2.1 d_Sp_appendBetween_76 rfl (lv_at hl 1 rfl) ?_
  refine gg_i C hh hs.1 rfl in_Sp 7 (by decide) rfl tw_192 rfl d_Sp_appendBetween_77 ?_
  refine lv_ior C.1 C.2.1 d_Sp_appendBetween_80 ?_
  refine gc_v hh (gc_runV (As := [.int (((I (q + 3) i) &&& (I (q + 3) j)) ||| (I q 7))]) (rest := []) (n := 1) C hml hh (c_Sp_appendPivot l D cs sh sz I J_7 q hs n en hn32 (((I (q + 3) i) &&& (I (q + 3) j)) ||| (I q 7))) (tg_V tw_334 tw_336 tw_6 tw_63 tw_337) (by decide +kernel) ⟨rfl, rfl, by decide, by decide, Nat.zero_le _, Nat.zero_le _⟩ hs.1 rfl rfl hl.1 rfl (Nat.le_of_ble_eq_true rfl) d_Sp_appendBetween_81) (fun I_9 J_10 H locs hr_8 hh => ?_)
  exact gr_v C hlk hret hh (by exact sp_btw_post e4_ v4_.1 hr_5 hr_8) d_Sp_appendBetween_84
