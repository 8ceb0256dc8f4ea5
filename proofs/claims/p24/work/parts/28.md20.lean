set_option maxHeartbeats 4000000 in
set_option maxRecDepth 100000 in
theorem c_Md_space (l : Launch) (D : va_G) (cs : Nat → ClassId) (sh : gm_H) (sz : Nat) (I : gm_I) (J : gm_J) (r : Nat) (hM : is_Md sh r) (hV : inv_Md I r) (j : Nat) (hj : j < 8) (k : Nat) (hk : k < 3) (g t : Nat) (hg : g ≤ 4) (ht : t ≤ 2) (eg : I (r + 3) j = nI g) (et : I (r + 5) (3 * j + k) = nI t) (e : Int32) (b : Bool) (he : e = bI b) : CV l y_Md_space w_Md_space { frames := 1, cells := 0, slots := 0, locals := 28 } D cs sh sz I J [.ref r, .int (nI j), .int (nI k), .int e] (fun u => u = (gm_up I r 15 (nI (g + t + b.toNat)), spJ J r (g + t + b.toNat) (rowF I J r j k g t))) := by
  refine gm_start (by decide) (Nat.le_of_ble_eq_true rfl) ?_
  intro p' e' s' m' be' me' co' ls C hml hlk hret hh hl
  have hl : lv_has ls 7 [(0, .ref r), (1, .int (nI j)), (2, .int (nI k)), (3, .int e)] := hl
  refine lv_aload_n C.1 C.2.1 d_Md_space_0 rfl (lv_at hl 0 rfl) ?_
  refine lv_iconst (v := nI 0) C.1 C.2.1 d_Md_space_1 rfl ?_
  refine gp_i (ty := .int) C hh (Md_0 hM) rfl in_Md t_Md t_Md_ok n_Md 15 (by decide) rfl tw_580 rfl rfl (by decide +kernel) rfl rfl d_Md_space_2 (fun H locs hh => ?_)
  obtain ⟨I_1, eI_1⟩ : ∃ z : gm_I, z = gm_up I r 15 (nI 0) := ⟨_, rfl⟩
  rw [← eI_1] at hh
  refine lv_iconst (v := nI 0) C.1 C.2.1 d_Md_space_5 rfl ?_
  refine lv_istore (lv' := [(4, .int (nI 0)), (0, .ref r), (1, .int (nI j)), (2, .int (nI k)), (3, .int e)]) C.1 C.2.1 d_Md_space_6 hl (by decide) rfl (fun ls hl => ?_)
  have hh : gm_St D cs sh (gm_A sh) s'.heap sz (gm_up I r 15 (nI 0)) (spJ J r 0 (rowF I J r j k g t)) H locs := by rw [spJ_0]; rw [eI_1] at hh; exact hh
  have K8 : ∀ (n_8 : Nat) (i : Nat) (hi : i ≤ g) (hm_8 : g - i < n_8), ∀ (H : Heap) (locs : List Loc) (ls : Array Slot), gm_St D cs sh (gm_A sh) s'.heap sz (gm_up I r 15 (nI i)) (spJ J r i (rowF I J r j k g t)) H locs → lv_has ls 7 [(0, .ref r), (1, .int (nI j)), (2, .int (nI k)), (3, .int e), (4, .int (nI i))] → W p' l e' { frames := 1, cells := 0, slots := 0, locals := 28 } s' m' ([.ref r, .int (nI j), .int (nI k), .int e] : List Value).toArray be' me' co' H locs 0 0 (MQ be' (va_Qv (fun u => u = (gm_up I r 15 (nI (g + t + b.toNat)), spJ J r (g + t + b.toNat) (rowF I J r j k g t))) (gm_B D cs sh sz) (gm_A sh)) ([.ref r, .int (nI j), .int (nI k), .int e] : List Value).toArray s' 0 0 (gm_A sh)) (F0 m' 8 ls []) := by
    intro n_8
    induction n_8 with
    | zero => intro i hi hm_8; exact absurd hm_8 (Nat.not_lt_zero _)
    | succ n_8 ih8 =>
      intro i hi hm_8 H locs ls hh hl
      refine lv_iload C.1 C.2.1 d_Md_space_8 (lv_at hl 4 rfl) ?_
      refine lv_aload_n C.1 C.2.1 d_Md_space_10 rfl (lv_at hl 0 rfl) ?_
      refine gg_r C hh (Md_0 hM) rfl in_Md 3 (by decide) rfl tw_568 rfl d_Md_space_11 ?_
      refine lv_iload_n C.1 C.2.1 d_Md_space_14 rfl (lv_at hl 1 rfl) ?_
      refine ga_i C hh (Md_3 hM) (k := j) rfl (by omega) (by omega) d_Md_space_15 ?_
      refine gm_eqi (y := I (r + 3) j) (by exact gm_up_ne _ _ (Or.inl (by omega))) ?_
      refine gm_eqi eg ?_
      refine lv_icmp_ge (tgt := 78) C.1 C.2.1 d_Md_space_16 (by decide) (fun c_2 => ?_) (fun c_2 => ?_)
      · -- 16 -> 78
        have c_2 := gm_get (by omega) (by omega) c_2
        have c_2' := Nat.not_lt.mpr c_2
        refine lv_iconst (v := nI 3) C.1 C.2.1 d_Md_space_78 rfl ?_
        refine lv_iload_n C.1 C.2.1 d_Md_space_79 rfl (lv_at hl 1 rfl) ?_
        refine lv_imul C.1 C.2.1 d_Md_space_80 ?_
        refine gm_eqi (pk_mul _ _) ?_
        refine lv_iload_n C.1 C.2.1 d_Md_space_81 rfl (lv_at hl 2 rfl) ?_
        refine lv_iadd C.1 C.2.1 d_Md_space_82 ?_
        refine gm_eqi (nI_add _ _) ?_
        refine lv_istore (lv' := [(4, .int (nI ((3 * j) + k))), (0, .ref r), (1, .int (nI j)), (2, .int (nI k)), (3, .int e)]) C.1 C.2.1 d_Md_space_83 hl (by decide) rfl (fun ls hl => ?_)
        refine lv_iconst (v := nI 0) C.1 C.2.1 d_Md_space_85 rfl ?_
        refine lv_istore (lv' := [(5, .int (nI 0)), (4, .int (nI ((3 * j) + k))), (0, .ref r), (1, .int (nI j)), (2, .int (nI k)), (3, .int e)]) C.1 C.2.1 d_Md_space_86 hl (by decide) rfl (fun ls hl => ?_)
        have hig : i = g := by omega
        rw [hig] at hh
        have hh : gm_St D cs sh (gm_A sh) s'.heap sz (gm_up I r 15 (nI (g + 0))) (spJ J r (g + 0) (rowF I J r j k g t)) H locs := hh
        have K88 : ∀ (n_88 : Nat) (a : Nat) (ha : a ≤ t) (hm_88 : t - a < n_88), ∀ (H : Heap) (locs : List Loc) (ls : Array Slot), gm_St D cs sh (gm_A sh) s'.heap sz (gm_up I r 15 (nI (g + a))) (spJ J r (g + a) (rowF I J r j k g t)) H locs → lv_has ls 7 [(0, .ref r), (1, .int (nI j)), (2, .int (nI k)), (3, .int e), (4, .int (nI ((3 * j) + k))), (5, .int (nI a))] → W p' l e' { frames := 1, cells := 0, slots := 0, locals := 28 } s' m' ([.ref r, .int (nI j), .int (nI k), .int e] : List Value).toArray be' me' co' H locs 0 0 (MQ be' (va_Qv (fun u => u = (gm_up I r 15 (nI (g + t + b.toNat)), spJ J r (g + t + b.toNat) (rowF I J r j k g t))) (gm_B D cs sh sz) (gm_A sh)) ([.ref r, .int (nI j), .int (nI k), .int e] : List Value).toArray s' 0 0 (gm_A sh)) (F0 m' 88 ls []) := by
          intro n_88
          induction n_88 with
          | zero => intro a ha hm_88; exact absurd hm_88 (Nat.not_lt_zero _)
          | succ n_88 ih88 =>
            intro a ha hm_88 H locs ls hh hl
            refine lv_iload C.1 C.2.1 d_Md_space_88 (lv_at hl 5 rfl) ?_
            refine lv_aload_n C.1 C.2.1 d_Md_space_90 rfl (lv_at hl 0 rfl) ?_
            refine gg_r C hh (Md_0 hM) rfl in_Md 5 (by decide) rfl tw_570 rfl d_Md_space_91 ?_
            refine lv_iload C.1 C.2.1 d_Md_space_94 (lv_at hl 4 rfl) ?_
            refine ga_i C hh (Md_5 hM) (k := (3 * j) + k) rfl (by omega) (by omega) d_Md_space_96 ?_
            refine gm_eqi (y := I (r + 5) ((3 * j) + k)) (by exact gm_up_ne _ _ (Or.inl (by omega))) ?_
            refine gm_eqi et ?_
            refine lv_icmp_ge (tgt := 160) C.1 C.2.1 d_Md_space_97 (by decide) (fun c_3 => ?_) (fun c_3 => ?_)
            · -- 97 -> 160
              have c_3 := gm_get (by omega) (by omega) c_3
              have c_3' := Nat.not_lt.mpr c_3
              refine lv_iload_n C.1 C.2.1 d_Md_space_160 rfl (lv_at hl 3 rfl) ?_
              refine lv_if_eq (tgt := 184) C.1 C.2.1 d_Md_space_161 (by decide) (fun c_4 => ?_) (fun c_4 => ?_)
              · -- 161 -> 184
                skip
                exact gr_v C hlk hret hh (by first | (rw [show b = false from bI_f he (by assumption), show a = t by omega]; rfl) | (rw [show b = true from bI_t he (by assumption), show a = t by omega]; rfl)) d_Md_space_184
              · -- 161 -> 164
                skip
                refine lv_aload_n C.1 C.2.1 d_Md_space_164 rfl (lv_at hl 0 rfl) ?_
                refine lv_aload_n C.1 C.2.1 d_Md_space_165 rfl (lv_at hl 0 rfl) ?_
                refine gg_l C hh (Md_0 hM) rfl in_Md 29 (by decide) rfl tw_594 rfl d_Md_space_166 ?_
                refine gm_eql (y := J r 29) (by exact spJ_o (by omega)) ?_
                refine lv_aload_n C.1 C.2.1 d_Md_space_169 rfl (lv_at hl 0 rfl) ?_
                refine gg_l C hh (Md_0 hM) rfl in_Md 30 (by decide) rfl tw_595 rfl d_Md_space_170 ?_
                refine gm_eql (y := J r 30) (by exact spJ_o (by omega)) ?_
                refine lv_aload_n C.1 C.2.1 d_Md_space_173 rfl (lv_at hl 0 rfl) ?_
                refine gg_l C hh (Md_0 hM) rfl in_Md 31 (by decide) rfl tw_596 rfl d_Md_space_174 ?_
                refine gm_eql (y := J r 31) (by exact spJ_o (by omega)) ?_
                refine lv_aload_n C.1 C.2.1 d_Md_space_177 rfl (lv_at hl 0 rfl) ?_
                refine gg_l C hh (Md_0 hM) rfl in_Md 32 (by decide) rfl tw_597 rfl d_Md_space_178 ?_
                refine gm_eql (y := J r 32) (by exact spJ_o (by omega)) ?_
                refine gc_v hh (gc_runV (As := [.long (J r 29), .long (J r 30), .long (J r 31), .long (J r 32)]) (rest := []) (n := 4) C hml hh (c_Md_comes l D cs sh sz (gm_up I r 15 (nI (g + a))) (spJ J r (g + a) (rowF I J r j k g t)) r hM (g + a) (gm_up_same _ _ _ _) (by omega) (J r 29) (J r 30) (J r 31) (J r 32)) (tg_V tw_746 tw_748 tw_32 tw_64 tw_749) (by decide +kernel) ⟨rfl, rfl, by decide, by decide, Nat.zero_le _, Nat.zero_le _⟩ (Md_0 hM) rfl rfl hl.1 rfl (Nat.le_of_ble_eq_true rfl) d_Md_space_181) (fun I_6 J_7 H locs hr_5 hh => ?_)
                rw [gm_up_up, spJ_up (f := (rowF I J r j k g t)) (by simp only [rowF]; rw [if_neg (by omega), if_neg (by omega)]; try rfl) (by simp only [rowF]; rw [if_neg (by omega), if_neg (by omega)]; try rfl) (by simp only [rowF]; rw [if_neg (by omega), if_neg (by omega)]; try rfl) (by simp only [rowF]; rw [if_neg (by omega), if_neg (by omega)]; try rfl)] at hr_5
                rw [(Prod.mk.inj hr_5).1, (Prod.mk.inj hr_5).2] at hh
                exact gr_v C hlk hret hh (by first | (rw [show b = false from bI_f he (by assumption), show a = t by omega]; rfl) | (rw [show b = true from bI_t he (by assumption), show a = t by omega]; rfl)) d_Md_space_184
            · -- 97 -> 100
              have c_3 := gm_gef (by omega) (by omega) c_3
              have c_3' := Nat.not_le.mpr c_3
              refine lv_bipush (v := nI 8) C.1 C.2.1 d_Md_space_100 rfl ?_
              refine lv_iload C.1 C.2.1 d_Md_space_102 (lv_at hl 4 rfl) ?_
              refine lv_imul C.1 C.2.1 d_Md_space_104 ?_
              refine gm_eqi (pk_mul _ _) ?_
              refine lv_iconst (v := nI 4) C.1 C.2.1 d_Md_space_105 rfl ?_
              refine lv_iload C.1 C.2.1 d_Md_space_106 (lv_at hl 5 rfl) ?_
              refine lv_imul C.1 C.2.1 d_Md_space_108 ?_
              refine gm_eqi (pk_mul _ _) ?_
              refine lv_iadd C.1 C.2.1 d_Md_space_109 ?_
              refine gm_eqi (nI_add _ _) ?_
              refine lv_istore (lv' := [(6, .int (nI ((8 * ((3 * j) + k)) + (4 * a)))), (0, .ref r), (1, .int (nI j)), (2, .int (nI k)), (3, .int e), (4, .int (nI ((3 * j) + k))), (5, .int (nI a))]) C.1 C.2.1 d_Md_space_110 hl (by decide) rfl (fun ls hl => ?_)
              refine lv_aload_n C.1 C.2.1 d_Md_space_112 rfl (lv_at hl 1 rfl) ?_
              refine lv_aload_n C.1 C.2.1 d_Md_space_113 rfl (lv_at hl 1 rfl) ?_
              refine gg_r C hh (Md_0 hM) rfl in_Md 6 (by decide) rfl tw_571 rfl d_Md_space_114 ?_
              refine lv_iload C.1 C.2.1 d_Md_space_117 (lv_at hl 0 rfl) ?_
              refine ga_i C hh (Md_6 hM) (k := (8 * ((3 * j) + k)) + (4 * a)) rfl (by omega) (by omega) d_Md_space_119 ?_
              refine gm_eqi (y := I (r + 6) ((8 * ((3 * j) + k)) + (4 * a))) (by exact gm_up_ne _ _ (Or.inl (by omega))) ?_
              refine lv_i2l (v := (I (r + 6) ((8 * ((3 * j) + k)) + (4 * a))).toInt64) C.1 C.2.1 d_Md_space_120 rfl ?_
              refine lv_aload_n C.1 C.2.1 d_Md_space_121 rfl (lv_at hl 1 rfl) ?_
              refine gg_r C hh (Md_0 hM) rfl in_Md 6 (by decide) rfl tw_571 rfl d_Md_space_122 ?_
              refine lv_iload C.1 C.2.1 d_Md_space_125 (lv_at hl 0 rfl) ?_
              refine lv_iconst (v := nI 1) C.1 C.2.1 d_Md_space_127 rfl ?_
              refine lv_iadd C.1 C.2.1 d_Md_space_128 ?_
              refine gm_eqi (nI_add _ _) ?_
              refine ga_i C hh (Md_6 hM) (k := ((8 * ((3 * j) + k)) + (4 * a)) + 1) rfl (by omega) (by omega) d_Md_space_129 ?_
              refine gm_eqi (y := I (r + 6) (((8 * ((3 * j) + k)) + (4 * a)) + 1)) (by exact gm_up_ne _ _ (Or.inl (by omega))) ?_
              refine lv_i2l (v := (I (r + 6) (((8 * ((3 * j) + k)) + (4 * a)) + 1)).toInt64) C.1 C.2.1 d_Md_space_130 rfl ?_
              refine lv_aload_n C.1 C.2.1 d_Md_space_131 rfl (lv_at hl 1 rfl) ?_
              refine gg_r C hh (Md_0 hM) rfl in_Md 6 (by decide) rfl tw_571 rfl d_Md_space_132 ?_
              refine lv_iload C.1 C.2.1 d_Md_space_135 (lv_at hl 0 rfl) ?_
              refine lv_iconst (v := nI 2) C.1 C.2.1 d_Md_space_137 rfl ?_
              refine lv_iadd C.1 C.2.1 d_Md_space_138 ?_
              refine gm_eqi (nI_add _ _) ?_
              refine ga_i C hh (Md_6 hM) (k := ((8 * ((3 * j) + k)) + (4 * a)) + 2) rfl (by omega) (by omega) d_Md_space_139 ?_
              refine gm_eqi (y := I (r + 6) (((8 * ((3 * j) + k)) + (4 * a)) + 2)) (by exact gm_up_ne _ _ (Or.inl (by omega))) ?_
              refine lv_i2l (v := (I (r + 6) (((8 * ((3 * j) + k)) + (4 * a)) + 2)).toInt64) C.1 C.2.1 d_Md_space_140 rfl ?_
              refine lv_aload_n C.1 C.2.1 d_Md_space_141 rfl (lv_at hl 1 rfl) ?_
              refine gg_r C hh (Md_0 hM) rfl in_Md 6 (by decide) rfl tw_571 rfl d_Md_space_142 ?_
              refine lv_iload C.1 C.2.1 d_Md_space_145 (lv_at hl 0 rfl) ?_
              refine lv_iconst (v := nI 3) C.1 C.2.1 d_Md_space_147 rfl ?_
              refine lv_iadd C.1 C.2.1 d_Md_space_148 ?_
              refine gm_eqi (nI_add _ _) ?_
              refine ga_i C hh (Md_6 hM) (k := ((8 * ((3 * j) + k)) + (4 * a)) + 3) rfl (by omega) (by omega) d_Md_space_149 ?_
              refine gm_eqi (y := I (r + 6) (((8 * ((3 * j) + k)) + (4 * a)) + 3)) (by exact gm_up_ne _ _ (Or.inl (by omega))) ?_
              refine lv_i2l (v := (I (r + 6) (((8 * ((3 * j) + k)) + (4 * a)) + 3)).toInt64) C.1 C.2.1 d_Md_space_150 rfl ?_
              refine gc_v hh (gc_runV (As := [.long ((I (r + 6) ((8 * ((3 * j) + k)) + (4 * a))).toInt64), .long ((I (r + 6) (((8 * ((3 * j) + k)) + (4 * a)) + 1)).toInt64), .long ((I (r + 6) (((8 * ((3 * j) + k)) + (4 * a)) + 2)).toInt64), .long ((I (r + 6) (((8 * ((3 * j) + k)) + (4 * a)) + 3)).toInt64)]) (rest := []) (n := 4) C hml hh (c_Md_comes l D cs sh sz (gm_up I r 15 (nI (g + a))) (spJ J r (g + a) (rowF I J r j k g t)) r hM (g + a) (gm_up_same _ _ _ _) (by omega) ((I (r + 6) ((8 * ((3 * j) + k)) + (4 * a))).toInt64) ((I (r + 6) (((8 * ((3 * j) + k)) + (4 * a)) + 1)).toInt64) ((I (r + 6) (((8 * ((3 * j) + k)) + (4 * a)) + 2)).toInt64) ((I (r + 6) (((8 * ((3 * j) + k)) + (4 * a)) + 3)).toInt64)) (tg_V tw_746 tw_748 tw_32 tw_64 tw_749) (by decide +kernel) ⟨rfl, rfl, by decide, by decide, Nat.zero_le _, Nat.zero_le _⟩ (Md_0 hM) rfl rfl hl.1 rfl (Nat.le_of_ble_eq_true rfl) d_Md_space_151) (fun I_9 J_10 H locs hr_8 hh => ?_)
              rw [gm_up_up, spJ_up (f := (rowF I J r j k g t)) (by simp only [rowF]; rw [if_neg (by omega), if_pos (by omega), show g + a - g = a by omega]; try rfl) (by simp only [rowF]; rw [if_neg (by omega), if_pos (by omega), show g + a - g = a by omega]; try rfl) (by simp only [rowF]; rw [if_neg (by omega), if_pos (by omega), show g + a - g = a by omega]; try rfl) (by simp only [rowF]; rw [if_neg (by omega), if_pos (by omega), show g + a - g = a by omega]; try rfl)] at hr_8
              rw [(Prod.mk.inj hr_8).1, (Prod.mk.inj hr_8).2] at hh
              refine lv_iinc (v := nI (a + 1)) (lv' := [(5, .int (nI (a + 1))), (6, .int (nI ((8 * ((3 * j) + k)) + (4 * a)))), (0, .ref r), (1, .int (nI j)), (2, .int (nI k)), (3, .int e), (4, .int (nI ((3 * j) + k)))]) C.1 C.2.1 d_Md_space_154 hl (k := 6) rfl (gm_inc a 1) (by decide) rfl (fun ls hl => ?_)
              refine lv_goto (tgt := 88) C.1 C.2.1 d_Md_space_157 (by decide) ?_
              exact ih88 (a + 1) (by omega) (by omega) _ _ _ hh (lv_sub hl [2, 3, 4, 5, 6, 0] rfl)
        exact K88 _ 0 (by omega) (Nat.lt_succ_self _) _ _ _ hh (lv_sub hl [2, 3, 4, 5, 1, 0] rfl)
      · -- 16 -> 19
        have c_2 := gm_gef (by omega) (by omega) c_2
        have c_2' := Nat.not_le.mpr c_2
        refine lv_bipush (v := nI 16) C.1 C.2.1 d_Md_space_19 rfl ?_
        refine lv_iload_n C.1 C.2.1 d_Md_space_21 rfl (lv_at hl 1 rfl) ?_
        refine lv_imul C.1 C.2.1 d_Md_space_22 ?_
        refine gm_eqi (pk_mul _ _) ?_
        refine lv_iconst (v := nI 4) C.1 C.2.1 d_Md_space_23 rfl ?_
        refine lv_iload C.1 C.2.1 d_Md_space_24 (lv_at hl 4 rfl) ?_
        refine lv_imul C.1 C.2.1 d_Md_space_26 ?_
        refine gm_eqi (pk_mul _ _) ?_
        refine lv_iadd C.1 C.2.1 d_Md_space_27 ?_
        refine gm_eqi (nI_add _ _) ?_
        refine lv_istore (lv' := [(5, .int (nI ((16 * j) + (4 * i)))), (0, .ref r), (1, .int (nI j)), (2, .int (nI k)), (3, .int e), (4, .int (nI i))]) C.1 C.2.1 d_Md_space_28 hl (by decide) rfl (fun ls hl => ?_)
        refine lv_aload_n C.1 C.2.1 d_Md_space_30 rfl (lv_at hl 1 rfl) ?_
        refine lv_aload_n C.1 C.2.1 d_Md_space_31 rfl (lv_at hl 1 rfl) ?_
        refine gg_r C hh (Md_0 hM) rfl in_Md 4 (by decide) rfl tw_569 rfl d_Md_space_32 ?_
        refine lv_iload C.1 C.2.1 d_Md_space_35 (lv_at hl 0 rfl) ?_
        refine ga_i C hh (Md_4 hM) (k := (16 * j) + (4 * i)) rfl (by omega) (by omega) d_Md_space_37 ?_
        refine gm_eqi (y := I (r + 4) ((16 * j) + (4 * i))) (by exact gm_up_ne _ _ (Or.inl (by omega))) ?_
        refine lv_i2l (v := (I (r + 4) ((16 * j) + (4 * i))).toInt64) C.1 C.2.1 d_Md_space_38 rfl ?_
        refine lv_aload_n C.1 C.2.1 d_Md_space_39 rfl (lv_at hl 1 rfl) ?_
        refine gg_r C hh (Md_0 hM) rfl in_Md 4 (by decide) rfl tw_569 rfl d_Md_space_40 ?_
        refine lv_iload C.1 C.2.1 d_Md_space_43 (lv_at hl 0 rfl) ?_
        refine lv_iconst (v := nI 1) C.1 C.2.1 d_Md_space_45 rfl ?_
        refine lv_iadd C.1 C.2.1 d_Md_space_46 ?_
        refine gm_eqi (nI_add _ _) ?_
        refine ga_i C hh (Md_4 hM) (k := ((16 * j) + (4 * i)) + 1) rfl (by omega) (by omega) d_Md_space_47 ?_
        refine gm_eqi (y := I (r + 4) (((16 * j) + (4 * i)) + 1)) (by exact gm_up_ne _ _ (Or.inl (by omega))) ?_
        refine lv_i2l (v := (I (r + 4) (((16 * j) + (4 * i)) + 1)).toInt64) C.1 C.2.1 d_Md_space_48 rfl ?_
        refine lv_aload_n C.1 C.2.1 d_Md_space_49 rfl (lv_at hl 1 rfl) ?_
        refine gg_r C hh (Md_0 hM) rfl in_Md 4 (by decide) rfl tw_569 rfl d_Md_space_50 ?_
        refine lv_iload C.1 C.2.1 d_Md_space_53 (lv_at hl 0 rfl) ?_
        refine lv_iconst (v := nI 2) C.1 C.2.1 d_Md_space_55 rfl ?_
        refine lv_iadd C.1 C.2.1 d_Md_space_56 ?_
        refine gm_eqi (nI_add _ _) ?_
        refine ga_i C hh (Md_4 hM) (k := ((16 * j) + (4 * i)) + 2) rfl (by omega) (by omega) d_Md_space_57 ?_
        refine gm_eqi (y := I (r + 4) (((16 * j) + (4 * i)) + 2)) (by exact gm_up_ne _ _ (Or.inl (by omega))) ?_
        refine lv_i2l (v := (I (r + 4) (((16 * j) + (4 * i)) + 2)).toInt64) C.1 C.2.1 d_Md_space_58 rfl ?_
        refine lv_aload_n C.1 C.2.1 d_Md_space_59 rfl (lv_at hl 1 rfl) ?_
        refine gg_r C hh (Md_0 hM) rfl in_Md 4 (by decide) rfl tw_569 rfl d_Md_space_60 ?_
        refine lv_iload C.1 C.2.1 d_Md_space_63 (lv_at hl 0 rfl) ?_
        refine lv_iconst (v := nI 3) C.1 C.2.1 d_Md_space_65 rfl ?_
        refine lv_iadd C.1 C.2.1 d_Md_space_66 ?_
        refine gm_eqi (nI_add _ _) ?_
        refine ga_i C hh (Md_4 hM) (k := ((16 * j) + (4 * i)) + 3) rfl (by omega) (by omega) d_Md_space_67 ?_
        refine gm_eqi (y := I (r + 4) (((16 * j) + (4 * i)) + 3)) (by exact gm_up_ne _ _ (Or.inl (by omega))) ?_
        refine lv_i2l (v := (I (r + 4) (((16 * j) + (4 * i)) + 3)).toInt64) C.1 C.2.1 d_Md_space_68 rfl ?_
        refine gc_v hh (gc_runV (As := [.long ((I (r + 4) ((16 * j) + (4 * i))).toInt64), .long ((I (r + 4) (((16 * j) + (4 * i)) + 1)).toInt64), .long ((I (r + 4) (((16 * j) + (4 * i)) + 2)).toInt64), .long ((I (r + 4) (((16 * j) + (4 * i)) + 3)).toInt64)]) (rest := []) (n := 4) C hml hh (c_Md_comes l D cs sh sz (gm_up I r 15 (nI i)) (spJ J r i (rowF I J r j k g t)) r hM i (gm_up_same _ _ _ _) (by omega) ((I (r + 4) ((16 * j) + (4 * i))).toInt64) ((I (r + 4) (((16 * j) + (4 * i)) + 1)).toInt64) ((I (r + 4) (((16 * j) + (4 * i)) + 2)).toInt64) ((I (r + 4) (((16 * j) + (4 * i)) + 3)).toInt64)) (tg_V tw_746 tw_748 tw_32 tw_64 tw_749) (by decide +kernel) ⟨rfl, rfl, by decide, by decide, Nat.zero_le _, Nat.zero_le _⟩ (Md_0 hM) rfl rfl hl.1 rfl (Nat.le_of_ble_eq_true rfl) d_Md_space_69) (fun I_12 J_13 H locs hr_11 hh => ?_)
        rw [gm_up_up, spJ_up (f := (rowF I J r j k g t)) (by simp only [rowF]; rw [if_pos (by omega)]; try rfl) (by simp only [rowF]; rw [if_pos (by omega)]; try rfl) (by simp only [rowF]; rw [if_pos (by omega)]; try rfl) (by simp only [rowF]; rw [if_pos (by omega)]; try rfl)] at hr_11
        rw [(Prod.mk.inj hr_11).1, (Prod.mk.inj hr_11).2] at hh
        refine lv_iinc (v := nI (i + 1)) (lv' := [(4, .int (nI (i + 1))), (5, .int (nI ((16 * j) + (4 * i)))), (0, .ref r), (1, .int (nI j)), (2, .int (nI k)), (3, .int e)]) C.1 C.2.1 d_Md_space_72 hl (k := 5) rfl (gm_inc i 1) (by decide) rfl (fun ls hl => ?_)
        refine lv_goto (tgt := 8) C.1 C.2.1 d_Md_space_75 (by decide) ?_
        exact ih8 (i + 1) (by omega) (by omega) _ _ _ hh (lv_sub hl [2, 3, 4, 5, 0] rfl)
  exact K8 _ 0 (by omega) (Nat.lt_succ_self _) _ _ _ hh (lv_sub hl [1, 2, 3, 4, 0] rfl)
