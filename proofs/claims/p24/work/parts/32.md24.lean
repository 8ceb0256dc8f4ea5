set_option maxHeartbeats 4000000 in
set_option maxRecDepth 100000 in
theorem c_Md_changed (l : Launch) (D : va_G) (cs : Nat → ClassId) (sh : gm_H) (sz : Nat) (I : gm_I) (J : gm_J) (r : Nat) (hM : is_Md sh r) (c : Sc) (j k : Nat) (hj : j < 8) (hk : k < 3) (a b d : Int64) : CL l y_Md_changed w_Md_changed { frames := 1, cells := 0, slots := 0, locals := 26 } D cs sh sz (scI I r c) (scJ J r c) [.ref r, .int (nI j), .int (nI k), .long a, .long b, .long d] (fun z u => z = chC I r (3 * j + k) a b d ∧ u = (scI I r (c.1, c.2.1, c.2.2.1, chG I r (3 * j + k) a b d, c.2.2.2.2), scJ J r (c.1, c.2.1, c.2.2.1, chG I r (3 * j + k) a b d, c.2.2.2.2))) := by
  refine gm_start (by decide) (Nat.le_of_ble_eq_true rfl) ?_
  intro p' e' s' m' be' me' co' ls C hml hlk hret hh hl
  have hl : lv_has ls 11 [(0, .ref r), (1, .int (nI j)), (2, .int (nI k)), (3, .long a), (5, .long b), (7, .long d)] := hl
  refine lv_iconst (v := nI 3) C.1 C.2.1 d_Md_changed_0 rfl ?_
  refine lv_iload_n C.1 C.2.1 d_Md_changed_1 rfl (lv_at hl 1 rfl) ?_
  refine lv_imul C.1 C.2.1 d_Md_changed_2 ?_
  refine gm_eqi (pk_mul _ _) ?_
  refine lv_iload_n C.1 C.2.1 d_Md_changed_3 rfl (lv_at hl 2 rfl) ?_
  refine lv_iadd C.1 C.2.1 d_Md_changed_4 ?_
  refine gm_eqi (nI_add _ _) ?_
  refine lv_istore (lv' := [(9, .int (nI ((3 * j) + k))), (0, .ref r), (1, .int (nI j)), (2, .int (nI k)), (3, .long a), (5, .long b), (7, .long d)]) C.1 C.2.1 d_Md_changed_5 hl (by decide) rfl (fun ls hl => ?_)
  refine lv_bipush (v := nI 9) C.1 C.2.1 d_Md_changed_7 rfl ?_
  refine lv_iload C.1 C.2.1 d_Md_changed_9 (lv_at hl 0 rfl) ?_
  refine lv_imul C.1 C.2.1 d_Md_changed_11 ?_
  refine gm_eqi (pk_mul _ _) ?_
  refine lv_istore (lv' := [(10, .int (nI (9 * ((3 * j) + k)))), (9, .int (nI ((3 * j) + k))), (0, .ref r), (1, .int (nI j)), (2, .int (nI k)), (3, .long a), (5, .long b), (7, .long d)]) C.1 C.2.1 d_Md_changed_12 hl (by decide) rfl (fun ls hl => ?_)
  refine lv_aload_n C.1 C.2.1 d_Md_changed_14 rfl (lv_at hl 2 rfl) ?_
  refine lv_lload_n C.1 C.2.1 d_Md_changed_15 rfl (lv_at hl 5 rfl) ?_
  refine lv_aload_n C.1 C.2.1 d_Md_changed_16 rfl (lv_at hl 2 rfl) ?_
  refine gg_r C hh (Md_0 hM) rfl in_Md 7 (by decide) rfl tw_572 rfl d_Md_changed_17 ?_
  refine lv_iload C.1 C.2.1 d_Md_changed_20 (lv_at hl 0 rfl) ?_
  refine ga_i C hh (Md_7 hM) (k := 9 * ((3 * j) + k)) rfl (by omega) (by omega) d_Md_changed_22 ?_
  refine gm_eqi (y := I (r + 7) (9 * ((3 * j) + k))) (by exact scI_o _ _ (by omega)) ?_
  refine lv_i2l (v := (I (r + 7) (9 * ((3 * j) + k))).toInt64) C.1 C.2.1 d_Md_changed_23 rfl ?_
  refine lv_lmul C.1 C.2.1 d_Md_changed_24 ?_
  refine lv_lload C.1 C.2.1 d_Md_changed_25 (lv_at hl 6 rfl) ?_
  refine lv_aload_n C.1 C.2.1 d_Md_changed_27 rfl (lv_at hl 2 rfl) ?_
  refine gg_r C hh (Md_0 hM) rfl in_Md 7 (by decide) rfl tw_572 rfl d_Md_changed_28 ?_
  refine lv_iload C.1 C.2.1 d_Md_changed_31 (lv_at hl 0 rfl) ?_
  refine lv_iconst (v := nI 3) C.1 C.2.1 d_Md_changed_33 rfl ?_
  refine lv_iadd C.1 C.2.1 d_Md_changed_34 ?_
  refine gm_eqi (nI_add _ _) ?_
  refine ga_i C hh (Md_7 hM) (k := (9 * ((3 * j) + k)) + 3) rfl (by omega) (by omega) d_Md_changed_35 ?_
  refine gm_eqi (y := I (r + 7) ((9 * ((3 * j) + k)) + 3)) (by exact scI_o _ _ (by omega)) ?_
  refine lv_i2l (v := (I (r + 7) ((9 * ((3 * j) + k)) + 3)).toInt64) C.1 C.2.1 d_Md_changed_36 rfl ?_
  refine lv_lmul C.1 C.2.1 d_Md_changed_37 ?_
  refine lv_ladd C.1 C.2.1 d_Md_changed_38 ?_
  refine lv_lload C.1 C.2.1 d_Md_changed_39 (lv_at hl 7 rfl) ?_
  refine lv_aload_n C.1 C.2.1 d_Md_changed_41 rfl (lv_at hl 2 rfl) ?_
  refine gg_r C hh (Md_0 hM) rfl in_Md 7 (by decide) rfl tw_572 rfl d_Md_changed_42 ?_
  refine lv_iload C.1 C.2.1 d_Md_changed_45 (lv_at hl 0 rfl) ?_
  refine lv_bipush (v := nI 6) C.1 C.2.1 d_Md_changed_47 rfl ?_
  refine lv_iadd C.1 C.2.1 d_Md_changed_49 ?_
  refine gm_eqi (nI_add _ _) ?_
  refine ga_i C hh (Md_7 hM) (k := (9 * ((3 * j) + k)) + 6) rfl (by omega) (by omega) d_Md_changed_50 ?_
  refine gm_eqi (y := I (r + 7) ((9 * ((3 * j) + k)) + 6)) (by exact scI_o _ _ (by omega)) ?_
  refine lv_i2l (v := (I (r + 7) ((9 * ((3 * j) + k)) + 6)).toInt64) C.1 C.2.1 d_Md_changed_51 rfl ?_
  refine lv_lmul C.1 C.2.1 d_Md_changed_52 ?_
  refine lv_ladd C.1 C.2.1 d_Md_changed_53 ?_
  refine lv_lload_n C.1 C.2.1 d_Md_changed_54 rfl (lv_at hl 5 rfl) ?_
  refine lv_aload_n C.1 C.2.1 d_Md_changed_55 rfl (lv_at hl 2 rfl) ?_
  refine gg_r C hh (Md_0 hM) rfl in_Md 7 (by decide) rfl tw_572 rfl d_Md_changed_56 ?_
  refine lv_iload C.1 C.2.1 d_Md_changed_59 (lv_at hl 0 rfl) ?_
  refine lv_iconst (v := nI 1) C.1 C.2.1 d_Md_changed_61 rfl ?_
  refine lv_iadd C.1 C.2.1 d_Md_changed_62 ?_
  refine gm_eqi (nI_add _ _) ?_
  refine ga_i C hh (Md_7 hM) (k := (9 * ((3 * j) + k)) + 1) rfl (by omega) (by omega) d_Md_changed_63 ?_
  refine gm_eqi (y := I (r + 7) ((9 * ((3 * j) + k)) + 1)) (by exact scI_o _ _ (by omega)) ?_
  refine lv_i2l (v := (I (r + 7) ((9 * ((3 * j) + k)) + 1)).toInt64) C.1 C.2.1 d_Md_changed_64 rfl ?_
  refine lv_lmul C.1 C.2.1 d_Md_changed_65 ?_
  refine lv_lload C.1 C.2.1 d_Md_changed_66 (lv_at hl 6 rfl) ?_
  refine lv_aload_n C.1 C.2.1 d_Md_changed_68 rfl (lv_at hl 2 rfl) ?_
  refine gg_r C hh (Md_0 hM) rfl in_Md 7 (by decide) rfl tw_572 rfl d_Md_changed_69 ?_
  refine lv_iload C.1 C.2.1 d_Md_changed_72 (lv_at hl 0 rfl) ?_
  refine lv_iconst (v := nI 4) C.1 C.2.1 d_Md_changed_74 rfl ?_
  refine lv_iadd C.1 C.2.1 d_Md_changed_75 ?_
  refine gm_eqi (nI_add _ _) ?_
  refine ga_i C hh (Md_7 hM) (k := (9 * ((3 * j) + k)) + 4) rfl (by omega) (by omega) d_Md_changed_76 ?_
  refine gm_eqi (y := I (r + 7) ((9 * ((3 * j) + k)) + 4)) (by exact scI_o _ _ (by omega)) ?_
  refine lv_i2l (v := (I (r + 7) ((9 * ((3 * j) + k)) + 4)).toInt64) C.1 C.2.1 d_Md_changed_77 rfl ?_
  refine lv_lmul C.1 C.2.1 d_Md_changed_78 ?_
  refine lv_ladd C.1 C.2.1 d_Md_changed_79 ?_
  refine lv_lload C.1 C.2.1 d_Md_changed_80 (lv_at hl 7 rfl) ?_
  refine lv_aload_n C.1 C.2.1 d_Md_changed_82 rfl (lv_at hl 2 rfl) ?_
  refine gg_r C hh (Md_0 hM) rfl in_Md 7 (by decide) rfl tw_572 rfl d_Md_changed_83 ?_
  refine lv_iload C.1 C.2.1 d_Md_changed_86 (lv_at hl 0 rfl) ?_
  refine lv_bipush (v := nI 7) C.1 C.2.1 d_Md_changed_88 rfl ?_
  refine lv_iadd C.1 C.2.1 d_Md_changed_90 ?_
  refine gm_eqi (nI_add _ _) ?_
  refine ga_i C hh (Md_7 hM) (k := (9 * ((3 * j) + k)) + 7) rfl (by omega) (by omega) d_Md_changed_91 ?_
  refine gm_eqi (y := I (r + 7) ((9 * ((3 * j) + k)) + 7)) (by exact scI_o _ _ (by omega)) ?_
  refine lv_i2l (v := (I (r + 7) ((9 * ((3 * j) + k)) + 7)).toInt64) C.1 C.2.1 d_Md_changed_92 rfl ?_
  refine lv_lmul C.1 C.2.1 d_Md_changed_93 ?_
  refine lv_ladd C.1 C.2.1 d_Md_changed_94 ?_
  refine lv_lload_n C.1 C.2.1 d_Md_changed_95 rfl (lv_at hl 5 rfl) ?_
  refine lv_aload_n C.1 C.2.1 d_Md_changed_96 rfl (lv_at hl 2 rfl) ?_
  refine gg_r C hh (Md_0 hM) rfl in_Md 7 (by decide) rfl tw_572 rfl d_Md_changed_97 ?_
  refine lv_iload C.1 C.2.1 d_Md_changed_100 (lv_at hl 0 rfl) ?_
  refine lv_iconst (v := nI 2) C.1 C.2.1 d_Md_changed_102 rfl ?_
  refine lv_iadd C.1 C.2.1 d_Md_changed_103 ?_
  refine gm_eqi (nI_add _ _) ?_
  refine ga_i C hh (Md_7 hM) (k := (9 * ((3 * j) + k)) + 2) rfl (by omega) (by omega) d_Md_changed_104 ?_
  refine gm_eqi (y := I (r + 7) ((9 * ((3 * j) + k)) + 2)) (by exact scI_o _ _ (by omega)) ?_
  refine lv_i2l (v := (I (r + 7) ((9 * ((3 * j) + k)) + 2)).toInt64) C.1 C.2.1 d_Md_changed_105 rfl ?_
  refine lv_lmul C.1 C.2.1 d_Md_changed_106 ?_
  refine lv_lload C.1 C.2.1 d_Md_changed_107 (lv_at hl 6 rfl) ?_
  refine lv_aload_n C.1 C.2.1 d_Md_changed_109 rfl (lv_at hl 2 rfl) ?_
  refine gg_r C hh (Md_0 hM) rfl in_Md 7 (by decide) rfl tw_572 rfl d_Md_changed_110 ?_
  refine lv_iload C.1 C.2.1 d_Md_changed_113 (lv_at hl 0 rfl) ?_
  refine lv_iconst (v := nI 5) C.1 C.2.1 d_Md_changed_115 rfl ?_
  refine lv_iadd C.1 C.2.1 d_Md_changed_116 ?_
  refine gm_eqi (nI_add _ _) ?_
  refine ga_i C hh (Md_7 hM) (k := (9 * ((3 * j) + k)) + 5) rfl (by omega) (by omega) d_Md_changed_117 ?_
  refine gm_eqi (y := I (r + 7) ((9 * ((3 * j) + k)) + 5)) (by exact scI_o _ _ (by omega)) ?_
  refine lv_i2l (v := (I (r + 7) ((9 * ((3 * j) + k)) + 5)).toInt64) C.1 C.2.1 d_Md_changed_118 rfl ?_
  refine lv_lmul C.1 C.2.1 d_Md_changed_119 ?_
  refine lv_ladd C.1 C.2.1 d_Md_changed_120 ?_
  refine lv_lload C.1 C.2.1 d_Md_changed_121 (lv_at hl 7 rfl) ?_
  refine lv_aload_n C.1 C.2.1 d_Md_changed_123 rfl (lv_at hl 2 rfl) ?_
  refine gg_r C hh (Md_0 hM) rfl in_Md 7 (by decide) rfl tw_572 rfl d_Md_changed_124 ?_
  refine lv_iload C.1 C.2.1 d_Md_changed_127 (lv_at hl 0 rfl) ?_
  refine lv_bipush (v := nI 8) C.1 C.2.1 d_Md_changed_129 rfl ?_
  refine lv_iadd C.1 C.2.1 d_Md_changed_131 ?_
  refine gm_eqi (nI_add _ _) ?_
  refine ga_i C hh (Md_7 hM) (k := (9 * ((3 * j) + k)) + 8) rfl (by omega) (by omega) d_Md_changed_132 ?_
  refine gm_eqi (y := I (r + 7) ((9 * ((3 * j) + k)) + 8)) (by exact scI_o _ _ (by omega)) ?_
  refine lv_i2l (v := (I (r + 7) ((9 * ((3 * j) + k)) + 8)).toInt64) C.1 C.2.1 d_Md_changed_133 rfl ?_
  refine lv_lmul C.1 C.2.1 d_Md_changed_134 ?_
  refine lv_ladd C.1 C.2.1 d_Md_changed_135 ?_
  refine gc_v hh (gc_runV (As := [.long (((a * ((I (r + 7) (9 * ((3 * j) + k))).toInt64)) + (b * ((I (r + 7) ((9 * ((3 * j) + k)) + 3)).toInt64))) + (d * ((I (r + 7) ((9 * ((3 * j) + k)) + 6)).toInt64))), .long (((a * ((I (r + 7) ((9 * ((3 * j) + k)) + 1)).toInt64)) + (b * ((I (r + 7) ((9 * ((3 * j) + k)) + 4)).toInt64))) + (d * ((I (r + 7) ((9 * ((3 * j) + k)) + 7)).toInt64))), .long (((a * ((I (r + 7) ((9 * ((3 * j) + k)) + 2)).toInt64)) + (b * ((I (r + 7) ((9 * ((3 * j) + k)) + 5)).toInt64))) + (d * ((I (r + 7) ((9 * ((3 * j) + k)) + 8)).toInt64)))]) (rest := []) (n := 3) C hml hh (c_Md_goal l D cs sh sz (scI I r c) (scJ J r c) r hM (((a * ((I (r + 7) (9 * ((3 * j) + k))).toInt64)) + (b * ((I (r + 7) ((9 * ((3 * j) + k)) + 3)).toInt64))) + (d * ((I (r + 7) ((9 * ((3 * j) + k)) + 6)).toInt64))) (((a * ((I (r + 7) ((9 * ((3 * j) + k)) + 1)).toInt64)) + (b * ((I (r + 7) ((9 * ((3 * j) + k)) + 4)).toInt64))) + (d * ((I (r + 7) ((9 * ((3 * j) + k)) + 7)).toInt64))) (((a * ((I (r + 7) ((9 * ((3 * j) + k)) + 2)).toInt64)) + (b * ((I (r + 7) ((9 * ((3 * j) + k)) + 5)).toInt64))) + (d * ((I (r + 7) ((9 * ((3 * j) + k)) + 8)).toInt64)))) (tg_V tw_754 tw_756 tw_34 tw_64 tw_757) (by decide +kernel) ⟨rfl, rfl, by decide, by decide, Nat.zero_le _, Nat.zero_le _⟩ (Md_0 hM) rfl rfl hl.1 rfl (Nat.le_of_ble_eq_true rfl) d_Md_changed_136) (fun I_2 J_3 H locs hr_1 hh => ?_)
  rw [goal_sc] at hr_1
  rw [(Prod.mk.inj hr_1).1, (Prod.mk.inj hr_1).2] at hh
  have hh : gm_St D cs sh (gm_A sh) s'.heap sz (scI I r (c.1, c.2.1, c.2.2.1, (((a * ((I (r + 7) (9 * ((3 * j) + k))).toInt64)) + (b * ((I (r + 7) ((9 * ((3 * j) + k)) + 3)).toInt64))) + (d * ((I (r + 7) ((9 * ((3 * j) + k)) + 6)).toInt64)), ((a * ((I (r + 7) ((9 * ((3 * j) + k)) + 1)).toInt64)) + (b * ((I (r + 7) ((9 * ((3 * j) + k)) + 4)).toInt64))) + (d * ((I (r + 7) ((9 * ((3 * j) + k)) + 7)).toInt64)), ((a * ((I (r + 7) ((9 * ((3 * j) + k)) + 2)).toInt64)) + (b * ((I (r + 7) ((9 * ((3 * j) + k)) + 5)).toInt64))) + (d * ((I (r + 7) ((9 * ((3 * j) + k)) + 8)).toInt64))), c.2.2.2.2)) (scJ J r (c.1, c.2.1, c.2.2.1, (((a * ((I (r + 7) (9 * ((3 * j) + k))).toInt64)) + (b * ((I (r + 7) ((9 * ((3 * j) + k)) + 3)).toInt64))) + (d * ((I (r + 7) ((9 * ((3 * j) + k)) + 6)).toInt64)), ((a * ((I (r + 7) ((9 * ((3 * j) + k)) + 1)).toInt64)) + (b * ((I (r + 7) ((9 * ((3 * j) + k)) + 4)).toInt64))) + (d * ((I (r + 7) ((9 * ((3 * j) + k)) + 7)).toInt64)), ((a * ((I (r + 7) ((9 * ((3 * j) + k)) + 2)).toInt64)) + (b * ((I (r + 7) ((9 * ((3 * j) + k)) + 5)).toInt64))) + (d * ((I (r + 7) ((9 * ((3 * j) + k)) + 8)).toInt64))), c.2.2.2.2)) H locs := hh
  refine lv_lload_n C.1 C.2.1 d_Md_changed_139 rfl (lv_at hl 5 rfl) ?_
  refine lv_aload_n C.1 C.2.1 d_Md_changed_140 rfl (lv_at hl 2 rfl) ?_
  refine gg_r C hh (Md_0 hM) rfl in_Md 8 (by decide) rfl tw_573 rfl d_Md_changed_141 ?_
  refine lv_iconst (v := nI 3) C.1 C.2.1 d_Md_changed_144 rfl ?_
  refine lv_iload C.1 C.2.1 d_Md_changed_145 (lv_at hl 1 rfl) ?_
  refine lv_imul C.1 C.2.1 d_Md_changed_147 ?_
  refine gm_eqi (pk_mul _ _) ?_
  refine ga_i C hh (Md_8 hM) (k := 3 * ((3 * j) + k)) rfl (by omega) (by omega) d_Md_changed_148 ?_
  refine gm_eqi (y := I (r + 8) (3 * ((3 * j) + k))) (by exact scI_o _ _ (by omega)) ?_
  refine lv_i2l (v := (I (r + 8) (3 * ((3 * j) + k))).toInt64) C.1 C.2.1 d_Md_changed_149 rfl ?_
  refine lv_lmul C.1 C.2.1 d_Md_changed_150 ?_
  refine lv_lload C.1 C.2.1 d_Md_changed_151 (lv_at hl 6 rfl) ?_
  refine lv_aload_n C.1 C.2.1 d_Md_changed_153 rfl (lv_at hl 2 rfl) ?_
  refine gg_r C hh (Md_0 hM) rfl in_Md 8 (by decide) rfl tw_573 rfl d_Md_changed_154 ?_
  refine lv_iconst (v := nI 3) C.1 C.2.1 d_Md_changed_157 rfl ?_
  refine lv_iload C.1 C.2.1 d_Md_changed_158 (lv_at hl 1 rfl) ?_
  refine lv_imul C.1 C.2.1 d_Md_changed_160 ?_
  refine gm_eqi (pk_mul _ _) ?_
  refine lv_iconst (v := nI 1) C.1 C.2.1 d_Md_changed_161 rfl ?_
  refine lv_iadd C.1 C.2.1 d_Md_changed_162 ?_
  refine gm_eqi (nI_add _ _) ?_
  refine ga_i C hh (Md_8 hM) (k := (3 * ((3 * j) + k)) + 1) rfl (by omega) (by omega) d_Md_changed_163 ?_
  refine gm_eqi (y := I (r + 8) ((3 * ((3 * j) + k)) + 1)) (by exact scI_o _ _ (by omega)) ?_
  refine lv_i2l (v := (I (r + 8) ((3 * ((3 * j) + k)) + 1)).toInt64) C.1 C.2.1 d_Md_changed_164 rfl ?_
  refine lv_lmul C.1 C.2.1 d_Md_changed_165 ?_
  refine lv_ladd C.1 C.2.1 d_Md_changed_166 ?_
  refine lv_lload C.1 C.2.1 d_Md_changed_167 (lv_at hl 7 rfl) ?_
  refine lv_aload_n C.1 C.2.1 d_Md_changed_169 rfl (lv_at hl 2 rfl) ?_
  refine gg_r C hh (Md_0 hM) rfl in_Md 8 (by decide) rfl tw_573 rfl d_Md_changed_170 ?_
  refine lv_iconst (v := nI 3) C.1 C.2.1 d_Md_changed_173 rfl ?_
  refine lv_iload C.1 C.2.1 d_Md_changed_174 (lv_at hl 1 rfl) ?_
  refine lv_imul C.1 C.2.1 d_Md_changed_176 ?_
  refine gm_eqi (pk_mul _ _) ?_
  refine lv_iconst (v := nI 2) C.1 C.2.1 d_Md_changed_177 rfl ?_
  refine lv_iadd C.1 C.2.1 d_Md_changed_178 ?_
  refine gm_eqi (nI_add _ _) ?_
  refine ga_i C hh (Md_8 hM) (k := (3 * ((3 * j) + k)) + 2) rfl (by omega) (by omega) d_Md_changed_179 ?_
  refine gm_eqi (y := I (r + 8) ((3 * ((3 * j) + k)) + 2)) (by exact scI_o _ _ (by omega)) ?_
  refine lv_i2l (v := (I (r + 8) ((3 * ((3 * j) + k)) + 2)).toInt64) C.1 C.2.1 d_Md_changed_180 rfl ?_
  refine lv_lmul C.1 C.2.1 d_Md_changed_181 ?_
  refine lv_ladd C.1 C.2.1 d_Md_changed_182 ?_
  exact gr_l C hlk hret hh (by exact ⟨rfl, rfl⟩) d_Md_changed_183

set_option maxHeartbeats 4000000 in
set_option maxRecDepth 100000 in
theorem c_Md_falls (l : Launch) (D : va_G) (cs : Nat → ClassId) (sh : gm_H) (sz : Nat) (I : gm_I) (J : gm_J) (r : Nat) (hM : is_Md sh r) (c : Sc) (n : Nat) (hn : I r 15 = nI n) (hn8 : n ≤ 8) (j k : Nat) (hj : j < 8) (hk : k < 3) (t u v : Int32) : CI l y_Md_falls w_Md_falls { frames := 3, cells := 0, slots := 0, locals := 81 } D cs sh sz (scI I r c) (scJ J r c) [.ref r, .int (nI j), .int (nI k), .int t, .int u, .int v] (fun x z => x = fallsV (rwF J r) (t.toInt64 - (chG I r (3 * j + k) t.toInt64 u.toInt64 v.toInt64).1, u.toInt64 - (chG I r (3 * j + k) t.toInt64 u.toInt64 v.toInt64).2.1, v.toInt64 - (chG I r (3 * j + k) t.toInt64 u.toInt64 v.toInt64).2.2) n (chC I r (3 * j + k) t.toInt64 u.toInt64 v.toInt64) ∧ ∃ c2 : Sc, z = (scI I r c2, scJ J r c2)) := by
  refine gm_start (by decide) (Nat.le_of_ble_eq_true rfl) ?_
  intro p' e' s' m' be' me' co' ls C hml hlk hret hh hl
  have hl : lv_has ls 8 [(0, .ref r), (1, .int (nI j)), (2, .int (nI k)), (3, .int t), (4, .int u), (5, .int v)] := hl
  refine lv_aload_n C.1 C.2.1 d_Md_falls_0 rfl (lv_at hl 0 rfl) ?_
  refine lv_iload_n C.1 C.2.1 d_Md_falls_1 rfl (lv_at hl 1 rfl) ?_
  refine lv_iload_n C.1 C.2.1 d_Md_falls_2 rfl (lv_at hl 2 rfl) ?_
  refine lv_iload_n C.1 C.2.1 d_Md_falls_3 rfl (lv_at hl 3 rfl) ?_
  refine lv_i2l (v := t.toInt64) C.1 C.2.1 d_Md_falls_4 rfl ?_
  refine lv_iload C.1 C.2.1 d_Md_falls_5 (lv_at hl 4 rfl) ?_
  refine lv_i2l (v := u.toInt64) C.1 C.2.1 d_Md_falls_7 rfl ?_
  refine lv_iload C.1 C.2.1 d_Md_falls_8 (lv_at hl 5 rfl) ?_
  refine lv_i2l (v := v.toInt64) C.1 C.2.1 d_Md_falls_10 rfl ?_
  refine gc_l hh (gc_runV (As := [.int (nI j), .int (nI k), .long t.toInt64, .long u.toInt64, .long v.toInt64]) (rest := []) (n := 5) C hml hh (c_Md_changed l D cs sh sz I J r hM c j k (by omega) (by omega) t.toInt64 u.toInt64 v.toInt64) (tg_V tw_803 tw_805 tw_44 tw_64 tw_806) (by decide +kernel) ⟨rfl, rfl, by decide, by decide, Nat.zero_le _, Nat.zero_le _⟩ (Md_0 hM) rfl rfl hl.1 rfl (Nat.le_of_ble_eq_true rfl) d_Md_falls_11) (fun r_1 I_2 J_3 H locs hr_1 hh => ?_)
  obtain ⟨hr_1, qhr_1⟩ := hr_1
  rw [(Prod.mk.inj qhr_1).1, (Prod.mk.inj qhr_1).2] at hh
  have hh : gm_St D cs sh (gm_A sh) s'.heap sz (scI I r (c.1, c.2.1, c.2.2.1, (chG I r (3 * j + k) t.toInt64 u.toInt64 v.toInt64), c.2.2.2.2)) (scJ J r (c.1, c.2.1, c.2.2.1, (chG I r (3 * j + k) t.toInt64 u.toInt64 v.toInt64), c.2.2.2.2)) H locs := hh
  refine lv_lstore (lv' := [(6, .long r_1), (0, .ref r), (1, .int (nI j)), (2, .int (nI k)), (3, .int t), (4, .int u), (5, .int v)]) C.1 C.2.1 d_Md_falls_14 hl (by decide) rfl (fun ls hl => ?_)
  refine lv_aload_n C.1 C.2.1 d_Md_falls_16 rfl (lv_at hl 1 rfl) ?_
  refine lv_iload_n C.1 C.2.1 d_Md_falls_17 rfl (lv_at hl 4 rfl) ?_
  refine lv_i2l (v := t.toInt64) C.1 C.2.1 d_Md_falls_18 rfl ?_
  refine lv_aload_n C.1 C.2.1 d_Md_falls_19 rfl (lv_at hl 1 rfl) ?_
  refine gg_l C hh (Md_0 hM) rfl in_Md 23 (by decide) rfl tw_588 rfl d_Md_falls_20 ?_
  refine gm_eql (y := (chG I r (3 * j + k) t.toInt64 u.toInt64 v.toInt64).1) (by exact congrArg (fun z : V3 => z.1) (scJ_g _ r _)) ?_
  refine lv_lsub C.1 C.2.1 d_Md_falls_23 ?_
  refine lv_iload C.1 C.2.1 d_Md_falls_24 (lv_at hl 5 rfl) ?_
  refine lv_i2l (v := u.toInt64) C.1 C.2.1 d_Md_falls_26 rfl ?_
  refine lv_aload_n C.1 C.2.1 d_Md_falls_27 rfl (lv_at hl 1 rfl) ?_
  refine gg_l C hh (Md_0 hM) rfl in_Md 24 (by decide) rfl tw_589 rfl d_Md_falls_28 ?_
  refine gm_eql (y := (chG I r (3 * j + k) t.toInt64 u.toInt64 v.toInt64).2.1) (by exact congrArg (fun z : V3 => z.2.1) (scJ_g _ r _)) ?_
  refine lv_lsub C.1 C.2.1 d_Md_falls_31 ?_
  refine lv_iload C.1 C.2.1 d_Md_falls_32 (lv_at hl 6 rfl) ?_
  refine lv_i2l (v := v.toInt64) C.1 C.2.1 d_Md_falls_34 rfl ?_
  refine lv_aload_n C.1 C.2.1 d_Md_falls_35 rfl (lv_at hl 1 rfl) ?_
  refine gg_l C hh (Md_0 hM) rfl in_Md 25 (by decide) rfl tw_590 rfl d_Md_falls_36 ?_
  refine gm_eql (y := (chG I r (3 * j + k) t.toInt64 u.toInt64 v.toInt64).2.2) (by exact congrArg (fun z : V3 => z.2.2) (scJ_g _ r _)) ?_
  refine lv_lsub C.1 C.2.1 d_Md_falls_39 ?_
  refine gc_v hh (gc_runV (As := [.long (t.toInt64 - ((chG I r (3 * j + k) t.toInt64 u.toInt64 v.toInt64).1)), .long (u.toInt64 - ((chG I r (3 * j + k) t.toInt64 u.toInt64 v.toInt64).2.1)), .long (v.toInt64 - ((chG I r (3 * j + k) t.toInt64 u.toInt64 v.toInt64).2.2))]) (rest := []) (n := 3) C hml hh (c_Md_goal l D cs sh sz (scI I r (c.1, c.2.1, c.2.2.1, (chG I r (3 * j + k) t.toInt64 u.toInt64 v.toInt64), c.2.2.2.2)) (scJ J r (c.1, c.2.1, c.2.2.1, (chG I r (3 * j + k) t.toInt64 u.toInt64 v.toInt64), c.2.2.2.2)) r hM (t.toInt64 - ((chG I r (3 * j + k) t.toInt64 u.toInt64 v.toInt64).1)) (u.toInt64 - ((chG I r (3 * j + k) t.toInt64 u.toInt64 v.toInt64).2.1)) (v.toInt64 - ((chG I r (3 * j + k) t.toInt64 u.toInt64 v.toInt64).2.2))) (tg_V tw_754 tw_756 tw_34 tw_64 tw_757) (by decide +kernel) ⟨rfl, rfl, by decide, by decide, Nat.zero_le _, Nat.zero_le _⟩ (Md_0 hM) rfl rfl hl.1 rfl (Nat.le_of_ble_eq_true rfl) d_Md_falls_40) (fun I_5 J_6 H locs hr_4 hh => ?_)
  rw [goal_sc] at hr_4
  rw [(Prod.mk.inj hr_4).1, (Prod.mk.inj hr_4).2] at hh
  have hh : gm_St D cs sh (gm_A sh) s'.heap sz (scI I r (c.1, c.2.1, c.2.2.1, (t.toInt64 - ((chG I r (3 * j + k) t.toInt64 u.toInt64 v.toInt64).1), u.toInt64 - ((chG I r (3 * j + k) t.toInt64 u.toInt64 v.toInt64).2.1), v.toInt64 - ((chG I r (3 * j + k) t.toInt64 u.toInt64 v.toInt64).2.2)), c.2.2.2.2)) (scJ J r (c.1, c.2.1, c.2.2.1, (t.toInt64 - ((chG I r (3 * j + k) t.toInt64 u.toInt64 v.toInt64).1), u.toInt64 - ((chG I r (3 * j + k) t.toInt64 u.toInt64 v.toInt64).2.1), v.toInt64 - ((chG I r (3 * j + k) t.toInt64 u.toInt64 v.toInt64).2.2)), c.2.2.2.2)) H locs := hh
  refine lv_aload_n C.1 C.2.1 d_Md_falls_43 rfl (lv_at hl 1 rfl) ?_
  refine lv_aload_n C.1 C.2.1 d_Md_falls_44 rfl (lv_at hl 1 rfl) ?_
  refine gg_i C hh (Md_0 hM) rfl in_Md 15 (by decide) rfl tw_580 rfl d_Md_falls_45 ?_
  refine gm_eqi (y := I r 15) (by exact scI_o _ _ (by omega)) ?_
  refine gm_eqi hn ?_
  refine gc_v hh (gc_runV (As := [.int (nI n)]) (rest := []) (n := 1) C hml hh (c_Md_least l D cs sh sz (scI I r (c.1, c.2.1, c.2.2.1, (t.toInt64 - ((chG I r (3 * j + k) t.toInt64 u.toInt64 v.toInt64).1), u.toInt64 - ((chG I r (3 * j + k) t.toInt64 u.toInt64 v.toInt64).2.1), v.toInt64 - ((chG I r (3 * j + k) t.toInt64 u.toInt64 v.toInt64).2.2)), c.2.2.2.2)) (scJ J r (c.1, c.2.1, c.2.2.1, (t.toInt64 - ((chG I r (3 * j + k) t.toInt64 u.toInt64 v.toInt64).1), u.toInt64 - ((chG I r (3 * j + k) t.toInt64 u.toInt64 v.toInt64).2.1), v.toInt64 - ((chG I r (3 * j + k) t.toInt64 u.toInt64 v.toInt64).2.2)), c.2.2.2.2)) r hM n (by omega)) (tg_V tw_758 tw_760 tw_35 tw_64 tw_761) (by decide +kernel) ⟨rfl, rfl, by decide, by decide, Nat.zero_le _, Nat.zero_le _⟩ (Md_0 hM) rfl rfl hl.1 rfl (Nat.le_of_ble_eq_true rfl) d_Md_falls_48) (fun I_8 J_9 H locs hr_7 hh => ?_)
  obtain ⟨w_10, hr_7⟩ := hr_7
  have fs_11 := lst_LQ (J := scJ J r (c.1, c.2.1, c.2.2.1, (t.toInt64 - ((chG I r (3 * j + k) t.toInt64 u.toInt64 v.toInt64).1), u.toInt64 - ((chG I r (3 * j + k) t.toInt64 u.toInt64 v.toInt64).2.1), v.toInt64 - ((chG I r (3 * j + k) t.toInt64 u.toInt64 v.toInt64).2.2)), c.2.2.2.2)) (r := r) (n := n) (f := rwF J r) (fun c_ hc_ i_ hi_ => scJ_o _ (by omega)) (scJ_g _ r _)
  obtain ⟨s_11, es_11⟩ : ∃ z : LSt, z = lst (scJ J r (c.1, c.2.1, c.2.2.1, (t.toInt64 - ((chG I r (3 * j + k) t.toInt64 u.toInt64 v.toInt64).1), u.toInt64 - ((chG I r (3 * j + k) t.toInt64 u.toInt64 v.toInt64).2.1), v.toInt64 - ((chG I r (3 * j + k) t.toInt64 u.toInt64 v.toInt64).2.2)), c.2.2.2.2)) r n := ⟨_, rfl⟩
  rw [← es_11] at hr_7 fs_11
  rw [least_scJ, least_scI] at hr_7
  rw [(Prod.mk.inj hr_7).1, (Prod.mk.inj hr_7).2] at hh
  have hh : gm_St D cs sh (gm_A sh) s'.heap sz (scI I r (s_11.1, s_11.2.1, s_11.2.2, (t.toInt64 - ((chG I r (3 * j + k) t.toInt64 u.toInt64 v.toInt64).1), u.toInt64 - ((chG I r (3 * j + k) t.toInt64 u.toInt64 v.toInt64).2.1), v.toInt64 - ((chG I r (3 * j + k) t.toInt64 u.toInt64 v.toInt64).2.2)), w_10)) (scJ J r (s_11.1, s_11.2.1, s_11.2.2, (t.toInt64 - ((chG I r (3 * j + k) t.toInt64 u.toInt64 v.toInt64).1), u.toInt64 - ((chG I r (3 * j + k) t.toInt64 u.toInt64 v.toInt64).2.1), v.toInt64 - ((chG I r (3 * j + k) t.toInt64 u.toInt64 v.toInt64).2.2)), w_10)) H locs := hh
  refine lv_aload_n C.1 C.2.1 d_Md_falls_51 rfl (lv_at hl 1 rfl) ?_
  refine gg_i C hh (Md_0 hM) rfl in_Md 20 (by decide) rfl tw_585 rfl d_Md_falls_52 ?_
  refine gm_eqi (y := bI s_11.1) (by exact scI_20 _ _ _) ?_
  refine lv_if_eq (tgt := 73) C.1 C.2.1 d_Md_falls_55 (by decide) (fun c_12 => ?_) (fun c_12 => ?_)
  · -- 55 -> 73
    have b_13 := bI_f (rfl : bI s_11.1 = bI s_11.1) c_12
    skip
    refine lv_iconst (v := nI 0) C.1 C.2.1 d_Md_falls_73 rfl ?_
    exact gr_i C hlk hret rfl hh (by refine ⟨?_, _, rfl⟩; subst hr_1; rw [fallsV_of fs_11]; first | (rw [if_pos (Or.inl (by assumption))]; rfl) | (rw [if_pos (Or.inr (by assumption))]; rfl) | (rw [if_neg (nor3 (by assumption) (by assumption)), if_pos (by assumption)]; rfl) | (rw [if_neg (nor3 (by assumption) (by assumption)), if_neg (Int64.not_le.mpr (by assumption))]; rfl)) d_Md_falls_74
  · -- 55 -> 58
    have b_14 := bI_t (rfl : bI s_11.1 = bI s_11.1) c_12
    skip
    refine lv_aload_n C.1 C.2.1 d_Md_falls_58 rfl (lv_at hl 1 rfl) ?_
    refine gg_l C hh (Md_0 hM) rfl in_Md 21 (by decide) rfl tw_586 rfl d_Md_falls_59 ?_
    refine gm_eql (y := s_11.2.1) (by exact (scJ_a _ r _).1) ?_
    refine lv_lload C.1 C.2.1 d_Md_falls_62 (lv_at hl 0 rfl) ?_
    refine lv_aload_n C.1 C.2.1 d_Md_falls_64 rfl (lv_at hl 1 rfl) ?_
    refine gg_l C hh (Md_0 hM) rfl in_Md 22 (by decide) rfl tw_587 rfl d_Md_falls_65 ?_
    refine gm_eql (y := s_11.2.2) (by exact (scJ_a _ r _).2) ?_
    refine lv_lmul C.1 C.2.1 d_Md_falls_68 ?_
    refine W.lcmp C.1 C.2.1 d_Md_falls_69 ?_
    refine lv_if_ge (tgt := 75) C.1 C.2.1 d_Md_falls_70 (by decide) (fun c_15 => ?_) (fun c_15 => ?_)
    · -- 70 -> 75
      have c_15 := gm_lget c_15
      refine lv_aload_n C.1 C.2.1 d_Md_falls_75 rfl (lv_at hl 1 rfl) ?_
      refine gg_l C hh (Md_0 hM) rfl in_Md 21 (by decide) rfl tw_586 rfl d_Md_falls_76 ?_
      refine gm_eql (y := s_11.2.1) (by exact (scJ_a _ r _).1) ?_
      refine lv_lload C.1 C.2.1 d_Md_falls_79 (lv_at hl 0 rfl) ?_
      refine lv_lconst (v := 1) C.1 C.2.1 d_Md_falls_81 rfl ?_
      refine lv_ladd C.1 C.2.1 d_Md_falls_82 ?_
      refine lv_aload_n C.1 C.2.1 d_Md_falls_83 rfl (lv_at hl 1 rfl) ?_
      refine gg_l C hh (Md_0 hM) rfl in_Md 22 (by decide) rfl tw_587 rfl d_Md_falls_84 ?_
      refine gm_eql (y := s_11.2.2) (by exact (scJ_a _ r _).2) ?_
      refine lv_lmul C.1 C.2.1 d_Md_falls_87 ?_
      refine W.lcmp C.1 C.2.1 d_Md_falls_88 ?_
      refine lv_if_lt (tgt := 97) C.1 C.2.1 d_Md_falls_89 (by decide) (fun c_16 => ?_) (fun c_16 => ?_)
      · -- 89 -> 97
        have c_16 := gm_lltt c_16
        refine lv_iconst (v := nI 2) C.1 C.2.1 d_Md_falls_97 rfl ?_
        exact gr_i C hlk hret rfl hh (by refine ⟨?_, _, rfl⟩; subst hr_1; rw [fallsV_of fs_11]; first | (rw [if_pos (Or.inl (by assumption))]; rfl) | (rw [if_pos (Or.inr (by assumption))]; rfl) | (rw [if_neg (nor3 (by assumption) (by assumption)), if_pos (by assumption)]; rfl) | (rw [if_neg (nor3 (by assumption) (by assumption)), if_neg (Int64.not_le.mpr (by assumption))]; rfl)) d_Md_falls_98
      · -- 89 -> 92
        have c_16 := gm_lltf c_16
        refine lv_bipush (v := nI 6) C.1 C.2.1 d_Md_falls_92 rfl ?_
        refine lv_goto (tgt := 98) C.1 C.2.1 d_Md_falls_94 (by decide) ?_
        exact gr_i C hlk hret rfl hh (by refine ⟨?_, _, rfl⟩; subst hr_1; rw [fallsV_of fs_11]; first | (rw [if_pos (Or.inl (by assumption))]; rfl) | (rw [if_pos (Or.inr (by assumption))]; rfl) | (rw [if_neg (nor3 (by assumption) (by assumption)), if_pos (by assumption)]; rfl) | (rw [if_neg (nor3 (by assumption) (by assumption)), if_neg (Int64.not_le.mpr (by assumption))]; rfl)) d_Md_falls_98
    · -- 70 -> 73
      have c_15 := gm_lgef c_15
      refine lv_iconst (v := nI 0) C.1 C.2.1 d_Md_falls_73 rfl ?_
      exact gr_i C hlk hret rfl hh (by refine ⟨?_, _, rfl⟩; subst hr_1; rw [fallsV_of fs_11]; first | (rw [if_pos (Or.inl (by assumption))]; rfl) | (rw [if_pos (Or.inr (by assumption))]; rfl) | (rw [if_neg (nor3 (by assumption) (by assumption)), if_pos (by assumption)]; rfl) | (rw [if_neg (nor3 (by assumption) (by assumption)), if_neg (Int64.not_le.mpr (by assumption))]; rfl)) d_Md_falls_74
