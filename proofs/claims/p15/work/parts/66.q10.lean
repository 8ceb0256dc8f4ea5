set_option maxHeartbeats 4000000 in
set_option maxRecDepth 100000 in
theorem c_Sp_fillQ (l : Launch) (D : va_G) (cs : Nat → ClassId) (sh : gm_H) (sz : Nat) (I : gm_I) (J : gm_J) (q : Nat) (hs : is_Sp sh q) (o : Nat) (ho : is_Lp cs sh o) (w : Nat) (hw : w < 3) (hd : o + 20 < q ∨ q + 5 < o) (nm g t : Nat) (enm : I o 0 = nI nm) (hn1 : 1 ≤ nm) (hn3 : nm ≤ 3) (eg : I (o + 1) 2 = nI g) (hg4 : g ≤ 4) (et : I (o + 6 + 5 * w + 1) 2 = nI t) (ht2 : t ≤ 2) (hG : ∀ i, i < g + t → dd_sm (fF I o w g i) ∧ fF I o w g i ≠ dd_0) : CV l y_Sp_fill w_Sp_fill { frames := 4, cells := 0, slots := 0, locals := 111 } D cs sh sz I J [.ref q, .ref o, .int (nI w)] (fun u => skP q (dd_ab nm) (dd_rw (fF I o w g) (g + t)) I J u) := by
  refine gm_start (by decide) (Nat.le_of_ble_eq_true rfl) ?_
  intro p' e' s' m' be' me' co' ls C hml hlk hret hh hl
  have hl : lv_has ls 7 [(0, .ref q), (1, .ref o), (2, .int (nI w))] := hl
  have tO_0 : offR q (q + 5) I I J J := offR.nil
  refine lv_aload_n C.1 C.2.1 d_Sp_fill_0 rfl (lv_at hl 0 rfl) ?_
  refine lv_aload_n C.1 C.2.1 d_Sp_fill_1 rfl (lv_at hl 1 rfl) ?_
  refine gn_i C hh ho.1 rfl in_Lp 0 (by decide) rfl tw_152 rfl d_Sp_fill_2 ?_
  refine gm_eqi enm ?_
  refine gc_v hh (gc_runV (As := [.int (nI nm)]) (rest := []) (n := 1) C hml hh (c_Sp_beginQ l D cs sh sz I J q hs nm hn1 hn3) (tg_V tw_330 tw_332 tw_5 tw_63 tw_333) (by decide +kernel) ⟨rfl, rfl, by decide, by decide, Nat.zero_le _, Nat.zero_le _⟩ hs.1 rfl rfl hl.1 rfl (Nat.le_of_ble_eq_true rfl) d_Sp_fill_5) (fun I_2 J_3 H locs hr_1 hh => ?_)
  have tO_4 : offR q (q + 5) I I_2 J J_3 := hr_1.1
  have hK0_ : sp_K I_2 J_3 q (dd_ab nm) (dd_rw (fF I o w g) 0) := hr_1.2
  refine lv_aload_n C.1 C.2.1 d_Sp_fill_8 rfl (lv_at hl 1 rfl) ?_
  refine gn_r C hh ho.1 rfl in_Lp 1 (by decide) rfl tw_155 rfl d_Sp_fill_9 ?_
  refine gn_r C hh ho.2.1.1 rfl in_Rw 0 (by decide) rfl tw_112 rfl d_Sp_fill_12 ?_
  refine lv_astore_n (lv' := [(3, .ref (o + 1 + 1)), (0, .ref q), (1, .ref o), (2, .int (nI w))]) C.1 C.2.1 d_Sp_fill_15 rfl hl (by decide) rfl (fun ls hl => ?_)
  refine lv_iconst (v := nI 0) C.1 C.2.1 d_Sp_fill_16 rfl ?_
  refine lv_istore (lv' := [(4, .int (nI 0)), (3, .ref (o + 1 + 1)), (0, .ref q), (1, .ref o), (2, .int (nI w))]) C.1 C.2.1 d_Sp_fill_17 hl (by decide) rfl (fun ls hl => ?_)
  have K19 : ∀ (n_19 : Nat) (k : Nat) (I19 : gm_I) (J19 : gm_J) (hk : k ≤ g) (hK : sp_K I19 J19 q (dd_ab nm) (dd_rw (fF I o w g) k)) (tO19 : offR q (q + 5) I I19 J J19) (hm_19 : g - k < n_19), ∀ (H : Heap) (locs : List Loc) (ls : Array Slot), gm_St D cs sh (gm_A sh) s'.heap sz I19 J19 H locs → lv_has ls 7 [(0, .ref q), (1, .ref o), (2, .int (nI w)), (3, .ref (o + 1 + 1)), (4, .int (nI (4 * k)))] → W p' l e' { frames := 4, cells := 0, slots := 0, locals := 111 } s' m' ([.ref q, .ref o, .int (nI w)] : List Value).toArray be' me' co' H locs 0 0 (MQ be' (va_Qv (fun u => skP q (dd_ab nm) (dd_rw (fF I o w g) (g + t)) I J u) (gm_B D cs sh sz) (gm_A sh)) ([.ref q, .ref o, .int (nI w)] : List Value).toArray s' 0 0 (gm_A sh)) (F0 m' 19 ls []) := by
    intro n_19
    induction n_19 with
    | zero => intro k I19 J19 hk hK tO19 hm_19; exact absurd hm_19 (Nat.not_lt_zero _)
    | succ n_19 ih19 =>
      intro k I19 J19 hk hK tO19 hm_19 H locs ls hh hl
      refine lv_iload C.1 C.2.1 d_Sp_fill_19 (lv_at hl 4 rfl) ?_
      refine lv_iconst (v := nI 4) C.1 C.2.1 d_Sp_fill_21 rfl ?_
      refine lv_aload_n C.1 C.2.1 d_Sp_fill_22 rfl (lv_at hl 1 rfl) ?_
      refine gn_r C hh ho.1 rfl in_Lp 1 (by decide) rfl tw_155 rfl d_Sp_fill_23 ?_
      refine gn_i C hh ho.2.1.1 rfl in_Rw 2 (by decide) rfl tw_117 rfl d_Sp_fill_26 ?_
      refine gm_eqi ((congrFun (offR.i tO19 (by omega)) 2).trans eg) ?_
      refine lv_imul C.1 C.2.1 d_Sp_fill_29 ?_
      refine gm_eqi (pk_mul _ _) ?_
      refine lv_icmp_ge (tgt := 65) C.1 C.2.1 d_Sp_fill_30 (by decide) (fun c_5 => ?_) (fun c_5 => ?_)
      · -- 30 -> 65
        have c_5 := gm_get (by omega) (by omega) c_5
        have c_5' := Nat.not_lt.mpr c_5
        refine lv_aload_n C.1 C.2.1 d_Sp_fill_65 rfl (lv_at hl 1 rfl) ?_
        refine gn_r C hh ho.1 rfl in_Lp 2 (by decide) rfl tw_158 rfl d_Sp_fill_66 ?_
        refine lv_iload_n C.1 C.2.1 d_Sp_fill_69 rfl (lv_at hl 2 rfl) ?_
        refine ga_q C hh 4 ho.2.2.1 (Cn := "FallingTerms$Way") rfl (k := w) (v := o + 6 + 5 * w) rfl (by omega) (by omega) (if_pos (by omega)) d_Sp_fill_70 ?_
        obtain ⟨p_6, ep_6⟩ : ∃ z : Nat, z = o + 6 + 5 * w := ⟨_, rfl⟩
        have hp_6 : is_Wy sh p_6 := by rw [ep_6]; exact ho.2.2.2.2.2 w (by omega)
        refine gm_eqr ep_6.symm ?_
        refine gn_r C hh hp_6.1 rfl in_Wy 0 (by decide) rfl tw_137 rfl d_Sp_fill_71 ?_
        refine lv_astore (lv' := [(4, .ref (p_6 + 1)), (0, .ref q), (1, .ref o), (2, .int (nI w)), (3, .ref (o + 1 + 1))]) C.1 C.2.1 d_Sp_fill_74 hl (by decide) rfl (fun ls hl => ?_)
        refine lv_aload C.1 C.2.1 d_Sp_fill_76 (lv_at hl 0 rfl) ?_
        refine gn_r C hh hp_6.2.1.1 rfl in_Rw 0 (by decide) rfl tw_112 rfl d_Sp_fill_78 ?_
        refine lv_astore (lv' := [(5, .ref (p_6 + 1 + 1)), (4, .ref (p_6 + 1)), (0, .ref q), (1, .ref o), (2, .int (nI w)), (3, .ref (o + 1 + 1))]) C.1 C.2.1 d_Sp_fill_81 hl (by decide) rfl (fun ls hl => ?_)
        refine lv_iconst (v := nI 0) C.1 C.2.1 d_Sp_fill_83 rfl ?_
        refine lv_istore (lv' := [(6, .int (nI 0)), (5, .ref (p_6 + 1 + 1)), (4, .ref (p_6 + 1)), (0, .ref q), (1, .ref o), (2, .int (nI w)), (3, .ref (o + 1 + 1))]) C.1 C.2.1 d_Sp_fill_84 hl (by decide) rfl (fun ls hl => ?_)
        have K86 : ∀ (n_86 : Nat) (k2 : Nat) (I86 : gm_I) (J86 : gm_J) (hk2 : k2 ≤ t) (hK2 : sp_K I86 J86 q (dd_ab nm) (dd_rw (fF I o w g) (g + k2))) (tO86 : offR q (q + 5) I I86 J J86) (hm_86 : t - k2 < n_86), ∀ (H : Heap) (locs : List Loc) (ls : Array Slot), gm_St D cs sh (gm_A sh) s'.heap sz I86 J86 H locs → lv_has ls 7 [(0, .ref q), (4, .ref (p_6 + 1)), (5, .ref (p_6 + 1 + 1)), (6, .int (nI (4 * k2)))] → W p' l e' { frames := 4, cells := 0, slots := 0, locals := 111 } s' m' ([.ref q, .ref o, .int (nI w)] : List Value).toArray be' me' co' H locs 0 0 (MQ be' (va_Qv (fun u => skP q (dd_ab nm) (dd_rw (fF I o w g) (g + t)) I J u) (gm_B D cs sh sz) (gm_A sh)) ([.ref q, .ref o, .int (nI w)] : List Value).toArray s' 0 0 (gm_A sh)) (F0 m' 86 ls []) := by
          intro n_86
          induction n_86 with
          | zero => intro k2 I86 J86 hk2 hK2 tO86 hm_86; exact absurd hm_86 (Nat.not_lt_zero _)
          | succ n_86 ih86 =>
            intro k2 I86 J86 hk2 hK2 tO86 hm_86 H locs ls hh hl
            refine lv_iload C.1 C.2.1 d_Sp_fill_86 (lv_at hl 3 rfl) ?_
            refine lv_iconst (v := nI 4) C.1 C.2.1 d_Sp_fill_88 rfl ?_
            refine lv_aload C.1 C.2.1 d_Sp_fill_89 (lv_at hl 1 rfl) ?_
            refine gn_i C hh hp_6.2.1.1 rfl in_Rw 2 (by decide) rfl tw_117 rfl d_Sp_fill_91 ?_
            refine gm_eqi ((congrFun (offR.i tO86 (by omega)) 2).trans (by rw [ep_6]; exact et : I (p_6 + 1) 2 = nI t)) ?_
            refine lv_imul C.1 C.2.1 d_Sp_fill_94 ?_
            refine gm_eqi (pk_mul _ _) ?_
            refine lv_icmp_ge (tgt := 134) C.1 C.2.1 d_Sp_fill_95 (by decide) (fun c_7 => ?_) (fun c_7 => ?_)
            · -- 95 -> 134
              have c_7 := gm_get (by omega) (by omega) c_7
              have c_7' := Nat.not_lt.mpr c_7
              exact gr_v C hlk hret hh (by exact ⟨tO86, (by have h_ := hK2; rw [show k2 = t by omega] at h_; exact h_)⟩) d_Sp_fill_134
            · -- 95 -> 98
              have c_7 := gm_gef (by omega) (by omega) c_7
              have c_7' := Nat.not_le.mpr c_7
              refine lv_aload_n C.1 C.2.1 d_Sp_fill_98 rfl (lv_at hl 0 rfl) ?_
              refine lv_aload C.1 C.2.1 d_Sp_fill_99 (lv_at hl 2 rfl) ?_
              refine lv_iload C.1 C.2.1 d_Sp_fill_101 (lv_at hl 3 rfl) ?_
              refine ga_i C hh hp_6.2.1.2 (k := 4 * k2) rfl (by omega) (by omega) d_Sp_fill_103 ?_
              refine lv_aload C.1 C.2.1 d_Sp_fill_104 (lv_at hl 2 rfl) ?_
              refine lv_iload C.1 C.2.1 d_Sp_fill_106 (lv_at hl 3 rfl) ?_
              refine lv_iconst (v := nI 1) C.1 C.2.1 d_Sp_fill_108 rfl ?_
              refine lv_iadd C.1 C.2.1 d_Sp_fill_109 ?_
              refine gm_eqi (nI_add _ _) ?_
              refine ga_i C hh hp_6.2.1.2 (k := (4 * k2) + 1) rfl (by omega) (by omega) d_Sp_fill_110 ?_
              refine lv_aload C.1 C.2.1 d_Sp_fill_111 (lv_at hl 2 rfl) ?_
              refine lv_iload C.1 C.2.1 d_Sp_fill_113 (lv_at hl 3 rfl) ?_
              refine lv_iconst (v := nI 2) C.1 C.2.1 d_Sp_fill_115 rfl ?_
              refine lv_iadd C.1 C.2.1 d_Sp_fill_116 ?_
              refine gm_eqi (nI_add _ _) ?_
              refine ga_i C hh hp_6.2.1.2 (k := (4 * k2) + 2) rfl (by omega) (by omega) d_Sp_fill_117 ?_
              refine lv_aload C.1 C.2.1 d_Sp_fill_118 (lv_at hl 2 rfl) ?_
              refine lv_iload C.1 C.2.1 d_Sp_fill_120 (lv_at hl 3 rfl) ?_
              refine lv_iconst (v := nI 3) C.1 C.2.1 d_Sp_fill_122 rfl ?_
              refine lv_iadd C.1 C.2.1 d_Sp_fill_123 ?_
              refine gm_eqi (nI_add _ _) ?_
              refine ga_i C hh hp_6.2.1.2 (k := (4 * k2) + 3) rfl (by omega) (by omega) d_Sp_fill_124 ?_
              have ef_ : rV (I86 (p_6 + 1 + 1) (4 * k2)) (I86 (p_6 + 1 + 1) ((4 * k2) + 1)) (I86 (p_6 + 1 + 1) ((4 * k2) + 2)) (I86 (p_6 + 1 + 1) ((4 * k2) + 3)) = fF I o w g (g + k2) := fF_2 (I1 := I86) ep_6 (offR.i tO86 (by omega))
              refine gc_v hh (gc_runV (As := [.int (I86 (p_6 + 1 + 1) (4 * k2)), .int (I86 (p_6 + 1 + 1) ((4 * k2) + 1)), .int (I86 (p_6 + 1 + 1) ((4 * k2) + 2)), .int (I86 (p_6 + 1 + 1) ((4 * k2) + 3))]) (rest := []) (n := 4) C hml hh (c_Sp_narrowQ l D cs sh sz I86 J86 q hs (dd_ab nm) (dd_rw (fF I o w g) (g + k2)) List.mem_cons_self (by rw [dd_rw_len]; omega) hK2 (I86 (p_6 + 1 + 1) (4 * k2)) (I86 (p_6 + 1 + 1) ((4 * k2) + 1)) (I86 (p_6 + 1 + 1) ((4 * k2) + 2)) (I86 (p_6 + 1 + 1) ((4 * k2) + 3)) (by rw [ef_]; exact (hG _ (by omega)).1) (by rw [ef_]; exact (hG _ (by omega)).2)) (tg_V tw_338 tw_339 tw_340 tw_63 tw_341) (by decide +kernel) ⟨rfl, rfl, by decide, by decide, Nat.zero_le _, Nat.zero_le _⟩ hs.1 rfl rfl hl.1 rfl (Nat.le_of_ble_eq_true rfl) d_Sp_fill_125) (fun I_9 J_10 H locs hr_8 hh => ?_)
              have tO_11 : offR q (q + 5) I I_9 J J_10 := offR.tr tO86 hr_8.1
              have hKn_ : sp_K I_9 J_10 q (dd_ab nm) (dd_rw (fF I o w g) (g + k2 + 1)) := by have h_ := hr_8.2; rw [ef_, ← dd_rw_succ] at h_; exact h_
              refine lv_iinc (v := nI (4 * k2 + 4)) (lv' := [(6, .int (nI (4 * k2 + 4))), (0, .ref q), (4, .ref (p_6 + 1)), (5, .ref (p_6 + 1 + 1))]) C.1 C.2.1 d_Sp_fill_128 hl (k := 3) rfl (gm_inc (4 * k2) 4) (by decide) rfl (fun ls hl => ?_)
              refine lv_goto (tgt := 86) C.1 C.2.1 d_Sp_fill_131 (by decide) ?_
              exact ih86 (k2 + 1) I_9 J_10 (by omega) (by exact hKn_) (by exact tO_11) (by omega) _ _ _ hh (lv_sub hl [1, 2, 3, 0] rfl)
        exact K86 _ 0 I19 J19 (by omega) (by rw [show g + 0 = k by omega]; exact hK) (by exact tO19) (Nat.lt_succ_self _) _ _ _ hh (lv_sub hl [3, 2, 1, 0] rfl)
      · -- 30 -> 33
        have c_5 := gm_gef (by omega) (by omega) c_5
        have c_5' := Nat.not_le.mpr c_5
        refine lv_aload_n C.1 C.2.1 d_Sp_fill_33 rfl (lv_at hl 0 rfl) ?_
        refine lv_aload_n C.1 C.2.1 d_Sp_fill_34 rfl (lv_at hl 3 rfl) ?_
        refine lv_iload C.1 C.2.1 d_Sp_fill_35 (lv_at hl 4 rfl) ?_
        refine ga_i C hh ho.2.1.2 (k := 4 * k) rfl (by omega) (by omega) d_Sp_fill_37 ?_
        refine lv_aload_n C.1 C.2.1 d_Sp_fill_38 rfl (lv_at hl 3 rfl) ?_
        refine lv_iload C.1 C.2.1 d_Sp_fill_39 (lv_at hl 4 rfl) ?_
        refine lv_iconst (v := nI 1) C.1 C.2.1 d_Sp_fill_41 rfl ?_
        refine lv_iadd C.1 C.2.1 d_Sp_fill_42 ?_
        refine gm_eqi (nI_add _ _) ?_
        refine ga_i C hh ho.2.1.2 (k := (4 * k) + 1) rfl (by omega) (by omega) d_Sp_fill_43 ?_
        refine lv_aload_n C.1 C.2.1 d_Sp_fill_44 rfl (lv_at hl 3 rfl) ?_
        refine lv_iload C.1 C.2.1 d_Sp_fill_45 (lv_at hl 4 rfl) ?_
        refine lv_iconst (v := nI 2) C.1 C.2.1 d_Sp_fill_47 rfl ?_
        refine lv_iadd C.1 C.2.1 d_Sp_fill_48 ?_
        refine gm_eqi (nI_add _ _) ?_
        refine ga_i C hh ho.2.1.2 (k := (4 * k) + 2) rfl (by omega) (by omega) d_Sp_fill_49 ?_
        refine lv_aload_n C.1 C.2.1 d_Sp_fill_50 rfl (lv_at hl 3 rfl) ?_
        refine lv_iload C.1 C.2.1 d_Sp_fill_51 (lv_at hl 4 rfl) ?_
        refine lv_iconst (v := nI 3) C.1 C.2.1 d_Sp_fill_53 rfl ?_
        refine lv_iadd C.1 C.2.1 d_Sp_fill_54 ?_
        refine gm_eqi (nI_add _ _) ?_
        refine ga_i C hh ho.2.1.2 (k := (4 * k) + 3) rfl (by omega) (by omega) d_Sp_fill_55 ?_
        have ef_ : rV (I19 (o + 1 + 1) (4 * k)) (I19 (o + 1 + 1) ((4 * k) + 1)) (I19 (o + 1 + 1) ((4 * k) + 2)) (I19 (o + 1 + 1) ((4 * k) + 3)) = fF I o w g k := fF_1 (I1 := I19) (by omega) (offR.i tO19 (by omega))
        refine gc_v hh (gc_runV (As := [.int (I19 (o + 1 + 1) (4 * k)), .int (I19 (o + 1 + 1) ((4 * k) + 1)), .int (I19 (o + 1 + 1) ((4 * k) + 2)), .int (I19 (o + 1 + 1) ((4 * k) + 3))]) (rest := []) (n := 4) C hml hh (c_Sp_narrowQ l D cs sh sz I19 J19 q hs (dd_ab nm) (dd_rw (fF I o w g) (k)) List.mem_cons_self (by rw [dd_rw_len]; omega) hK (I19 (o + 1 + 1) (4 * k)) (I19 (o + 1 + 1) ((4 * k) + 1)) (I19 (o + 1 + 1) ((4 * k) + 2)) (I19 (o + 1 + 1) ((4 * k) + 3)) (by rw [ef_]; exact (hG _ (by omega)).1) (by rw [ef_]; exact (hG _ (by omega)).2)) (tg_V tw_338 tw_339 tw_340 tw_63 tw_341) (by decide +kernel) ⟨rfl, rfl, by decide, by decide, Nat.zero_le _, Nat.zero_le _⟩ hs.1 rfl rfl hl.1 rfl (Nat.le_of_ble_eq_true rfl) d_Sp_fill_56) (fun I_13 J_14 H locs hr_12 hh => ?_)
        have tO_15 : offR q (q + 5) I I_13 J J_14 := offR.tr tO19 hr_12.1
        have hKn_ : sp_K I_13 J_14 q (dd_ab nm) (dd_rw (fF I o w g) (k + 1)) := by have h_ := hr_12.2; rw [ef_, ← dd_rw_succ] at h_; exact h_
        refine lv_iinc (v := nI (4 * k + 4)) (lv' := [(4, .int (nI (4 * k + 4))), (0, .ref q), (1, .ref o), (2, .int (nI w)), (3, .ref (o + 1 + 1))]) C.1 C.2.1 d_Sp_fill_59 hl (k := 4) rfl (gm_inc (4 * k) 4) (by decide) rfl (fun ls hl => ?_)
        refine lv_goto (tgt := 19) C.1 C.2.1 d_Sp_fill_62 (by decide) ?_
        exact ih19 (k + 1) I_13 J_14 (by omega) (by exact hKn_) (by exact tO_15) (by omega) _ _ _ hh (lv_sub hl [1, 2, 3, 4, 0] rfl)
  exact K19 _ 0 I_2 J_3 (by omega) (by exact hK0_) (by exact tO_4) (Nat.lt_succ_self _) _ _ _ hh (lv_sub hl [2, 3, 4, 1, 0] rfl)
