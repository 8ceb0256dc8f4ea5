set_option maxHeartbeats 4000000 in
set_option maxRecDepth 100000 in
theorem c_Wy_begin (l : Launch) (D : va_G) (cs : Nat → ClassId) (sh : gm_H) (sz : Nat) (I : gm_I) (J : gm_J) (w : Nat) (hw : is_Wy sh w)  : CV l y_Wy_begin w_Wy_begin { frames := 0, cells := 0, slots := 0, locals := 0 } D cs sh sz I J [.ref w] (fun u => u = (bgI I w, J)) := by
  refine gm_start (by decide) (Nat.le_of_ble_eq_true rfl) ?_
  intro p' e' s' m' be' me' co' ls C hml hlk hret hh hl
  have hl : lv_has ls 3 [(0, .ref w)] := hl
  refine lv_aload_n C.1 C.2.1 d_Wy_begin_0 rfl (lv_at hl 0 rfl) ?_
  refine gg_r C hh hw.1 rfl in_Wy 0 (by decide) rfl tw_136 rfl d_Wy_begin_1 ?_
  refine lv_iconst (v := nI 0) C.1 C.2.1 d_Wy_begin_4 rfl ?_
  refine gq_i (ty := .int) C hh hw.2.1.1 rfl in_Rw t_Rw t_Rw_ok n_Rw 2 (by decide) rfl tw_115 rfl rfl (by decide +kernel) rfl rfl d_Wy_begin_5 (fun H locs hh => ?_)
  obtain ⟨I_1, eI_1⟩ : ∃ z : gm_I, z = gm_up I (w + 1) 2 (nI 0) := ⟨_, rfl⟩
  rw [← eI_1] at hh
  refine lv_iconst (v := nI 0) C.1 C.2.1 d_Wy_begin_8 rfl ?_
  refine lv_istore_n (lv' := [(1, .int (nI 0)), (0, .ref w)]) C.1 C.2.1 d_Wy_begin_9 rfl hl (by decide) rfl (fun ls hl => ?_)
  refine lv_iload_n C.1 C.2.1 d_Wy_begin_10 rfl (lv_at hl 0 rfl) ?_
  refine lv_iconst (v := nI 3) C.1 C.2.1 d_Wy_begin_11 rfl ?_
  refine lv_icmp_ge (tgt := 61) C.1 C.2.1 d_Wy_begin_12 (by decide) (fun c_ => absurd c_ (by decide)) (fun c_ => ?_)
  refine lv_aload_n C.1 C.2.1 d_Wy_begin_15 rfl (lv_at hl 1 rfl) ?_
  refine gg_r C hh hw.1 rfl in_Wy 2 (by decide) rfl tw_142 rfl d_Wy_begin_16 ?_
  refine lv_iload_n C.1 C.2.1 d_Wy_begin_19 rfl (lv_at hl 0 rfl) ?_
  refine lv_iconst (v := nI 0) C.1 C.2.1 d_Wy_begin_20 rfl ?_
  refine gs_i C hh hw.2.2.2 (k := 0) rfl (by omega) (by omega) d_Wy_begin_21 (fun H locs hh => ?_)
  obtain ⟨I_2, eI_2⟩ : ∃ z : gm_I, z = gm_up I_1 (w + 4) 0 (nI 0) := ⟨_, rfl⟩
  rw [← eI_2] at hh
  refine lv_iconst (v := nI 0) C.1 C.2.1 d_Wy_begin_22 rfl ?_
  refine lv_istore_n (lv' := [(2, .int (nI 0)), (1, .int (nI 0)), (0, .ref w)]) C.1 C.2.1 d_Wy_begin_23 rfl hl (by decide) rfl (fun ls hl => ?_)
  refine lv_iload_n C.1 C.2.1 d_Wy_begin_24 rfl (lv_at hl 0 rfl) ?_
  refine lv_iconst (v := nI 3) C.1 C.2.1 d_Wy_begin_25 rfl ?_
  refine lv_icmp_ge (tgt := 55) C.1 C.2.1 d_Wy_begin_26 (by decide) (fun c_ => absurd c_ (by decide)) (fun c_ => ?_)
  refine lv_aload_n C.1 C.2.1 d_Wy_begin_29 rfl (lv_at hl 2 rfl) ?_
  refine gg_r C hh hw.1 rfl in_Wy 1 (by decide) rfl tw_140 rfl d_Wy_begin_30 ?_
  refine lv_iconst (v := nI 3) C.1 C.2.1 d_Wy_begin_33 rfl ?_
  refine lv_iload_n C.1 C.2.1 d_Wy_begin_34 rfl (lv_at hl 1 rfl) ?_
  refine lv_imul C.1 C.2.1 d_Wy_begin_35 ?_
  refine gm_eqi (y := nI 0) (by decide) ?_
  refine lv_iload_n C.1 C.2.1 d_Wy_begin_36 rfl (lv_at hl 0 rfl) ?_
  refine lv_iadd C.1 C.2.1 d_Wy_begin_37 ?_
  refine gm_eqi (y := nI 0) (by decide) ?_
  refine lv_iload_n C.1 C.2.1 d_Wy_begin_38 rfl (lv_at hl 1 rfl) ?_
  refine lv_iload_n C.1 C.2.1 d_Wy_begin_39 rfl (lv_at hl 0 rfl) ?_
  refine lv_icmp_ne (tgt := 47) C.1 C.2.1 d_Wy_begin_40 (by decide) (fun c_ => absurd (by decide) c_) (fun c_ => ?_)
  refine lv_iconst (v := nI 1) C.1 C.2.1 d_Wy_begin_43 rfl ?_
  refine lv_goto (tgt := 48) C.1 C.2.1 d_Wy_begin_44 (by decide) ?_
  refine gs_i C hh hw.2.2.1 (k := 0) rfl (by omega) (by omega) d_Wy_begin_48 (fun H locs hh => ?_)
  obtain ⟨I_3, eI_3⟩ : ∃ z : gm_I, z = gm_up I_2 (w + 3) 0 (nI 1) := ⟨_, rfl⟩
  rw [← eI_3] at hh
  refine lv_iinc (v := nI 1) (lv' := [(2, .int (nI 1)), (1, .int (nI 0)), (0, .ref w)]) C.1 C.2.1 d_Wy_begin_49 hl (k := 0) rfl (gm_inc 0 1) (by decide) rfl (fun ls hl => ?_)
  refine lv_goto (tgt := 24) C.1 C.2.1 d_Wy_begin_52 (by decide) ?_
  refine lv_iload_n C.1 C.2.1 d_Wy_begin_24 rfl (lv_at hl 0 rfl) ?_
  refine lv_iconst (v := nI 3) C.1 C.2.1 d_Wy_begin_25 rfl ?_
  refine lv_icmp_ge (tgt := 55) C.1 C.2.1 d_Wy_begin_26 (by decide) (fun c_ => absurd c_ (by decide)) (fun c_ => ?_)
  refine lv_aload_n C.1 C.2.1 d_Wy_begin_29 rfl (lv_at hl 2 rfl) ?_
  refine gg_r C hh hw.1 rfl in_Wy 1 (by decide) rfl tw_140 rfl d_Wy_begin_30 ?_
  refine lv_iconst (v := nI 3) C.1 C.2.1 d_Wy_begin_33 rfl ?_
  refine lv_iload_n C.1 C.2.1 d_Wy_begin_34 rfl (lv_at hl 1 rfl) ?_
  refine lv_imul C.1 C.2.1 d_Wy_begin_35 ?_
  refine gm_eqi (y := nI 0) (by decide) ?_
  refine lv_iload_n C.1 C.2.1 d_Wy_begin_36 rfl (lv_at hl 0 rfl) ?_
  refine lv_iadd C.1 C.2.1 d_Wy_begin_37 ?_
  refine gm_eqi (y := nI 1) (by decide) ?_
  refine lv_iload_n C.1 C.2.1 d_Wy_begin_38 rfl (lv_at hl 1 rfl) ?_
  refine lv_iload_n C.1 C.2.1 d_Wy_begin_39 rfl (lv_at hl 0 rfl) ?_
  refine lv_icmp_ne (tgt := 47) C.1 C.2.1 d_Wy_begin_40 (by decide) (fun c_ => ?_) (fun c_ => absurd c_ (by decide))
  refine lv_iconst (v := nI 0) C.1 C.2.1 d_Wy_begin_47 rfl ?_
  refine gs_i C hh hw.2.2.1 (k := 1) rfl (by omega) (by omega) d_Wy_begin_48 (fun H locs hh => ?_)
  obtain ⟨I_4, eI_4⟩ : ∃ z : gm_I, z = gm_up I_3 (w + 3) 1 (nI 0) := ⟨_, rfl⟩
  rw [← eI_4] at hh
  refine lv_iinc (v := nI 2) (lv' := [(2, .int (nI 2)), (1, .int (nI 0)), (0, .ref w)]) C.1 C.2.1 d_Wy_begin_49 hl (k := 0) rfl (gm_inc 1 1) (by decide) rfl (fun ls hl => ?_)
  refine lv_goto (tgt := 24) C.1 C.2.1 d_Wy_begin_52 (by decide) ?_
  refine lv_iload_n C.1 C.2.1 d_Wy_begin_24 rfl (lv_at hl 0 rfl) ?_
  refine lv_iconst (v := nI 3) C.1 C.2.1 d_Wy_begin_25 rfl ?_
  refine lv_icmp_ge (tgt := 55) C.1 C.2.1 d_Wy_begin_26 (by decide) (fun c_ => absurd c_ (by decide)) (fun c_ => ?_)
  refine lv_aload_n C.1 C.2.1 d_Wy_begin_29 rfl (lv_at hl 2 rfl) ?_
  refine gg_r C hh hw.1 rfl in_Wy 1 (by decide) rfl tw_140 rfl d_Wy_begin_30 ?_
  refine lv_iconst (v := nI 3) C.1 C.2.1 d_Wy_begin_33 rfl ?_
  refine lv_iload_n C.1 C.2.1 d_Wy_begin_34 rfl (lv_at hl 1 rfl) ?_
  refine lv_imul C.1 C.2.1 d_Wy_begin_35 ?_
  refine gm_eqi (y := nI 0) (by decide) ?_
  refine lv_iload_n C.1 C.2.1 d_Wy_begin_36 rfl (lv_at hl 0 rfl) ?_
  refine lv_iadd C.1 C.2.1 d_Wy_begin_37 ?_
  refine gm_eqi (y := nI 2) (by decide) ?_
  refine lv_iload_n C.1 C.2.1 d_Wy_begin_38 rfl (lv_at hl 1 rfl) ?_
  refine lv_iload_n C.1 C.2.1 d_Wy_begin_39 rfl (lv_at hl 0 rfl) ?_
  refine lv_icmp_ne (tgt := 47) C.1 C.2.1 d_Wy_begin_40 (by decide) (fun c_ => ?_) (fun c_ => absurd c_ (by decide))
  refine lv_iconst (v := nI 0) C.1 C.2.1 d_Wy_begin_47 rfl ?_
  refine gs_i C hh hw.2.2.1 (k := 2) rfl (by omega) (by omega) d_Wy_begin_48 (fun H locs hh => ?_)
  obtain ⟨I_5, eI_5⟩ : ∃ z : gm_I, z = gm_up I_4 (w + 3) 2 (nI 0) := ⟨_, rfl⟩
  rw [← eI_5] at hh
  refine lv_iinc (v := nI 3) (lv' := [(2, .int (nI 3)), (1, .int (nI 0)), (0, .ref w)]) C.1 C.2.1 d_Wy_begin_49 hl (k := 0) rfl (gm_inc 2 1) (by decide) rfl (fun ls hl => ?_)
  refine lv_goto (tgt := 24) C.1 C.2.1 d_Wy_begin_52 (by decide) ?_
  refine lv_iload_n C.1 C.2.1 d_Wy_begin_24 rfl (lv_at hl 0 rfl) ?_
  refine lv_iconst (v := nI 3) C.1 C.2.1 d_Wy_begin_25 rfl ?_
  refine lv_icmp_ge (tgt := 55) C.1 C.2.1 d_Wy_begin_26 (by decide) (fun c_ => ?_) (fun c_ => absurd (by decide) c_)
  refine lv_iinc (v := nI 1) (lv' := [(1, .int (nI 1)), (2, .int (nI 3)), (0, .ref w)]) C.1 C.2.1 d_Wy_begin_55 hl (k := 1) rfl (gm_inc 0 1) (by decide) rfl (fun ls hl => ?_)
  refine lv_goto (tgt := 10) C.1 C.2.1 d_Wy_begin_58 (by decide) ?_
  refine lv_iload_n C.1 C.2.1 d_Wy_begin_10 rfl (lv_at hl 0 rfl) ?_
  refine lv_iconst (v := nI 3) C.1 C.2.1 d_Wy_begin_11 rfl ?_
  refine lv_icmp_ge (tgt := 61) C.1 C.2.1 d_Wy_begin_12 (by decide) (fun c_ => absurd c_ (by decide)) (fun c_ => ?_)
  refine lv_aload_n C.1 C.2.1 d_Wy_begin_15 rfl (lv_at hl 2 rfl) ?_
  refine gg_r C hh hw.1 rfl in_Wy 2 (by decide) rfl tw_142 rfl d_Wy_begin_16 ?_
  refine lv_iload_n C.1 C.2.1 d_Wy_begin_19 rfl (lv_at hl 0 rfl) ?_
  refine lv_iconst (v := nI 0) C.1 C.2.1 d_Wy_begin_20 rfl ?_
  refine gs_i C hh hw.2.2.2 (k := 1) rfl (by omega) (by omega) d_Wy_begin_21 (fun H locs hh => ?_)
  obtain ⟨I_6, eI_6⟩ : ∃ z : gm_I, z = gm_up I_5 (w + 4) 1 (nI 0) := ⟨_, rfl⟩
  rw [← eI_6] at hh
  refine lv_iconst (v := nI 0) C.1 C.2.1 d_Wy_begin_22 rfl ?_
  refine lv_istore_n (lv' := [(2, .int (nI 0)), (1, .int (nI 1)), (0, .ref w)]) C.1 C.2.1 d_Wy_begin_23 rfl hl (by decide) rfl (fun ls hl => ?_)
  refine lv_iload_n C.1 C.2.1 d_Wy_begin_24 rfl (lv_at hl 0 rfl) ?_
  refine lv_iconst (v := nI 3) C.1 C.2.1 d_Wy_begin_25 rfl ?_
  refine lv_icmp_ge (tgt := 55) C.1 C.2.1 d_Wy_begin_26 (by decide) (fun c_ => absurd c_ (by decide)) (fun c_ => ?_)
  refine lv_aload_n C.1 C.2.1 d_Wy_begin_29 rfl (lv_at hl 2 rfl) ?_
  refine gg_r C hh hw.1 rfl in_Wy 1 (by decide) rfl tw_140 rfl d_Wy_begin_30 ?_
  refine lv_iconst (v := nI 3) C.1 C.2.1 d_Wy_begin_33 rfl ?_
  refine lv_iload_n C.1 C.2.1 d_Wy_begin_34 rfl (lv_at hl 1 rfl) ?_
  refine lv_imul C.1 C.2.1 d_Wy_begin_35 ?_
  refine gm_eqi (y := nI 3) (by decide) ?_
  refine lv_iload_n C.1 C.2.1 d_Wy_begin_36 rfl (lv_at hl 0 rfl) ?_
  refine lv_iadd C.1 C.2.1 d_Wy_begin_37 ?_
  refine gm_eqi (y := nI 3) (by decide) ?_
  refine lv_iload_n C.1 C.2.1 d_Wy_begin_38 rfl (lv_at hl 1 rfl) ?_
  refine lv_iload_n C.1 C.2.1 d_Wy_begin_39 rfl (lv_at hl 0 rfl) ?_
  refine lv_icmp_ne (tgt := 47) C.1 C.2.1 d_Wy_begin_40 (by decide) (fun c_ => ?_) (fun c_ => absurd c_ (by decide))
  refine lv_iconst (v := nI 0) C.1 C.2.1 d_Wy_begin_47 rfl ?_
  refine gs_i C hh hw.2.2.1 (k := 3) rfl (by omega) (by omega) d_Wy_begin_48 (fun H locs hh => ?_)
  obtain ⟨I_7, eI_7⟩ : ∃ z : gm_I, z = gm_up I_6 (w + 3) 3 (nI 0) := ⟨_, rfl⟩
  rw [← eI_7] at hh
  refine lv_iinc (v := nI 1) (lv' := [(2, .int (nI 1)), (1, .int (nI 1)), (0, .ref w)]) C.1 C.2.1 d_Wy_begin_49 hl (k := 0) rfl (gm_inc 0 1) (by decide) rfl (fun ls hl => ?_)
  refine lv_goto (tgt := 24) C.1 C.2.1 d_Wy_begin_52 (by decide) ?_
  refine lv_iload_n C.1 C.2.1 d_Wy_begin_24 rfl (lv_at hl 0 rfl) ?_
  refine lv_iconst (v := nI 3) C.1 C.2.1 d_Wy_begin_25 rfl ?_
  refine lv_icmp_ge (tgt := 55) C.1 C.2.1 d_Wy_begin_26 (by decide) (fun c_ => absurd c_ (by decide)) (fun c_ => ?_)
  refine lv_aload_n C.1 C.2.1 d_Wy_begin_29 rfl (lv_at hl 2 rfl) ?_
  refine gg_r C hh hw.1 rfl in_Wy 1 (by decide) rfl tw_140 rfl d_Wy_begin_30 ?_
  refine lv_iconst (v := nI 3) C.1 C.2.1 d_Wy_begin_33 rfl ?_
  refine lv_iload_n C.1 C.2.1 d_Wy_begin_34 rfl (lv_at hl 1 rfl) ?_
  refine lv_imul C.1 C.2.1 d_Wy_begin_35 ?_
  refine gm_eqi (y := nI 3) (by decide) ?_
  refine lv_iload_n C.1 C.2.1 d_Wy_begin_36 rfl (lv_at hl 0 rfl) ?_
  refine lv_iadd C.1 C.2.1 d_Wy_begin_37 ?_
  refine gm_eqi (y := nI 4) (by decide) ?_
  refine lv_iload_n C.1 C.2.1 d_Wy_begin_38 rfl (lv_at hl 1 rfl) ?_
  refine lv_iload_n C.1 C.2.1 d_Wy_begin_39 rfl (lv_at hl 0 rfl) ?_
  refine lv_icmp_ne (tgt := 47) C.1 C.2.1 d_Wy_begin_40 (by decide) (fun c_ => absurd (by decide) c_) (fun c_ => ?_)
  refine lv_iconst (v := nI 1) C.1 C.2.1 d_Wy_begin_43 rfl ?_
  refine lv_goto (tgt := 48) C.1 C.2.1 d_Wy_begin_44 (by decide) ?_
  refine gs_i C hh hw.2.2.1 (k := 4) rfl (by omega) (by omega) d_Wy_begin_48 (fun H locs hh => ?_)
  obtain ⟨I_8, eI_8⟩ : ∃ z : gm_I, z = gm_up I_7 (w + 3) 4 (nI 1) := ⟨_, rfl⟩
  rw [← eI_8] at hh
  refine lv_iinc (v := nI 2) (lv' := [(2, .int (nI 2)), (1, .int (nI 1)), (0, .ref w)]) C.1 C.2.1 d_Wy_begin_49 hl (k := 0) rfl (gm_inc 1 1) (by decide) rfl (fun ls hl => ?_)
  refine lv_goto (tgt := 24) C.1 C.2.1 d_Wy_begin_52 (by decide) ?_
  refine lv_iload_n C.1 C.2.1 d_Wy_begin_24 rfl (lv_at hl 0 rfl) ?_
  refine lv_iconst (v := nI 3) C.1 C.2.1 d_Wy_begin_25 rfl ?_
  refine lv_icmp_ge (tgt := 55) C.1 C.2.1 d_Wy_begin_26 (by decide) (fun c_ => absurd c_ (by decide)) (fun c_ => ?_)
  refine lv_aload_n C.1 C.2.1 d_Wy_begin_29 rfl (lv_at hl 2 rfl) ?_
  refine gg_r C hh hw.1 rfl in_Wy 1 (by decide) rfl tw_140 rfl d_Wy_begin_30 ?_
  refine lv_iconst (v := nI 3) C.1 C.2.1 d_Wy_begin_33 rfl ?_
  refine lv_iload_n C.1 C.2.1 d_Wy_begin_34 rfl (lv_at hl 1 rfl) ?_
  refine lv_imul C.1 C.2.1 d_Wy_begin_35 ?_
  refine gm_eqi (y := nI 3) (by decide) ?_
  refine lv_iload_n C.1 C.2.1 d_Wy_begin_36 rfl (lv_at hl 0 rfl) ?_
  refine lv_iadd C.1 C.2.1 d_Wy_begin_37 ?_
  refine gm_eqi (y := nI 5) (by decide) ?_
  refine lv_iload_n C.1 C.2.1 d_Wy_begin_38 rfl (lv_at hl 1 rfl) ?_
  refine lv_iload_n C.1 C.2.1 d_Wy_begin_39 rfl (lv_at hl 0 rfl) ?_
  refine lv_icmp_ne (tgt := 47) C.1 C.2.1 d_Wy_begin_40 (by decide) (fun c_ => ?_) (fun c_ => absurd c_ (by decide))
  refine lv_iconst (v := nI 0) C.1 C.2.1 d_Wy_begin_47 rfl ?_
  refine gs_i C hh hw.2.2.1 (k := 5) rfl (by omega) (by omega) d_Wy_begin_48 (fun H locs hh => ?_)
  obtain ⟨I_9, eI_9⟩ : ∃ z : gm_I, z = gm_up I_8 (w + 3) 5 (nI 0) := ⟨_, rfl⟩
  rw [← eI_9] at hh
  refine lv_iinc (v := nI 3) (lv' := [(2, .int (nI 3)), (1, .int (nI 1)), (0, .ref w)]) C.1 C.2.1 d_Wy_begin_49 hl (k := 0) rfl (gm_inc 2 1) (by decide) rfl (fun ls hl => ?_)
  refine lv_goto (tgt := 24) C.1 C.2.1 d_Wy_begin_52 (by decide) ?_
  refine lv_iload_n C.1 C.2.1 d_Wy_begin_24 rfl (lv_at hl 0 rfl) ?_
  refine lv_iconst (v := nI 3) C.1 C.2.1 d_Wy_begin_25 rfl ?_
  refine lv_icmp_ge (tgt := 55) C.1 C.2.1 d_Wy_begin_26 (by decide) (fun c_ => ?_) (fun c_ => absurd (by decide) c_)
  refine lv_iinc (v := nI 2) (lv' := [(1, .int (nI 2)), (2, .int (nI 3)), (0, .ref w)]) C.1 C.2.1 d_Wy_begin_55 hl (k := 1) rfl (gm_inc 1 1) (by decide) rfl (fun ls hl => ?_)
  refine lv_goto (tgt := 10) C.1 C.2.1 d_Wy_begin_58 (by decide) ?_
  refine lv_iload_n C.1 C.2.1 d_Wy_begin_10 rfl (lv_at hl 0 rfl) ?_
  refine lv_iconst (v := nI 3) C.1 C.2.1 d_Wy_begin_11 rfl ?_
  refine lv_icmp_ge (tgt := 61) C.1 C.2.1 d_Wy_begin_12 (by decide) (fun c_ => absurd c_ (by decide)) (fun c_ => ?_)
  refine lv_aload_n C.1 C.2.1 d_Wy_begin_15 rfl (lv_at hl 2 rfl) ?_
  refine gg_r C hh hw.1 rfl in_Wy 2 (by decide) rfl tw_142 rfl d_Wy_begin_16 ?_
  refine lv_iload_n C.1 C.2.1 d_Wy_begin_19 rfl (lv_at hl 0 rfl) ?_
  refine lv_iconst (v := nI 0) C.1 C.2.1 d_Wy_begin_20 rfl ?_
  refine gs_i C hh hw.2.2.2 (k := 2) rfl (by omega) (by omega) d_Wy_begin_21 (fun H locs hh => ?_)
  obtain ⟨I_10, eI_10⟩ : ∃ z : gm_I, z = gm_up I_9 (w + 4) 2 (nI 0) := ⟨_, rfl⟩
  rw [← eI_10] at hh
  refine lv_iconst (v := nI 0) C.1 C.2.1 d_Wy_begin_22 rfl ?_
  refine lv_istore_n (lv' := [(2, .int (nI 0)), (1, .int (nI 2)), (0, .ref w)]) C.1 C.2.1 d_Wy_begin_23 rfl hl (by decide) rfl (fun ls hl => ?_)
  refine lv_iload_n C.1 C.2.1 d_Wy_begin_24 rfl (lv_at hl 0 rfl) ?_
  refine lv_iconst (v := nI 3) C.1 C.2.1 d_Wy_begin_25 rfl ?_
  refine lv_icmp_ge (tgt := 55) C.1 C.2.1 d_Wy_begin_26 (by decide) (fun c_ => absurd c_ (by decide)) (fun c_ => ?_)
  refine lv_aload_n C.1 C.2.1 d_Wy_begin_29 rfl (lv_at hl 2 rfl) ?_
  refine gg_r C hh hw.1 rfl in_Wy 1 (by decide) rfl tw_140 rfl d_Wy_begin_30 ?_
  refine lv_iconst (v := nI 3) C.1 C.2.1 d_Wy_begin_33 rfl ?_
  refine lv_iload_n C.1 C.2.1 d_Wy_begin_34 rfl (lv_at hl 1 rfl) ?_
  refine lv_imul C.1 C.2.1 d_Wy_begin_35 ?_
  refine gm_eqi (y := nI 6) (by decide) ?_
  refine lv_iload_n C.1 C.2.1 d_Wy_begin_36 rfl (lv_at hl 0 rfl) ?_
  refine lv_iadd C.1 C.2.1 d_Wy_begin_37 ?_
  refine gm_eqi (y := nI 6) (by decide) ?_
  refine lv_iload_n C.1 C.2.1 d_Wy_begin_38 rfl (lv_at hl 1 rfl) ?_
  refine lv_iload_n C.1 C.2.1 d_Wy_begin_39 rfl (lv_at hl 0 rfl) ?_
  refine lv_icmp_ne (tgt := 47) C.1 C.2.1 d_Wy_begin_40 (by decide) (fun c_ => ?_) (fun c_ => absurd c_ (by decide))
  refine lv_iconst (v := nI 0) C.1 C.2.1 d_Wy_begin_47 rfl ?_
  refine gs_i C hh hw.2.2.1 (k := 6) rfl (by omega) (by omega) d_Wy_begin_48 (fun H locs hh => ?_)
  obtain ⟨I_11, eI_11⟩ : ∃ z : gm_I, z = gm_up I_10 (w + 3) 6 (nI 0) := ⟨_, rfl⟩
  rw [← eI_11] at hh
  refine lv_iinc (v := nI 1) (lv' := [(2, .int (nI 1)), (1, .int (nI 2)), (0, .ref w)]) C.1 C.2.1 d_Wy_begin_49 hl (k := 0) rfl (gm_inc 0 1) (by decide) rfl (fun ls hl => ?_)
  refine lv_goto (tgt := 24) C.1 C.2.1 d_Wy_begin_52 (by decide) ?_
  refine lv_iload_n C.1 C.2.1 d_Wy_begin_24 rfl (lv_at hl 0 rfl) ?_
  refine lv_iconst (v := nI 3) C.1 C.2.1 d_Wy_begin_25 rfl ?_
  refine lv_icmp_ge (tgt := 55) C.1 C.2.1 d_Wy_begin_26 (by decide) (fun c_ => absurd c_ (by decide)) (fun c_ => ?_)
  refine lv_aload_n C.1 C.2.1 d_Wy_begin_29 rfl (lv_at hl 2 rfl) ?_
  refine gg_r C hh hw.1 rfl in_Wy 1 (by decide) rfl tw_140 rfl d_Wy_begin_30 ?_
  refine lv_iconst (v := nI 3) C.1 C.2.1 d_Wy_begin_33 rfl ?_
  refine lv_iload_n C.1 C.2.1 d_Wy_begin_34 rfl (lv_at hl 1 rfl) ?_
  refine lv_imul C.1 C.2.1 d_Wy_begin_35 ?_
  refine gm_eqi (y := nI 6) (by decide) ?_
  refine lv_iload_n C.1 C.2.1 d_Wy_begin_36 rfl (lv_at hl 0 rfl) ?_
  refine lv_iadd C.1 C.2.1 d_Wy_begin_37 ?_
  refine gm_eqi (y := nI 7) (by decide) ?_
  refine lv_iload_n C.1 C.2.1 d_Wy_begin_38 rfl (lv_at hl 1 rfl) ?_
  refine lv_iload_n C.1 C.2.1 d_Wy_begin_39 rfl (lv_at hl 0 rfl) ?_
  refine lv_icmp_ne (tgt := 47) C.1 C.2.1 d_Wy_begin_40 (by decide) (fun c_ => ?_) (fun c_ => absurd c_ (by decide))
  refine lv_iconst (v := nI 0) C.1 C.2.1 d_Wy_begin_47 rfl ?_
  refine gs_i C hh hw.2.2.1 (k := 7) rfl (by omega) (by omega) d_Wy_begin_48 (fun H locs hh => ?_)
  obtain ⟨I_12, eI_12⟩ : ∃ z : gm_I, z = gm_up I_11 (w + 3) 7 (nI 0) := ⟨_, rfl⟩
  rw [← eI_12] at hh
  refine lv_iinc (v := nI 2) (lv' := [(2, .int (nI 2)), (1, .int (nI 2)), (0, .ref w)]) C.1 C.2.1 d_Wy_begin_49 hl (k := 0) rfl (gm_inc 1 1) (by decide) rfl (fun ls hl => ?_)
  refine lv_goto (tgt := 24) C.1 C.2.1 d_Wy_begin_52 (by decide) ?_
  refine lv_iload_n C.1 C.2.1 d_Wy_begin_24 rfl (lv_at hl 0 rfl) ?_
  refine lv_iconst (v := nI 3) C.1 C.2.1 d_Wy_begin_25 rfl ?_
  refine lv_icmp_ge (tgt := 55) C.1 C.2.1 d_Wy_begin_26 (by decide) (fun c_ => absurd c_ (by decide)) (fun c_ => ?_)
  refine lv_aload_n C.1 C.2.1 d_Wy_begin_29 rfl (lv_at hl 2 rfl) ?_
  refine gg_r C hh hw.1 rfl in_Wy 1 (by decide) rfl tw_140 rfl d_Wy_begin_30 ?_
  refine lv_iconst (v := nI 3) C.1 C.2.1 d_Wy_begin_33 rfl ?_
  refine lv_iload_n C.1 C.2.1 d_Wy_begin_34 rfl (lv_at hl 1 rfl) ?_
  refine lv_imul C.1 C.2.1 d_Wy_begin_35 ?_
  refine gm_eqi (y := nI 6) (by decide) ?_
  refine lv_iload_n C.1 C.2.1 d_Wy_begin_36 rfl (lv_at hl 0 rfl) ?_
  refine lv_iadd C.1 C.2.1 d_Wy_begin_37 ?_
  refine gm_eqi (y := nI 8) (by decide) ?_
  refine lv_iload_n C.1 C.2.1 d_Wy_begin_38 rfl (lv_at hl 1 rfl) ?_
  refine lv_iload_n C.1 C.2.1 d_Wy_begin_39 rfl (lv_at hl 0 rfl) ?_
  refine lv_icmp_ne (tgt := 47) C.1 C.2.1 d_Wy_begin_40 (by decide) (fun c_ => absurd (by decide) c_) (fun c_ => ?_)
  refine lv_iconst (v := nI 1) C.1 C.2.1 d_Wy_begin_43 rfl ?_
  refine lv_goto (tgt := 48) C.1 C.2.1 d_Wy_begin_44 (by decide) ?_
  refine gs_i C hh hw.2.2.1 (k := 8) rfl (by omega) (by omega) d_Wy_begin_48 (fun H locs hh => ?_)
  obtain ⟨I_13, eI_13⟩ : ∃ z : gm_I, z = gm_up I_12 (w + 3) 8 (nI 1) := ⟨_, rfl⟩
  rw [← eI_13] at hh
  refine lv_iinc (v := nI 3) (lv' := [(2, .int (nI 3)), (1, .int (nI 2)), (0, .ref w)]) C.1 C.2.1 d_Wy_begin_49 hl (k := 0) rfl (gm_inc 2 1) (by decide) rfl (fun ls hl => ?_)
  refine lv_goto (tgt := 24) C.1 C.2.1 d_Wy_begin_52 (by decide) ?_
  refine lv_iload_n C.1 C.2.1 d_Wy_begin_24 rfl (lv_at hl 0 rfl) ?_
  refine lv_iconst (v := nI 3) C.1 C.2.1 d_Wy_begin_25 rfl ?_
  refine lv_icmp_ge (tgt := 55) C.1 C.2.1 d_Wy_begin_26 (by decide) (fun c_ => ?_) (fun c_ => absurd (by decide) c_)
  refine lv_iinc (v := nI 3) (lv' := [(1, .int (nI 3)), (2, .int (nI 3)), (0, .ref w)]) C.1 C.2.1 d_Wy_begin_55 hl (k := 1) rfl (gm_inc 2 1) (by decide) rfl (fun ls hl => ?_)
  refine lv_goto (tgt := 10) C.1 C.2.1 d_Wy_begin_58 (by decide) ?_
  refine lv_iload_n C.1 C.2.1 d_Wy_begin_10 rfl (lv_at hl 0 rfl) ?_
  refine lv_iconst (v := nI 3) C.1 C.2.1 d_Wy_begin_11 rfl ?_
  refine lv_icmp_ge (tgt := 61) C.1 C.2.1 d_Wy_begin_12 (by decide) (fun c_ => ?_) (fun c_ => absurd (by decide) c_)
  exact gr_v C hlk hret hh (by subst_vars; rw [bg_is]) d_Wy_begin_61

set_option maxHeartbeats 4000000 in
set_option maxRecDepth 100000 in
theorem c_Wy_leads (l : Launch) (D : va_G) (cs : Nat → ClassId) (sh : gm_H) (sz : Nat) (I : gm_I) (J : gm_J) (w : Nat) (hw : is_Wy sh w) (t n : Nat) (ht : sh t = some (.inr (.inr (.inl 3)))) (hn : sh n = some (.inr (.inr (.inl 3)))) (hne : t ≠ n) : CI l y_Wy_leads w_Wy_leads { frames := 0, cells := 0, slots := 0, locals := 0 } D cs sh sz I J [.ref w, .ref t, .ref n] (fun x u => (x = 1 ∧ goB (bh3 I w (get3 J t)) = true ∧ u = (I, set3 J n (bh3 I w (get3 J t)))) ∨ (x = 0 ∧ goB (bh3 I w (get3 J t)) = false ∧ u.1 = I ∧ butJ n J u.2)) := by
  refine gm_start (by decide) (Nat.le_of_ble_eq_true rfl) ?_
  intro p' e' s' m' be' me' co' ls C hml hlk hret hh hl
  have hl : lv_has ls 7 [(0, .ref w), (1, .ref t), (2, .ref n)] := hl
  refine lv_iconst (v := nI 0) C.1 C.2.1 d_Wy_leads_0 rfl ?_
  refine lv_istore_n (lv' := [(3, .int (nI 0)), (0, .ref w), (1, .ref t), (2, .ref n)]) C.1 C.2.1 d_Wy_leads_1 rfl hl (by decide) rfl (fun ls hl => ?_)
  refine lv_iload_n C.1 C.2.1 d_Wy_leads_2 rfl (lv_at hl 0 rfl) ?_
  refine lv_iconst (v := nI 3) C.1 C.2.1 d_Wy_leads_3 rfl ?_
  refine lv_icmp_ge (tgt := 95) C.1 C.2.1 d_Wy_leads_4 (by decide) (fun c_ => absurd c_ (by decide)) (fun c_ => ?_)
  refine lv_iconst (v := nI 3) C.1 C.2.1 d_Wy_leads_7 rfl ?_
  refine lv_iload_n C.1 C.2.1 d_Wy_leads_8 rfl (lv_at hl 0 rfl) ?_
  refine lv_imul C.1 C.2.1 d_Wy_leads_9 ?_
  refine gm_eqi (y := nI 0) (by decide) ?_
  refine lv_istore (lv' := [(4, .int (nI 0)), (3, .int (nI 0)), (0, .ref w), (1, .ref t), (2, .ref n)]) C.1 C.2.1 d_Wy_leads_10 hl (by decide) rfl (fun ls hl => ?_)
  refine lv_aload_n C.1 C.2.1 d_Wy_leads_12 rfl (lv_at hl 2 rfl) ?_
  refine gg_r C hh hw.1 rfl in_Wy 1 (by decide) rfl tw_140 rfl d_Wy_leads_13 ?_
  refine lv_iload C.1 C.2.1 d_Wy_leads_16 (lv_at hl 0 rfl) ?_
  refine ga_i C hh hw.2.2.1 (k := 0) rfl (by omega) (by omega) d_Wy_leads_18 ?_
  refine lv_i2l (v := (I (w + 3) 0).toInt64) C.1 C.2.1 d_Wy_leads_19 rfl ?_
  refine lv_aload_n C.1 C.2.1 d_Wy_leads_20 rfl (lv_at hl 3 rfl) ?_
  refine lv_iconst (v := nI 0) C.1 C.2.1 d_Wy_leads_21 rfl ?_
  refine ga_l C hh ht (k := 0) rfl (by omega) (by omega) d_Wy_leads_22 ?_
  refine lv_lmul C.1 C.2.1 d_Wy_leads_23 ?_
  refine lv_aload_n C.1 C.2.1 d_Wy_leads_24 rfl (lv_at hl 2 rfl) ?_
  refine gg_r C hh hw.1 rfl in_Wy 1 (by decide) rfl tw_140 rfl d_Wy_leads_25 ?_
  refine lv_iload C.1 C.2.1 d_Wy_leads_28 (lv_at hl 0 rfl) ?_
  refine lv_iconst (v := nI 1) C.1 C.2.1 d_Wy_leads_30 rfl ?_
  refine lv_iadd C.1 C.2.1 d_Wy_leads_31 ?_
  refine gm_eqi (y := nI 1) (by decide) ?_
  refine ga_i C hh hw.2.2.1 (k := 1) rfl (by omega) (by omega) d_Wy_leads_32 ?_
  refine lv_i2l (v := (I (w + 3) 1).toInt64) C.1 C.2.1 d_Wy_leads_33 rfl ?_
  refine lv_aload_n C.1 C.2.1 d_Wy_leads_34 rfl (lv_at hl 3 rfl) ?_
  refine lv_iconst (v := nI 1) C.1 C.2.1 d_Wy_leads_35 rfl ?_
  refine ga_l C hh ht (k := 1) rfl (by omega) (by omega) d_Wy_leads_36 ?_
  refine lv_lmul C.1 C.2.1 d_Wy_leads_37 ?_
  refine lv_ladd C.1 C.2.1 d_Wy_leads_38 ?_
  refine lv_aload_n C.1 C.2.1 d_Wy_leads_39 rfl (lv_at hl 2 rfl) ?_
  refine gg_r C hh hw.1 rfl in_Wy 1 (by decide) rfl tw_140 rfl d_Wy_leads_40 ?_
  refine lv_iload C.1 C.2.1 d_Wy_leads_43 (lv_at hl 0 rfl) ?_
  refine lv_iconst (v := nI 2) C.1 C.2.1 d_Wy_leads_45 rfl ?_
  refine lv_iadd C.1 C.2.1 d_Wy_leads_46 ?_
  refine gm_eqi (y := nI 2) (by decide) ?_
  refine ga_i C hh hw.2.2.1 (k := 2) rfl (by omega) (by omega) d_Wy_leads_47 ?_
  refine lv_i2l (v := (I (w + 3) 2).toInt64) C.1 C.2.1 d_Wy_leads_48 rfl ?_
  refine lv_aload_n C.1 C.2.1 d_Wy_leads_49 rfl (lv_at hl 3 rfl) ?_
  refine lv_iconst (v := nI 2) C.1 C.2.1 d_Wy_leads_50 rfl ?_
  refine ga_l C hh ht (k := 2) rfl (by omega) (by omega) d_Wy_leads_51 ?_
  refine lv_lmul C.1 C.2.1 d_Wy_leads_52 ?_
  refine lv_ladd C.1 C.2.1 d_Wy_leads_53 ?_
  refine lv_aload_n C.1 C.2.1 d_Wy_leads_54 rfl (lv_at hl 2 rfl) ?_
  refine gg_r C hh hw.1 rfl in_Wy 2 (by decide) rfl tw_142 rfl d_Wy_leads_55 ?_
  refine lv_iload_n C.1 C.2.1 d_Wy_leads_58 rfl (lv_at hl 1 rfl) ?_
  refine ga_i C hh hw.2.2.2 (k := 0) rfl (by omega) (by omega) d_Wy_leads_59 ?_
  refine lv_i2l (v := (I (w + 4) 0).toInt64) C.1 C.2.1 d_Wy_leads_60 rfl ?_
  refine lv_ladd C.1 C.2.1 d_Wy_leads_61 ?_
  refine lv_topl (fun x_1 ex_1 => ?_)
  refine lv_lstore (lv' := [(5, .long x_1), (4, .int (nI 0)), (3, .int (nI 0)), (0, .ref w), (1, .ref t), (2, .ref n)]) C.1 C.2.1 d_Wy_leads_62 hl (by decide) rfl (fun ls hl => ?_)
  refine lv_lload C.1 C.2.1 d_Wy_leads_64 (lv_at hl 0 rfl) ?_
  refine lv_ldc2 C.1 C.2.1 C.2.2.2.1 (C.2.2.1 _ tw_529) d_Wy_leads_66 ?_
  refine W.lcmp C.1 C.2.1 d_Wy_leads_69 ?_
  refine lv_if_gt (tgt := 82) C.1 C.2.1 d_Wy_leads_70 (by decide) (fun c_2 => ?_) (fun c_2 => ?_)
  · -- 70 -> 82
    have c_2 := gm_lgtt c_2
    refine lv_iconst (v := nI 0) C.1 C.2.1 d_Wy_leads_82 rfl ?_
    exact gr_i C hlk hret (gm_nb (Or.inl rfl)) hh (by subst ex_1; refine Or.inr ⟨rfl, ?_, rfl, ?_⟩; (first | exact goB_f (Or.inl (nearB_f1 (by assumption))) | exact goB_f (Or.inl (nearB_f2 (by assumption))) | exact goB_f (Or.inr (Or.inl (nearB_f1 (by assumption)))) | exact goB_f (Or.inr (Or.inl (nearB_f2 (by assumption)))) | exact goB_f (Or.inr (Or.inr (nearB_f1 (by assumption)))) | exact goB_f (Or.inr (Or.inr (nearB_f2 (by assumption))))); (first | exact butJ.nil | exact butJ.nil.up | exact butJ.nil.up.up)) d_Wy_leads_83
  · -- 70 -> 73
    have c_2 := gm_lgtf c_2
    refine lv_lload C.1 C.2.1 d_Wy_leads_73 (lv_at hl 0 rfl) ?_
    refine lv_ldc2 C.1 C.2.1 C.2.2.2.1 (C.2.2.1 _ tw_530) d_Wy_leads_75 ?_
    refine W.lcmp C.1 C.2.1 d_Wy_leads_78 ?_
    refine lv_if_ge (tgt := 84) C.1 C.2.1 d_Wy_leads_79 (by decide) (fun c_3 => ?_) (fun c_3 => ?_)
    · -- 79 -> 84
      have c_3 := gm_lget c_3
      refine lv_aload_n C.1 C.2.1 d_Wy_leads_84 rfl (lv_at hl 5 rfl) ?_
      refine lv_iload_n C.1 C.2.1 d_Wy_leads_85 rfl (lv_at hl 2 rfl) ?_
      refine lv_lload C.1 C.2.1 d_Wy_leads_86 (lv_at hl 0 rfl) ?_
      refine gs_l C hh hn (k := 0) rfl (by omega) (by omega) d_Wy_leads_88 (fun H locs hh => ?_)
      obtain ⟨J_4, eJ_4⟩ : ∃ z : gm_J, z = gm_up J n 0 x_1 := ⟨_, rfl⟩
      rw [← eJ_4] at hh
      refine lv_iinc (v := nI 1) (lv' := [(3, .int (nI 1)), (5, .long x_1), (4, .int (nI 0)), (0, .ref w), (1, .ref t), (2, .ref n)]) C.1 C.2.1 d_Wy_leads_89 hl (k := 2) rfl (gm_inc 0 1) (by decide) rfl (fun ls hl => ?_)
      refine lv_goto (tgt := 2) C.1 C.2.1 d_Wy_leads_92 (by decide) ?_
      refine lv_iload_n C.1 C.2.1 d_Wy_leads_2 rfl (lv_at hl 0 rfl) ?_
      refine lv_iconst (v := nI 3) C.1 C.2.1 d_Wy_leads_3 rfl ?_
      refine lv_icmp_ge (tgt := 95) C.1 C.2.1 d_Wy_leads_4 (by decide) (fun c_ => absurd c_ (by decide)) (fun c_ => ?_)
      refine lv_iconst (v := nI 3) C.1 C.2.1 d_Wy_leads_7 rfl ?_
      refine lv_iload_n C.1 C.2.1 d_Wy_leads_8 rfl (lv_at hl 0 rfl) ?_
      refine lv_imul C.1 C.2.1 d_Wy_leads_9 ?_
      refine gm_eqi (y := nI 3) (by decide) ?_
      refine lv_istore (lv' := [(4, .int (nI 3)), (3, .int (nI 1)), (5, .long x_1), (0, .ref w), (1, .ref t), (2, .ref n)]) C.1 C.2.1 d_Wy_leads_10 hl (by decide) rfl (fun ls hl => ?_)
      refine lv_aload_n C.1 C.2.1 d_Wy_leads_12 rfl (lv_at hl 3 rfl) ?_
      refine gg_r C hh hw.1 rfl in_Wy 1 (by decide) rfl tw_140 rfl d_Wy_leads_13 ?_
      refine lv_iload C.1 C.2.1 d_Wy_leads_16 (lv_at hl 0 rfl) ?_
      refine ga_i C hh hw.2.2.1 (k := 3) rfl (by omega) (by omega) d_Wy_leads_18 ?_
      refine lv_i2l (v := (I (w + 3) 3).toInt64) C.1 C.2.1 d_Wy_leads_19 rfl ?_
      refine lv_aload_n C.1 C.2.1 d_Wy_leads_20 rfl (lv_at hl 4 rfl) ?_
      refine lv_iconst (v := nI 0) C.1 C.2.1 d_Wy_leads_21 rfl ?_
      refine ga_l C hh ht (k := 0) rfl (by omega) (by omega) d_Wy_leads_22 ?_
      refine gm_eql (y := J t 0) (by rw [eJ_4, gm_up_ne _ _ (Or.inl (by omega))]) ?_
      refine lv_lmul C.1 C.2.1 d_Wy_leads_23 ?_
      refine lv_aload_n C.1 C.2.1 d_Wy_leads_24 rfl (lv_at hl 3 rfl) ?_
      refine gg_r C hh hw.1 rfl in_Wy 1 (by decide) rfl tw_140 rfl d_Wy_leads_25 ?_
      refine lv_iload C.1 C.2.1 d_Wy_leads_28 (lv_at hl 0 rfl) ?_
      refine lv_iconst (v := nI 1) C.1 C.2.1 d_Wy_leads_30 rfl ?_
      refine lv_iadd C.1 C.2.1 d_Wy_leads_31 ?_
      refine gm_eqi (y := nI 4) (by decide) ?_
      refine ga_i C hh hw.2.2.1 (k := 4) rfl (by omega) (by omega) d_Wy_leads_32 ?_
      refine lv_i2l (v := (I (w + 3) 4).toInt64) C.1 C.2.1 d_Wy_leads_33 rfl ?_
      refine lv_aload_n C.1 C.2.1 d_Wy_leads_34 rfl (lv_at hl 4 rfl) ?_
      refine lv_iconst (v := nI 1) C.1 C.2.1 d_Wy_leads_35 rfl ?_
      refine ga_l C hh ht (k := 1) rfl (by omega) (by omega) d_Wy_leads_36 ?_
      refine gm_eql (y := J t 1) (by rw [eJ_4, gm_up_ne _ _ (Or.inl (by omega))]) ?_
      refine lv_lmul C.1 C.2.1 d_Wy_leads_37 ?_
      refine lv_ladd C.1 C.2.1 d_Wy_leads_38 ?_
      refine lv_aload_n C.1 C.2.1 d_Wy_leads_39 rfl (lv_at hl 3 rfl) ?_
      refine gg_r C hh hw.1 rfl in_Wy 1 (by decide) rfl tw_140 rfl d_Wy_leads_40 ?_
      refine lv_iload C.1 C.2.1 d_Wy_leads_43 (lv_at hl 0 rfl) ?_
      refine lv_iconst (v := nI 2) C.1 C.2.1 d_Wy_leads_45 rfl ?_
      refine lv_iadd C.1 C.2.1 d_Wy_leads_46 ?_
      refine gm_eqi (y := nI 5) (by decide) ?_
      refine ga_i C hh hw.2.2.1 (k := 5) rfl (by omega) (by omega) d_Wy_leads_47 ?_
      refine lv_i2l (v := (I (w + 3) 5).toInt64) C.1 C.2.1 d_Wy_leads_48 rfl ?_
      refine lv_aload_n C.1 C.2.1 d_Wy_leads_49 rfl (lv_at hl 4 rfl) ?_
      refine lv_iconst (v := nI 2) C.1 C.2.1 d_Wy_leads_50 rfl ?_
      refine ga_l C hh ht (k := 2) rfl (by omega) (by omega) d_Wy_leads_51 ?_
      refine gm_eql (y := J t 2) (by rw [eJ_4, gm_up_ne _ _ (Or.inl (by omega))]) ?_
      refine lv_lmul C.1 C.2.1 d_Wy_leads_52 ?_
      refine lv_ladd C.1 C.2.1 d_Wy_leads_53 ?_
      refine lv_aload_n C.1 C.2.1 d_Wy_leads_54 rfl (lv_at hl 3 rfl) ?_
      refine gg_r C hh hw.1 rfl in_Wy 2 (by decide) rfl tw_142 rfl d_Wy_leads_55 ?_
      refine lv_iload_n C.1 C.2.1 d_Wy_leads_58 rfl (lv_at hl 1 rfl) ?_
      refine ga_i C hh hw.2.2.2 (k := 1) rfl (by omega) (by omega) d_Wy_leads_59 ?_
      refine lv_i2l (v := (I (w + 4) 1).toInt64) C.1 C.2.1 d_Wy_leads_60 rfl ?_
      refine lv_ladd C.1 C.2.1 d_Wy_leads_61 ?_
      refine lv_topl (fun x_5 ex_5 => ?_)
      refine lv_lstore (lv' := [(5, .long x_5), (4, .int (nI 3)), (3, .int (nI 1)), (0, .ref w), (1, .ref t), (2, .ref n)]) C.1 C.2.1 d_Wy_leads_62 hl (by decide) rfl (fun ls hl => ?_)
      refine lv_lload C.1 C.2.1 d_Wy_leads_64 (lv_at hl 0 rfl) ?_
      refine lv_ldc2 C.1 C.2.1 C.2.2.2.1 (C.2.2.1 _ tw_529) d_Wy_leads_66 ?_
      refine W.lcmp C.1 C.2.1 d_Wy_leads_69 ?_
      refine lv_if_gt (tgt := 82) C.1 C.2.1 d_Wy_leads_70 (by decide) (fun c_6 => ?_) (fun c_6 => ?_)
      · -- 70 -> 82
        have c_6 := gm_lgtt c_6
        refine lv_iconst (v := nI 0) C.1 C.2.1 d_Wy_leads_82 rfl ?_
        exact gr_i C hlk hret (gm_nb (Or.inl rfl)) hh (by subst ex_1 eJ_4 ex_5; refine Or.inr ⟨rfl, ?_, rfl, ?_⟩; (first | exact goB_f (Or.inl (nearB_f1 (by assumption))) | exact goB_f (Or.inl (nearB_f2 (by assumption))) | exact goB_f (Or.inr (Or.inl (nearB_f1 (by assumption)))) | exact goB_f (Or.inr (Or.inl (nearB_f2 (by assumption)))) | exact goB_f (Or.inr (Or.inr (nearB_f1 (by assumption)))) | exact goB_f (Or.inr (Or.inr (nearB_f2 (by assumption))))); (first | exact butJ.nil | exact butJ.nil.up | exact butJ.nil.up.up)) d_Wy_leads_83
      · -- 70 -> 73
        have c_6 := gm_lgtf c_6
        refine lv_lload C.1 C.2.1 d_Wy_leads_73 (lv_at hl 0 rfl) ?_
        refine lv_ldc2 C.1 C.2.1 C.2.2.2.1 (C.2.2.1 _ tw_530) d_Wy_leads_75 ?_
        refine W.lcmp C.1 C.2.1 d_Wy_leads_78 ?_
        refine lv_if_ge (tgt := 84) C.1 C.2.1 d_Wy_leads_79 (by decide) (fun c_7 => ?_) (fun c_7 => ?_)
        · -- 79 -> 84
          have c_7 := gm_lget c_7
          refine lv_aload_n C.1 C.2.1 d_Wy_leads_84 rfl (lv_at hl 5 rfl) ?_
          refine lv_iload_n C.1 C.2.1 d_Wy_leads_85 rfl (lv_at hl 2 rfl) ?_
          refine lv_lload C.1 C.2.1 d_Wy_leads_86 (lv_at hl 0 rfl) ?_
          refine gs_l C hh hn (k := 1) rfl (by omega) (by omega) d_Wy_leads_88 (fun H locs hh => ?_)
          obtain ⟨J_8, eJ_8⟩ : ∃ z : gm_J, z = gm_up J_4 n 1 x_5 := ⟨_, rfl⟩
          rw [← eJ_8] at hh
          refine lv_iinc (v := nI 2) (lv' := [(3, .int (nI 2)), (5, .long x_5), (4, .int (nI 3)), (0, .ref w), (1, .ref t), (2, .ref n)]) C.1 C.2.1 d_Wy_leads_89 hl (k := 2) rfl (gm_inc 1 1) (by decide) rfl (fun ls hl => ?_)
          refine lv_goto (tgt := 2) C.1 C.2.1 d_Wy_leads_92 (by decide) ?_
          refine lv_iload_n C.1 C.2.1 d_Wy_leads_2 rfl (lv_at hl 0 rfl) ?_
          refine lv_iconst (v := nI 3) C.1 C.2.1 d_Wy_leads_3 rfl ?_
          refine lv_icmp_ge (tgt := 95) C.1 C.2.1 d_Wy_leads_4 (by decide) (fun c_ => absurd c_ (by decide)) (fun c_ => ?_)
          refine lv_iconst (v := nI 3) C.1 C.2.1 d_Wy_leads_7 rfl ?_
          refine lv_iload_n C.1 C.2.1 d_Wy_leads_8 rfl (lv_at hl 0 rfl) ?_
          refine lv_imul C.1 C.2.1 d_Wy_leads_9 ?_
          refine gm_eqi (y := nI 6) (by decide) ?_
          refine lv_istore (lv' := [(4, .int (nI 6)), (3, .int (nI 2)), (5, .long x_5), (0, .ref w), (1, .ref t), (2, .ref n)]) C.1 C.2.1 d_Wy_leads_10 hl (by decide) rfl (fun ls hl => ?_)
          refine lv_aload_n C.1 C.2.1 d_Wy_leads_12 rfl (lv_at hl 3 rfl) ?_
          refine gg_r C hh hw.1 rfl in_Wy 1 (by decide) rfl tw_140 rfl d_Wy_leads_13 ?_
          refine lv_iload C.1 C.2.1 d_Wy_leads_16 (lv_at hl 0 rfl) ?_
          refine ga_i C hh hw.2.2.1 (k := 6) rfl (by omega) (by omega) d_Wy_leads_18 ?_
          refine lv_i2l (v := (I (w + 3) 6).toInt64) C.1 C.2.1 d_Wy_leads_19 rfl ?_
          refine lv_aload_n C.1 C.2.1 d_Wy_leads_20 rfl (lv_at hl 4 rfl) ?_
          refine lv_iconst (v := nI 0) C.1 C.2.1 d_Wy_leads_21 rfl ?_
          refine ga_l C hh ht (k := 0) rfl (by omega) (by omega) d_Wy_leads_22 ?_
          refine gm_eql (y := J t 0) (by rw [eJ_8, gm_up_ne _ _ (Or.inl (by omega)), eJ_4, gm_up_ne _ _ (Or.inl (by omega))]) ?_
          refine lv_lmul C.1 C.2.1 d_Wy_leads_23 ?_
          refine lv_aload_n C.1 C.2.1 d_Wy_leads_24 rfl (lv_at hl 3 rfl) ?_
          refine gg_r C hh hw.1 rfl in_Wy 1 (by decide) rfl tw_140 rfl d_Wy_leads_25 ?_
          refine lv_iload C.1 C.2.1 d_Wy_leads_28 (lv_at hl 0 rfl) ?_
          refine lv_iconst (v := nI 1) C.1 C.2.1 d_Wy_leads_30 rfl ?_
          refine lv_iadd C.1 C.2.1 d_Wy_leads_31 ?_
          refine gm_eqi (y := nI 7) (by decide) ?_
          refine ga_i C hh hw.2.2.1 (k := 7) rfl (by omega) (by omega) d_Wy_leads_32 ?_
          refine lv_i2l (v := (I (w + 3) 7).toInt64) C.1 C.2.1 d_Wy_leads_33 rfl ?_
          refine lv_aload_n C.1 C.2.1 d_Wy_leads_34 rfl (lv_at hl 4 rfl) ?_
          refine lv_iconst (v := nI 1) C.1 C.2.1 d_Wy_leads_35 rfl ?_
          refine ga_l C hh ht (k := 1) rfl (by omega) (by omega) d_Wy_leads_36 ?_
          refine gm_eql (y := J t 1) (by rw [eJ_8, gm_up_ne _ _ (Or.inl (by omega)), eJ_4, gm_up_ne _ _ (Or.inl (by omega))]) ?_
          refine lv_lmul C.1 C.2.1 d_Wy_leads_37 ?_
          refine lv_ladd C.1 C.2.1 d_Wy_leads_38 ?_
          refine lv_aload_n C.1 C.2.1 d_Wy_leads_39 rfl (lv_at hl 3 rfl) ?_
          refine gg_r C hh hw.1 rfl in_Wy 1 (by decide) rfl tw_140 rfl d_Wy_leads_40 ?_
          refine lv_iload C.1 C.2.1 d_Wy_leads_43 (lv_at hl 0 rfl) ?_
          refine lv_iconst (v := nI 2) C.1 C.2.1 d_Wy_leads_45 rfl ?_
          refine lv_iadd C.1 C.2.1 d_Wy_leads_46 ?_
          refine gm_eqi (y := nI 8) (by decide) ?_
          refine ga_i C hh hw.2.2.1 (k := 8) rfl (by omega) (by omega) d_Wy_leads_47 ?_
          refine lv_i2l (v := (I (w + 3) 8).toInt64) C.1 C.2.1 d_Wy_leads_48 rfl ?_
          refine lv_aload_n C.1 C.2.1 d_Wy_leads_49 rfl (lv_at hl 4 rfl) ?_
          refine lv_iconst (v := nI 2) C.1 C.2.1 d_Wy_leads_50 rfl ?_
          refine ga_l C hh ht (k := 2) rfl (by omega) (by omega) d_Wy_leads_51 ?_
          refine gm_eql (y := J t 2) (by rw [eJ_8, gm_up_ne _ _ (Or.inl (by omega)), eJ_4, gm_up_ne _ _ (Or.inl (by omega))]) ?_
          refine lv_lmul C.1 C.2.1 d_Wy_leads_52 ?_
          refine lv_ladd C.1 C.2.1 d_Wy_leads_53 ?_
          refine lv_aload_n C.1 C.2.1 d_Wy_leads_54 rfl (lv_at hl 3 rfl) ?_
          refine gg_r C hh hw.1 rfl in_Wy 2 (by decide) rfl tw_142 rfl d_Wy_leads_55 ?_
          refine lv_iload_n C.1 C.2.1 d_Wy_leads_58 rfl (lv_at hl 1 rfl) ?_
          refine ga_i C hh hw.2.2.2 (k := 2) rfl (by omega) (by omega) d_Wy_leads_59 ?_
          refine lv_i2l (v := (I (w + 4) 2).toInt64) C.1 C.2.1 d_Wy_leads_60 rfl ?_
          refine lv_ladd C.1 C.2.1 d_Wy_leads_61 ?_
          refine lv_topl (fun x_9 ex_9 => ?_)
          refine lv_lstore (lv' := [(5, .long x_9), (4, .int (nI 6)), (3, .int (nI 2)), (0, .ref w), (1, .ref t), (2, .ref n)]) C.1 C.2.1 d_Wy_leads_62 hl (by decide) rfl (fun ls hl => ?_)
          refine lv_lload C.1 C.2.1 d_Wy_leads_64 (lv_at hl 0 rfl) ?_
          refine lv_ldc2 C.1 C.2.1 C.2.2.2.1 (C.2.2.1 _ tw_529) d_Wy_leads_66 ?_
          refine W.lcmp C.1 C.2.1 d_Wy_leads_69 ?_
          refine lv_if_gt (tgt := 82) C.1 C.2.1 d_Wy_leads_70 (by decide) (fun c_10 => ?_) (fun c_10 => ?_)
          · -- 70 -> 82
            have c_10 := gm_lgtt c_10
            refine lv_iconst (v := nI 0) C.1 C.2.1 d_Wy_leads_82 rfl ?_
            exact gr_i C hlk hret (gm_nb (Or.inl rfl)) hh (by subst ex_1 eJ_4 ex_5 eJ_8 ex_9; refine Or.inr ⟨rfl, ?_, rfl, ?_⟩; (first | exact goB_f (Or.inl (nearB_f1 (by assumption))) | exact goB_f (Or.inl (nearB_f2 (by assumption))) | exact goB_f (Or.inr (Or.inl (nearB_f1 (by assumption)))) | exact goB_f (Or.inr (Or.inl (nearB_f2 (by assumption)))) | exact goB_f (Or.inr (Or.inr (nearB_f1 (by assumption)))) | exact goB_f (Or.inr (Or.inr (nearB_f2 (by assumption))))); (first | exact butJ.nil | exact butJ.nil.up | exact butJ.nil.up.up)) d_Wy_leads_83
          · -- 70 -> 73
            have c_10 := gm_lgtf c_10
            refine lv_lload C.1 C.2.1 d_Wy_leads_73 (lv_at hl 0 rfl) ?_
            refine lv_ldc2 C.1 C.2.1 C.2.2.2.1 (C.2.2.1 _ tw_530) d_Wy_leads_75 ?_
            refine W.lcmp C.1 C.2.1 d_Wy_leads_78 ?_
            refine lv_if_ge (tgt := 84) C.1 C.2.1 d_Wy_leads_79 (by decide) (fun c_11 => ?_) (fun c_11 => ?_)
            · -- 79 -> 84
              have c_11 := gm_lget c_11
              refine lv_aload_n C.1 C.2.1 d_Wy_leads_84 rfl (lv_at hl 5 rfl) ?_
              refine lv_iload_n C.1 C.2.1 d_Wy_leads_85 rfl (lv_at hl 2 rfl) ?_
              refine lv_lload C.1 C.2.1 d_Wy_leads_86 (lv_at hl 0 rfl) ?_
              refine gs_l C hh hn (k := 2) rfl (by omega) (by omega) d_Wy_leads_88 (fun H locs hh => ?_)
              obtain ⟨J_12, eJ_12⟩ : ∃ z : gm_J, z = gm_up J_8 n 2 x_9 := ⟨_, rfl⟩
              rw [← eJ_12] at hh
              refine lv_iinc (v := nI 3) (lv' := [(3, .int (nI 3)), (5, .long x_9), (4, .int (nI 6)), (0, .ref w), (1, .ref t), (2, .ref n)]) C.1 C.2.1 d_Wy_leads_89 hl (k := 2) rfl (gm_inc 2 1) (by decide) rfl (fun ls hl => ?_)
              refine lv_goto (tgt := 2) C.1 C.2.1 d_Wy_leads_92 (by decide) ?_
              refine lv_iload_n C.1 C.2.1 d_Wy_leads_2 rfl (lv_at hl 0 rfl) ?_
              refine lv_iconst (v := nI 3) C.1 C.2.1 d_Wy_leads_3 rfl ?_
              refine lv_icmp_ge (tgt := 95) C.1 C.2.1 d_Wy_leads_4 (by decide) (fun c_ => ?_) (fun c_ => absurd (by decide) c_)
              refine lv_iconst (v := nI 1) C.1 C.2.1 d_Wy_leads_95 rfl ?_
              exact gr_i C hlk hret (gm_nb (Or.inr rfl)) hh (by subst ex_1 eJ_4 ex_5 eJ_8 ex_9 eJ_12; exact Or.inl ⟨rfl, goB_t (nearB_t (by assumption) (by assumption)) (nearB_t (by assumption) (by assumption)) (nearB_t (by assumption) (by assumption)), rfl⟩) d_Wy_leads_96
            · -- 79 -> 82
              have c_11 := gm_lgef c_11
              refine lv_iconst (v := nI 0) C.1 C.2.1 d_Wy_leads_82 rfl ?_
              exact gr_i C hlk hret (gm_nb (Or.inl rfl)) hh (by subst ex_1 eJ_4 ex_5 eJ_8 ex_9; refine Or.inr ⟨rfl, ?_, rfl, ?_⟩; (first | exact goB_f (Or.inl (nearB_f1 (by assumption))) | exact goB_f (Or.inl (nearB_f2 (by assumption))) | exact goB_f (Or.inr (Or.inl (nearB_f1 (by assumption)))) | exact goB_f (Or.inr (Or.inl (nearB_f2 (by assumption)))) | exact goB_f (Or.inr (Or.inr (nearB_f1 (by assumption)))) | exact goB_f (Or.inr (Or.inr (nearB_f2 (by assumption))))); (first | exact butJ.nil | exact butJ.nil.up | exact butJ.nil.up.up)) d_Wy_leads_83
        · -- 79 -> 82
          have c_7 := gm_lgef c_7
          refine lv_iconst (v := nI 0) C.1 C.2.1 d_Wy_leads_82 rfl ?_
          exact gr_i C hlk hret (gm_nb (Or.inl rfl)) hh (by subst ex_1 eJ_4 ex_5; refine Or.inr ⟨rfl, ?_, rfl, ?_⟩; (first | exact goB_f (Or.inl (nearB_f1 (by assumption))) | exact goB_f (Or.inl (nearB_f2 (by assumption))) | exact goB_f (Or.inr (Or.inl (nearB_f1 (by assumption)))) | exact goB_f (Or.inr (Or.inl (nearB_f2 (by assumption)))) | exact goB_f (Or.inr (Or.inr (nearB_f1 (by assumption)))) | exact goB_f (Or.inr (Or.inr (nearB_f2 (by assumption))))); (first | exact butJ.nil | exact butJ.nil.up | exact butJ.nil.up.up)) d_Wy_leads_83
    · -- 79 -> 82
      have c_3 := gm_lgef c_3
      refine lv_iconst (v := nI 0) C.1 C.2.1 d_Wy_leads_82 rfl ?_
      exact gr_i C hlk hret (gm_nb (Or.inl rfl)) hh (by subst ex_1; refine Or.inr ⟨rfl, ?_, rfl, ?_⟩; (first | exact goB_f (Or.inl (nearB_f1 (by assumption))) | exact goB_f (Or.inl (nearB_f2 (by assumption))) | exact goB_f (Or.inr (Or.inl (nearB_f1 (by assumption)))) | exact goB_f (Or.inr (Or.inl (nearB_f2 (by assumption)))) | exact goB_f (Or.inr (Or.inr (nearB_f1 (by assumption)))) | exact goB_f (Or.inr (Or.inr (nearB_f2 (by assumption))))); (first | exact butJ.nil | exact butJ.nil.up | exact butJ.nil.up.up)) d_Wy_leads_83

set_option maxHeartbeats 4000000 in
set_option maxRecDepth 100000 in
theorem c_FT_copyState (l : Launch) (D : va_G) (cs : Nat → ClassId) (sh : gm_H) (sz : Nat) (I : gm_I) (J : gm_J) (a t : Nat) (ha : sh a = some (.inr (.inr (.inl 3)))) (ht : sh t = some (.inr (.inr (.inl 3)))) (hne : a ≠ t) : CV l y_FT_copyState w_FT_copyState { frames := 0, cells := 0, slots := 0, locals := 0 } D cs sh sz I J [.ref a, .ref t] (fun u => u = (I, set3 J t (get3 J a))) := by
  refine gm_start (by decide) (Nat.le_of_ble_eq_true rfl) ?_
  intro p' e' s' m' be' me' co' ls C hml hlk hret hh hl
  have hl : lv_has ls 3 [(0, .ref a), (1, .ref t)] := hl
  refine lv_iconst (v := nI 0) C.1 C.2.1 d_FT_copyState_0 rfl ?_
  refine lv_istore_n (lv' := [(2, .int (nI 0)), (0, .ref a), (1, .ref t)]) C.1 C.2.1 d_FT_copyState_1 rfl hl (by decide) rfl (fun ls hl => ?_)
  refine lv_iload_n C.1 C.2.1 d_FT_copyState_2 rfl (lv_at hl 0 rfl) ?_
  refine lv_iconst (v := nI 3) C.1 C.2.1 d_FT_copyState_3 rfl ?_
  refine lv_icmp_ge (tgt := 19) C.1 C.2.1 d_FT_copyState_4 (by decide) (fun c_ => absurd c_ (by decide)) (fun c_ => ?_)
  refine lv_aload_n C.1 C.2.1 d_FT_copyState_7 rfl (lv_at hl 2 rfl) ?_
  refine lv_iload_n C.1 C.2.1 d_FT_copyState_8 rfl (lv_at hl 0 rfl) ?_
  refine lv_aload_n C.1 C.2.1 d_FT_copyState_9 rfl (lv_at hl 1 rfl) ?_
  refine lv_iload_n C.1 C.2.1 d_FT_copyState_10 rfl (lv_at hl 0 rfl) ?_
  refine ga_l C hh ha (k := 0) rfl (by omega) (by omega) d_FT_copyState_11 ?_
  refine gs_l C hh ht (k := 0) rfl (by omega) (by omega) d_FT_copyState_12 (fun H locs hh => ?_)
  obtain ⟨J_1, eJ_1⟩ : ∃ z : gm_J, z = gm_up J t 0 (J a 0) := ⟨_, rfl⟩
  rw [← eJ_1] at hh
  refine lv_iinc (v := nI 1) (lv' := [(2, .int (nI 1)), (0, .ref a), (1, .ref t)]) C.1 C.2.1 d_FT_copyState_13 hl (k := 0) rfl (gm_inc 0 1) (by decide) rfl (fun ls hl => ?_)
  refine lv_goto (tgt := 2) C.1 C.2.1 d_FT_copyState_16 (by decide) ?_
  refine lv_iload_n C.1 C.2.1 d_FT_copyState_2 rfl (lv_at hl 0 rfl) ?_
  refine lv_iconst (v := nI 3) C.1 C.2.1 d_FT_copyState_3 rfl ?_
  refine lv_icmp_ge (tgt := 19) C.1 C.2.1 d_FT_copyState_4 (by decide) (fun c_ => absurd c_ (by decide)) (fun c_ => ?_)
  refine lv_aload_n C.1 C.2.1 d_FT_copyState_7 rfl (lv_at hl 2 rfl) ?_
  refine lv_iload_n C.1 C.2.1 d_FT_copyState_8 rfl (lv_at hl 0 rfl) ?_
  refine lv_aload_n C.1 C.2.1 d_FT_copyState_9 rfl (lv_at hl 1 rfl) ?_
  refine lv_iload_n C.1 C.2.1 d_FT_copyState_10 rfl (lv_at hl 0 rfl) ?_
  refine ga_l C hh ha (k := 1) rfl (by omega) (by omega) d_FT_copyState_11 ?_
  refine gm_eql (y := J a 1) (by rw [eJ_1, gm_up_ne _ _ (Or.inl (by omega))]) ?_
  refine gs_l C hh ht (k := 1) rfl (by omega) (by omega) d_FT_copyState_12 (fun H locs hh => ?_)
  obtain ⟨J_2, eJ_2⟩ : ∃ z : gm_J, z = gm_up J_1 t 1 (J a 1) := ⟨_, rfl⟩
  rw [← eJ_2] at hh
  refine lv_iinc (v := nI 2) (lv' := [(2, .int (nI 2)), (0, .ref a), (1, .ref t)]) C.1 C.2.1 d_FT_copyState_13 hl (k := 0) rfl (gm_inc 1 1) (by decide) rfl (fun ls hl => ?_)
  refine lv_goto (tgt := 2) C.1 C.2.1 d_FT_copyState_16 (by decide) ?_
  refine lv_iload_n C.1 C.2.1 d_FT_copyState_2 rfl (lv_at hl 0 rfl) ?_
  refine lv_iconst (v := nI 3) C.1 C.2.1 d_FT_copyState_3 rfl ?_
  refine lv_icmp_ge (tgt := 19) C.1 C.2.1 d_FT_copyState_4 (by decide) (fun c_ => absurd c_ (by decide)) (fun c_ => ?_)
  refine lv_aload_n C.1 C.2.1 d_FT_copyState_7 rfl (lv_at hl 2 rfl) ?_
  refine lv_iload_n C.1 C.2.1 d_FT_copyState_8 rfl (lv_at hl 0 rfl) ?_
  refine lv_aload_n C.1 C.2.1 d_FT_copyState_9 rfl (lv_at hl 1 rfl) ?_
  refine lv_iload_n C.1 C.2.1 d_FT_copyState_10 rfl (lv_at hl 0 rfl) ?_
  refine ga_l C hh ha (k := 2) rfl (by omega) (by omega) d_FT_copyState_11 ?_
  refine gm_eql (y := J a 2) (by rw [eJ_2, gm_up_ne _ _ (Or.inl (by omega)), eJ_1, gm_up_ne _ _ (Or.inl (by omega))]) ?_
  refine gs_l C hh ht (k := 2) rfl (by omega) (by omega) d_FT_copyState_12 (fun H locs hh => ?_)
  obtain ⟨J_3, eJ_3⟩ : ∃ z : gm_J, z = gm_up J_2 t 2 (J a 2) := ⟨_, rfl⟩
  rw [← eJ_3] at hh
  refine lv_iinc (v := nI 3) (lv' := [(2, .int (nI 3)), (0, .ref a), (1, .ref t)]) C.1 C.2.1 d_FT_copyState_13 hl (k := 0) rfl (gm_inc 2 1) (by decide) rfl (fun ls hl => ?_)
  refine lv_goto (tgt := 2) C.1 C.2.1 d_FT_copyState_16 (by decide) ?_
  refine lv_iload_n C.1 C.2.1 d_FT_copyState_2 rfl (lv_at hl 0 rfl) ?_
  refine lv_iconst (v := nI 3) C.1 C.2.1 d_FT_copyState_3 rfl ?_
  refine lv_icmp_ge (tgt := 19) C.1 C.2.1 d_FT_copyState_4 (by decide) (fun c_ => ?_) (fun c_ => absurd (by decide) c_)
  exact gr_v C hlk hret hh (by subst_vars; rfl) d_FT_copyState_19

set_option maxHeartbeats 4000000 in
set_option maxRecDepth 100000 in
theorem c_FT_sameState (l : Launch) (D : va_G) (cs : Nat → ClassId) (sh : gm_H) (sz : Nat) (I : gm_I) (J : gm_J) (a t : Nat) (ha : sh a = some (.inr (.inr (.inl 3)))) (ht : sh t = some (.inr (.inr (.inl 3))))  : CI l y_FT_sameState w_FT_sameState { frames := 0, cells := 0, slots := 0, locals := 0 } D cs sh sz I J [.ref a, .ref t] (fun x u => u = (I, J) ∧ x = bI (decide (get3 J a = get3 J t))) := by
  refine gm_start (by decide) (Nat.le_of_ble_eq_true rfl) ?_
  intro p' e' s' m' be' me' co' ls C hml hlk hret hh hl
  have hl : lv_has ls 2 [(0, .ref a), (1, .ref t)] := hl
  refine lv_aload_n C.1 C.2.1 d_FT_sameState_0 rfl (lv_at hl 0 rfl) ?_
  refine lv_iconst (v := nI 0) C.1 C.2.1 d_FT_sameState_1 rfl ?_
  refine ga_l C hh ha (k := 0) rfl (by omega) (by omega) d_FT_sameState_2 ?_
  refine lv_aload_n C.1 C.2.1 d_FT_sameState_3 rfl (lv_at hl 1 rfl) ?_
  refine lv_iconst (v := nI 0) C.1 C.2.1 d_FT_sameState_4 rfl ?_
  refine ga_l C hh ht (k := 0) rfl (by omega) (by omega) d_FT_sameState_5 ?_
  refine W.lcmp C.1 C.2.1 d_FT_sameState_6 ?_
  refine lv_if_ne (tgt := 34) C.1 C.2.1 d_FT_sameState_7 (by decide) (fun c_1 => ?_) (fun c_1 => ?_)
  · -- 7 -> 34
    have c_1 := gm_lnet c_1
    refine lv_iconst (v := nI 0) C.1 C.2.1 d_FT_sameState_34 rfl ?_
    exact gr_i C hlk hret (gm_nb (Or.inl rfl)) hh (by refine ⟨rfl, ?_⟩; simp [bI, get3, nI_0, nI_one, *]) d_FT_sameState_35
  · -- 7 -> 10
    have c_1 := gm_lnef c_1
    refine lv_aload_n C.1 C.2.1 d_FT_sameState_10 rfl (lv_at hl 0 rfl) ?_
    refine lv_iconst (v := nI 1) C.1 C.2.1 d_FT_sameState_11 rfl ?_
    refine ga_l C hh ha (k := 1) rfl (by omega) (by omega) d_FT_sameState_12 ?_
    refine lv_aload_n C.1 C.2.1 d_FT_sameState_13 rfl (lv_at hl 1 rfl) ?_
    refine lv_iconst (v := nI 1) C.1 C.2.1 d_FT_sameState_14 rfl ?_
    refine ga_l C hh ht (k := 1) rfl (by omega) (by omega) d_FT_sameState_15 ?_
    refine W.lcmp C.1 C.2.1 d_FT_sameState_16 ?_
    refine lv_if_ne (tgt := 34) C.1 C.2.1 d_FT_sameState_17 (by decide) (fun c_2 => ?_) (fun c_2 => ?_)
    · -- 17 -> 34
      have c_2 := gm_lnet c_2
      refine lv_iconst (v := nI 0) C.1 C.2.1 d_FT_sameState_34 rfl ?_
      exact gr_i C hlk hret (gm_nb (Or.inl rfl)) hh (by refine ⟨rfl, ?_⟩; simp [bI, get3, nI_0, nI_one, *]) d_FT_sameState_35
    · -- 17 -> 20
      have c_2 := gm_lnef c_2
      refine lv_aload_n C.1 C.2.1 d_FT_sameState_20 rfl (lv_at hl 0 rfl) ?_
      refine lv_iconst (v := nI 2) C.1 C.2.1 d_FT_sameState_21 rfl ?_
      refine ga_l C hh ha (k := 2) rfl (by omega) (by omega) d_FT_sameState_22 ?_
      refine lv_aload_n C.1 C.2.1 d_FT_sameState_23 rfl (lv_at hl 1 rfl) ?_
      refine lv_iconst (v := nI 2) C.1 C.2.1 d_FT_sameState_24 rfl ?_
      refine ga_l C hh ht (k := 2) rfl (by omega) (by omega) d_FT_sameState_25 ?_
      refine W.lcmp C.1 C.2.1 d_FT_sameState_26 ?_
      refine lv_if_ne (tgt := 34) C.1 C.2.1 d_FT_sameState_27 (by decide) (fun c_3 => ?_) (fun c_3 => ?_)
      · -- 27 -> 34
        have c_3 := gm_lnet c_3
        refine lv_iconst (v := nI 0) C.1 C.2.1 d_FT_sameState_34 rfl ?_
        exact gr_i C hlk hret (gm_nb (Or.inl rfl)) hh (by refine ⟨rfl, ?_⟩; simp [bI, get3, nI_0, nI_one, *]) d_FT_sameState_35
      · -- 27 -> 30
        have c_3 := gm_lnef c_3
        refine lv_iconst (v := nI 1) C.1 C.2.1 d_FT_sameState_30 rfl ?_
        refine lv_goto (tgt := 35) C.1 C.2.1 d_FT_sameState_31 (by decide) ?_
        exact gr_i C hlk hret (gm_nb (Or.inr rfl)) hh (by refine ⟨rfl, ?_⟩; simp [bI, get3, nI_0, nI_one, *]) d_FT_sameState_35

set_option maxHeartbeats 4000000 in
set_option maxRecDepth 100000 in
theorem c_Lp_begin (l : Launch) (D : va_G) (cs : Nat → ClassId) (sh : gm_H) (sz : Nat) (I : gm_I) (J : gm_J) (o : Nat) (ho : is_Lp cs sh o) (v : Int32) : CV l y_Lp_begin w_Lp_begin { frames := 0, cells := 0, slots := 0, locals := 0 } D cs sh sz I J [.ref o, .int v] (fun u => u = (lbI I o v, lbJ J o)) := by
  refine gm_start (by decide) (Nat.le_of_ble_eq_true rfl) ?_
  intro p' e' s' m' be' me' co' ls C hml hlk hret hh hl
  have hl : lv_has ls 3 [(0, .ref o), (1, .int v)] := hl
  refine lv_aload_n C.1 C.2.1 d_Lp_begin_0 rfl (lv_at hl 0 rfl) ?_
  refine lv_iload_n C.1 C.2.1 d_Lp_begin_1 rfl (lv_at hl 1 rfl) ?_
  refine gp_i (ty := .int) C hh ho.1 rfl in_Lp t_Lp t_Lp_ok n_Lp 0 (by decide) rfl tw_151 rfl rfl (by decide +kernel) rfl rfl d_Lp_begin_2 (fun H locs hh => ?_)
  obtain ⟨I_1, eI_1⟩ : ∃ z : gm_I, z = gm_up I o 0 v := ⟨_, rfl⟩
  rw [← eI_1] at hh
  refine lv_aload_n C.1 C.2.1 d_Lp_begin_5 rfl (lv_at hl 0 rfl) ?_
  refine gg_r C hh ho.1 rfl in_Lp 1 (by decide) rfl tw_154 rfl d_Lp_begin_6 ?_
  refine lv_iconst (v := nI 0) C.1 C.2.1 d_Lp_begin_9 rfl ?_
  refine gq_i (ty := .int) C hh ho.2.1.1 rfl in_Rw t_Rw t_Rw_ok n_Rw 2 (by decide) rfl tw_116 rfl rfl (by decide +kernel) rfl rfl d_Lp_begin_10 (fun H locs hh => ?_)
  obtain ⟨I_2, eI_2⟩ : ∃ z : gm_I, z = gm_up I_1 (o + 1) 2 (nI 0) := ⟨_, rfl⟩
  rw [← eI_2] at hh
  refine lv_aload_n C.1 C.2.1 d_Lp_begin_13 rfl (lv_at hl 0 rfl) ?_
  refine lv_iconst (v := nI 0) C.1 C.2.1 d_Lp_begin_14 rfl ?_
  refine gp_i (ty := .int) C hh ho.1 rfl in_Lp t_Lp t_Lp_ok n_Lp 3 (by decide) rfl tw_161 rfl rfl (by decide +kernel) rfl rfl d_Lp_begin_15 (fun H locs hh => ?_)
  obtain ⟨I_3, eI_3⟩ : ∃ z : gm_I, z = gm_up I_2 o 3 (nI 0) := ⟨_, rfl⟩
  rw [← eI_3] at hh
  refine lv_iconst (v := nI 0) C.1 C.2.1 d_Lp_begin_18 rfl ?_
  refine lv_istore_n (lv' := [(2, .int (nI 0)), (0, .ref o), (1, .int v)]) C.1 C.2.1 d_Lp_begin_19 rfl hl (by decide) rfl (fun ls hl => ?_)
  refine lv_iload_n C.1 C.2.1 d_Lp_begin_20 rfl (lv_at hl 0 rfl) ?_
  refine lv_iconst (v := nI 3) C.1 C.2.1 d_Lp_begin_21 rfl ?_
  refine lv_icmp_ge (tgt := 38) C.1 C.2.1 d_Lp_begin_22 (by decide) (fun c_ => absurd c_ (by decide)) (fun c_ => ?_)
  refine lv_aload_n C.1 C.2.1 d_Lp_begin_25 rfl (lv_at hl 1 rfl) ?_
  refine gg_r C hh ho.1 rfl in_Lp 4 (by decide) rfl tw_164 rfl d_Lp_begin_26 ?_
  refine lv_iload_n C.1 C.2.1 d_Lp_begin_29 rfl (lv_at hl 0 rfl) ?_
  refine lv_lconst (v := 0) C.1 C.2.1 d_Lp_begin_30 rfl ?_
  refine gs_l C hh ho.2.2.2.1 (k := 0) rfl (by omega) (by omega) d_Lp_begin_31 (fun H locs hh => ?_)
  obtain ⟨J_4, eJ_4⟩ : ∃ z : gm_J, z = gm_up J (o + 4) 0 (0 : Int64) := ⟨_, rfl⟩
  rw [← eJ_4] at hh
  refine lv_iinc (v := nI 1) (lv' := [(2, .int (nI 1)), (0, .ref o), (1, .int v)]) C.1 C.2.1 d_Lp_begin_32 hl (k := 0) rfl (gm_inc 0 1) (by decide) rfl (fun ls hl => ?_)
  refine lv_goto (tgt := 20) C.1 C.2.1 d_Lp_begin_35 (by decide) ?_
  refine lv_iload_n C.1 C.2.1 d_Lp_begin_20 rfl (lv_at hl 0 rfl) ?_
  refine lv_iconst (v := nI 3) C.1 C.2.1 d_Lp_begin_21 rfl ?_
  refine lv_icmp_ge (tgt := 38) C.1 C.2.1 d_Lp_begin_22 (by decide) (fun c_ => absurd c_ (by decide)) (fun c_ => ?_)
  refine lv_aload_n C.1 C.2.1 d_Lp_begin_25 rfl (lv_at hl 1 rfl) ?_
  refine gg_r C hh ho.1 rfl in_Lp 4 (by decide) rfl tw_164 rfl d_Lp_begin_26 ?_
  refine lv_iload_n C.1 C.2.1 d_Lp_begin_29 rfl (lv_at hl 0 rfl) ?_
  refine lv_lconst (v := 0) C.1 C.2.1 d_Lp_begin_30 rfl ?_
  refine gs_l C hh ho.2.2.2.1 (k := 1) rfl (by omega) (by omega) d_Lp_begin_31 (fun H locs hh => ?_)
  obtain ⟨J_5, eJ_5⟩ : ∃ z : gm_J, z = gm_up J_4 (o + 4) 1 (0 : Int64) := ⟨_, rfl⟩
  rw [← eJ_5] at hh
  refine lv_iinc (v := nI 2) (lv' := [(2, .int (nI 2)), (0, .ref o), (1, .int v)]) C.1 C.2.1 d_Lp_begin_32 hl (k := 0) rfl (gm_inc 1 1) (by decide) rfl (fun ls hl => ?_)
  refine lv_goto (tgt := 20) C.1 C.2.1 d_Lp_begin_35 (by decide) ?_
  refine lv_iload_n C.1 C.2.1 d_Lp_begin_20 rfl (lv_at hl 0 rfl) ?_
  refine lv_iconst (v := nI 3) C.1 C.2.1 d_Lp_begin_21 rfl ?_
  refine lv_icmp_ge (tgt := 38) C.1 C.2.1 d_Lp_begin_22 (by decide) (fun c_ => absurd c_ (by decide)) (fun c_ => ?_)
  refine lv_aload_n C.1 C.2.1 d_Lp_begin_25 rfl (lv_at hl 1 rfl) ?_
  refine gg_r C hh ho.1 rfl in_Lp 4 (by decide) rfl tw_164 rfl d_Lp_begin_26 ?_
  refine lv_iload_n C.1 C.2.1 d_Lp_begin_29 rfl (lv_at hl 0 rfl) ?_
  refine lv_lconst (v := 0) C.1 C.2.1 d_Lp_begin_30 rfl ?_
  refine gs_l C hh ho.2.2.2.1 (k := 2) rfl (by omega) (by omega) d_Lp_begin_31 (fun H locs hh => ?_)
  obtain ⟨J_6, eJ_6⟩ : ∃ z : gm_J, z = gm_up J_5 (o + 4) 2 (0 : Int64) := ⟨_, rfl⟩
  rw [← eJ_6] at hh
  refine lv_iinc (v := nI 3) (lv' := [(2, .int (nI 3)), (0, .ref o), (1, .int v)]) C.1 C.2.1 d_Lp_begin_32 hl (k := 0) rfl (gm_inc 2 1) (by decide) rfl (fun ls hl => ?_)
  refine lv_goto (tgt := 20) C.1 C.2.1 d_Lp_begin_35 (by decide) ?_
  refine lv_iload_n C.1 C.2.1 d_Lp_begin_20 rfl (lv_at hl 0 rfl) ?_
  refine lv_iconst (v := nI 3) C.1 C.2.1 d_Lp_begin_21 rfl ?_
  refine lv_icmp_ge (tgt := 38) C.1 C.2.1 d_Lp_begin_22 (by decide) (fun c_ => ?_) (fun c_ => absurd (by decide) c_)
  exact gr_v C hlk hret hh (by subst_vars; rfl) d_Lp_begin_38

set_option maxHeartbeats 4000000 in
set_option maxRecDepth 100000 in
theorem c_Lp_appendWay (l : Launch) (D : va_G) (cs : Nat → ClassId) (sh : gm_H) (sz : Nat) (I : gm_I) (J : gm_J) (o : Nat) (ho : is_Lp cs sh o) (m : Nat) (em : I o 3 = nI m) (hm : m ≤ 3) : CI l y_Lp_appendWay w_Lp_appendWay { frames := 1, cells := 0, slots := 0, locals := 22 } D cs sh sz I J [.ref o] (fun x u => (m = 3 ∧ x = -4 ∧ u = (I, J)) ∨ (m < 3 ∧ x = nI m ∧ u = (gm_up (bgI I (o + 6 + 5 * m)) o 3 (nI (m + 1)), J))) := by
  refine gm_start (by decide) (Nat.le_of_ble_eq_true rfl) ?_
  intro p' e' s' m' be' me' co' ls C hml hlk hret hh hl
  have hl : lv_has ls 1 [(0, .ref o)] := hl
  have tM_0 : I o 3 = nI m := em
  refine lv_aload_n C.1 C.2.1 d_Lp_appendWay_0 rfl (lv_at hl 0 rfl) ?_
  refine gg_i C hh ho.1 rfl in_Lp 3 (by decide) rfl tw_161 rfl d_Lp_appendWay_1 ?_
  refine gm_eqi tM_0 ?_
  refine lv_iconst (v := nI 3) C.1 C.2.1 d_Lp_appendWay_4 rfl ?_
  refine lv_icmp_lt (tgt := 11) C.1 C.2.1 d_Lp_appendWay_5 (by decide) (fun c_1 => ?_) (fun c_1 => ?_)
  · -- 5 -> 11
    have c_1 := gm_ltt (by omega) (by omega) c_1
    have c_1' := Nat.not_le.mpr c_1
    refine lv_aload_n C.1 C.2.1 d_Lp_appendWay_11 rfl (lv_at hl 0 rfl) ?_
    refine gg_r C hh ho.1 rfl in_Lp 2 (by decide) rfl tw_157 rfl d_Lp_appendWay_12 ?_
    refine lv_aload_n C.1 C.2.1 d_Lp_appendWay_15 rfl (lv_at hl 0 rfl) ?_
    refine gg_i C hh ho.1 rfl in_Lp 3 (by decide) rfl tw_161 rfl d_Lp_appendWay_16 ?_
    refine gm_eqi tM_0 ?_
    refine ga_q C hh 4 ho.2.2.1 (Cn := "FallingTerms$Way") rfl (k := m) (v := o + 6 + 5 * m) rfl (by omega) (by omega) (if_pos (by omega)) d_Lp_appendWay_19 ?_
    obtain ⟨p_2, ep_2⟩ : ∃ z : Nat, z = o + 6 + 5 * m := ⟨_, rfl⟩
    have hp_2 : is_Wy sh p_2 := by rw [ep_2]; exact ho.2.2.2.2.2 m (by omega)
    refine gm_eqr ep_2.symm ?_
    refine gc_v hh (gc_runV (As := []) (rest := []) (n := 0) C hml hh (c_Wy_begin l D cs sh sz I J p_2 hp_2) (tg_V tw_290 tw_291 tw_292 tw_62 tw_293) (by decide +kernel) ⟨rfl, rfl, by decide, by decide, Nat.zero_le _, Nat.zero_le _⟩ hp_2.1 rfl rfl hl.1 rfl (Nat.le_of_ble_eq_true rfl) d_Lp_appendWay_20) (fun I_4 J_5 H locs hr_3 hh => ?_)
    rw [(Prod.mk.inj hr_3).1, (Prod.mk.inj hr_3).2] at hh
    have tM_6 : (bgI I p_2) o 3 = nI m := by rw [bgI_off _ (by omega)]; exact tM_0
    refine lv_aload_n C.1 C.2.1 d_Lp_appendWay_23 rfl (lv_at hl 0 rfl) ?_
    refine lv_dup C.1 C.2.1 d_Lp_appendWay_24 rfl ?_
    refine gg_i C hh ho.1 rfl in_Lp 3 (by decide) rfl tw_161 rfl d_Lp_appendWay_25 ?_
    refine gm_eqi tM_6 ?_
    refine lv_iconst (v := nI 1) C.1 C.2.1 d_Lp_appendWay_28 rfl ?_
    refine lv_iadd C.1 C.2.1 d_Lp_appendWay_29 ?_
    refine gm_eqi (nI_add _ _) ?_
    refine gp_i (ty := .int) C hh ho.1 rfl in_Lp t_Lp t_Lp_ok n_Lp 3 (by decide) rfl tw_161 rfl rfl (by decide +kernel) rfl rfl d_Lp_appendWay_30 (fun H locs hh => ?_)
    obtain ⟨I_7, eI_7⟩ : ∃ z : gm_I, z = gm_up (bgI I p_2) o 3 (nI (m + 1)) := ⟨_, rfl⟩
    rw [← eI_7] at hh
    have tM_8 : I_7 o 3 = nI (m + 1) := by rw [eI_7]; exact gm_up_same _ _ _ _
    refine lv_aload_n C.1 C.2.1 d_Lp_appendWay_33 rfl (lv_at hl 0 rfl) ?_
    refine gg_i C hh ho.1 rfl in_Lp 3 (by decide) rfl tw_161 rfl d_Lp_appendWay_34 ?_
    refine gm_eqi (y := nI (m + 1)) (by rw [eI_7, gm_up_same]) ?_
    refine lv_iconst (v := nI 1) C.1 C.2.1 d_Lp_appendWay_37 rfl ?_
    refine lv_isub C.1 C.2.1 d_Lp_appendWay_38 ?_
    refine gm_eqi (nI_pred _) ?_
    exact gr_i C hlk hret rfl hh (by subst_vars; exact Or.inr ⟨by omega, rfl, rfl⟩) d_Lp_appendWay_39
  · -- 5 -> 8
    have c_1 := gm_ltf (by omega) (by omega) c_1
    have c_1' := Nat.not_lt.mpr c_1
    refine lv_bipush (v := (-4)) C.1 C.2.1 d_Lp_appendWay_8 rfl ?_
    exact gr_i C hlk hret rfl hh (by exact Or.inl ⟨by omega, rfl, rfl⟩) d_Lp_appendWay_10

set_option maxHeartbeats 4000000 in
set_option maxRecDepth 100000 in
theorem c_Lp_reach (l : Launch) (D : va_G) (cs : Nat → ClassId) (sh : gm_H) (sz : Nat) (I : gm_I) (J : gm_J) (o : Nat) (ho : is_Lp cs sh o) (nm k : Nat) (enm : I o 0 = nI nm) (hnm : nm ≤ 3) (hk : k < 3) (v : Int32) : CI l y_Lp_reach w_Lp_reach { frames := 0, cells := 0, slots := 0, locals := 0 } D cs sh sz I J [.ref o, .int (nI k), .int v] (fun x u => u = (I, J) ∧ x = if k < nm then v else nI 0) := by
  refine gm_start (by decide) (Nat.le_of_ble_eq_true rfl) ?_
  intro p' e' s' m' be' me' co' ls C hml hlk hret hh hl
  have hl : lv_has ls 3 [(0, .ref o), (1, .int (nI k)), (2, .int v)] := hl
  have tM_0 : I o 0 = nI nm := enm
  refine lv_iload_n C.1 C.2.1 d_Lp_reach_0 rfl (lv_at hl 1 rfl) ?_
  refine lv_aload_n C.1 C.2.1 d_Lp_reach_1 rfl (lv_at hl 0 rfl) ?_
  refine gg_i C hh ho.1 rfl in_Lp 0 (by decide) rfl tw_151 rfl d_Lp_reach_2 ?_
  refine gm_eqi tM_0 ?_
  refine lv_icmp_ge (tgt := 12) C.1 C.2.1 d_Lp_reach_5 (by decide) (fun c_1 => ?_) (fun c_1 => ?_)
  · -- 5 -> 12
    have c_1 := gm_get (by omega) (by omega) c_1
    have c_1' := Nat.not_lt.mpr c_1
    refine lv_iconst (v := nI 0) C.1 C.2.1 d_Lp_reach_12 rfl ?_
    exact gr_i C hlk hret rfl hh (by refine ⟨rfl, ?_⟩; first | rw [if_pos (by omega)] | rw [if_neg (by omega)]) d_Lp_reach_13
  · -- 5 -> 8
    have c_1 := gm_gef (by omega) (by omega) c_1
    have c_1' := Nat.not_le.mpr c_1
    refine lv_iload_n C.1 C.2.1 d_Lp_reach_8 rfl (lv_at hl 2 rfl) ?_
    refine lv_goto (tgt := 13) C.1 C.2.1 d_Lp_reach_9 (by decide) ?_
    exact gr_i C hlk hret rfl hh (by refine ⟨rfl, ?_⟩; first | rw [if_pos (by omega)] | rw [if_neg (by omega)]) d_Lp_reach_13

set_option maxHeartbeats 4000000 in
set_option maxRecDepth 100000 in
theorem c_Lp_openWays (l : Launch) (D : va_G) (cs : Nat → ClassId) (sh : gm_H) (sz : Nat) (I : gm_I) (J : gm_J) (o : Nat) (ho : is_Lp cs sh o) (hVo : inv_Lp I o)  : CI l y_Lp_openWays w_Lp_openWays { frames := 1, cells := 0, slots := 0, locals := 25 } D cs sh sz I J [.ref o] (fun x u => u = (I, J) ∧ x = nI (copn I o (get3 J (o + 4)))) := by
  refine gm_start (by decide) (Nat.le_of_ble_eq_true rfl) ?_
  intro p' e' s' m' be' me' co' ls C hml hlk hret hh hl
  have hl : lv_has ls 3 [(0, .ref o)] := hl
  obtain ⟨m_, hm_, em_⟩ := hVo.2.2.1
  refine lv_iconst (v := nI 0) C.1 C.2.1 d_Lp_openWays_0 rfl ?_
  refine lv_istore_n (lv' := [(1, .int (nI 0)), (0, .ref o)]) C.1 C.2.1 d_Lp_openWays_1 rfl hl (by decide) rfl (fun ls hl => ?_)
  refine lv_aload_n C.1 C.2.1 d_Lp_openWays_2 rfl (lv_at hl 1 rfl) ?_
  refine gg_r C hh ho.1 rfl in_Lp 1 (by decide) rfl tw_154 rfl d_Lp_openWays_3 ?_
  refine lv_aload_n C.1 C.2.1 d_Lp_openWays_6 rfl (lv_at hl 1 rfl) ?_
  refine gg_r C hh ho.1 rfl in_Lp 4 (by decide) rfl tw_164 rfl d_Lp_openWays_7 ?_
  obtain ⟨g_1, hg_1, eg_1⟩ := hVo.2.1.2
  refine gc_i hh (gc_runV (As := [.ref (o + 4)]) (rest := []) (n := 1) C hml hh (c_Rw_holdIn l D cs sh sz I J (o + 1) 4 g_1 ho.2.1 hVo.2.1.1 (by omega) eg_1 hg_1 (o + 4) ho.2.2.2.1) (tg_V tw_509 tw_510 tw_511 tw_60 tw_512) (by decide +kernel) ⟨rfl, rfl, by decide, by decide, Nat.zero_le _, Nat.zero_le _⟩ ho.2.1.1 rfl rfl hl.1 rfl (Nat.le_of_ble_eq_true rfl) d_Lp_openWays_10) (fun r_2 I_3 J_4 H locs hr_2 hh => ?_)
  obtain ⟨e_r_2, hr_2⟩ := hr_2
  rw [(Prod.mk.inj e_r_2).1, (Prod.mk.inj e_r_2).2] at hh
  refine lv_if_eq (tgt := 57) C.1 C.2.1 d_Lp_openWays_13 (by decide) (fun c_5 => ?_) (fun c_5 => ?_)
  · -- 13 -> 57
    have b_6 := bI_f hr_2 c_5
    skip
    refine lv_iload_n C.1 C.2.1 d_Lp_openWays_57 rfl (lv_at hl 0 rfl) ?_
    exact gr_i C hlk hret rfl hh (by refine ⟨rfl, ?_⟩; unfold copn; first | (rw [if_pos hg, em_, nN_nI (by omega), hb, show k = m_ by omega]; done) | (rw [if_neg (by rw [show gMt I o (get3 J (o + 4)) = false by unfold gMt; rw [eg_1, nN_nI (by omega)]; assumption]; decide)])) d_Lp_openWays_58
  · -- 13 -> 16
    have b_7 := bI_t hr_2 c_5
    skip
    refine lv_iconst (v := nI 0) C.1 C.2.1 d_Lp_openWays_16 rfl ?_
    refine lv_istore_n (lv' := [(2, .int (nI 0)), (1, .int (nI 0)), (0, .ref o)]) C.1 C.2.1 d_Lp_openWays_17 rfl hl (by decide) rfl (fun ls hl => ?_)
    have K18 : ∀ (n_18 : Nat) (k : Nat) (bt : Nat) (hk : k ≤ m_) (hb : bt = cops I o (get3 J (o + 4)) k) (hb2 : bt < 2 ^ k) (hg : gMt I o (get3 J (o + 4)) = true) (hm_18 : m_ - k < n_18), ∀ (H : Heap) (locs : List Loc) (ls : Array Slot), gm_St D cs sh (gm_A sh) s'.heap sz I J H locs → lv_has ls 3 [(0, .ref o), (1, .int (nI bt)), (2, .int (nI k))] → W p' l e' { frames := 1, cells := 0, slots := 0, locals := 25 } s' m' ([.ref o] : List Value).toArray be' me' co' H locs 0 0 (MQ be' (va_Qi (fun x u => u = (I, J) ∧ x = nI (copn I o (get3 J (o + 4)))) (gm_B D cs sh sz) (gm_A sh)) ([.ref o] : List Value).toArray s' 0 0 (gm_A sh)) (F0 m' 18 ls []) := by
      intro n_18
      induction n_18 with
      | zero => intro k bt hk hb hb2 hg hm_18; exact absurd hm_18 (Nat.not_lt_zero _)
      | succ n_18 ih18 =>
        intro k bt hk hb hb2 hg hm_18 H locs ls hh hl
        refine lv_iload_n C.1 C.2.1 d_Lp_openWays_18 rfl (lv_at hl 2 rfl) ?_
        refine lv_aload_n C.1 C.2.1 d_Lp_openWays_19 rfl (lv_at hl 0 rfl) ?_
        refine gg_i C hh ho.1 rfl in_Lp 3 (by decide) rfl tw_161 rfl d_Lp_openWays_20 ?_
        refine gm_eqi em_ ?_
        refine lv_icmp_ge (tgt := 57) C.1 C.2.1 d_Lp_openWays_23 (by decide) (fun c_8 => ?_) (fun c_8 => ?_)
        · -- 23 -> 57
          have c_8 := gm_get (by omega) (by omega) c_8
          have c_8' := Nat.not_lt.mpr c_8
          refine lv_iload_n C.1 C.2.1 d_Lp_openWays_57 rfl (lv_at hl 1 rfl) ?_
          exact gr_i C hlk hret rfl hh (by refine ⟨rfl, ?_⟩; unfold copn; first | (rw [if_pos hg, em_, nN_nI (by omega), hb, show k = m_ by omega]; done) | (rw [if_neg (by rw [show gMt I o (get3 J (o + 4)) = false by unfold gMt; rw [eg_1, nN_nI (by omega)]; assumption]; decide)])) d_Lp_openWays_58
        · -- 23 -> 26
          have c_8 := gm_gef (by omega) (by omega) c_8
          have c_8' := Nat.not_le.mpr c_8
          refine lv_aload_n C.1 C.2.1 d_Lp_openWays_26 rfl (lv_at hl 0 rfl) ?_
          refine gg_r C hh ho.1 rfl in_Lp 2 (by decide) rfl tw_157 rfl d_Lp_openWays_27 ?_
          refine lv_iload_n C.1 C.2.1 d_Lp_openWays_30 rfl (lv_at hl 2 rfl) ?_
          refine ga_q C hh 4 ho.2.2.1 (Cn := "FallingTerms$Way") rfl (k := k) (v := o + 6 + 5 * k) rfl (by omega) (by omega) (if_pos (by omega)) d_Lp_openWays_31 ?_
          obtain ⟨p_9, ep_9⟩ : ∃ z : Nat, z = o + 6 + 5 * k := ⟨_, rfl⟩
          have hp_9 : is_Wy sh p_9 := by rw [ep_9]; exact ho.2.2.2.2.2 k (by omega)
          refine gm_eqr ep_9.symm ?_
          refine gn_r C hh hp_9.1 rfl in_Wy 0 (by decide) rfl tw_138 rfl d_Lp_openWays_32 ?_
          refine lv_aload_n C.1 C.2.1 d_Lp_openWays_35 rfl (lv_at hl 0 rfl) ?_
          refine gg_r C hh ho.1 rfl in_Lp 4 (by decide) rfl tw_164 rfl d_Lp_openWays_36 ?_
          have ig_10 := hVo.2.2.2 k (by omega)
          rw [← ep_9] at ig_10
          obtain ⟨g_10, hg_10, eg_10⟩ := ig_10.2
          refine gc_i hh (gc_runV (As := [.ref (o + 4)]) (rest := []) (n := 1) C hml hh (c_Rw_holdIn l D cs sh sz I J (p_9 + 1) 2 g_10 hp_9.2.1 ig_10.1 (by omega) eg_10 hg_10 (o + 4) ho.2.2.2.1) (tg_V tw_509 tw_510 tw_511 tw_60 tw_512) (by decide +kernel) ⟨rfl, rfl, by decide, by decide, Nat.zero_le _, Nat.zero_le _⟩ hp_9.2.1.1 rfl rfl hl.1 rfl (Nat.le_of_ble_eq_true rfl) d_Lp_openWays_39) (fun r_11 I_12 J_13 H locs hr_11 hh => ?_)
          obtain ⟨e_r_11, hr_11⟩ := hr_11
          rw [(Prod.mk.inj e_r_11).1, (Prod.mk.inj e_r_11).2] at hh
          refine lv_if_eq (tgt := 51) C.1 C.2.1 d_Lp_openWays_42 (by decide) (fun c_14 => ?_) (fun c_14 => ?_)
          · -- 42 -> 51
            have b_15 := bI_f hr_11 c_14
            skip
            refine lv_iinc (v := nI (k + 1)) (lv' := [(2, .int (nI (k + 1))), (0, .ref o), (1, .int (nI bt))]) C.1 C.2.1 d_Lp_openWays_51 hl (k := 2) rfl (gm_inc k 1) (by decide) rfl (fun ls hl => ?_)
            refine lv_goto (tgt := 18) C.1 C.2.1 d_Lp_openWays_54 (by decide) ?_
            exact ih18 (k + 1) bt (by omega) (by rw [cops, ← hb]; first | rw [if_pos (by unfold wMt; rw [← ep_9, eg_10, nN_nI (by omega)]; assumption)] | rw [if_neg (by rw [show wMt I (o + 6 + 5 * k) (get3 J (o + 4)) = false by unfold wMt; rw [← ep_9, eg_10, nN_nI (by omega)]; assumption]; decide)]; rfl) (by rw [Nat.pow_succ]; omega) (by exact hg) (by omega) _ _ _ hh (lv_sub hl [1, 2, 0] rfl)
          · -- 42 -> 45
            have b_16 := bI_t hr_11 c_14
            skip
            refine lv_iload_n C.1 C.2.1 d_Lp_openWays_45 rfl (lv_at hl 1 rfl) ?_
            refine lv_iconst (v := nI 1) C.1 C.2.1 d_Lp_openWays_46 rfl ?_
            refine lv_iload_n C.1 C.2.1 d_Lp_openWays_47 rfl (lv_at hl 2 rfl) ?_
            refine lv_ishl C.1 C.2.1 d_Lp_openWays_48 ?_
            refine gm_eqi (gm_shl (by omega) (by omega)) ?_
            refine lv_ior C.1 C.2.1 d_Lp_openWays_49 ?_
            refine gm_eqi (nI_or (by omega) (by assumption)) ?_
            refine lv_istore_n (lv' := [(1, .int (nI (bt + 1 * 2 ^ k))), (0, .ref o), (2, .int (nI k))]) C.1 C.2.1 d_Lp_openWays_50 rfl hl (by decide) rfl (fun ls hl => ?_)
            refine lv_iinc (v := nI (k + 1)) (lv' := [(2, .int (nI (k + 1))), (1, .int (nI (bt + 1 * 2 ^ k))), (0, .ref o)]) C.1 C.2.1 d_Lp_openWays_51 hl (k := 2) rfl (gm_inc k 1) (by decide) rfl (fun ls hl => ?_)
            refine lv_goto (tgt := 18) C.1 C.2.1 d_Lp_openWays_54 (by decide) ?_
            exact ih18 (k + 1) (bt + 1 * 2 ^ k) (by omega) (by rw [cops, ← hb]; first | rw [if_pos (by unfold wMt; rw [← ep_9, eg_10, nN_nI (by omega)]; assumption)] | rw [if_neg (by rw [show wMt I (o + 6 + 5 * k) (get3 J (o + 4)) = false by unfold wMt; rw [← ep_9, eg_10, nN_nI (by omega)]; assumption]; decide)]; rfl) (by rw [Nat.pow_succ]; omega) (by exact hg) (by omega) _ _ _ hh (lv_sub hl [2, 1, 0] rfl)
    exact K18 _ 0 0 (by omega) (by rfl) (by decide) (by unfold gMt; rw [eg_1, nN_nI (by omega)]; assumption) (Nat.lt_succ_self _) _ _ _ hh (lv_sub hl [2, 1, 0] rfl)

set_option maxHeartbeats 4000000 in
set_option maxRecDepth 100000 in
theorem c_Lp_change (l : Launch) (D : va_G) (cs : Nat → ClassId) (sh : gm_H) (sz : Nat) (I : gm_I) (J : gm_J) (o : Nat) (ho : is_Lp cs sh o) (k t : Nat) (hk : k < 3) (ht : sh t = some (.inr (.inr (.inl 3)))) (hne : t ≠ o + 5) : CI l y_Lp_change w_Lp_change { frames := 1, cells := 0, slots := 0, locals := 26 } D cs sh sz I J [.ref o, .int (nI k), .ref t] (fun x u => chP I J (o + 6 + 5 * k) t (o + 5) x u) := by
  refine gm_start (by decide) (Nat.le_of_ble_eq_true rfl) ?_
  intro p' e' s' m' be' me' co' ls C hml hlk hret hh hl
  have hl : lv_has ls 3 [(0, .ref o), (1, .int (nI k)), (2, .ref t)] := hl
  refine lv_aload_n C.1 C.2.1 d_Lp_change_0 rfl (lv_at hl 0 rfl) ?_
  refine gg_r C hh ho.1 rfl in_Lp 2 (by decide) rfl tw_157 rfl d_Lp_change_1 ?_
  refine lv_iload_n C.1 C.2.1 d_Lp_change_4 rfl (lv_at hl 1 rfl) ?_
  refine ga_q C hh 4 ho.2.2.1 (Cn := "FallingTerms$Way") rfl (k := k) (v := o + 6 + 5 * k) rfl (by omega) (by omega) (if_pos (by omega)) d_Lp_change_5 ?_
  obtain ⟨p_1, ep_1⟩ : ∃ z : Nat, z = o + 6 + 5 * k := ⟨_, rfl⟩
  have hp_1 : is_Wy sh p_1 := by rw [ep_1]; exact ho.2.2.2.2.2 k (by omega)
  refine gm_eqr ep_1.symm ?_
  refine lv_aload_n C.1 C.2.1 d_Lp_change_6 rfl (lv_at hl 2 rfl) ?_
  refine lv_aload_n C.1 C.2.1 d_Lp_change_7 rfl (lv_at hl 0 rfl) ?_
  refine gg_r C hh ho.1 rfl in_Lp 5 (by decide) rfl tw_166 rfl d_Lp_change_8 ?_
  refine gc_i hh (gc_runV (As := [.ref t, .ref (o + 5)]) (rest := []) (n := 2) C hml hh (c_Wy_leads l D cs sh sz I J p_1 hp_1 t (o + 5) ht ho.2.2.2.2.1 (by omega)) (tg_V tw_525 tw_526 tw_527 tw_62 tw_528) (by decide +kernel) ⟨rfl, rfl, by decide, by decide, Nat.zero_le _, Nat.zero_le _⟩ hp_1.1 rfl rfl hl.1 rfl (Nat.le_of_ble_eq_true rfl) d_Lp_change_11) (fun r_2 I_3 J_4 H locs hr_2 hh => ?_)
  refine lv_if_ne (tgt := 19) C.1 C.2.1 d_Lp_change_14 (by decide) (fun c_5 => ?_) (fun c_5 => ?_)
  · -- 14 -> 19
    skip
    have hj_6 : goB (bh3 I p_1 (get3 J t)) = true ∧ (I_3, J_4) = (I, set3 J (o + 5) (bh3 I p_1 (get3 J t))) := by
      rcases hr_2 with ⟨_, h1, h2⟩ | ⟨e, _⟩
      · exact ⟨h1, h2⟩
      · rw [e] at c_5; exact absurd rfl c_5
    rw [(Prod.mk.inj hj_6.2).1, (Prod.mk.inj hj_6.2).2] at hh
    refine lv_aload_n C.1 C.2.1 d_Lp_change_19 rfl (lv_at hl 0 rfl) ?_
    refine gg_r C hh ho.1 rfl in_Lp 5 (by decide) rfl tw_166 rfl d_Lp_change_20 ?_
    refine lv_aload_n C.1 C.2.1 d_Lp_change_23 rfl (lv_at hl 2 rfl) ?_
    refine gc_v hh (gc_runSN (As := [.ref (o + 5), .ref t]) (rest := []) (n := 2) C hml hh (c_FT_copyState l D cs sh sz I (set3 J (o + 5) (bh3 I p_1 (get3 J t))) (o + 5) t ho.2.2.2.2.1 ht (by omega)) tw_531 tw_532 tw_57 tw_533 (by decide +kernel) ⟨rfl, rfl, by decide, by decide, Nat.zero_le _, Nat.zero_le _⟩ rfl hl.1 rfl (Nat.le_of_ble_eq_true rfl) d_Lp_change_24) (fun I_8 J_9 H locs hr_7 hh => ?_)
    rw [(Prod.mk.inj hr_7).1, (Prod.mk.inj hr_7).2] at hh
    refine lv_iconst (v := nI 1) C.1 C.2.1 d_Lp_change_27 rfl ?_
    exact gr_i C hlk hret (gm_nb (Or.inr rfl)) hh (by rw [← ep_1]; refine ⟨set3 J (o + 5) (bh3 I p_1 (get3 J t)), fun p hp => set3_off _ _ hp, Or.inl ⟨rfl, hj_6.1, ?_⟩⟩; rw [get3_set3]) d_Lp_change_28
  · -- 14 -> 17
    skip
    have hj_10 : ∃ J1, butJ (o + 5) J J1 ∧ goB (bh3 I p_1 (get3 J t)) = false ∧ (I_3, J_4) = (I, J1) := by
      rcases hr_2 with ⟨e, _⟩ | ⟨_, h1, h2, h3⟩
      · rw [e] at c_5; exact absurd c_5 (by decide)
      · exact ⟨_, h3, h1, by rw [show I_3 = I from h2]⟩
    refine lv_iconst (v := nI 0) C.1 C.2.1 d_Lp_change_17 rfl ?_
    exact gr_i C hlk hret (gm_nb (Or.inl rfl)) hh (by rw [← ep_1]; obtain ⟨J1, h1, h2, h3⟩ := hj_10; exact ⟨J1, h1, Or.inr ⟨rfl, h2, h3⟩⟩) d_Lp_change_18
