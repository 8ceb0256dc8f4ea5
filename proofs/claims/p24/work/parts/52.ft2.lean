set_option maxHeartbeats 4000000 in
set_option maxRecDepth 100000 in
theorem c_Sp_reduce (l : Launch) (D : va_G) (cs : Nat → ClassId) (sh : gm_H) (sz : Nat) (I : gm_I) (J : gm_J) (g L f : Nat) (hg : sh g = some (.inr (.inr (.inl L)))) (hf : f + 3 < L) (hL : L < 2 ^ 30) : CV l y_Sp_reduce w_Sp_reduce { frames := 0, cells := 0, slots := 0, locals := 0 } D cs sh sz I J [.ref g, .int (nI f)] (fun u => u.1 = I ∧ ∀ p, p ≠ g → u.2 p = J p) := by
  refine gm_start (by decide) (Nat.le_of_ble_eq_true rfl) ?_
  intro p' e' s' m' be' me' co' ls C hml hlk hret hh hl
  have hl : lv_has ls 10 [(0, .ref g), (1, .int (nI f))] := hl
  have tG_0 : ∀ p, p ≠ g → J p = J p := fun _ _ => rfl
  refine lv_lconst (v := 0) C.1 C.2.1 d_Sp_reduce_0 rfl ?_
  refine lv_topl (fun x_1 ex_1 => ?_)
  refine lv_lstore_n (lv' := [(2, .long x_1), (0, .ref g), (1, .int (nI f))]) C.1 C.2.1 d_Sp_reduce_1 rfl hl (by decide) rfl (fun ls hl => ?_)
  refine lv_iconst (v := nI 0) C.1 C.2.1 d_Sp_reduce_2 rfl ?_
  refine lv_istore (lv' := [(4, .int (nI 0)), (2, .long x_1), (0, .ref g), (1, .int (nI f))]) C.1 C.2.1 d_Sp_reduce_3 hl (by decide) rfl (fun ls hl => ?_)
  have K5 : ∀ (n_5 : Nat) (k : Nat) (c : Int64) (hk : k ≤ 4) (hm_5 : 4 - k < n_5), ∀ (H : Heap) (locs : List Loc) (ls : Array Slot), gm_St D cs sh (gm_A sh) s'.heap sz I J H locs → lv_has ls 10 [(0, .ref g), (1, .int (nI f)), (2, .long c), (4, .int (nI k))] → W p' l e' { frames := 0, cells := 0, slots := 0, locals := 0 } s' m' ([.ref g, .int (nI f)] : List Value).toArray be' me' co' H locs 0 0 (MQ be' (va_Qv (fun u => u.1 = I ∧ ∀ p, p ≠ g → u.2 p = J p) (gm_B D cs sh sz) (gm_A sh)) ([.ref g, .int (nI f)] : List Value).toArray s' 0 0 (gm_A sh)) (F0 m' 5 ls []) := by
    intro n_5
    induction n_5 with
    | zero => intro k c hk hm_5; exact absurd hm_5 (Nat.not_lt_zero _)
    | succ n_5 ih5 =>
      intro k c hk hm_5 H locs ls hh hl
      refine lv_iload C.1 C.2.1 d_Sp_reduce_5 (lv_at hl 3 rfl) ?_
      refine lv_iconst (v := nI 4) C.1 C.2.1 d_Sp_reduce_7 rfl ?_
      refine lv_icmp_ge (tgt := 61) C.1 C.2.1 d_Sp_reduce_8 (by decide) (fun c_2 => ?_) (fun c_2 => ?_)
      · -- 8 -> 61
        have c_2 := gm_get (by omega) (by omega) c_2
        have c_2' := Nat.not_lt.mpr c_2
        refine lv_lload_n C.1 C.2.1 d_Sp_reduce_61 rfl (lv_at hl 2 rfl) ?_
        refine lv_lconst (v := 0) C.1 C.2.1 d_Sp_reduce_62 rfl ?_
        refine W.lcmp C.1 C.2.1 d_Sp_reduce_63 ?_
        refine lv_if_ge (tgt := 72) C.1 C.2.1 d_Sp_reduce_64 (by decide) (fun c_3 => ?_) (fun c_3 => ?_)
        · -- 64 -> 72
          have c_3 := gm_lget c_3
          refine lv_lload_n C.1 C.2.1 d_Sp_reduce_72 rfl (lv_at hl 2 rfl) ?_
          refine lv_lstore (lv' := [(4, .long c), (0, .ref g), (1, .int (nI f)), (2, .long c)]) C.1 C.2.1 d_Sp_reduce_73 hl (by decide) rfl (fun ls hl => ?_)
          refine lv_iconst (v := nI 0) C.1 C.2.1 d_Sp_reduce_75 rfl ?_
          refine lv_istore (lv' := [(6, .int (nI 0)), (4, .long c), (0, .ref g), (1, .int (nI f)), (2, .long c)]) C.1 C.2.1 d_Sp_reduce_76 hl (by decide) rfl (fun ls hl => ?_)
          have K78 : ∀ (n_78 : Nat) (k : Nat) (J78 : gm_J) (hk : k ≤ 4) (tG78 : ∀ p, p ≠ g → J78 p = J p) (hm_78 : 4 - k < n_78), ∀ (H : Heap) (locs : List Loc) (ls : Array Slot), gm_St D cs sh (gm_A sh) s'.heap sz I J78 H locs → lv_has ls 10 [(0, .ref g), (1, .int (nI f)), (4, .long c), (6, .int (nI k))] → W p' l e' { frames := 0, cells := 0, slots := 0, locals := 0 } s' m' ([.ref g, .int (nI f)] : List Value).toArray be' me' co' H locs 0 0 (MQ be' (va_Qv (fun u => u.1 = I ∧ ∀ p, p ≠ g → u.2 p = J p) (gm_B D cs sh sz) (gm_A sh)) ([.ref g, .int (nI f)] : List Value).toArray s' 0 0 (gm_A sh)) (F0 m' 78 ls []) := by
            intro n_78
            induction n_78 with
            | zero => intro k J78 hk tG78 hm_78; exact absurd hm_78 (Nat.not_lt_zero _)
            | succ n_78 ih78 =>
              intro k J78 hk tG78 hm_78 H locs ls hh hl
              refine lv_lload C.1 C.2.1 d_Sp_reduce_78 (lv_at hl 2 rfl) ?_
              refine lv_lconst (v := 1) C.1 C.2.1 d_Sp_reduce_80 rfl ?_
              refine W.lcmp C.1 C.2.1 d_Sp_reduce_81 ?_
              refine lv_if_le (tgt := 108) C.1 C.2.1 d_Sp_reduce_82 (by decide) (fun c_4 => ?_) (fun c_4 => ?_)
              · -- 82 -> 108
                have c_4 := gm_llet c_4
                exact gr_v C hlk hret hh (by exact ⟨rfl, tG78⟩) d_Sp_reduce_108
              · -- 82 -> 85
                have c_4 := gm_llef c_4
                refine lv_iload C.1 C.2.1 d_Sp_reduce_85 (lv_at hl 3 rfl) ?_
                refine lv_iconst (v := nI 4) C.1 C.2.1 d_Sp_reduce_87 rfl ?_
                refine lv_icmp_ge (tgt := 108) C.1 C.2.1 d_Sp_reduce_88 (by decide) (fun c_5 => ?_) (fun c_5 => ?_)
                · -- 88 -> 108
                  have c_5 := gm_get (by omega) (by omega) c_5
                  have c_5' := Nat.not_lt.mpr c_5
                  exact gr_v C hlk hret hh (by exact ⟨rfl, tG78⟩) d_Sp_reduce_108
                · -- 88 -> 91
                  have c_5 := gm_gef (by omega) (by omega) c_5
                  have c_5' := Nat.not_le.mpr c_5
                  refine lv_aload_n C.1 C.2.1 d_Sp_reduce_91 rfl (lv_at hl 0 rfl) ?_
                  refine lv_iload_n C.1 C.2.1 d_Sp_reduce_92 rfl (lv_at hl 1 rfl) ?_
                  refine lv_iload C.1 C.2.1 d_Sp_reduce_93 (lv_at hl 3 rfl) ?_
                  refine lv_iadd C.1 C.2.1 d_Sp_reduce_95 ?_
                  refine gm_eqi (nI_add _ _) ?_
                  refine lv_dup2_11 C.1 C.2.1 d_Sp_reduce_96 rfl rfl ?_
                  refine ga_l C hh hg (k := f + k) rfl (by omega) (by omega) d_Sp_reduce_97 ?_
                  refine lv_lload C.1 C.2.1 d_Sp_reduce_98 (lv_at hl 2 rfl) ?_
                  refine lv_ldiv C.1 C.2.1 d_Sp_reduce_100 (by first | assumption | exact gm_nz1 (by assumption)) ?_
                  refine gs_l C hh hg (k := f + k) rfl (by omega) (by omega) d_Sp_reduce_101 (fun H locs hh => ?_)
                  obtain ⟨J_6, eJ_6⟩ : ∃ z : gm_J, z = gm_up J78 g (f + k) ((J78 g (f + k)) / c) := ⟨_, rfl⟩
                  rw [← eJ_6] at hh
                  have tG_7 : ∀ p, p ≠ g → J_6 p = J p := by rw [eJ_6]; exact fun p hp => (gm_up_off _ _ _ hp).trans (tG78 p hp)
                  refine lv_iinc (v := nI (k + 1)) (lv' := [(6, .int (nI (k + 1))), (0, .ref g), (1, .int (nI f)), (4, .long c)]) C.1 C.2.1 d_Sp_reduce_102 hl (k := 3) rfl (gm_inc k 1) (by decide) rfl (fun ls hl => ?_)
                  refine lv_goto (tgt := 78) C.1 C.2.1 d_Sp_reduce_105 (by decide) ?_
                  exact ih78 (k + 1) J_6 (by omega) (by exact tG_7) (by omega) _ _ _ hh (lv_sub hl [1, 2, 3, 0] rfl)
          exact K78 _ 0 J (by omega) (by exact tG_0) (Nat.lt_succ_self _) _ _ _ hh (lv_sub hl [2, 3, 1, 0] rfl)
        · -- 64 -> 67
          have c_3 := gm_lgef c_3
          refine lv_lload_n C.1 C.2.1 d_Sp_reduce_67 rfl (lv_at hl 2 rfl) ?_
          refine lv_lneg C.1 C.2.1 d_Sp_reduce_68 ?_
          refine lv_goto (tgt := 73) C.1 C.2.1 d_Sp_reduce_69 (by decide) ?_
          refine lv_topl (fun x_8 ex_8 => ?_)
          refine lv_lstore (lv' := [(4, .long x_8), (0, .ref g), (1, .int (nI f)), (2, .long c)]) C.1 C.2.1 d_Sp_reduce_73 hl (by decide) rfl (fun ls hl => ?_)
          refine lv_iconst (v := nI 0) C.1 C.2.1 d_Sp_reduce_75 rfl ?_
          refine lv_istore (lv' := [(6, .int (nI 0)), (4, .long x_8), (0, .ref g), (1, .int (nI f)), (2, .long c)]) C.1 C.2.1 d_Sp_reduce_76 hl (by decide) rfl (fun ls hl => ?_)
          have K78 : ∀ (n_78 : Nat) (k : Nat) (J78 : gm_J) (hk : k ≤ 4) (tG78 : ∀ p, p ≠ g → J78 p = J p) (hm_78 : 4 - k < n_78), ∀ (H : Heap) (locs : List Loc) (ls : Array Slot), gm_St D cs sh (gm_A sh) s'.heap sz I J78 H locs → lv_has ls 10 [(0, .ref g), (1, .int (nI f)), (4, .long x_8), (6, .int (nI k))] → W p' l e' { frames := 0, cells := 0, slots := 0, locals := 0 } s' m' ([.ref g, .int (nI f)] : List Value).toArray be' me' co' H locs 0 0 (MQ be' (va_Qv (fun u => u.1 = I ∧ ∀ p, p ≠ g → u.2 p = J p) (gm_B D cs sh sz) (gm_A sh)) ([.ref g, .int (nI f)] : List Value).toArray s' 0 0 (gm_A sh)) (F0 m' 78 ls []) := by
            intro n_78
            induction n_78 with
            | zero => intro k J78 hk tG78 hm_78; exact absurd hm_78 (Nat.not_lt_zero _)
            | succ n_78 ih78 =>
              intro k J78 hk tG78 hm_78 H locs ls hh hl
              refine lv_lload C.1 C.2.1 d_Sp_reduce_78 (lv_at hl 2 rfl) ?_
              refine lv_lconst (v := 1) C.1 C.2.1 d_Sp_reduce_80 rfl ?_
              refine W.lcmp C.1 C.2.1 d_Sp_reduce_81 ?_
              refine lv_if_le (tgt := 108) C.1 C.2.1 d_Sp_reduce_82 (by decide) (fun c_9 => ?_) (fun c_9 => ?_)
              · -- 82 -> 108
                have c_9 := gm_llet c_9
                exact gr_v C hlk hret hh (by exact ⟨rfl, tG78⟩) d_Sp_reduce_108
              · -- 82 -> 85
                have c_9 := gm_llef c_9
                refine lv_iload C.1 C.2.1 d_Sp_reduce_85 (lv_at hl 3 rfl) ?_
                refine lv_iconst (v := nI 4) C.1 C.2.1 d_Sp_reduce_87 rfl ?_
                refine lv_icmp_ge (tgt := 108) C.1 C.2.1 d_Sp_reduce_88 (by decide) (fun c_10 => ?_) (fun c_10 => ?_)
                · -- 88 -> 108
                  have c_10 := gm_get (by omega) (by omega) c_10
                  have c_10' := Nat.not_lt.mpr c_10
                  exact gr_v C hlk hret hh (by exact ⟨rfl, tG78⟩) d_Sp_reduce_108
                · -- 88 -> 91
                  have c_10 := gm_gef (by omega) (by omega) c_10
                  have c_10' := Nat.not_le.mpr c_10
                  refine lv_aload_n C.1 C.2.1 d_Sp_reduce_91 rfl (lv_at hl 0 rfl) ?_
                  refine lv_iload_n C.1 C.2.1 d_Sp_reduce_92 rfl (lv_at hl 1 rfl) ?_
                  refine lv_iload C.1 C.2.1 d_Sp_reduce_93 (lv_at hl 3 rfl) ?_
                  refine lv_iadd C.1 C.2.1 d_Sp_reduce_95 ?_
                  refine gm_eqi (nI_add _ _) ?_
                  refine lv_dup2_11 C.1 C.2.1 d_Sp_reduce_96 rfl rfl ?_
                  refine ga_l C hh hg (k := f + k) rfl (by omega) (by omega) d_Sp_reduce_97 ?_
                  refine lv_lload C.1 C.2.1 d_Sp_reduce_98 (lv_at hl 2 rfl) ?_
                  refine lv_ldiv C.1 C.2.1 d_Sp_reduce_100 (by first | assumption | exact gm_nz1 (by assumption)) ?_
                  refine gs_l C hh hg (k := f + k) rfl (by omega) (by omega) d_Sp_reduce_101 (fun H locs hh => ?_)
                  obtain ⟨J_11, eJ_11⟩ : ∃ z : gm_J, z = gm_up J78 g (f + k) ((J78 g (f + k)) / x_8) := ⟨_, rfl⟩
                  rw [← eJ_11] at hh
                  have tG_12 : ∀ p, p ≠ g → J_11 p = J p := by rw [eJ_11]; exact fun p hp => (gm_up_off _ _ _ hp).trans (tG78 p hp)
                  refine lv_iinc (v := nI (k + 1)) (lv' := [(6, .int (nI (k + 1))), (0, .ref g), (1, .int (nI f)), (4, .long x_8)]) C.1 C.2.1 d_Sp_reduce_102 hl (k := 3) rfl (gm_inc k 1) (by decide) rfl (fun ls hl => ?_)
                  refine lv_goto (tgt := 78) C.1 C.2.1 d_Sp_reduce_105 (by decide) ?_
                  exact ih78 (k + 1) J_11 (by omega) (by exact tG_12) (by omega) _ _ _ hh (lv_sub hl [1, 2, 3, 0] rfl)
          exact K78 _ 0 J (by omega) (by exact tG_0) (Nat.lt_succ_self _) _ _ _ hh (lv_sub hl [2, 3, 1, 0] rfl)
      · -- 8 -> 11
        have c_2 := gm_gef (by omega) (by omega) c_2
        have c_2' := Nat.not_le.mpr c_2
        refine lv_aload_n C.1 C.2.1 d_Sp_reduce_11 rfl (lv_at hl 0 rfl) ?_
        refine lv_iload_n C.1 C.2.1 d_Sp_reduce_12 rfl (lv_at hl 1 rfl) ?_
        refine lv_iload C.1 C.2.1 d_Sp_reduce_13 (lv_at hl 3 rfl) ?_
        refine lv_iadd C.1 C.2.1 d_Sp_reduce_15 ?_
        refine gm_eqi (nI_add _ _) ?_
        refine ga_l C hh hg (k := f + k) rfl (by omega) (by omega) d_Sp_reduce_16 ?_
        refine lv_topl (fun x_13 ex_13 => ?_)
        refine lv_lstore (lv' := [(5, .long x_13), (0, .ref g), (1, .int (nI f)), (2, .long c), (4, .int (nI k))]) C.1 C.2.1 d_Sp_reduce_17 hl (by decide) rfl (fun ls hl => ?_)
        refine lv_iconst (v := nI 0) C.1 C.2.1 d_Sp_reduce_19 rfl ?_
        refine lv_istore (lv' := [(7, .int (nI 0)), (5, .long x_13), (0, .ref g), (1, .int (nI f)), (2, .long c), (4, .int (nI k))]) C.1 C.2.1 d_Sp_reduce_20 hl (by decide) rfl (fun ls hl => ?_)
        have K22 : ∀ (n_22 : Nat) (i : Nat) (d : Int64) (o : Int64) (hi : i ≤ 100) (hm_22 : 100 - i < n_22), ∀ (H : Heap) (locs : List Loc) (ls : Array Slot), gm_St D cs sh (gm_A sh) s'.heap sz I J H locs → lv_has ls 10 [(0, .ref g), (1, .int (nI f)), (2, .long d), (4, .int (nI k)), (5, .long o), (7, .int (nI i))] → W p' l e' { frames := 0, cells := 0, slots := 0, locals := 0 } s' m' ([.ref g, .int (nI f)] : List Value).toArray be' me' co' H locs 0 0 (MQ be' (va_Qv (fun u => u.1 = I ∧ ∀ p, p ≠ g → u.2 p = J p) (gm_B D cs sh sz) (gm_A sh)) ([.ref g, .int (nI f)] : List Value).toArray s' 0 0 (gm_A sh)) (F0 m' 22 ls []) := by
          intro n_22
          induction n_22 with
          | zero => intro i d o hi hm_22; exact absurd hm_22 (Nat.not_lt_zero _)
          | succ n_22 ih22 =>
            intro i d o hi hm_22 H locs ls hh hl
            refine lv_iload C.1 C.2.1 d_Sp_reduce_22 (lv_at hl 5 rfl) ?_
            refine lv_bipush (v := nI 100) C.1 C.2.1 d_Sp_reduce_24 rfl ?_
            refine lv_icmp_ge (tgt := 55) C.1 C.2.1 d_Sp_reduce_26 (by decide) (fun c_14 => ?_) (fun c_14 => ?_)
            · -- 26 -> 55
              have c_14 := gm_get (by omega) (by omega) c_14
              have c_14' := Nat.not_lt.mpr c_14
              refine lv_iinc (v := nI (k + 1)) (lv' := [(4, .int (nI (k + 1))), (0, .ref g), (1, .int (nI f)), (2, .long d), (5, .long o), (7, .int (nI i))]) C.1 C.2.1 d_Sp_reduce_55 hl (k := 3) rfl (gm_inc k 1) (by decide) rfl (fun ls hl => ?_)
              refine lv_goto (tgt := 5) C.1 C.2.1 d_Sp_reduce_58 (by decide) ?_
              exact ih5 (k + 1) d (by omega) (by omega) _ _ _ hh (lv_sub hl [1, 2, 3, 0] rfl)
            · -- 26 -> 29
              have c_14 := gm_gef (by omega) (by omega) c_14
              have c_14' := Nat.not_le.mpr c_14
              refine lv_lload C.1 C.2.1 d_Sp_reduce_29 (lv_at hl 4 rfl) ?_
              refine lv_lconst (v := 0) C.1 C.2.1 d_Sp_reduce_31 rfl ?_
              refine W.lcmp C.1 C.2.1 d_Sp_reduce_32 ?_
              refine lv_if_eq (tgt := 55) C.1 C.2.1 d_Sp_reduce_33 (by decide) (fun c_15 => ?_) (fun c_15 => ?_)
              · -- 33 -> 55
                have c_15 := gm_leqt c_15
                refine lv_iinc (v := nI (k + 1)) (lv' := [(4, .int (nI (k + 1))), (0, .ref g), (1, .int (nI f)), (2, .long d), (5, .long o), (7, .int (nI i))]) C.1 C.2.1 d_Sp_reduce_55 hl (k := 3) rfl (gm_inc k 1) (by decide) rfl (fun ls hl => ?_)
                refine lv_goto (tgt := 5) C.1 C.2.1 d_Sp_reduce_58 (by decide) ?_
                exact ih5 (k + 1) d (by omega) (by omega) _ _ _ hh (lv_sub hl [1, 2, 3, 0] rfl)
              · -- 33 -> 36
                have c_15 := gm_leqf c_15
                refine lv_lload_n C.1 C.2.1 d_Sp_reduce_36 rfl (lv_at hl 2 rfl) ?_
                refine lv_lload C.1 C.2.1 d_Sp_reduce_37 (lv_at hl 4 rfl) ?_
                refine lv_lrem C.1 C.2.1 d_Sp_reduce_39 (by first | assumption | exact gm_nz1 (by assumption)) ?_
                refine lv_topl (fun x_16 ex_16 => ?_)
                refine lv_lstore (lv' := [(8, .long x_16), (0, .ref g), (1, .int (nI f)), (2, .long d), (4, .int (nI k)), (5, .long o), (7, .int (nI i))]) C.1 C.2.1 d_Sp_reduce_40 hl (by decide) rfl (fun ls hl => ?_)
                refine lv_lload C.1 C.2.1 d_Sp_reduce_42 (lv_at hl 5 rfl) ?_
                refine lv_lstore_n (lv' := [(2, .long o), (8, .long x_16), (0, .ref g), (1, .int (nI f)), (4, .int (nI k)), (5, .long o), (7, .int (nI i))]) C.1 C.2.1 d_Sp_reduce_44 rfl hl (by decide) rfl (fun ls hl => ?_)
                refine lv_lload C.1 C.2.1 d_Sp_reduce_45 (lv_at hl 1 rfl) ?_
                refine lv_lstore (lv' := [(5, .long x_16), (2, .long o), (8, .long x_16), (0, .ref g), (1, .int (nI f)), (4, .int (nI k)), (7, .int (nI i))]) C.1 C.2.1 d_Sp_reduce_47 hl (by decide) rfl (fun ls hl => ?_)
                refine lv_iinc (v := nI (i + 1)) (lv' := [(7, .int (nI (i + 1))), (5, .long x_16), (2, .long o), (8, .long x_16), (0, .ref g), (1, .int (nI f)), (4, .int (nI k))]) C.1 C.2.1 d_Sp_reduce_49 hl (k := 6) rfl (gm_inc i 1) (by decide) rfl (fun ls hl => ?_)
                refine lv_goto (tgt := 22) C.1 C.2.1 d_Sp_reduce_52 (by decide) ?_
                exact ih22 (i + 1) o x_16 (by omega) (by omega) _ _ _ hh (lv_sub hl [4, 5, 2, 6, 1, 0] rfl)
        exact K22 _ 0 c x_13 (by omega) (Nat.lt_succ_self _) _ _ _ hh (lv_sub hl [2, 3, 4, 5, 1, 0] rfl)
  exact K5 _ 0 x_1 (by omega) (Nat.lt_succ_self _) _ _ _ hh (lv_sub hl [2, 3, 1, 0] rfl)

set_option maxHeartbeats 4000000 in
set_option maxRecDepth 100000 in
theorem c_Sp_shift (l : Launch) (D : va_G) (cs : Nat → ClassId) (sh : gm_H) (sz : Nat) (I : gm_I) (J : gm_J) (q : Nat) (hs : is_Sp sh q) (g L f : Nat) (hg : sh g = some (.inr (.inr (.inl L)))) (hf : f + 3 < L) (hL : L < 2 ^ 30) (ux uw : Int64) : CV l y_Sp_shift w_Sp_shift { frames := 1, cells := 0, slots := 0, locals := 29 } D cs sh sz I J [.ref q, .ref g, .int (nI f), .long ux, .long uw] (fun u => u.1 = I ∧ ∀ p, p ≠ g → u.2 p = J p) := by
  refine gm_start (by decide) (Nat.le_of_ble_eq_true rfl) ?_
  intro p' e' s' m' be' me' co' ls C hml hlk hret hh hl
  have hl : lv_has ls 8 [(0, .ref q), (1, .ref g), (2, .int (nI f)), (3, .long ux), (5, .long uw)] := hl
  have tG_0 : ∀ p, p ≠ g → J p = J p := fun _ _ => rfl
  refine lv_iconst (v := nI 0) C.1 C.2.1 d_Sp_shift_0 rfl ?_
  refine lv_istore (lv' := [(7, .int (nI 0)), (0, .ref q), (1, .ref g), (2, .int (nI f)), (3, .long ux), (5, .long uw)]) C.1 C.2.1 d_Sp_shift_1 hl (by decide) rfl (fun ls hl => ?_)
  refine lv_iload C.1 C.2.1 d_Sp_shift_3 (lv_at hl 0 rfl) ?_
  refine lv_iconst (v := nI 4) C.1 C.2.1 d_Sp_shift_5 rfl ?_
  refine lv_icmp_ge (tgt := 40) C.1 C.2.1 d_Sp_shift_6 (by decide) (fun c_ => absurd c_ (by decide)) (fun c_ => ?_)
  refine lv_aload_n C.1 C.2.1 d_Sp_shift_9 rfl (lv_at hl 2 rfl) ?_
  refine lv_iload_n C.1 C.2.1 d_Sp_shift_10 rfl (lv_at hl 3 rfl) ?_
  refine lv_iload C.1 C.2.1 d_Sp_shift_11 (lv_at hl 0 rfl) ?_
  refine lv_iadd C.1 C.2.1 d_Sp_shift_13 ?_
  refine gm_eqi (nI_add _ _) ?_
  refine lv_lload_n C.1 C.2.1 d_Sp_shift_14 rfl (lv_at hl 4 rfl) ?_
  refine lv_aload_n C.1 C.2.1 d_Sp_shift_15 rfl (lv_at hl 2 rfl) ?_
  refine lv_iload_n C.1 C.2.1 d_Sp_shift_16 rfl (lv_at hl 3 rfl) ?_
  refine lv_iload C.1 C.2.1 d_Sp_shift_17 (lv_at hl 0 rfl) ?_
  refine lv_iadd C.1 C.2.1 d_Sp_shift_19 ?_
  refine gm_eqi (nI_add _ _) ?_
  refine ga_l C hh hg (k := f + 0) rfl (by omega) (by omega) d_Sp_shift_20 ?_
  refine lv_lmul C.1 C.2.1 d_Sp_shift_21 ?_
  refine lv_lload C.1 C.2.1 d_Sp_shift_22 (lv_at hl 5 rfl) ?_
  refine lv_aload_n C.1 C.2.1 d_Sp_shift_24 rfl (lv_at hl 1 rfl) ?_
  refine gg_r C hh hs.1 rfl in_Sp 6 (by decide) rfl tw_191 rfl d_Sp_shift_25 ?_
  refine lv_iload C.1 C.2.1 d_Sp_shift_28 (lv_at hl 0 rfl) ?_
  refine ga_l C hh hs.2.2.2.2.2 (k := 0) rfl (by omega) (by omega) d_Sp_shift_30 ?_
  refine lv_lmul C.1 C.2.1 d_Sp_shift_31 ?_
  refine lv_lsub C.1 C.2.1 d_Sp_shift_32 ?_
  refine gs_l C hh hg (k := f + 0) rfl (by omega) (by omega) d_Sp_shift_33 (fun H locs hh => ?_)
  obtain ⟨J_1, eJ_1⟩ : ∃ z : gm_J, z = gm_up J g (f + 0) ((ux * (J g (f + 0))) - (uw * (J (q + 5) 0))) := ⟨_, rfl⟩
  rw [← eJ_1] at hh
  have tG_2 : ∀ p, p ≠ g → J_1 p = J p := by rw [eJ_1]; exact fun p hp => (gm_up_off _ _ _ hp).trans (tG_0 p hp)
  refine lv_iinc (v := nI 1) (lv' := [(7, .int (nI 1)), (0, .ref q), (1, .ref g), (2, .int (nI f)), (3, .long ux), (5, .long uw)]) C.1 C.2.1 d_Sp_shift_34 hl (k := 0) rfl (gm_inc 0 1) (by decide) rfl (fun ls hl => ?_)
  refine lv_goto (tgt := 3) C.1 C.2.1 d_Sp_shift_37 (by decide) ?_
  refine lv_iload C.1 C.2.1 d_Sp_shift_3 (lv_at hl 0 rfl) ?_
  refine lv_iconst (v := nI 4) C.1 C.2.1 d_Sp_shift_5 rfl ?_
  refine lv_icmp_ge (tgt := 40) C.1 C.2.1 d_Sp_shift_6 (by decide) (fun c_ => absurd c_ (by decide)) (fun c_ => ?_)
  refine lv_aload_n C.1 C.2.1 d_Sp_shift_9 rfl (lv_at hl 2 rfl) ?_
  refine lv_iload_n C.1 C.2.1 d_Sp_shift_10 rfl (lv_at hl 3 rfl) ?_
  refine lv_iload C.1 C.2.1 d_Sp_shift_11 (lv_at hl 0 rfl) ?_
  refine lv_iadd C.1 C.2.1 d_Sp_shift_13 ?_
  refine gm_eqi (nI_add _ _) ?_
  refine lv_lload_n C.1 C.2.1 d_Sp_shift_14 rfl (lv_at hl 4 rfl) ?_
  refine lv_aload_n C.1 C.2.1 d_Sp_shift_15 rfl (lv_at hl 2 rfl) ?_
  refine lv_iload_n C.1 C.2.1 d_Sp_shift_16 rfl (lv_at hl 3 rfl) ?_
  refine lv_iload C.1 C.2.1 d_Sp_shift_17 (lv_at hl 0 rfl) ?_
  refine lv_iadd C.1 C.2.1 d_Sp_shift_19 ?_
  refine gm_eqi (nI_add _ _) ?_
  refine ga_l C hh hg (k := f + 1) rfl (by omega) (by omega) d_Sp_shift_20 ?_
  refine lv_lmul C.1 C.2.1 d_Sp_shift_21 ?_
  refine lv_lload C.1 C.2.1 d_Sp_shift_22 (lv_at hl 5 rfl) ?_
  refine lv_aload_n C.1 C.2.1 d_Sp_shift_24 rfl (lv_at hl 1 rfl) ?_
  refine gg_r C hh hs.1 rfl in_Sp 6 (by decide) rfl tw_191 rfl d_Sp_shift_25 ?_
  refine lv_iload C.1 C.2.1 d_Sp_shift_28 (lv_at hl 0 rfl) ?_
  refine ga_l C hh hs.2.2.2.2.2 (k := 1) rfl (by omega) (by omega) d_Sp_shift_30 ?_
  refine lv_lmul C.1 C.2.1 d_Sp_shift_31 ?_
  refine lv_lsub C.1 C.2.1 d_Sp_shift_32 ?_
  refine gs_l C hh hg (k := f + 1) rfl (by omega) (by omega) d_Sp_shift_33 (fun H locs hh => ?_)
  obtain ⟨J_3, eJ_3⟩ : ∃ z : gm_J, z = gm_up J_1 g (f + 1) ((ux * (J_1 g (f + 1))) - (uw * (J_1 (q + 5) 1))) := ⟨_, rfl⟩
  rw [← eJ_3] at hh
  have tG_4 : ∀ p, p ≠ g → J_3 p = J p := by rw [eJ_3]; exact fun p hp => (gm_up_off _ _ _ hp).trans (tG_2 p hp)
  refine lv_iinc (v := nI 2) (lv' := [(7, .int (nI 2)), (0, .ref q), (1, .ref g), (2, .int (nI f)), (3, .long ux), (5, .long uw)]) C.1 C.2.1 d_Sp_shift_34 hl (k := 0) rfl (gm_inc 1 1) (by decide) rfl (fun ls hl => ?_)
  refine lv_goto (tgt := 3) C.1 C.2.1 d_Sp_shift_37 (by decide) ?_
  refine lv_iload C.1 C.2.1 d_Sp_shift_3 (lv_at hl 0 rfl) ?_
  refine lv_iconst (v := nI 4) C.1 C.2.1 d_Sp_shift_5 rfl ?_
  refine lv_icmp_ge (tgt := 40) C.1 C.2.1 d_Sp_shift_6 (by decide) (fun c_ => absurd c_ (by decide)) (fun c_ => ?_)
  refine lv_aload_n C.1 C.2.1 d_Sp_shift_9 rfl (lv_at hl 2 rfl) ?_
  refine lv_iload_n C.1 C.2.1 d_Sp_shift_10 rfl (lv_at hl 3 rfl) ?_
  refine lv_iload C.1 C.2.1 d_Sp_shift_11 (lv_at hl 0 rfl) ?_
  refine lv_iadd C.1 C.2.1 d_Sp_shift_13 ?_
  refine gm_eqi (nI_add _ _) ?_
  refine lv_lload_n C.1 C.2.1 d_Sp_shift_14 rfl (lv_at hl 4 rfl) ?_
  refine lv_aload_n C.1 C.2.1 d_Sp_shift_15 rfl (lv_at hl 2 rfl) ?_
  refine lv_iload_n C.1 C.2.1 d_Sp_shift_16 rfl (lv_at hl 3 rfl) ?_
  refine lv_iload C.1 C.2.1 d_Sp_shift_17 (lv_at hl 0 rfl) ?_
  refine lv_iadd C.1 C.2.1 d_Sp_shift_19 ?_
  refine gm_eqi (nI_add _ _) ?_
  refine ga_l C hh hg (k := f + 2) rfl (by omega) (by omega) d_Sp_shift_20 ?_
  refine lv_lmul C.1 C.2.1 d_Sp_shift_21 ?_
  refine lv_lload C.1 C.2.1 d_Sp_shift_22 (lv_at hl 5 rfl) ?_
  refine lv_aload_n C.1 C.2.1 d_Sp_shift_24 rfl (lv_at hl 1 rfl) ?_
  refine gg_r C hh hs.1 rfl in_Sp 6 (by decide) rfl tw_191 rfl d_Sp_shift_25 ?_
  refine lv_iload C.1 C.2.1 d_Sp_shift_28 (lv_at hl 0 rfl) ?_
  refine ga_l C hh hs.2.2.2.2.2 (k := 2) rfl (by omega) (by omega) d_Sp_shift_30 ?_
  refine lv_lmul C.1 C.2.1 d_Sp_shift_31 ?_
  refine lv_lsub C.1 C.2.1 d_Sp_shift_32 ?_
  refine gs_l C hh hg (k := f + 2) rfl (by omega) (by omega) d_Sp_shift_33 (fun H locs hh => ?_)
  obtain ⟨J_5, eJ_5⟩ : ∃ z : gm_J, z = gm_up J_3 g (f + 2) ((ux * (J_3 g (f + 2))) - (uw * (J_3 (q + 5) 2))) := ⟨_, rfl⟩
  rw [← eJ_5] at hh
  have tG_6 : ∀ p, p ≠ g → J_5 p = J p := by rw [eJ_5]; exact fun p hp => (gm_up_off _ _ _ hp).trans (tG_4 p hp)
  refine lv_iinc (v := nI 3) (lv' := [(7, .int (nI 3)), (0, .ref q), (1, .ref g), (2, .int (nI f)), (3, .long ux), (5, .long uw)]) C.1 C.2.1 d_Sp_shift_34 hl (k := 0) rfl (gm_inc 2 1) (by decide) rfl (fun ls hl => ?_)
  refine lv_goto (tgt := 3) C.1 C.2.1 d_Sp_shift_37 (by decide) ?_
  refine lv_iload C.1 C.2.1 d_Sp_shift_3 (lv_at hl 0 rfl) ?_
  refine lv_iconst (v := nI 4) C.1 C.2.1 d_Sp_shift_5 rfl ?_
  refine lv_icmp_ge (tgt := 40) C.1 C.2.1 d_Sp_shift_6 (by decide) (fun c_ => absurd c_ (by decide)) (fun c_ => ?_)
  refine lv_aload_n C.1 C.2.1 d_Sp_shift_9 rfl (lv_at hl 2 rfl) ?_
  refine lv_iload_n C.1 C.2.1 d_Sp_shift_10 rfl (lv_at hl 3 rfl) ?_
  refine lv_iload C.1 C.2.1 d_Sp_shift_11 (lv_at hl 0 rfl) ?_
  refine lv_iadd C.1 C.2.1 d_Sp_shift_13 ?_
  refine gm_eqi (nI_add _ _) ?_
  refine lv_lload_n C.1 C.2.1 d_Sp_shift_14 rfl (lv_at hl 4 rfl) ?_
  refine lv_aload_n C.1 C.2.1 d_Sp_shift_15 rfl (lv_at hl 2 rfl) ?_
  refine lv_iload_n C.1 C.2.1 d_Sp_shift_16 rfl (lv_at hl 3 rfl) ?_
  refine lv_iload C.1 C.2.1 d_Sp_shift_17 (lv_at hl 0 rfl) ?_
  refine lv_iadd C.1 C.2.1 d_Sp_shift_19 ?_
  refine gm_eqi (nI_add _ _) ?_
  refine ga_l C hh hg (k := f + 3) rfl (by omega) (by omega) d_Sp_shift_20 ?_
  refine lv_lmul C.1 C.2.1 d_Sp_shift_21 ?_
  refine lv_lload C.1 C.2.1 d_Sp_shift_22 (lv_at hl 5 rfl) ?_
  refine lv_aload_n C.1 C.2.1 d_Sp_shift_24 rfl (lv_at hl 1 rfl) ?_
  refine gg_r C hh hs.1 rfl in_Sp 6 (by decide) rfl tw_191 rfl d_Sp_shift_25 ?_
  refine lv_iload C.1 C.2.1 d_Sp_shift_28 (lv_at hl 0 rfl) ?_
  refine ga_l C hh hs.2.2.2.2.2 (k := 3) rfl (by omega) (by omega) d_Sp_shift_30 ?_
  refine lv_lmul C.1 C.2.1 d_Sp_shift_31 ?_
  refine lv_lsub C.1 C.2.1 d_Sp_shift_32 ?_
  refine gs_l C hh hg (k := f + 3) rfl (by omega) (by omega) d_Sp_shift_33 (fun H locs hh => ?_)
  obtain ⟨J_7, eJ_7⟩ : ∃ z : gm_J, z = gm_up J_5 g (f + 3) ((ux * (J_5 g (f + 3))) - (uw * (J_5 (q + 5) 3))) := ⟨_, rfl⟩
  rw [← eJ_7] at hh
  have tG_8 : ∀ p, p ≠ g → J_7 p = J p := by rw [eJ_7]; exact fun p hp => (gm_up_off _ _ _ hp).trans (tG_6 p hp)
  refine lv_iinc (v := nI 4) (lv' := [(7, .int (nI 4)), (0, .ref q), (1, .ref g), (2, .int (nI f)), (3, .long ux), (5, .long uw)]) C.1 C.2.1 d_Sp_shift_34 hl (k := 0) rfl (gm_inc 3 1) (by decide) rfl (fun ls hl => ?_)
  refine lv_goto (tgt := 3) C.1 C.2.1 d_Sp_shift_37 (by decide) ?_
  refine lv_iload C.1 C.2.1 d_Sp_shift_3 (lv_at hl 0 rfl) ?_
  refine lv_iconst (v := nI 4) C.1 C.2.1 d_Sp_shift_5 rfl ?_
  refine lv_icmp_ge (tgt := 40) C.1 C.2.1 d_Sp_shift_6 (by decide) (fun c_ => ?_) (fun c_ => absurd (by decide) c_)
  refine lv_aload_n C.1 C.2.1 d_Sp_shift_40 rfl (lv_at hl 2 rfl) ?_
  refine lv_iload_n C.1 C.2.1 d_Sp_shift_41 rfl (lv_at hl 3 rfl) ?_
  refine gc_v hh (gc_runS (As := [.ref g, .int (nI f)]) (rest := []) (n := 2) C hml hh (c_Sp_reduce l D cs sh sz I J_7 g L f hg (by omega) (by omega)) (tg_S tw_359 tw_360 tw_63 tw_361) (by decide +kernel) ⟨rfl, rfl, by decide, by decide, Nat.zero_le _, Nat.zero_le _⟩ rfl hl.1 rfl (Nat.le_of_ble_eq_true rfl) d_Sp_shift_42) (fun I_10 J_11 H locs hr_9 hh => ?_)
  rw [show I_10 = I from hr_9.1] at hh
  have hr_9 : ∀ p, p ≠ g → J_11 p = J_7 p := hr_9.2
  have tG_12 : ∀ p, p ≠ g → J_11 p = J p := fun p hp => (hr_9 p hp).trans (tG_8 p hp)
  exact gr_v C hlk hret hh (by exact ⟨rfl, tG_12⟩) d_Sp_shift_45

set_option maxHeartbeats 4000000 in
set_option maxRecDepth 100000 in
theorem c_Sp_appendBetween (l : Launch) (D : va_G) (cs : Nat → ClassId) (sh : gm_H) (sz : Nat) (I : gm_I) (J : gm_J) (q : Nat) (hs : is_Sp sh q) (hS : inv_Sp I q) (i j : Nat) (hi : i < 32) (hj : j < 32) : CV l y_Sp_appendBetween w_Sp_appendBetween { frames := 1, cells := 0, slots := 0, locals := 29 } D cs sh sz I J [.ref q, .int (nI i), .int (nI j)] (fun u => sfP q I J u) := by
  refine gm_start (by decide) (Nat.le_of_ble_eq_true rfl) ?_
  intro p' e' s' m' be' me' co' ls C hml hlk hret hh hl
  have hl : lv_has ls 4 [(0, .ref q), (1, .int (nI i)), (2, .int (nI j))] := hl
  have tO_0 : offR q (q + 5) I I J J := offR.nil
  have tS_0 : inv_Sp I q := hS
  refine lv_iconst (v := nI 0) C.1 C.2.1 d_Sp_appendBetween_0 rfl ?_
  refine lv_istore_n (lv' := [(3, .int (nI 0)), (0, .ref q), (1, .int (nI i)), (2, .int (nI j))]) C.1 C.2.1 d_Sp_appendBetween_1 rfl hl (by decide) rfl (fun ls hl => ?_)
  refine lv_iload_n C.1 C.2.1 d_Sp_appendBetween_2 rfl (lv_at hl 0 rfl) ?_
  refine lv_iconst (v := nI 4) C.1 C.2.1 d_Sp_appendBetween_3 rfl ?_
  refine lv_icmp_ge (tgt := 54) C.1 C.2.1 d_Sp_appendBetween_4 (by decide) (fun c_ => absurd c_ (by decide)) (fun c_ => ?_)
  refine lv_aload_n C.1 C.2.1 d_Sp_appendBetween_7 rfl (lv_at hl 1 rfl) ?_
  refine gg_r C hh hs.1 rfl in_Sp 6 (by decide) rfl tw_191 rfl d_Sp_appendBetween_8 ?_
  refine lv_iload_n C.1 C.2.1 d_Sp_appendBetween_11 rfl (lv_at hl 0 rfl) ?_
  refine lv_aload_n C.1 C.2.1 d_Sp_appendBetween_12 rfl (lv_at hl 1 rfl) ?_
  refine gg_r C hh hs.1 rfl in_Sp 5 (by decide) rfl tw_190 rfl d_Sp_appendBetween_13 ?_
  refine lv_iload_n C.1 C.2.1 d_Sp_appendBetween_16 rfl (lv_at hl 2 rfl) ?_
  refine ga_l C hh hs.2.2.2.2.1 (k := i) rfl (by omega) (by omega) d_Sp_appendBetween_17 ?_
  refine lv_aload_n C.1 C.2.1 d_Sp_appendBetween_18 rfl (lv_at hl 1 rfl) ?_
  refine gg_r C hh hs.1 rfl in_Sp 2 (by decide) rfl tw_187 rfl d_Sp_appendBetween_19 ?_
  refine lv_iconst (v := nI 4) C.1 C.2.1 d_Sp_appendBetween_22 rfl ?_
  refine lv_iload_n C.1 C.2.1 d_Sp_appendBetween_23 rfl (lv_at hl 3 rfl) ?_
  refine lv_imul C.1 C.2.1 d_Sp_appendBetween_24 ?_
  refine gm_eqi (pk_mul _ _) ?_
  refine lv_iload_n C.1 C.2.1 d_Sp_appendBetween_25 rfl (lv_at hl 0 rfl) ?_
  refine lv_iadd C.1 C.2.1 d_Sp_appendBetween_26 ?_
  refine gm_eqi (nI_add _ _) ?_
  refine ga_l C hh hs.2.2.1 (k := (4 * j) + 0) rfl (by omega) (by omega) d_Sp_appendBetween_27 ?_
  refine lv_lmul C.1 C.2.1 d_Sp_appendBetween_28 ?_
  refine lv_aload_n C.1 C.2.1 d_Sp_appendBetween_29 rfl (lv_at hl 1 rfl) ?_
  refine gg_r C hh hs.1 rfl in_Sp 5 (by decide) rfl tw_190 rfl d_Sp_appendBetween_30 ?_
  refine lv_iload_n C.1 C.2.1 d_Sp_appendBetween_33 rfl (lv_at hl 3 rfl) ?_
  refine ga_l C hh hs.2.2.2.2.1 (k := j) rfl (by omega) (by omega) d_Sp_appendBetween_34 ?_
  refine lv_aload_n C.1 C.2.1 d_Sp_appendBetween_35 rfl (lv_at hl 1 rfl) ?_
  refine gg_r C hh hs.1 rfl in_Sp 2 (by decide) rfl tw_187 rfl d_Sp_appendBetween_36 ?_
  refine lv_iconst (v := nI 4) C.1 C.2.1 d_Sp_appendBetween_39 rfl ?_
  refine lv_iload_n C.1 C.2.1 d_Sp_appendBetween_40 rfl (lv_at hl 2 rfl) ?_
  refine lv_imul C.1 C.2.1 d_Sp_appendBetween_41 ?_
  refine gm_eqi (pk_mul _ _) ?_
  refine lv_iload_n C.1 C.2.1 d_Sp_appendBetween_42 rfl (lv_at hl 0 rfl) ?_
  refine lv_iadd C.1 C.2.1 d_Sp_appendBetween_43 ?_
  refine gm_eqi (nI_add _ _) ?_
  refine ga_l C hh hs.2.2.1 (k := (4 * i) + 0) rfl (by omega) (by omega) d_Sp_appendBetween_44 ?_
  refine lv_lmul C.1 C.2.1 d_Sp_appendBetween_45 ?_
  refine lv_lsub C.1 C.2.1 d_Sp_appendBetween_46 ?_
  refine gs_l C hh hs.2.2.2.2.2 (k := 0) rfl (by omega) (by omega) d_Sp_appendBetween_47 (fun H locs hh => ?_)
  obtain ⟨J_1, eJ_1⟩ : ∃ z : gm_J, z = gm_up J (q + 5) 0 (((J (q + 4) i) * (J (q + 2) ((4 * j) + 0))) - ((J (q + 4) j) * (J (q + 2) ((4 * i) + 0)))) := ⟨_, rfl⟩
  rw [← eJ_1] at hh
  have tO_2 : offR q (q + 5) I I J J_1 := by rw [eJ_1]; exact offR.upJ tO_0 (by omega)
  refine lv_iinc (v := nI 1) (lv' := [(3, .int (nI 1)), (0, .ref q), (1, .int (nI i)), (2, .int (nI j))]) C.1 C.2.1 d_Sp_appendBetween_48 hl (k := 0) rfl (gm_inc 0 1) (by decide) rfl (fun ls hl => ?_)
  refine lv_goto (tgt := 2) C.1 C.2.1 d_Sp_appendBetween_51 (by decide) ?_
  refine lv_iload_n C.1 C.2.1 d_Sp_appendBetween_2 rfl (lv_at hl 0 rfl) ?_
  refine lv_iconst (v := nI 4) C.1 C.2.1 d_Sp_appendBetween_3 rfl ?_
  refine lv_icmp_ge (tgt := 54) C.1 C.2.1 d_Sp_appendBetween_4 (by decide) (fun c_ => absurd c_ (by decide)) (fun c_ => ?_)
  refine lv_aload_n C.1 C.2.1 d_Sp_appendBetween_7 rfl (lv_at hl 1 rfl) ?_
  refine gg_r C hh hs.1 rfl in_Sp 6 (by decide) rfl tw_191 rfl d_Sp_appendBetween_8 ?_
  refine lv_iload_n C.1 C.2.1 d_Sp_appendBetween_11 rfl (lv_at hl 0 rfl) ?_
  refine lv_aload_n C.1 C.2.1 d_Sp_appendBetween_12 rfl (lv_at hl 1 rfl) ?_
  refine gg_r C hh hs.1 rfl in_Sp 5 (by decide) rfl tw_190 rfl d_Sp_appendBetween_13 ?_
  refine lv_iload_n C.1 C.2.1 d_Sp_appendBetween_16 rfl (lv_at hl 2 rfl) ?_
  refine ga_l C hh hs.2.2.2.2.1 (k := i) rfl (by omega) (by omega) d_Sp_appendBetween_17 ?_
  refine gm_eql (y := J (q + 4) i) (by rw [eJ_1, gm_up_ne _ _ (Or.inl (by omega))]) ?_
  refine lv_aload_n C.1 C.2.1 d_Sp_appendBetween_18 rfl (lv_at hl 1 rfl) ?_
  refine gg_r C hh hs.1 rfl in_Sp 2 (by decide) rfl tw_187 rfl d_Sp_appendBetween_19 ?_
  refine lv_iconst (v := nI 4) C.1 C.2.1 d_Sp_appendBetween_22 rfl ?_
  refine lv_iload_n C.1 C.2.1 d_Sp_appendBetween_23 rfl (lv_at hl 3 rfl) ?_
  refine lv_imul C.1 C.2.1 d_Sp_appendBetween_24 ?_
  refine gm_eqi (pk_mul _ _) ?_
  refine lv_iload_n C.1 C.2.1 d_Sp_appendBetween_25 rfl (lv_at hl 0 rfl) ?_
  refine lv_iadd C.1 C.2.1 d_Sp_appendBetween_26 ?_
  refine gm_eqi (nI_add _ _) ?_
  refine ga_l C hh hs.2.2.1 (k := (4 * j) + 1) rfl (by omega) (by omega) d_Sp_appendBetween_27 ?_
  refine gm_eql (y := J (q + 2) ((4 * j) + 1)) (by rw [eJ_1, gm_up_ne _ _ (Or.inl (by omega))]) ?_
  refine lv_lmul C.1 C.2.1 d_Sp_appendBetween_28 ?_
  refine lv_aload_n C.1 C.2.1 d_Sp_appendBetween_29 rfl (lv_at hl 1 rfl) ?_
  refine gg_r C hh hs.1 rfl in_Sp 5 (by decide) rfl tw_190 rfl d_Sp_appendBetween_30 ?_
  refine lv_iload_n C.1 C.2.1 d_Sp_appendBetween_33 rfl (lv_at hl 3 rfl) ?_
  refine ga_l C hh hs.2.2.2.2.1 (k := j) rfl (by omega) (by omega) d_Sp_appendBetween_34 ?_
  refine gm_eql (y := J (q + 4) j) (by rw [eJ_1, gm_up_ne _ _ (Or.inl (by omega))]) ?_
  refine lv_aload_n C.1 C.2.1 d_Sp_appendBetween_35 rfl (lv_at hl 1 rfl) ?_
  refine gg_r C hh hs.1 rfl in_Sp 2 (by decide) rfl tw_187 rfl d_Sp_appendBetween_36 ?_
  refine lv_iconst (v := nI 4) C.1 C.2.1 d_Sp_appendBetween_39 rfl ?_
  refine lv_iload_n C.1 C.2.1 d_Sp_appendBetween_40 rfl (lv_at hl 2 rfl) ?_
  refine lv_imul C.1 C.2.1 d_Sp_appendBetween_41 ?_
  refine gm_eqi (pk_mul _ _) ?_
  refine lv_iload_n C.1 C.2.1 d_Sp_appendBetween_42 rfl (lv_at hl 0 rfl) ?_
  refine lv_iadd C.1 C.2.1 d_Sp_appendBetween_43 ?_
  refine gm_eqi (nI_add _ _) ?_
  refine ga_l C hh hs.2.2.1 (k := (4 * i) + 1) rfl (by omega) (by omega) d_Sp_appendBetween_44 ?_
  refine gm_eql (y := J (q + 2) ((4 * i) + 1)) (by rw [eJ_1, gm_up_ne _ _ (Or.inl (by omega))]) ?_
  refine lv_lmul C.1 C.2.1 d_Sp_appendBetween_45 ?_
  refine lv_lsub C.1 C.2.1 d_Sp_appendBetween_46 ?_
  refine gs_l C hh hs.2.2.2.2.2 (k := 1) rfl (by omega) (by omega) d_Sp_appendBetween_47 (fun H locs hh => ?_)
  obtain ⟨J_3, eJ_3⟩ : ∃ z : gm_J, z = gm_up J_1 (q + 5) 1 (((J (q + 4) i) * (J (q + 2) ((4 * j) + 1))) - ((J (q + 4) j) * (J (q + 2) ((4 * i) + 1)))) := ⟨_, rfl⟩
  rw [← eJ_3] at hh
  have tO_4 : offR q (q + 5) I I J J_3 := by rw [eJ_3]; exact offR.upJ tO_2 (by omega)
  refine lv_iinc (v := nI 2) (lv' := [(3, .int (nI 2)), (0, .ref q), (1, .int (nI i)), (2, .int (nI j))]) C.1 C.2.1 d_Sp_appendBetween_48 hl (k := 0) rfl (gm_inc 1 1) (by decide) rfl (fun ls hl => ?_)
  refine lv_goto (tgt := 2) C.1 C.2.1 d_Sp_appendBetween_51 (by decide) ?_
  refine lv_iload_n C.1 C.2.1 d_Sp_appendBetween_2 rfl (lv_at hl 0 rfl) ?_
  refine lv_iconst (v := nI 4) C.1 C.2.1 d_Sp_appendBetween_3 rfl ?_
  refine lv_icmp_ge (tgt := 54) C.1 C.2.1 d_Sp_appendBetween_4 (by decide) (fun c_ => absurd c_ (by decide)) (fun c_ => ?_)
  refine lv_aload_n C.1 C.2.1 d_Sp_appendBetween_7 rfl (lv_at hl 1 rfl) ?_
  refine gg_r C hh hs.1 rfl in_Sp 6 (by decide) rfl tw_191 rfl d_Sp_appendBetween_8 ?_
  refine lv_iload_n C.1 C.2.1 d_Sp_appendBetween_11 rfl (lv_at hl 0 rfl) ?_
  refine lv_aload_n C.1 C.2.1 d_Sp_appendBetween_12 rfl (lv_at hl 1 rfl) ?_
  refine gg_r C hh hs.1 rfl in_Sp 5 (by decide) rfl tw_190 rfl d_Sp_appendBetween_13 ?_
  refine lv_iload_n C.1 C.2.1 d_Sp_appendBetween_16 rfl (lv_at hl 2 rfl) ?_
  refine ga_l C hh hs.2.2.2.2.1 (k := i) rfl (by omega) (by omega) d_Sp_appendBetween_17 ?_
  refine gm_eql (y := J (q + 4) i) (by rw [eJ_3, gm_up_ne _ _ (Or.inl (by omega)), eJ_1, gm_up_ne _ _ (Or.inl (by omega))]) ?_
  refine lv_aload_n C.1 C.2.1 d_Sp_appendBetween_18 rfl (lv_at hl 1 rfl) ?_
  refine gg_r C hh hs.1 rfl in_Sp 2 (by decide) rfl tw_187 rfl d_Sp_appendBetween_19 ?_
  refine lv_iconst (v := nI 4) C.1 C.2.1 d_Sp_appendBetween_22 rfl ?_
  refine lv_iload_n C.1 C.2.1 d_Sp_appendBetween_23 rfl (lv_at hl 3 rfl) ?_
  refine lv_imul C.1 C.2.1 d_Sp_appendBetween_24 ?_
  refine gm_eqi (pk_mul _ _) ?_
  refine lv_iload_n C.1 C.2.1 d_Sp_appendBetween_25 rfl (lv_at hl 0 rfl) ?_
  refine lv_iadd C.1 C.2.1 d_Sp_appendBetween_26 ?_
  refine gm_eqi (nI_add _ _) ?_
  refine ga_l C hh hs.2.2.1 (k := (4 * j) + 2) rfl (by omega) (by omega) d_Sp_appendBetween_27 ?_
  refine gm_eql (y := J (q + 2) ((4 * j) + 2)) (by rw [eJ_3, gm_up_ne _ _ (Or.inl (by omega)), eJ_1, gm_up_ne _ _ (Or.inl (by omega))]) ?_
  refine lv_lmul C.1 C.2.1 d_Sp_appendBetween_28 ?_
  refine lv_aload_n C.1 C.2.1 d_Sp_appendBetween_29 rfl (lv_at hl 1 rfl) ?_
  refine gg_r C hh hs.1 rfl in_Sp 5 (by decide) rfl tw_190 rfl d_Sp_appendBetween_30 ?_
  refine lv_iload_n C.1 C.2.1 d_Sp_appendBetween_33 rfl (lv_at hl 3 rfl) ?_
  refine ga_l C hh hs.2.2.2.2.1 (k := j) rfl (by omega) (by omega) d_Sp_appendBetween_34 ?_
  refine gm_eql (y := J (q + 4) j) (by rw [eJ_3, gm_up_ne _ _ (Or.inl (by omega)), eJ_1, gm_up_ne _ _ (Or.inl (by omega))]) ?_
  refine lv_aload_n C.1 C.2.1 d_Sp_appendBetween_35 rfl (lv_at hl 1 rfl) ?_
  refine gg_r C hh hs.1 rfl in_Sp 2 (by decide) rfl tw_187 rfl d_Sp_appendBetween_36 ?_
  refine lv_iconst (v := nI 4) C.1 C.2.1 d_Sp_appendBetween_39 rfl ?_
  refine lv_iload_n C.1 C.2.1 d_Sp_appendBetween_40 rfl (lv_at hl 2 rfl) ?_
  refine lv_imul C.1 C.2.1 d_Sp_appendBetween_41 ?_
  refine gm_eqi (pk_mul _ _) ?_
  refine lv_iload_n C.1 C.2.1 d_Sp_appendBetween_42 rfl (lv_at hl 0 rfl) ?_
  refine lv_iadd C.1 C.2.1 d_Sp_appendBetween_43 ?_
  refine gm_eqi (nI_add _ _) ?_
  refine ga_l C hh hs.2.2.1 (k := (4 * i) + 2) rfl (by omega) (by omega) d_Sp_appendBetween_44 ?_
  refine gm_eql (y := J (q + 2) ((4 * i) + 2)) (by rw [eJ_3, gm_up_ne _ _ (Or.inl (by omega)), eJ_1, gm_up_ne _ _ (Or.inl (by omega))]) ?_
  refine lv_lmul C.1 C.2.1 d_Sp_appendBetween_45 ?_
  refine lv_lsub C.1 C.2.1 d_Sp_appendBetween_46 ?_
  refine gs_l C hh hs.2.2.2.2.2 (k := 2) rfl (by omega) (by omega) d_Sp_appendBetween_47 (fun H locs hh => ?_)
  obtain ⟨J_5, eJ_5⟩ : ∃ z : gm_J, z = gm_up J_3 (q + 5) 2 (((J (q + 4) i) * (J (q + 2) ((4 * j) + 2))) - ((J (q + 4) j) * (J (q + 2) ((4 * i) + 2)))) := ⟨_, rfl⟩
  rw [← eJ_5] at hh
  have tO_6 : offR q (q + 5) I I J J_5 := by rw [eJ_5]; exact offR.upJ tO_4 (by omega)
  refine lv_iinc (v := nI 3) (lv' := [(3, .int (nI 3)), (0, .ref q), (1, .int (nI i)), (2, .int (nI j))]) C.1 C.2.1 d_Sp_appendBetween_48 hl (k := 0) rfl (gm_inc 2 1) (by decide) rfl (fun ls hl => ?_)
  refine lv_goto (tgt := 2) C.1 C.2.1 d_Sp_appendBetween_51 (by decide) ?_
  refine lv_iload_n C.1 C.2.1 d_Sp_appendBetween_2 rfl (lv_at hl 0 rfl) ?_
  refine lv_iconst (v := nI 4) C.1 C.2.1 d_Sp_appendBetween_3 rfl ?_
  refine lv_icmp_ge (tgt := 54) C.1 C.2.1 d_Sp_appendBetween_4 (by decide) (fun c_ => absurd c_ (by decide)) (fun c_ => ?_)
  refine lv_aload_n C.1 C.2.1 d_Sp_appendBetween_7 rfl (lv_at hl 1 rfl) ?_
  refine gg_r C hh hs.1 rfl in_Sp 6 (by decide) rfl tw_191 rfl d_Sp_appendBetween_8 ?_
  refine lv_iload_n C.1 C.2.1 d_Sp_appendBetween_11 rfl (lv_at hl 0 rfl) ?_
  refine lv_aload_n C.1 C.2.1 d_Sp_appendBetween_12 rfl (lv_at hl 1 rfl) ?_
  refine gg_r C hh hs.1 rfl in_Sp 5 (by decide) rfl tw_190 rfl d_Sp_appendBetween_13 ?_
  refine lv_iload_n C.1 C.2.1 d_Sp_appendBetween_16 rfl (lv_at hl 2 rfl) ?_
  refine ga_l C hh hs.2.2.2.2.1 (k := i) rfl (by omega) (by omega) d_Sp_appendBetween_17 ?_
  refine gm_eql (y := J (q + 4) i) (by rw [eJ_5, gm_up_ne _ _ (Or.inl (by omega)), eJ_3, gm_up_ne _ _ (Or.inl (by omega)), eJ_1, gm_up_ne _ _ (Or.inl (by omega))]) ?_
  refine lv_aload_n C.1 C.2.1 d_Sp_appendBetween_18 rfl (lv_at hl 1 rfl) ?_
  refine gg_r C hh hs.1 rfl in_Sp 2 (by decide) rfl tw_187 rfl d_Sp_appendBetween_19 ?_
  refine lv_iconst (v := nI 4) C.1 C.2.1 d_Sp_appendBetween_22 rfl ?_
  refine lv_iload_n C.1 C.2.1 d_Sp_appendBetween_23 rfl (lv_at hl 3 rfl) ?_
  refine lv_imul C.1 C.2.1 d_Sp_appendBetween_24 ?_
  refine gm_eqi (pk_mul _ _) ?_
  refine lv_iload_n C.1 C.2.1 d_Sp_appendBetween_25 rfl (lv_at hl 0 rfl) ?_
  refine lv_iadd C.1 C.2.1 d_Sp_appendBetween_26 ?_
  refine gm_eqi (nI_add _ _) ?_
  refine ga_l C hh hs.2.2.1 (k := (4 * j) + 3) rfl (by omega) (by omega) d_Sp_appendBetween_27 ?_
  refine gm_eql (y := J (q + 2) ((4 * j) + 3)) (by rw [eJ_5, gm_up_ne _ _ (Or.inl (by omega)), eJ_3, gm_up_ne _ _ (Or.inl (by omega)), eJ_1, gm_up_ne _ _ (Or.inl (by omega))]) ?_
  refine lv_lmul C.1 C.2.1 d_Sp_appendBetween_28 ?_
  refine lv_aload_n C.1 C.2.1 d_Sp_appendBetween_29 rfl (lv_at hl 1 rfl) ?_
  refine gg_r C hh hs.1 rfl in_Sp 5 (by decide) rfl tw_190 rfl d_Sp_appendBetween_30 ?_
  refine lv_iload_n C.1 C.2.1 d_Sp_appendBetween_33 rfl (lv_at hl 3 rfl) ?_
  refine ga_l C hh hs.2.2.2.2.1 (k := j) rfl (by omega) (by omega) d_Sp_appendBetween_34 ?_
  refine gm_eql (y := J (q + 4) j) (by rw [eJ_5, gm_up_ne _ _ (Or.inl (by omega)), eJ_3, gm_up_ne _ _ (Or.inl (by omega)), eJ_1, gm_up_ne _ _ (Or.inl (by omega))]) ?_
  refine lv_aload_n C.1 C.2.1 d_Sp_appendBetween_35 rfl (lv_at hl 1 rfl) ?_
  refine gg_r C hh hs.1 rfl in_Sp 2 (by decide) rfl tw_187 rfl d_Sp_appendBetween_36 ?_
  refine lv_iconst (v := nI 4) C.1 C.2.1 d_Sp_appendBetween_39 rfl ?_
  refine lv_iload_n C.1 C.2.1 d_Sp_appendBetween_40 rfl (lv_at hl 2 rfl) ?_
  refine lv_imul C.1 C.2.1 d_Sp_appendBetween_41 ?_
  refine gm_eqi (pk_mul _ _) ?_
  refine lv_iload_n C.1 C.2.1 d_Sp_appendBetween_42 rfl (lv_at hl 0 rfl) ?_
  refine lv_iadd C.1 C.2.1 d_Sp_appendBetween_43 ?_
  refine gm_eqi (nI_add _ _) ?_
  refine ga_l C hh hs.2.2.1 (k := (4 * i) + 3) rfl (by omega) (by omega) d_Sp_appendBetween_44 ?_
  refine gm_eql (y := J (q + 2) ((4 * i) + 3)) (by rw [eJ_5, gm_up_ne _ _ (Or.inl (by omega)), eJ_3, gm_up_ne _ _ (Or.inl (by omega)), eJ_1, gm_up_ne _ _ (Or.inl (by omega))]) ?_
  refine lv_lmul C.1 C.2.1 d_Sp_appendBetween_45 ?_
  refine lv_lsub C.1 C.2.1 d_Sp_appendBetween_46 ?_
  refine gs_l C hh hs.2.2.2.2.2 (k := 3) rfl (by omega) (by omega) d_Sp_appendBetween_47 (fun H locs hh => ?_)
  obtain ⟨J_7, eJ_7⟩ : ∃ z : gm_J, z = gm_up J_5 (q + 5) 3 (((J (q + 4) i) * (J (q + 2) ((4 * j) + 3))) - ((J (q + 4) j) * (J (q + 2) ((4 * i) + 3)))) := ⟨_, rfl⟩
  rw [← eJ_7] at hh
  have tO_8 : offR q (q + 5) I I J J_7 := by rw [eJ_7]; exact offR.upJ tO_6 (by omega)
  refine lv_iinc (v := nI 4) (lv' := [(3, .int (nI 4)), (0, .ref q), (1, .int (nI i)), (2, .int (nI j))]) C.1 C.2.1 d_Sp_appendBetween_48 hl (k := 0) rfl (gm_inc 3 1) (by decide) rfl (fun ls hl => ?_)
  refine lv_goto (tgt := 2) C.1 C.2.1 d_Sp_appendBetween_51 (by decide) ?_
  refine lv_iload_n C.1 C.2.1 d_Sp_appendBetween_2 rfl (lv_at hl 0 rfl) ?_
  refine lv_iconst (v := nI 4) C.1 C.2.1 d_Sp_appendBetween_3 rfl ?_
  refine lv_icmp_ge (tgt := 54) C.1 C.2.1 d_Sp_appendBetween_4 (by decide) (fun c_ => ?_) (fun c_ => absurd (by decide) c_)
  refine lv_aload_n C.1 C.2.1 d_Sp_appendBetween_54 rfl (lv_at hl 1 rfl) ?_
  refine gg_r C hh hs.1 rfl in_Sp 6 (by decide) rfl tw_191 rfl d_Sp_appendBetween_55 ?_
  refine lv_iconst (v := nI 0) C.1 C.2.1 d_Sp_appendBetween_58 rfl ?_
  refine gc_v hh (gc_runS (As := [.ref (q + 5), .int (nI 0)]) (rest := []) (n := 2) C hml hh (c_Sp_reduce l D cs sh sz I J_7 (q + 5) 4 0 hs.2.2.2.2.2 (by omega) (by omega)) (tg_S tw_359 tw_360 tw_63 tw_361) (by decide +kernel) ⟨rfl, rfl, by decide, by decide, Nat.zero_le _, Nat.zero_le _⟩ rfl hl.1 rfl (Nat.le_of_ble_eq_true rfl) d_Sp_appendBetween_59) (fun I_10 J_11 H locs hr_9 hh => ?_)
  rw [show I_10 = I from hr_9.1] at hh
  have hr_9 : ∀ p, p ≠ q + 5 → J_11 p = J_7 p := hr_9.2
  have tO_12 : offR q (q + 5) I I J J_11 := offR.one tO_8 hr_9 (by omega)
  refine lv_aload_n C.1 C.2.1 d_Sp_appendBetween_62 rfl (lv_at hl 1 rfl) ?_
  refine lv_aload_n C.1 C.2.1 d_Sp_appendBetween_63 rfl (lv_at hl 1 rfl) ?_
  refine gg_r C hh hs.1 rfl in_Sp 4 (by decide) rfl tw_189 rfl d_Sp_appendBetween_64 ?_
  refine lv_iload_n C.1 C.2.1 d_Sp_appendBetween_67 rfl (lv_at hl 2 rfl) ?_
  refine ga_i C hh hs.2.2.2.1 (k := i) rfl (by omega) (by omega) d_Sp_appendBetween_68 ?_
  refine lv_aload_n C.1 C.2.1 d_Sp_appendBetween_69 rfl (lv_at hl 1 rfl) ?_
  refine gg_r C hh hs.1 rfl in_Sp 4 (by decide) rfl tw_189 rfl d_Sp_appendBetween_70 ?_
  refine lv_iload_n C.1 C.2.1 d_Sp_appendBetween_73 rfl (lv_at hl 3 rfl) ?_
  refine ga_i C hh hs.2.2.2.1 (k := j) rfl (by omega) (by omega) d_Sp_appendBetween_74 ?_
  refine lv_iand C.1 C.2.1 d_Sp_appendBetween_75 ?_
  refine lv_aload_n C.1 C.2.1 d_Sp_appendBetween_76 rfl (lv_at hl 1 rfl) ?_
  refine gg_i C hh hs.1 rfl in_Sp 7 (by decide) rfl tw_192 rfl d_Sp_appendBetween_77 ?_
  refine lv_ior C.1 C.2.1 d_Sp_appendBetween_80 ?_
  obtain ⟨g_13, hg_13, eg_13⟩ := tS_0.2
  refine gc_v hh (gc_runV (As := [.int (((I (q + 3) i) &&& (I (q + 3) j)) ||| (I q 7))]) (rest := []) (n := 1) C hml hh (c_Sp_appendPivot l D cs sh sz I J_11 q hs g_13 eg_13 (hg_13) (((I (q + 3) i) &&& (I (q + 3) j)) ||| (I q 7))) (tg_V tw_334 tw_336 tw_6 tw_63 tw_337) (by decide +kernel) ⟨rfl, rfl, by decide, by decide, Nat.zero_le _, Nat.zero_le _⟩ hs.1 rfl rfl hl.1 rfl (Nat.le_of_ble_eq_true rfl) d_Sp_appendBetween_81) (fun I_15 J_16 H locs hr_14 hh => ?_)
  have hr_14 := ap_safe tS_0 hr_14
  have tO_17 : offR q (q + 5) I I_15 J J_16 := offR.tr tO_12 hr_14.1
  have tS_18 : inv_Sp I_15 q := hr_14.2
  exact gr_v C hlk hret hh (by exact ⟨tO_17, tS_18⟩) d_Sp_appendBetween_84

set_option maxHeartbeats 4000000 in
set_option maxRecDepth 100000 in
theorem c_Sp_dropIfNoPoint (l : Launch) (D : va_G) (cs : Nat → ClassId) (sh : gm_H) (sz : Nat) (I : gm_I) (J : gm_J) (q : Nat) (hs : is_Sp sh q) (hS : inv_Sp I q)  : CV l y_Sp_dropIfNoPoint w_Sp_dropIfNoPoint { frames := 0, cells := 0, slots := 0, locals := 0 } D cs sh sz I J [.ref q] (fun u => sfP q I J u) := by
  refine gm_start (by decide) (Nat.le_of_ble_eq_true rfl) ?_
  intro p' e' s' m' be' me' co' ls C hml hlk hret hh hl
  have hl : lv_has ls 2 [(0, .ref q)] := hl
  have tO_0 : offR q (q + 5) I I J J := offR.nil
  have tS_0 : inv_Sp I q := hS
  refine lv_iconst (v := nI 0) C.1 C.2.1 d_Sp_dropIfNoPoint_0 rfl ?_
  refine lv_istore_n (lv' := [(1, .int (nI 0)), (0, .ref q)]) C.1 C.2.1 d_Sp_dropIfNoPoint_1 rfl hl (by decide) rfl (fun ls hl => ?_)
  have K2 : ∀ (n_2 : Nat) (k : Nat) (hk : k ≤ 32) (hm_2 : 33 - k < n_2), ∀ (H : Heap) (locs : List Loc) (ls : Array Slot), gm_St D cs sh (gm_A sh) s'.heap sz I J H locs → lv_has ls 2 [(0, .ref q), (1, .int (nI k))] → W p' l e' { frames := 0, cells := 0, slots := 0, locals := 0 } s' m' ([.ref q] : List Value).toArray be' me' co' H locs 0 0 (MQ be' (va_Qv (fun u => sfP q I J u) (gm_B D cs sh sz) (gm_A sh)) ([.ref q] : List Value).toArray s' 0 0 (gm_A sh)) (F0 m' 2 ls []) := by
    intro n_2
    induction n_2 with
    | zero => intro k hk hm_2; exact absurd hm_2 (Nat.not_lt_zero _)
    | succ n_2 ih2 =>
      intro k hk hm_2 H locs ls hh hl
      refine lv_iload_n C.1 C.2.1 d_Sp_dropIfNoPoint_2 rfl (lv_at hl 1 rfl) ?_
      refine lv_aload_n C.1 C.2.1 d_Sp_dropIfNoPoint_3 rfl (lv_at hl 0 rfl) ?_
      refine gg_i C hh hs.1 rfl in_Sp 3 (by decide) rfl tw_188 rfl d_Sp_dropIfNoPoint_4 ?_
      obtain ⟨g_1, hg_1, eg_1⟩ := tS_0.2
      refine gm_eqi eg_1 ?_
      refine lv_icmp_ge (tgt := 32) C.1 C.2.1 d_Sp_dropIfNoPoint_7 (by decide) (fun c_2 => ?_) (fun c_2 => ?_)
      · -- 7 -> 32
        have c_2 := gm_get (by omega) (by omega) c_2
        have c_2' := Nat.not_lt.mpr c_2
        refine lv_aload_n C.1 C.2.1 d_Sp_dropIfNoPoint_32 rfl (lv_at hl 0 rfl) ?_
        refine lv_iconst (v := nI 0) C.1 C.2.1 d_Sp_dropIfNoPoint_33 rfl ?_
        refine gp_i (ty := .int) C hh hs.1 rfl in_Sp t_Sp t_Sp_ok n_Sp 3 (by decide) rfl tw_188 rfl rfl (by decide +kernel) rfl rfl d_Sp_dropIfNoPoint_34 (fun H locs hh => ?_)
        obtain ⟨I_3, eI_3⟩ : ∃ z : gm_I, z = gm_up I q 3 (nI 0) := ⟨_, rfl⟩
        rw [← eI_3] at hh
        have tO_4 : offR q (q + 5) I I_3 J J := by rw [eI_3]; exact offR.upI tO_0 (by omega)
        have tS_5 : inv_Sp I_3 q := by rw [eI_3]; exact ⟨tS_0.1.up (by omega), nle.set (by omega)⟩
        refine lv_aload_n C.1 C.2.1 d_Sp_dropIfNoPoint_37 rfl (lv_at hl 0 rfl) ?_
        refine lv_iconst (v := nI 0) C.1 C.2.1 d_Sp_dropIfNoPoint_38 rfl ?_
        refine gp_i (ty := .int) C hh hs.1 rfl in_Sp t_Sp t_Sp_ok n_Sp 1 (by decide) rfl tw_186 rfl rfl (by decide +kernel) rfl rfl d_Sp_dropIfNoPoint_39 (fun H locs hh => ?_)
        obtain ⟨I_6, eI_6⟩ : ∃ z : gm_I, z = gm_up I_3 q 1 (nI 0) := ⟨_, rfl⟩
        rw [← eI_6] at hh
        have tO_7 : offR q (q + 5) I I_6 J J := by rw [eI_6]; exact offR.upI tO_4 (by omega)
        have tS_8 : inv_Sp I_6 q := by rw [eI_6]; exact ⟨nle.set (by omega), tS_5.2.up (by omega)⟩
        exact gr_v C hlk hret hh (by exact ⟨tO_7, tS_8⟩) d_Sp_dropIfNoPoint_42
      · -- 7 -> 10
        have c_2 := gm_gef (by omega) (by omega) c_2
        have c_2' := Nat.not_le.mpr c_2
        refine lv_aload_n C.1 C.2.1 d_Sp_dropIfNoPoint_10 rfl (lv_at hl 0 rfl) ?_
        refine gg_r C hh hs.1 rfl in_Sp 2 (by decide) rfl tw_187 rfl d_Sp_dropIfNoPoint_11 ?_
        refine lv_iconst (v := nI 4) C.1 C.2.1 d_Sp_dropIfNoPoint_14 rfl ?_
        refine lv_iload_n C.1 C.2.1 d_Sp_dropIfNoPoint_15 rfl (lv_at hl 1 rfl) ?_
        refine lv_imul C.1 C.2.1 d_Sp_dropIfNoPoint_16 ?_
        refine gm_eqi (pk_mul _ _) ?_
        refine lv_iconst (v := nI 3) C.1 C.2.1 d_Sp_dropIfNoPoint_17 rfl ?_
        refine lv_iadd C.1 C.2.1 d_Sp_dropIfNoPoint_18 ?_
        refine gm_eqi (nI_add _ _) ?_
        refine ga_l C hh hs.2.2.1 (k := (4 * k) + 3) rfl (by omega) (by omega) d_Sp_dropIfNoPoint_19 ?_
        refine lv_lconst (v := 0) C.1 C.2.1 d_Sp_dropIfNoPoint_20 rfl ?_
        refine W.lcmp C.1 C.2.1 d_Sp_dropIfNoPoint_21 ?_
        refine lv_if_le (tgt := 26) C.1 C.2.1 d_Sp_dropIfNoPoint_22 (by decide) (fun c_9 => ?_) (fun c_9 => ?_)
        · -- 22 -> 26
          have c_9 := gm_llet c_9
          refine lv_iinc (v := nI (k + 1)) (lv' := [(1, .int (nI (k + 1))), (0, .ref q)]) C.1 C.2.1 d_Sp_dropIfNoPoint_26 hl (k := 1) rfl (gm_inc k 1) (by decide) rfl (fun ls hl => ?_)
          refine lv_goto (tgt := 2) C.1 C.2.1 d_Sp_dropIfNoPoint_29 (by decide) ?_
          exact ih2 (k + 1) (by omega) (by omega) _ _ _ hh (lv_sub hl [1, 0] rfl)
        · -- 22 -> 25
          have c_9 := gm_llef c_9
          exact gr_v C hlk hret hh (by exact ⟨tO_0, tS_0⟩) d_Sp_dropIfNoPoint_25
  exact K2 _ 0 (by omega) (Nat.lt_succ_self _) _ _ _ hh (lv_sub hl [1, 0] rfl)

set_option maxHeartbeats 4000000 in
set_option maxRecDepth 100000 in
theorem c_Sp_dropBeyond (l : Launch) (D : va_G) (cs : Nat → ClassId) (sh : gm_H) (sz : Nat) (I : gm_I) (J : gm_J) (q : Nat) (hs : is_Sp sh q) (hS : inv_Sp I q) (n : Nat) (hn : n ≤ 32) : CV l y_Sp_dropBeyond w_Sp_dropBeyond { frames := 0, cells := 0, slots := 0, locals := 0 } D cs sh sz I J [.ref q, .int (nI n)] (fun u => sfP q I J u) := by
  refine gm_start (by decide) (Nat.le_of_ble_eq_true rfl) ?_
  intro p' e' s' m' be' me' co' ls C hml hlk hret hh hl
  have hl : lv_has ls 5 [(0, .ref q), (1, .int (nI n))] := hl
  have tO_0 : offR q (q + 5) I I J J := offR.nil
  have tS_0 : inv_Sp I q := hS
  refine lv_iconst (v := nI 0) C.1 C.2.1 d_Sp_dropBeyond_0 rfl ?_
  refine lv_istore_n (lv' := [(2, .int (nI 0)), (0, .ref q), (1, .int (nI n))]) C.1 C.2.1 d_Sp_dropBeyond_1 rfl hl (by decide) rfl (fun ls hl => ?_)
  refine lv_iconst (v := nI 0) C.1 C.2.1 d_Sp_dropBeyond_2 rfl ?_
  refine lv_istore_n (lv' := [(3, .int (nI 0)), (2, .int (nI 0)), (0, .ref q), (1, .int (nI n))]) C.1 C.2.1 d_Sp_dropBeyond_3 rfl hl (by decide) rfl (fun ls hl => ?_)
  have K4 : ∀ (n_4 : Nat) (kp : Nat) (i : Nat) (I4 : gm_I) (J4 : gm_J) (hk : kp ≤ i) (hi : i ≤ 32) (tO4 : offR q (q + 5) I I4 J J4) (tS4 : inv_Sp I4 q) (hm_4 : 33 - i < n_4), ∀ (H : Heap) (locs : List Loc) (ls : Array Slot), gm_St D cs sh (gm_A sh) s'.heap sz I4 J4 H locs → lv_has ls 5 [(0, .ref q), (1, .int (nI n)), (2, .int (nI kp)), (3, .int (nI i))] → W p' l e' { frames := 0, cells := 0, slots := 0, locals := 0 } s' m' ([.ref q, .int (nI n)] : List Value).toArray be' me' co' H locs 0 0 (MQ be' (va_Qv (fun u => sfP q I J u) (gm_B D cs sh sz) (gm_A sh)) ([.ref q, .int (nI n)] : List Value).toArray s' 0 0 (gm_A sh)) (F0 m' 4 ls []) := by
    intro n_4
    induction n_4 with
    | zero => intro kp i I4 J4 hk hi tO4 tS4 hm_4; exact absurd hm_4 (Nat.not_lt_zero _)
    | succ n_4 ih4 =>
      intro kp i I4 J4 hk hi tO4 tS4 hm_4 H locs ls hh hl
      refine lv_iload_n C.1 C.2.1 d_Sp_dropBeyond_4 rfl (lv_at hl 3 rfl) ?_
      refine lv_aload_n C.1 C.2.1 d_Sp_dropBeyond_5 rfl (lv_at hl 0 rfl) ?_
      refine gg_i C hh hs.1 rfl in_Sp 3 (by decide) rfl tw_188 rfl d_Sp_dropBeyond_6 ?_
      obtain ⟨g_1, hg_1, eg_1⟩ := tS4.2
      refine gm_eqi eg_1 ?_
      refine lv_icmp_ge (tgt := 119) C.1 C.2.1 d_Sp_dropBeyond_9 (by decide) (fun c_2 => ?_) (fun c_2 => ?_)
      · -- 9 -> 119
        have c_2 := gm_get (by omega) (by omega) c_2
        have c_2' := Nat.not_lt.mpr c_2
        refine lv_aload_n C.1 C.2.1 d_Sp_dropBeyond_119 rfl (lv_at hl 0 rfl) ?_
        refine lv_iload_n C.1 C.2.1 d_Sp_dropBeyond_120 rfl (lv_at hl 2 rfl) ?_
        refine gp_i (ty := .int) C hh hs.1 rfl in_Sp t_Sp t_Sp_ok n_Sp 3 (by decide) rfl tw_188 rfl rfl (by decide +kernel) rfl rfl d_Sp_dropBeyond_121 (fun H locs hh => ?_)
        obtain ⟨I_3, eI_3⟩ : ∃ z : gm_I, z = gm_up I4 q 3 (nI kp) := ⟨_, rfl⟩
        rw [← eI_3] at hh
        have tO_4 : offR q (q + 5) I I_3 J J4 := by rw [eI_3]; exact offR.upI tO4 (by omega)
        have tS_5 : inv_Sp I_3 q := by rw [eI_3]; exact ⟨tS4.1.up (by omega), nle.set (by omega)⟩
        exact gr_v C hlk hret hh (by exact ⟨tO_4, tS_5⟩) d_Sp_dropBeyond_124
      · -- 9 -> 12
        have c_2 := gm_gef (by omega) (by omega) c_2
        have c_2' := Nat.not_le.mpr c_2
        refine lv_iload_n C.1 C.2.1 d_Sp_dropBeyond_12 rfl (lv_at hl 3 rfl) ?_
        refine lv_iload_n C.1 C.2.1 d_Sp_dropBeyond_13 rfl (lv_at hl 1 rfl) ?_
        refine lv_icmp_ge (tgt := 31) C.1 C.2.1 d_Sp_dropBeyond_14 (by decide) (fun c_6 => ?_) (fun c_6 => ?_)
        · -- 14 -> 31
          have c_6 := gm_get (by omega) (by omega) c_6
          have c_6' := Nat.not_lt.mpr c_6
          refine lv_iconst (v := nI 0) C.1 C.2.1 d_Sp_dropBeyond_31 rfl ?_
          refine lv_istore (lv' := [(4, .int (nI 0)), (0, .ref q), (1, .int (nI n)), (2, .int (nI kp)), (3, .int (nI i))]) C.1 C.2.1 d_Sp_dropBeyond_32 hl (by decide) rfl (fun ls hl => ?_)
          refine lv_iload C.1 C.2.1 d_Sp_dropBeyond_34 (lv_at hl 0 rfl) ?_
          refine lv_iconst (v := nI 4) C.1 C.2.1 d_Sp_dropBeyond_36 rfl ?_
          refine lv_icmp_ge (tgt := 68) C.1 C.2.1 d_Sp_dropBeyond_37 (by decide) (fun c_ => absurd c_ (by decide)) (fun c_ => ?_)
          refine lv_aload_n C.1 C.2.1 d_Sp_dropBeyond_40 rfl (lv_at hl 1 rfl) ?_
          refine gg_r C hh hs.1 rfl in_Sp 2 (by decide) rfl tw_187 rfl d_Sp_dropBeyond_41 ?_
          refine lv_iconst (v := nI 4) C.1 C.2.1 d_Sp_dropBeyond_44 rfl ?_
          refine lv_iload_n C.1 C.2.1 d_Sp_dropBeyond_45 rfl (lv_at hl 3 rfl) ?_
          refine lv_imul C.1 C.2.1 d_Sp_dropBeyond_46 ?_
          refine gm_eqi (pk_mul _ _) ?_
          refine lv_iload C.1 C.2.1 d_Sp_dropBeyond_47 (lv_at hl 0 rfl) ?_
          refine lv_iadd C.1 C.2.1 d_Sp_dropBeyond_49 ?_
          refine gm_eqi (nI_add _ _) ?_
          refine lv_aload_n C.1 C.2.1 d_Sp_dropBeyond_50 rfl (lv_at hl 1 rfl) ?_
          refine gg_r C hh hs.1 rfl in_Sp 2 (by decide) rfl tw_187 rfl d_Sp_dropBeyond_51 ?_
          refine lv_iconst (v := nI 4) C.1 C.2.1 d_Sp_dropBeyond_54 rfl ?_
          refine lv_iload_n C.1 C.2.1 d_Sp_dropBeyond_55 rfl (lv_at hl 4 rfl) ?_
          refine lv_imul C.1 C.2.1 d_Sp_dropBeyond_56 ?_
          refine gm_eqi (pk_mul _ _) ?_
          refine lv_iload C.1 C.2.1 d_Sp_dropBeyond_57 (lv_at hl 0 rfl) ?_
          refine lv_iadd C.1 C.2.1 d_Sp_dropBeyond_59 ?_
          refine gm_eqi (nI_add _ _) ?_
          refine ga_l C hh hs.2.2.1 (k := (4 * i) + 0) rfl (by omega) (by omega) d_Sp_dropBeyond_60 ?_
          refine gs_l C hh hs.2.2.1 (k := (4 * kp) + 0) rfl (by omega) (by omega) d_Sp_dropBeyond_61 (fun H locs hh => ?_)
          obtain ⟨J_7, eJ_7⟩ : ∃ z : gm_J, z = gm_up J4 (q + 2) ((4 * kp) + 0) (J4 (q + 2) ((4 * i) + 0)) := ⟨_, rfl⟩
          rw [← eJ_7] at hh
          have tO_8 : offR q (q + 5) I I4 J J_7 := by rw [eJ_7]; exact offR.upJ tO4 (by omega)
          refine lv_iinc (v := nI 1) (lv' := [(4, .int (nI 1)), (0, .ref q), (1, .int (nI n)), (2, .int (nI kp)), (3, .int (nI i))]) C.1 C.2.1 d_Sp_dropBeyond_62 hl (k := 0) rfl (gm_inc 0 1) (by decide) rfl (fun ls hl => ?_)
          refine lv_goto (tgt := 34) C.1 C.2.1 d_Sp_dropBeyond_65 (by decide) ?_
          refine lv_iload C.1 C.2.1 d_Sp_dropBeyond_34 (lv_at hl 0 rfl) ?_
          refine lv_iconst (v := nI 4) C.1 C.2.1 d_Sp_dropBeyond_36 rfl ?_
          refine lv_icmp_ge (tgt := 68) C.1 C.2.1 d_Sp_dropBeyond_37 (by decide) (fun c_ => absurd c_ (by decide)) (fun c_ => ?_)
          refine lv_aload_n C.1 C.2.1 d_Sp_dropBeyond_40 rfl (lv_at hl 1 rfl) ?_
          refine gg_r C hh hs.1 rfl in_Sp 2 (by decide) rfl tw_187 rfl d_Sp_dropBeyond_41 ?_
          refine lv_iconst (v := nI 4) C.1 C.2.1 d_Sp_dropBeyond_44 rfl ?_
          refine lv_iload_n C.1 C.2.1 d_Sp_dropBeyond_45 rfl (lv_at hl 3 rfl) ?_
          refine lv_imul C.1 C.2.1 d_Sp_dropBeyond_46 ?_
          refine gm_eqi (pk_mul _ _) ?_
          refine lv_iload C.1 C.2.1 d_Sp_dropBeyond_47 (lv_at hl 0 rfl) ?_
          refine lv_iadd C.1 C.2.1 d_Sp_dropBeyond_49 ?_
          refine gm_eqi (nI_add _ _) ?_
          refine lv_aload_n C.1 C.2.1 d_Sp_dropBeyond_50 rfl (lv_at hl 1 rfl) ?_
          refine gg_r C hh hs.1 rfl in_Sp 2 (by decide) rfl tw_187 rfl d_Sp_dropBeyond_51 ?_
          refine lv_iconst (v := nI 4) C.1 C.2.1 d_Sp_dropBeyond_54 rfl ?_
          refine lv_iload_n C.1 C.2.1 d_Sp_dropBeyond_55 rfl (lv_at hl 4 rfl) ?_
          refine lv_imul C.1 C.2.1 d_Sp_dropBeyond_56 ?_
          refine gm_eqi (pk_mul _ _) ?_
          refine lv_iload C.1 C.2.1 d_Sp_dropBeyond_57 (lv_at hl 0 rfl) ?_
          refine lv_iadd C.1 C.2.1 d_Sp_dropBeyond_59 ?_
          refine gm_eqi (nI_add _ _) ?_
          refine ga_l C hh hs.2.2.1 (k := (4 * i) + 1) rfl (by omega) (by omega) d_Sp_dropBeyond_60 ?_
          refine gs_l C hh hs.2.2.1 (k := (4 * kp) + 1) rfl (by omega) (by omega) d_Sp_dropBeyond_61 (fun H locs hh => ?_)
          obtain ⟨J_9, eJ_9⟩ : ∃ z : gm_J, z = gm_up J_7 (q + 2) ((4 * kp) + 1) (J_7 (q + 2) ((4 * i) + 1)) := ⟨_, rfl⟩
          rw [← eJ_9] at hh
          have tO_10 : offR q (q + 5) I I4 J J_9 := by rw [eJ_9]; exact offR.upJ tO_8 (by omega)
          refine lv_iinc (v := nI 2) (lv' := [(4, .int (nI 2)), (0, .ref q), (1, .int (nI n)), (2, .int (nI kp)), (3, .int (nI i))]) C.1 C.2.1 d_Sp_dropBeyond_62 hl (k := 0) rfl (gm_inc 1 1) (by decide) rfl (fun ls hl => ?_)
          refine lv_goto (tgt := 34) C.1 C.2.1 d_Sp_dropBeyond_65 (by decide) ?_
          refine lv_iload C.1 C.2.1 d_Sp_dropBeyond_34 (lv_at hl 0 rfl) ?_
          refine lv_iconst (v := nI 4) C.1 C.2.1 d_Sp_dropBeyond_36 rfl ?_
          refine lv_icmp_ge (tgt := 68) C.1 C.2.1 d_Sp_dropBeyond_37 (by decide) (fun c_ => absurd c_ (by decide)) (fun c_ => ?_)
          refine lv_aload_n C.1 C.2.1 d_Sp_dropBeyond_40 rfl (lv_at hl 1 rfl) ?_
          refine gg_r C hh hs.1 rfl in_Sp 2 (by decide) rfl tw_187 rfl d_Sp_dropBeyond_41 ?_
          refine lv_iconst (v := nI 4) C.1 C.2.1 d_Sp_dropBeyond_44 rfl ?_
          refine lv_iload_n C.1 C.2.1 d_Sp_dropBeyond_45 rfl (lv_at hl 3 rfl) ?_
          refine lv_imul C.1 C.2.1 d_Sp_dropBeyond_46 ?_
          refine gm_eqi (pk_mul _ _) ?_
          refine lv_iload C.1 C.2.1 d_Sp_dropBeyond_47 (lv_at hl 0 rfl) ?_
          refine lv_iadd C.1 C.2.1 d_Sp_dropBeyond_49 ?_
          refine gm_eqi (nI_add _ _) ?_
          refine lv_aload_n C.1 C.2.1 d_Sp_dropBeyond_50 rfl (lv_at hl 1 rfl) ?_
          refine gg_r C hh hs.1 rfl in_Sp 2 (by decide) rfl tw_187 rfl d_Sp_dropBeyond_51 ?_
          refine lv_iconst (v := nI 4) C.1 C.2.1 d_Sp_dropBeyond_54 rfl ?_
          refine lv_iload_n C.1 C.2.1 d_Sp_dropBeyond_55 rfl (lv_at hl 4 rfl) ?_
          refine lv_imul C.1 C.2.1 d_Sp_dropBeyond_56 ?_
          refine gm_eqi (pk_mul _ _) ?_
          refine lv_iload C.1 C.2.1 d_Sp_dropBeyond_57 (lv_at hl 0 rfl) ?_
          refine lv_iadd C.1 C.2.1 d_Sp_dropBeyond_59 ?_
          refine gm_eqi (nI_add _ _) ?_
          refine ga_l C hh hs.2.2.1 (k := (4 * i) + 2) rfl (by omega) (by omega) d_Sp_dropBeyond_60 ?_
          refine gs_l C hh hs.2.2.1 (k := (4 * kp) + 2) rfl (by omega) (by omega) d_Sp_dropBeyond_61 (fun H locs hh => ?_)
          obtain ⟨J_11, eJ_11⟩ : ∃ z : gm_J, z = gm_up J_9 (q + 2) ((4 * kp) + 2) (J_9 (q + 2) ((4 * i) + 2)) := ⟨_, rfl⟩
          rw [← eJ_11] at hh
          have tO_12 : offR q (q + 5) I I4 J J_11 := by rw [eJ_11]; exact offR.upJ tO_10 (by omega)
          refine lv_iinc (v := nI 3) (lv' := [(4, .int (nI 3)), (0, .ref q), (1, .int (nI n)), (2, .int (nI kp)), (3, .int (nI i))]) C.1 C.2.1 d_Sp_dropBeyond_62 hl (k := 0) rfl (gm_inc 2 1) (by decide) rfl (fun ls hl => ?_)
          refine lv_goto (tgt := 34) C.1 C.2.1 d_Sp_dropBeyond_65 (by decide) ?_
          refine lv_iload C.1 C.2.1 d_Sp_dropBeyond_34 (lv_at hl 0 rfl) ?_
          refine lv_iconst (v := nI 4) C.1 C.2.1 d_Sp_dropBeyond_36 rfl ?_
          refine lv_icmp_ge (tgt := 68) C.1 C.2.1 d_Sp_dropBeyond_37 (by decide) (fun c_ => absurd c_ (by decide)) (fun c_ => ?_)
          refine lv_aload_n C.1 C.2.1 d_Sp_dropBeyond_40 rfl (lv_at hl 1 rfl) ?_
          refine gg_r C hh hs.1 rfl in_Sp 2 (by decide) rfl tw_187 rfl d_Sp_dropBeyond_41 ?_
          refine lv_iconst (v := nI 4) C.1 C.2.1 d_Sp_dropBeyond_44 rfl ?_
          refine lv_iload_n C.1 C.2.1 d_Sp_dropBeyond_45 rfl (lv_at hl 3 rfl) ?_
          refine lv_imul C.1 C.2.1 d_Sp_dropBeyond_46 ?_
          refine gm_eqi (pk_mul _ _) ?_
          refine lv_iload C.1 C.2.1 d_Sp_dropBeyond_47 (lv_at hl 0 rfl) ?_
          refine lv_iadd C.1 C.2.1 d_Sp_dropBeyond_49 ?_
          refine gm_eqi (nI_add _ _) ?_
          refine lv_aload_n C.1 C.2.1 d_Sp_dropBeyond_50 rfl (lv_at hl 1 rfl) ?_
          refine gg_r C hh hs.1 rfl in_Sp 2 (by decide) rfl tw_187 rfl d_Sp_dropBeyond_51 ?_
          refine lv_iconst (v := nI 4) C.1 C.2.1 d_Sp_dropBeyond_54 rfl ?_
          refine lv_iload_n C.1 C.2.1 d_Sp_dropBeyond_55 rfl (lv_at hl 4 rfl) ?_
          refine lv_imul C.1 C.2.1 d_Sp_dropBeyond_56 ?_
          refine gm_eqi (pk_mul _ _) ?_
          refine lv_iload C.1 C.2.1 d_Sp_dropBeyond_57 (lv_at hl 0 rfl) ?_
          refine lv_iadd C.1 C.2.1 d_Sp_dropBeyond_59 ?_
          refine gm_eqi (nI_add _ _) ?_
          refine ga_l C hh hs.2.2.1 (k := (4 * i) + 3) rfl (by omega) (by omega) d_Sp_dropBeyond_60 ?_
          refine gs_l C hh hs.2.2.1 (k := (4 * kp) + 3) rfl (by omega) (by omega) d_Sp_dropBeyond_61 (fun H locs hh => ?_)
          obtain ⟨J_13, eJ_13⟩ : ∃ z : gm_J, z = gm_up J_11 (q + 2) ((4 * kp) + 3) (J_11 (q + 2) ((4 * i) + 3)) := ⟨_, rfl⟩
          rw [← eJ_13] at hh
          have tO_14 : offR q (q + 5) I I4 J J_13 := by rw [eJ_13]; exact offR.upJ tO_12 (by omega)
          refine lv_iinc (v := nI 4) (lv' := [(4, .int (nI 4)), (0, .ref q), (1, .int (nI n)), (2, .int (nI kp)), (3, .int (nI i))]) C.1 C.2.1 d_Sp_dropBeyond_62 hl (k := 0) rfl (gm_inc 3 1) (by decide) rfl (fun ls hl => ?_)
          refine lv_goto (tgt := 34) C.1 C.2.1 d_Sp_dropBeyond_65 (by decide) ?_
          refine lv_iload C.1 C.2.1 d_Sp_dropBeyond_34 (lv_at hl 0 rfl) ?_
          refine lv_iconst (v := nI 4) C.1 C.2.1 d_Sp_dropBeyond_36 rfl ?_
          refine lv_icmp_ge (tgt := 68) C.1 C.2.1 d_Sp_dropBeyond_37 (by decide) (fun c_ => ?_) (fun c_ => absurd (by decide) c_)
          refine lv_aload_n C.1 C.2.1 d_Sp_dropBeyond_68 rfl (lv_at hl 1 rfl) ?_
          refine gg_r C hh hs.1 rfl in_Sp 4 (by decide) rfl tw_189 rfl d_Sp_dropBeyond_69 ?_
          refine lv_iload_n C.1 C.2.1 d_Sp_dropBeyond_72 rfl (lv_at hl 3 rfl) ?_
          refine lv_iload_n C.1 C.2.1 d_Sp_dropBeyond_73 rfl (lv_at hl 4 rfl) ?_
          refine lv_iload_n C.1 C.2.1 d_Sp_dropBeyond_74 rfl (lv_at hl 2 rfl) ?_
          refine lv_icmp_ge (tgt := 103) C.1 C.2.1 d_Sp_dropBeyond_75 (by decide) (fun c_15 => ?_) (fun c_15 => ?_)
          · -- 75 -> 103
            have c_15 := gm_get (by omega) (by omega) c_15
            have c_15' := Nat.not_lt.mpr c_15
            refine lv_aload_n C.1 C.2.1 d_Sp_dropBeyond_103 rfl (lv_at hl 1 rfl) ?_
            refine gg_r C hh hs.1 rfl in_Sp 4 (by decide) rfl tw_189 rfl d_Sp_dropBeyond_104 ?_
            refine lv_iload_n C.1 C.2.1 d_Sp_dropBeyond_107 rfl (lv_at hl 4 rfl) ?_
            refine ga_i C hh hs.2.2.2.1 (k := i) rfl (by omega) (by omega) d_Sp_dropBeyond_108 ?_
            refine gs_i C hh hs.2.2.2.1 (k := kp) rfl (by omega) (by omega) d_Sp_dropBeyond_109 (fun H locs hh => ?_)
            obtain ⟨I_16, eI_16⟩ : ∃ z : gm_I, z = gm_up I4 (q + 3) kp (I4 (q + 3) i) := ⟨_, rfl⟩
            rw [← eI_16] at hh
            have tO_17 : offR q (q + 5) I I_16 J J_13 := by rw [eI_16]; exact offR.upI tO_14 (by omega)
            have tS_18 : inv_Sp I_16 q := by rw [eI_16]; exact ⟨tS4.1.up (by omega), tS4.2.up (by omega)⟩
            refine lv_iinc (v := nI (kp + 1)) (lv' := [(2, .int (nI (kp + 1))), (4, .int (nI 4)), (0, .ref q), (1, .int (nI n)), (3, .int (nI i))]) C.1 C.2.1 d_Sp_dropBeyond_110 hl (k := 3) rfl (gm_inc kp 1) (by decide) rfl (fun ls hl => ?_)
            refine lv_iinc (v := nI (i + 1)) (lv' := [(3, .int (nI (i + 1))), (2, .int (nI (kp + 1))), (4, .int (nI 4)), (0, .ref q), (1, .int (nI n))]) C.1 C.2.1 d_Sp_dropBeyond_113 hl (k := 4) rfl (gm_inc i 1) (by decide) rfl (fun ls hl => ?_)
            refine lv_goto (tgt := 4) C.1 C.2.1 d_Sp_dropBeyond_116 (by decide) ?_
            exact ih4 (kp + 1) (i + 1) I_16 J_13 (by omega) (by omega) (by exact tO_17) (by exact tS_18) (by omega) _ _ _ hh (lv_sub hl [3, 4, 1, 0] rfl)
          · -- 75 -> 78
            have c_15 := gm_gef (by omega) (by omega) c_15
            have c_15' := Nat.not_le.mpr c_15
            refine lv_aload_n C.1 C.2.1 d_Sp_dropBeyond_78 rfl (lv_at hl 1 rfl) ?_
            refine gg_r C hh hs.1 rfl in_Sp 5 (by decide) rfl tw_190 rfl d_Sp_dropBeyond_79 ?_
            refine lv_iload_n C.1 C.2.1 d_Sp_dropBeyond_82 rfl (lv_at hl 4 rfl) ?_
            refine ga_l C hh hs.2.2.2.2.1 (k := i) rfl (by omega) (by omega) d_Sp_dropBeyond_83 ?_
            refine gm_eql (y := J4 (q + 4) i) (by rw [eJ_13, gm_up_ne _ _ (Or.inl (by omega)), eJ_11, gm_up_ne _ _ (Or.inl (by omega)), eJ_9, gm_up_ne _ _ (Or.inl (by omega)), eJ_7, gm_up_ne _ _ (Or.inl (by omega))]) ?_
            refine lv_lconst (v := 0) C.1 C.2.1 d_Sp_dropBeyond_84 rfl ?_
            refine W.lcmp C.1 C.2.1 d_Sp_dropBeyond_85 ?_
            refine lv_if_ne (tgt := 103) C.1 C.2.1 d_Sp_dropBeyond_86 (by decide) (fun c_19 => ?_) (fun c_19 => ?_)
            · -- 86 -> 103
              have c_19 := gm_lnet c_19
              refine lv_aload_n C.1 C.2.1 d_Sp_dropBeyond_103 rfl (lv_at hl 1 rfl) ?_
              refine gg_r C hh hs.1 rfl in_Sp 4 (by decide) rfl tw_189 rfl d_Sp_dropBeyond_104 ?_
              refine lv_iload_n C.1 C.2.1 d_Sp_dropBeyond_107 rfl (lv_at hl 4 rfl) ?_
              refine ga_i C hh hs.2.2.2.1 (k := i) rfl (by omega) (by omega) d_Sp_dropBeyond_108 ?_
              refine gs_i C hh hs.2.2.2.1 (k := kp) rfl (by omega) (by omega) d_Sp_dropBeyond_109 (fun H locs hh => ?_)
              obtain ⟨I_20, eI_20⟩ : ∃ z : gm_I, z = gm_up I4 (q + 3) kp (I4 (q + 3) i) := ⟨_, rfl⟩
              rw [← eI_20] at hh
              have tO_21 : offR q (q + 5) I I_20 J J_13 := by rw [eI_20]; exact offR.upI tO_14 (by omega)
              have tS_22 : inv_Sp I_20 q := by rw [eI_20]; exact ⟨tS4.1.up (by omega), tS4.2.up (by omega)⟩
              refine lv_iinc (v := nI (kp + 1)) (lv' := [(2, .int (nI (kp + 1))), (4, .int (nI 4)), (0, .ref q), (1, .int (nI n)), (3, .int (nI i))]) C.1 C.2.1 d_Sp_dropBeyond_110 hl (k := 3) rfl (gm_inc kp 1) (by decide) rfl (fun ls hl => ?_)
              refine lv_iinc (v := nI (i + 1)) (lv' := [(3, .int (nI (i + 1))), (2, .int (nI (kp + 1))), (4, .int (nI 4)), (0, .ref q), (1, .int (nI n))]) C.1 C.2.1 d_Sp_dropBeyond_113 hl (k := 4) rfl (gm_inc i 1) (by decide) rfl (fun ls hl => ?_)
              refine lv_goto (tgt := 4) C.1 C.2.1 d_Sp_dropBeyond_116 (by decide) ?_
              exact ih4 (kp + 1) (i + 1) I_20 J_13 (by omega) (by omega) (by exact tO_21) (by exact tS_22) (by omega) _ _ _ hh (lv_sub hl [3, 4, 1, 0] rfl)
            · -- 86 -> 89
              have c_19 := gm_lnef c_19
              refine lv_aload_n C.1 C.2.1 d_Sp_dropBeyond_89 rfl (lv_at hl 1 rfl) ?_
              refine gg_r C hh hs.1 rfl in_Sp 4 (by decide) rfl tw_189 rfl d_Sp_dropBeyond_90 ?_
              refine lv_iload_n C.1 C.2.1 d_Sp_dropBeyond_93 rfl (lv_at hl 4 rfl) ?_
              refine ga_i C hh hs.2.2.2.1 (k := i) rfl (by omega) (by omega) d_Sp_dropBeyond_94 ?_
              refine lv_aload_n C.1 C.2.1 d_Sp_dropBeyond_95 rfl (lv_at hl 1 rfl) ?_
              refine gg_i C hh hs.1 rfl in_Sp 7 (by decide) rfl tw_192 rfl d_Sp_dropBeyond_96 ?_
              refine lv_ior C.1 C.2.1 d_Sp_dropBeyond_99 ?_
              refine lv_goto (tgt := 109) C.1 C.2.1 d_Sp_dropBeyond_100 (by decide) ?_
              refine gs_i C hh hs.2.2.2.1 (k := kp) rfl (by omega) (by omega) d_Sp_dropBeyond_109 (fun H locs hh => ?_)
              obtain ⟨I_23, eI_23⟩ : ∃ z : gm_I, z = gm_up I4 (q + 3) kp ((I4 (q + 3) i) ||| (I4 q 7)) := ⟨_, rfl⟩
              rw [← eI_23] at hh
              have tO_24 : offR q (q + 5) I I_23 J J_13 := by rw [eI_23]; exact offR.upI tO_14 (by omega)
              have tS_25 : inv_Sp I_23 q := by rw [eI_23]; exact ⟨tS4.1.up (by omega), tS4.2.up (by omega)⟩
              refine lv_iinc (v := nI (kp + 1)) (lv' := [(2, .int (nI (kp + 1))), (4, .int (nI 4)), (0, .ref q), (1, .int (nI n)), (3, .int (nI i))]) C.1 C.2.1 d_Sp_dropBeyond_110 hl (k := 3) rfl (gm_inc kp 1) (by decide) rfl (fun ls hl => ?_)
              refine lv_iinc (v := nI (i + 1)) (lv' := [(3, .int (nI (i + 1))), (2, .int (nI (kp + 1))), (4, .int (nI 4)), (0, .ref q), (1, .int (nI n))]) C.1 C.2.1 d_Sp_dropBeyond_113 hl (k := 4) rfl (gm_inc i 1) (by decide) rfl (fun ls hl => ?_)
              refine lv_goto (tgt := 4) C.1 C.2.1 d_Sp_dropBeyond_116 (by decide) ?_
              exact ih4 (kp + 1) (i + 1) I_23 J_13 (by omega) (by omega) (by exact tO_24) (by exact tS_25) (by omega) _ _ _ hh (lv_sub hl [3, 4, 1, 0] rfl)
        · -- 14 -> 17
          have c_6 := gm_gef (by omega) (by omega) c_6
          have c_6' := Nat.not_le.mpr c_6
          refine lv_aload_n C.1 C.2.1 d_Sp_dropBeyond_17 rfl (lv_at hl 0 rfl) ?_
          refine gg_r C hh hs.1 rfl in_Sp 5 (by decide) rfl tw_190 rfl d_Sp_dropBeyond_18 ?_
          refine lv_iload_n C.1 C.2.1 d_Sp_dropBeyond_21 rfl (lv_at hl 3 rfl) ?_
          refine ga_l C hh hs.2.2.2.2.1 (k := i) rfl (by omega) (by omega) d_Sp_dropBeyond_22 ?_
          refine lv_lconst (v := 0) C.1 C.2.1 d_Sp_dropBeyond_23 rfl ?_
          refine W.lcmp C.1 C.2.1 d_Sp_dropBeyond_24 ?_
          refine lv_if_ge (tgt := 31) C.1 C.2.1 d_Sp_dropBeyond_25 (by decide) (fun c_26 => ?_) (fun c_26 => ?_)
          · -- 25 -> 31
            have c_26 := gm_lget c_26
            refine lv_iconst (v := nI 0) C.1 C.2.1 d_Sp_dropBeyond_31 rfl ?_
            refine lv_istore (lv' := [(4, .int (nI 0)), (0, .ref q), (1, .int (nI n)), (2, .int (nI kp)), (3, .int (nI i))]) C.1 C.2.1 d_Sp_dropBeyond_32 hl (by decide) rfl (fun ls hl => ?_)
            refine lv_iload C.1 C.2.1 d_Sp_dropBeyond_34 (lv_at hl 0 rfl) ?_
            refine lv_iconst (v := nI 4) C.1 C.2.1 d_Sp_dropBeyond_36 rfl ?_
            refine lv_icmp_ge (tgt := 68) C.1 C.2.1 d_Sp_dropBeyond_37 (by decide) (fun c_ => absurd c_ (by decide)) (fun c_ => ?_)
            refine lv_aload_n C.1 C.2.1 d_Sp_dropBeyond_40 rfl (lv_at hl 1 rfl) ?_
            refine gg_r C hh hs.1 rfl in_Sp 2 (by decide) rfl tw_187 rfl d_Sp_dropBeyond_41 ?_
            refine lv_iconst (v := nI 4) C.1 C.2.1 d_Sp_dropBeyond_44 rfl ?_
            refine lv_iload_n C.1 C.2.1 d_Sp_dropBeyond_45 rfl (lv_at hl 3 rfl) ?_
            refine lv_imul C.1 C.2.1 d_Sp_dropBeyond_46 ?_
            refine gm_eqi (pk_mul _ _) ?_
            refine lv_iload C.1 C.2.1 d_Sp_dropBeyond_47 (lv_at hl 0 rfl) ?_
            refine lv_iadd C.1 C.2.1 d_Sp_dropBeyond_49 ?_
            refine gm_eqi (nI_add _ _) ?_
            refine lv_aload_n C.1 C.2.1 d_Sp_dropBeyond_50 rfl (lv_at hl 1 rfl) ?_
            refine gg_r C hh hs.1 rfl in_Sp 2 (by decide) rfl tw_187 rfl d_Sp_dropBeyond_51 ?_
            refine lv_iconst (v := nI 4) C.1 C.2.1 d_Sp_dropBeyond_54 rfl ?_
            refine lv_iload_n C.1 C.2.1 d_Sp_dropBeyond_55 rfl (lv_at hl 4 rfl) ?_
            refine lv_imul C.1 C.2.1 d_Sp_dropBeyond_56 ?_
            refine gm_eqi (pk_mul _ _) ?_
            refine lv_iload C.1 C.2.1 d_Sp_dropBeyond_57 (lv_at hl 0 rfl) ?_
            refine lv_iadd C.1 C.2.1 d_Sp_dropBeyond_59 ?_
            refine gm_eqi (nI_add _ _) ?_
            refine ga_l C hh hs.2.2.1 (k := (4 * i) + 0) rfl (by omega) (by omega) d_Sp_dropBeyond_60 ?_
            refine gs_l C hh hs.2.2.1 (k := (4 * kp) + 0) rfl (by omega) (by omega) d_Sp_dropBeyond_61 (fun H locs hh => ?_)
            obtain ⟨J_27, eJ_27⟩ : ∃ z : gm_J, z = gm_up J4 (q + 2) ((4 * kp) + 0) (J4 (q + 2) ((4 * i) + 0)) := ⟨_, rfl⟩
            rw [← eJ_27] at hh
            have tO_28 : offR q (q + 5) I I4 J J_27 := by rw [eJ_27]; exact offR.upJ tO4 (by omega)
            refine lv_iinc (v := nI 1) (lv' := [(4, .int (nI 1)), (0, .ref q), (1, .int (nI n)), (2, .int (nI kp)), (3, .int (nI i))]) C.1 C.2.1 d_Sp_dropBeyond_62 hl (k := 0) rfl (gm_inc 0 1) (by decide) rfl (fun ls hl => ?_)
            refine lv_goto (tgt := 34) C.1 C.2.1 d_Sp_dropBeyond_65 (by decide) ?_
            refine lv_iload C.1 C.2.1 d_Sp_dropBeyond_34 (lv_at hl 0 rfl) ?_
            refine lv_iconst (v := nI 4) C.1 C.2.1 d_Sp_dropBeyond_36 rfl ?_
            refine lv_icmp_ge (tgt := 68) C.1 C.2.1 d_Sp_dropBeyond_37 (by decide) (fun c_ => absurd c_ (by decide)) (fun c_ => ?_)
            refine lv_aload_n C.1 C.2.1 d_Sp_dropBeyond_40 rfl (lv_at hl 1 rfl) ?_
            refine gg_r C hh hs.1 rfl in_Sp 2 (by decide) rfl tw_187 rfl d_Sp_dropBeyond_41 ?_
            refine lv_iconst (v := nI 4) C.1 C.2.1 d_Sp_dropBeyond_44 rfl ?_
            refine lv_iload_n C.1 C.2.1 d_Sp_dropBeyond_45 rfl (lv_at hl 3 rfl) ?_
            refine lv_imul C.1 C.2.1 d_Sp_dropBeyond_46 ?_
            refine gm_eqi (pk_mul _ _) ?_
            refine lv_iload C.1 C.2.1 d_Sp_dropBeyond_47 (lv_at hl 0 rfl) ?_
            refine lv_iadd C.1 C.2.1 d_Sp_dropBeyond_49 ?_
            refine gm_eqi (nI_add _ _) ?_
            refine lv_aload_n C.1 C.2.1 d_Sp_dropBeyond_50 rfl (lv_at hl 1 rfl) ?_
            refine gg_r C hh hs.1 rfl in_Sp 2 (by decide) rfl tw_187 rfl d_Sp_dropBeyond_51 ?_
            refine lv_iconst (v := nI 4) C.1 C.2.1 d_Sp_dropBeyond_54 rfl ?_
            refine lv_iload_n C.1 C.2.1 d_Sp_dropBeyond_55 rfl (lv_at hl 4 rfl) ?_
            refine lv_imul C.1 C.2.1 d_Sp_dropBeyond_56 ?_
            refine gm_eqi (pk_mul _ _) ?_
            refine lv_iload C.1 C.2.1 d_Sp_dropBeyond_57 (lv_at hl 0 rfl) ?_
            refine lv_iadd C.1 C.2.1 d_Sp_dropBeyond_59 ?_
            refine gm_eqi (nI_add _ _) ?_
            refine ga_l C hh hs.2.2.1 (k := (4 * i) + 1) rfl (by omega) (by omega) d_Sp_dropBeyond_60 ?_
            refine gs_l C hh hs.2.2.1 (k := (4 * kp) + 1) rfl (by omega) (by omega) d_Sp_dropBeyond_61 (fun H locs hh => ?_)
            obtain ⟨J_29, eJ_29⟩ : ∃ z : gm_J, z = gm_up J_27 (q + 2) ((4 * kp) + 1) (J_27 (q + 2) ((4 * i) + 1)) := ⟨_, rfl⟩
            rw [← eJ_29] at hh
            have tO_30 : offR q (q + 5) I I4 J J_29 := by rw [eJ_29]; exact offR.upJ tO_28 (by omega)
            refine lv_iinc (v := nI 2) (lv' := [(4, .int (nI 2)), (0, .ref q), (1, .int (nI n)), (2, .int (nI kp)), (3, .int (nI i))]) C.1 C.2.1 d_Sp_dropBeyond_62 hl (k := 0) rfl (gm_inc 1 1) (by decide) rfl (fun ls hl => ?_)
            refine lv_goto (tgt := 34) C.1 C.2.1 d_Sp_dropBeyond_65 (by decide) ?_
            refine lv_iload C.1 C.2.1 d_Sp_dropBeyond_34 (lv_at hl 0 rfl) ?_
            refine lv_iconst (v := nI 4) C.1 C.2.1 d_Sp_dropBeyond_36 rfl ?_
            refine lv_icmp_ge (tgt := 68) C.1 C.2.1 d_Sp_dropBeyond_37 (by decide) (fun c_ => absurd c_ (by decide)) (fun c_ => ?_)
            refine lv_aload_n C.1 C.2.1 d_Sp_dropBeyond_40 rfl (lv_at hl 1 rfl) ?_
            refine gg_r C hh hs.1 rfl in_Sp 2 (by decide) rfl tw_187 rfl d_Sp_dropBeyond_41 ?_
            refine lv_iconst (v := nI 4) C.1 C.2.1 d_Sp_dropBeyond_44 rfl ?_
            refine lv_iload_n C.1 C.2.1 d_Sp_dropBeyond_45 rfl (lv_at hl 3 rfl) ?_
            refine lv_imul C.1 C.2.1 d_Sp_dropBeyond_46 ?_
            refine gm_eqi (pk_mul _ _) ?_
            refine lv_iload C.1 C.2.1 d_Sp_dropBeyond_47 (lv_at hl 0 rfl) ?_
            refine lv_iadd C.1 C.2.1 d_Sp_dropBeyond_49 ?_
            refine gm_eqi (nI_add _ _) ?_
            refine lv_aload_n C.1 C.2.1 d_Sp_dropBeyond_50 rfl (lv_at hl 1 rfl) ?_
            refine gg_r C hh hs.1 rfl in_Sp 2 (by decide) rfl tw_187 rfl d_Sp_dropBeyond_51 ?_
            refine lv_iconst (v := nI 4) C.1 C.2.1 d_Sp_dropBeyond_54 rfl ?_
            refine lv_iload_n C.1 C.2.1 d_Sp_dropBeyond_55 rfl (lv_at hl 4 rfl) ?_
            refine lv_imul C.1 C.2.1 d_Sp_dropBeyond_56 ?_
            refine gm_eqi (pk_mul _ _) ?_
            refine lv_iload C.1 C.2.1 d_Sp_dropBeyond_57 (lv_at hl 0 rfl) ?_
            refine lv_iadd C.1 C.2.1 d_Sp_dropBeyond_59 ?_
            refine gm_eqi (nI_add _ _) ?_
            refine ga_l C hh hs.2.2.1 (k := (4 * i) + 2) rfl (by omega) (by omega) d_Sp_dropBeyond_60 ?_
            refine gs_l C hh hs.2.2.1 (k := (4 * kp) + 2) rfl (by omega) (by omega) d_Sp_dropBeyond_61 (fun H locs hh => ?_)
            obtain ⟨J_31, eJ_31⟩ : ∃ z : gm_J, z = gm_up J_29 (q + 2) ((4 * kp) + 2) (J_29 (q + 2) ((4 * i) + 2)) := ⟨_, rfl⟩
            rw [← eJ_31] at hh
            have tO_32 : offR q (q + 5) I I4 J J_31 := by rw [eJ_31]; exact offR.upJ tO_30 (by omega)
            refine lv_iinc (v := nI 3) (lv' := [(4, .int (nI 3)), (0, .ref q), (1, .int (nI n)), (2, .int (nI kp)), (3, .int (nI i))]) C.1 C.2.1 d_Sp_dropBeyond_62 hl (k := 0) rfl (gm_inc 2 1) (by decide) rfl (fun ls hl => ?_)
            refine lv_goto (tgt := 34) C.1 C.2.1 d_Sp_dropBeyond_65 (by decide) ?_
            refine lv_iload C.1 C.2.1 d_Sp_dropBeyond_34 (lv_at hl 0 rfl) ?_
            refine lv_iconst (v := nI 4) C.1 C.2.1 d_Sp_dropBeyond_36 rfl ?_
            refine lv_icmp_ge (tgt := 68) C.1 C.2.1 d_Sp_dropBeyond_37 (by decide) (fun c_ => absurd c_ (by decide)) (fun c_ => ?_)
            refine lv_aload_n C.1 C.2.1 d_Sp_dropBeyond_40 rfl (lv_at hl 1 rfl) ?_
            refine gg_r C hh hs.1 rfl in_Sp 2 (by decide) rfl tw_187 rfl d_Sp_dropBeyond_41 ?_
            refine lv_iconst (v := nI 4) C.1 C.2.1 d_Sp_dropBeyond_44 rfl ?_
            refine lv_iload_n C.1 C.2.1 d_Sp_dropBeyond_45 rfl (lv_at hl 3 rfl) ?_
            refine lv_imul C.1 C.2.1 d_Sp_dropBeyond_46 ?_
            refine gm_eqi (pk_mul _ _) ?_
            refine lv_iload C.1 C.2.1 d_Sp_dropBeyond_47 (lv_at hl 0 rfl) ?_
            refine lv_iadd C.1 C.2.1 d_Sp_dropBeyond_49 ?_
            refine gm_eqi (nI_add _ _) ?_
            refine lv_aload_n C.1 C.2.1 d_Sp_dropBeyond_50 rfl (lv_at hl 1 rfl) ?_
            refine gg_r C hh hs.1 rfl in_Sp 2 (by decide) rfl tw_187 rfl d_Sp_dropBeyond_51 ?_
            refine lv_iconst (v := nI 4) C.1 C.2.1 d_Sp_dropBeyond_54 rfl ?_
            refine lv_iload_n C.1 C.2.1 d_Sp_dropBeyond_55 rfl (lv_at hl 4 rfl) ?_
            refine lv_imul C.1 C.2.1 d_Sp_dropBeyond_56 ?_
            refine gm_eqi (pk_mul _ _) ?_
            refine lv_iload C.1 C.2.1 d_Sp_dropBeyond_57 (lv_at hl 0 rfl) ?_
            refine lv_iadd C.1 C.2.1 d_Sp_dropBeyond_59 ?_
            refine gm_eqi (nI_add _ _) ?_
            refine ga_l C hh hs.2.2.1 (k := (4 * i) + 3) rfl (by omega) (by omega) d_Sp_dropBeyond_60 ?_
            refine gs_l C hh hs.2.2.1 (k := (4 * kp) + 3) rfl (by omega) (by omega) d_Sp_dropBeyond_61 (fun H locs hh => ?_)
            obtain ⟨J_33, eJ_33⟩ : ∃ z : gm_J, z = gm_up J_31 (q + 2) ((4 * kp) + 3) (J_31 (q + 2) ((4 * i) + 3)) := ⟨_, rfl⟩
            rw [← eJ_33] at hh
            have tO_34 : offR q (q + 5) I I4 J J_33 := by rw [eJ_33]; exact offR.upJ tO_32 (by omega)
            refine lv_iinc (v := nI 4) (lv' := [(4, .int (nI 4)), (0, .ref q), (1, .int (nI n)), (2, .int (nI kp)), (3, .int (nI i))]) C.1 C.2.1 d_Sp_dropBeyond_62 hl (k := 0) rfl (gm_inc 3 1) (by decide) rfl (fun ls hl => ?_)
            refine lv_goto (tgt := 34) C.1 C.2.1 d_Sp_dropBeyond_65 (by decide) ?_
            refine lv_iload C.1 C.2.1 d_Sp_dropBeyond_34 (lv_at hl 0 rfl) ?_
            refine lv_iconst (v := nI 4) C.1 C.2.1 d_Sp_dropBeyond_36 rfl ?_
            refine lv_icmp_ge (tgt := 68) C.1 C.2.1 d_Sp_dropBeyond_37 (by decide) (fun c_ => ?_) (fun c_ => absurd (by decide) c_)
            refine lv_aload_n C.1 C.2.1 d_Sp_dropBeyond_68 rfl (lv_at hl 1 rfl) ?_
            refine gg_r C hh hs.1 rfl in_Sp 4 (by decide) rfl tw_189 rfl d_Sp_dropBeyond_69 ?_
            refine lv_iload_n C.1 C.2.1 d_Sp_dropBeyond_72 rfl (lv_at hl 3 rfl) ?_
            refine lv_iload_n C.1 C.2.1 d_Sp_dropBeyond_73 rfl (lv_at hl 4 rfl) ?_
            refine lv_iload_n C.1 C.2.1 d_Sp_dropBeyond_74 rfl (lv_at hl 2 rfl) ?_
            refine lv_icmp_ge (tgt := 103) C.1 C.2.1 d_Sp_dropBeyond_75 (by decide) (fun c_35 => ?_) (fun c_35 => ?_)
            · -- 75 -> 103
              have c_35 := gm_get (by omega) (by omega) c_35
              have c_35' := Nat.not_lt.mpr c_35
              refine lv_aload_n C.1 C.2.1 d_Sp_dropBeyond_103 rfl (lv_at hl 1 rfl) ?_
              refine gg_r C hh hs.1 rfl in_Sp 4 (by decide) rfl tw_189 rfl d_Sp_dropBeyond_104 ?_
              refine lv_iload_n C.1 C.2.1 d_Sp_dropBeyond_107 rfl (lv_at hl 4 rfl) ?_
              refine ga_i C hh hs.2.2.2.1 (k := i) rfl (by omega) (by omega) d_Sp_dropBeyond_108 ?_
              refine gs_i C hh hs.2.2.2.1 (k := kp) rfl (by omega) (by omega) d_Sp_dropBeyond_109 (fun H locs hh => ?_)
              obtain ⟨I_36, eI_36⟩ : ∃ z : gm_I, z = gm_up I4 (q + 3) kp (I4 (q + 3) i) := ⟨_, rfl⟩
              rw [← eI_36] at hh
              have tO_37 : offR q (q + 5) I I_36 J J_33 := by rw [eI_36]; exact offR.upI tO_34 (by omega)
              have tS_38 : inv_Sp I_36 q := by rw [eI_36]; exact ⟨tS4.1.up (by omega), tS4.2.up (by omega)⟩
              refine lv_iinc (v := nI (kp + 1)) (lv' := [(2, .int (nI (kp + 1))), (4, .int (nI 4)), (0, .ref q), (1, .int (nI n)), (3, .int (nI i))]) C.1 C.2.1 d_Sp_dropBeyond_110 hl (k := 3) rfl (gm_inc kp 1) (by decide) rfl (fun ls hl => ?_)
              refine lv_iinc (v := nI (i + 1)) (lv' := [(3, .int (nI (i + 1))), (2, .int (nI (kp + 1))), (4, .int (nI 4)), (0, .ref q), (1, .int (nI n))]) C.1 C.2.1 d_Sp_dropBeyond_113 hl (k := 4) rfl (gm_inc i 1) (by decide) rfl (fun ls hl => ?_)
              refine lv_goto (tgt := 4) C.1 C.2.1 d_Sp_dropBeyond_116 (by decide) ?_
              exact ih4 (kp + 1) (i + 1) I_36 J_33 (by omega) (by omega) (by exact tO_37) (by exact tS_38) (by omega) _ _ _ hh (lv_sub hl [3, 4, 1, 0] rfl)
            · -- 75 -> 78
              have c_35 := gm_gef (by omega) (by omega) c_35
              have c_35' := Nat.not_le.mpr c_35
              refine lv_aload_n C.1 C.2.1 d_Sp_dropBeyond_78 rfl (lv_at hl 1 rfl) ?_
              refine gg_r C hh hs.1 rfl in_Sp 5 (by decide) rfl tw_190 rfl d_Sp_dropBeyond_79 ?_
              refine lv_iload_n C.1 C.2.1 d_Sp_dropBeyond_82 rfl (lv_at hl 4 rfl) ?_
              refine ga_l C hh hs.2.2.2.2.1 (k := i) rfl (by omega) (by omega) d_Sp_dropBeyond_83 ?_
              refine gm_eql (y := J4 (q + 4) i) (by rw [eJ_33, gm_up_ne _ _ (Or.inl (by omega)), eJ_31, gm_up_ne _ _ (Or.inl (by omega)), eJ_29, gm_up_ne _ _ (Or.inl (by omega)), eJ_27, gm_up_ne _ _ (Or.inl (by omega))]) ?_
              refine lv_lconst (v := 0) C.1 C.2.1 d_Sp_dropBeyond_84 rfl ?_
              refine W.lcmp C.1 C.2.1 d_Sp_dropBeyond_85 ?_
              refine lv_if_ne (tgt := 103) C.1 C.2.1 d_Sp_dropBeyond_86 (by decide) (fun c_39 => ?_) (fun c_39 => ?_)
              · -- 86 -> 103
                have c_39 := gm_lnet c_39
                refine lv_aload_n C.1 C.2.1 d_Sp_dropBeyond_103 rfl (lv_at hl 1 rfl) ?_
                refine gg_r C hh hs.1 rfl in_Sp 4 (by decide) rfl tw_189 rfl d_Sp_dropBeyond_104 ?_
                refine lv_iload_n C.1 C.2.1 d_Sp_dropBeyond_107 rfl (lv_at hl 4 rfl) ?_
                refine ga_i C hh hs.2.2.2.1 (k := i) rfl (by omega) (by omega) d_Sp_dropBeyond_108 ?_
                refine gs_i C hh hs.2.2.2.1 (k := kp) rfl (by omega) (by omega) d_Sp_dropBeyond_109 (fun H locs hh => ?_)
                obtain ⟨I_40, eI_40⟩ : ∃ z : gm_I, z = gm_up I4 (q + 3) kp (I4 (q + 3) i) := ⟨_, rfl⟩
                rw [← eI_40] at hh
                have tO_41 : offR q (q + 5) I I_40 J J_33 := by rw [eI_40]; exact offR.upI tO_34 (by omega)
                have tS_42 : inv_Sp I_40 q := by rw [eI_40]; exact ⟨tS4.1.up (by omega), tS4.2.up (by omega)⟩
                refine lv_iinc (v := nI (kp + 1)) (lv' := [(2, .int (nI (kp + 1))), (4, .int (nI 4)), (0, .ref q), (1, .int (nI n)), (3, .int (nI i))]) C.1 C.2.1 d_Sp_dropBeyond_110 hl (k := 3) rfl (gm_inc kp 1) (by decide) rfl (fun ls hl => ?_)
                refine lv_iinc (v := nI (i + 1)) (lv' := [(3, .int (nI (i + 1))), (2, .int (nI (kp + 1))), (4, .int (nI 4)), (0, .ref q), (1, .int (nI n))]) C.1 C.2.1 d_Sp_dropBeyond_113 hl (k := 4) rfl (gm_inc i 1) (by decide) rfl (fun ls hl => ?_)
                refine lv_goto (tgt := 4) C.1 C.2.1 d_Sp_dropBeyond_116 (by decide) ?_
                exact ih4 (kp + 1) (i + 1) I_40 J_33 (by omega) (by omega) (by exact tO_41) (by exact tS_42) (by omega) _ _ _ hh (lv_sub hl [3, 4, 1, 0] rfl)
              · -- 86 -> 89
                have c_39 := gm_lnef c_39
                refine lv_aload_n C.1 C.2.1 d_Sp_dropBeyond_89 rfl (lv_at hl 1 rfl) ?_
                refine gg_r C hh hs.1 rfl in_Sp 4 (by decide) rfl tw_189 rfl d_Sp_dropBeyond_90 ?_
                refine lv_iload_n C.1 C.2.1 d_Sp_dropBeyond_93 rfl (lv_at hl 4 rfl) ?_
                refine ga_i C hh hs.2.2.2.1 (k := i) rfl (by omega) (by omega) d_Sp_dropBeyond_94 ?_
                refine lv_aload_n C.1 C.2.1 d_Sp_dropBeyond_95 rfl (lv_at hl 1 rfl) ?_
                refine gg_i C hh hs.1 rfl in_Sp 7 (by decide) rfl tw_192 rfl d_Sp_dropBeyond_96 ?_
                refine lv_ior C.1 C.2.1 d_Sp_dropBeyond_99 ?_
                refine lv_goto (tgt := 109) C.1 C.2.1 d_Sp_dropBeyond_100 (by decide) ?_
                refine gs_i C hh hs.2.2.2.1 (k := kp) rfl (by omega) (by omega) d_Sp_dropBeyond_109 (fun H locs hh => ?_)
                obtain ⟨I_43, eI_43⟩ : ∃ z : gm_I, z = gm_up I4 (q + 3) kp ((I4 (q + 3) i) ||| (I4 q 7)) := ⟨_, rfl⟩
                rw [← eI_43] at hh
                have tO_44 : offR q (q + 5) I I_43 J J_33 := by rw [eI_43]; exact offR.upI tO_34 (by omega)
                have tS_45 : inv_Sp I_43 q := by rw [eI_43]; exact ⟨tS4.1.up (by omega), tS4.2.up (by omega)⟩
                refine lv_iinc (v := nI (kp + 1)) (lv' := [(2, .int (nI (kp + 1))), (4, .int (nI 4)), (0, .ref q), (1, .int (nI n)), (3, .int (nI i))]) C.1 C.2.1 d_Sp_dropBeyond_110 hl (k := 3) rfl (gm_inc kp 1) (by decide) rfl (fun ls hl => ?_)
                refine lv_iinc (v := nI (i + 1)) (lv' := [(3, .int (nI (i + 1))), (2, .int (nI (kp + 1))), (4, .int (nI 4)), (0, .ref q), (1, .int (nI n))]) C.1 C.2.1 d_Sp_dropBeyond_113 hl (k := 4) rfl (gm_inc i 1) (by decide) rfl (fun ls hl => ?_)
                refine lv_goto (tgt := 4) C.1 C.2.1 d_Sp_dropBeyond_116 (by decide) ?_
                exact ih4 (kp + 1) (i + 1) I_43 J_33 (by omega) (by omega) (by exact tO_44) (by exact tS_45) (by omega) _ _ _ hh (lv_sub hl [3, 4, 1, 0] rfl)
          · -- 25 -> 28
            have c_26 := gm_lgef c_26
            refine lv_goto (tgt := 113) C.1 C.2.1 d_Sp_dropBeyond_28 (by decide) ?_
            refine lv_iinc (v := nI (i + 1)) (lv' := [(3, .int (nI (i + 1))), (0, .ref q), (1, .int (nI n)), (2, .int (nI kp))]) C.1 C.2.1 d_Sp_dropBeyond_113 hl (k := 3) rfl (gm_inc i 1) (by decide) rfl (fun ls hl => ?_)
            refine lv_goto (tgt := 4) C.1 C.2.1 d_Sp_dropBeyond_116 (by decide) ?_
            exact ih4 kp (i + 1) I4 J4 (by omega) (by omega) (by exact tO4) (by exact tS4) (by omega) _ _ _ hh (lv_sub hl [1, 2, 3, 0] rfl)
  exact K4 _ 0 0 I J (by omega) (by omega) (by exact tO_0) (by exact tS_0) (Nat.lt_succ_self _) _ _ _ hh (lv_sub hl [2, 3, 1, 0] rfl)

set_option maxHeartbeats 4000000 in
set_option maxRecDepth 100000 in
theorem c_Sp_begin (l : Launch) (D : va_G) (cs : Nat → ClassId) (sh : gm_H) (sz : Nat) (I : gm_I) (J : gm_J) (q : Nat) (hs : is_Sp sh q) (hS : inv_Sp I q) (nm : Nat) (hnm : nm ≤ 3) : CV l y_Sp_begin w_Sp_begin { frames := 1, cells := 0, slots := 0, locals := 22 } D cs sh sz I J [.ref q, .int (nI nm)] (fun u => sfP q I J u) := by
  refine gm_start (by decide) (Nat.le_of_ble_eq_true rfl) ?_
  intro p' e' s' m' be' me' co' ls C hml hlk hret hh hl
  have hl : lv_has ls 3 [(0, .ref q), (1, .int (nI nm))] := hl
  have tO_0 : offR q (q + 5) I I J J := offR.nil
  have tS_0 : inv_Sp I q := hS
  refine lv_aload_n C.1 C.2.1 d_Sp_begin_0 rfl (lv_at hl 0 rfl) ?_
  refine lv_iload_n C.1 C.2.1 d_Sp_begin_1 rfl (lv_at hl 1 rfl) ?_
  refine gp_i (ty := .int) C hh hs.1 rfl in_Sp t_Sp t_Sp_ok n_Sp 1 (by decide) rfl tw_186 rfl rfl (by decide +kernel) rfl rfl d_Sp_begin_2 (fun H locs hh => ?_)
  obtain ⟨I_1, eI_1⟩ : ∃ z : gm_I, z = gm_up I q 1 (nI nm) := ⟨_, rfl⟩
  rw [← eI_1] at hh
  have tO_2 : offR q (q + 5) I I_1 J J := by rw [eI_1]; exact offR.upI tO_0 (by omega)
  have tS_3 : inv_Sp I_1 q := by rw [eI_1]; exact ⟨nle.set (by omega), tS_0.2.up (by omega)⟩
  refine lv_iconst (v := nI 0) C.1 C.2.1 d_Sp_begin_5 rfl ?_
  refine lv_istore_n (lv' := [(2, .int (nI 0)), (0, .ref q), (1, .int (nI nm))]) C.1 C.2.1 d_Sp_begin_6 rfl hl (by decide) rfl (fun ls hl => ?_)
  have K7 : ∀ (n_7 : Nat) (i : Nat) (I7 : gm_I) (J7 : gm_J) (hi : i ≤ 12) (tO7 : offR q (q + 5) I I7 J J7) (tS7 : inv_Sp I7 q) (hm_7 : 13 - i < n_7), ∀ (H : Heap) (locs : List Loc) (ls : Array Slot), gm_St D cs sh (gm_A sh) s'.heap sz I7 J7 H locs → lv_has ls 3 [(0, .ref q), (1, .int (nI nm)), (2, .int (nI i))] → W p' l e' { frames := 1, cells := 0, slots := 0, locals := 22 } s' m' ([.ref q, .int (nI nm)] : List Value).toArray be' me' co' H locs 0 0 (MQ be' (va_Qv (fun u => sfP q I J u) (gm_B D cs sh sz) (gm_A sh)) ([.ref q, .int (nI nm)] : List Value).toArray s' 0 0 (gm_A sh)) (F0 m' 7 ls []) := by
    intro n_7
    induction n_7 with
    | zero => intro i I7 J7 hi tO7 tS7 hm_7; exact absurd hm_7 (Nat.not_lt_zero _)
    | succ n_7 ih7 =>
      intro i I7 J7 hi tO7 tS7 hm_7 H locs ls hh hl
      refine lv_iload_n C.1 C.2.1 d_Sp_begin_7 rfl (lv_at hl 2 rfl) ?_
      refine lv_iconst (v := nI 4) C.1 C.2.1 d_Sp_begin_8 rfl ?_
      refine lv_iload_n C.1 C.2.1 d_Sp_begin_9 rfl (lv_at hl 1 rfl) ?_
      refine lv_imul C.1 C.2.1 d_Sp_begin_10 ?_
      refine gm_eqi (pk_mul _ _) ?_
      refine lv_icmp_ge (tgt := 40) C.1 C.2.1 d_Sp_begin_11 (by decide) (fun c_4 => ?_) (fun c_4 => ?_)
      · -- 11 -> 40
        have c_4 := gm_get (by omega) (by omega) c_4
        have c_4' := Nat.not_lt.mpr c_4
        refine lv_aload_n C.1 C.2.1 d_Sp_begin_40 rfl (lv_at hl 0 rfl) ?_
        refine lv_iconst (v := nI 0) C.1 C.2.1 d_Sp_begin_41 rfl ?_
        refine gp_i (ty := .int) C hh hs.1 rfl in_Sp t_Sp t_Sp_ok n_Sp 3 (by decide) rfl tw_188 rfl rfl (by decide +kernel) rfl rfl d_Sp_begin_42 (fun H locs hh => ?_)
        obtain ⟨I_5, eI_5⟩ : ∃ z : gm_I, z = gm_up I7 q 3 (nI 0) := ⟨_, rfl⟩
        rw [← eI_5] at hh
        have tO_6 : offR q (q + 5) I I_5 J J7 := by rw [eI_5]; exact offR.upI tO7 (by omega)
        have tS_7 : inv_Sp I_5 q := by rw [eI_5]; exact ⟨tS7.1.up (by omega), nle.set (by omega)⟩
        have tN_8 : I_5 q 3 = nI 0 := by rw [eI_5]; exact gm_up_same _ _ _ _
        refine lv_iconst (v := nI 0) C.1 C.2.1 d_Sp_begin_45 rfl ?_
        refine lv_istore_n (lv' := [(2, .int (nI 0)), (0, .ref q), (1, .int (nI nm))]) C.1 C.2.1 d_Sp_begin_46 rfl hl (by decide) rfl (fun ls hl => ?_)
        refine lv_iload_n C.1 C.2.1 d_Sp_begin_47 rfl (lv_at hl 0 rfl) ?_
        refine lv_iconst (v := nI 4) C.1 C.2.1 d_Sp_begin_48 rfl ?_
        refine lv_icmp_ge (tgt := 74) C.1 C.2.1 d_Sp_begin_49 (by decide) (fun c_ => absurd c_ (by decide)) (fun c_ => ?_)
        refine lv_aload_n C.1 C.2.1 d_Sp_begin_52 rfl (lv_at hl 1 rfl) ?_
        refine gg_r C hh hs.1 rfl in_Sp 6 (by decide) rfl tw_191 rfl d_Sp_begin_53 ?_
        refine lv_iload_n C.1 C.2.1 d_Sp_begin_56 rfl (lv_at hl 0 rfl) ?_
        refine lv_iload_n C.1 C.2.1 d_Sp_begin_57 rfl (lv_at hl 0 rfl) ?_
        refine lv_iconst (v := nI 3) C.1 C.2.1 d_Sp_begin_58 rfl ?_
        refine lv_icmp_ne (tgt := 66) C.1 C.2.1 d_Sp_begin_59 (by decide) (fun c_ => ?_) (fun c_ => absurd c_ (by decide))
        refine lv_lconst (v := 0) C.1 C.2.1 d_Sp_begin_66 rfl ?_
        refine gs_l C hh hs.2.2.2.2.2 (k := 0) rfl (by omega) (by omega) d_Sp_begin_67 (fun H locs hh => ?_)
        obtain ⟨J_9, eJ_9⟩ : ∃ z : gm_J, z = gm_up J7 (q + 5) 0 (0 : Int64) := ⟨_, rfl⟩
        rw [← eJ_9] at hh
        have tO_10 : offR q (q + 5) I I_5 J J_9 := by rw [eJ_9]; exact offR.upJ tO_6 (by omega)
        refine lv_iinc (v := nI 1) (lv' := [(2, .int (nI 1)), (0, .ref q), (1, .int (nI nm))]) C.1 C.2.1 d_Sp_begin_68 hl (k := 0) rfl (gm_inc 0 1) (by decide) rfl (fun ls hl => ?_)
        refine lv_goto (tgt := 47) C.1 C.2.1 d_Sp_begin_71 (by decide) ?_
        refine lv_iload_n C.1 C.2.1 d_Sp_begin_47 rfl (lv_at hl 0 rfl) ?_
        refine lv_iconst (v := nI 4) C.1 C.2.1 d_Sp_begin_48 rfl ?_
        refine lv_icmp_ge (tgt := 74) C.1 C.2.1 d_Sp_begin_49 (by decide) (fun c_ => absurd c_ (by decide)) (fun c_ => ?_)
        refine lv_aload_n C.1 C.2.1 d_Sp_begin_52 rfl (lv_at hl 1 rfl) ?_
        refine gg_r C hh hs.1 rfl in_Sp 6 (by decide) rfl tw_191 rfl d_Sp_begin_53 ?_
        refine lv_iload_n C.1 C.2.1 d_Sp_begin_56 rfl (lv_at hl 0 rfl) ?_
        refine lv_iload_n C.1 C.2.1 d_Sp_begin_57 rfl (lv_at hl 0 rfl) ?_
        refine lv_iconst (v := nI 3) C.1 C.2.1 d_Sp_begin_58 rfl ?_
        refine lv_icmp_ne (tgt := 66) C.1 C.2.1 d_Sp_begin_59 (by decide) (fun c_ => ?_) (fun c_ => absurd c_ (by decide))
        refine lv_lconst (v := 0) C.1 C.2.1 d_Sp_begin_66 rfl ?_
        refine gs_l C hh hs.2.2.2.2.2 (k := 1) rfl (by omega) (by omega) d_Sp_begin_67 (fun H locs hh => ?_)
        obtain ⟨J_11, eJ_11⟩ : ∃ z : gm_J, z = gm_up J_9 (q + 5) 1 (0 : Int64) := ⟨_, rfl⟩
        rw [← eJ_11] at hh
        have tO_12 : offR q (q + 5) I I_5 J J_11 := by rw [eJ_11]; exact offR.upJ tO_10 (by omega)
        refine lv_iinc (v := nI 2) (lv' := [(2, .int (nI 2)), (0, .ref q), (1, .int (nI nm))]) C.1 C.2.1 d_Sp_begin_68 hl (k := 0) rfl (gm_inc 1 1) (by decide) rfl (fun ls hl => ?_)
        refine lv_goto (tgt := 47) C.1 C.2.1 d_Sp_begin_71 (by decide) ?_
        refine lv_iload_n C.1 C.2.1 d_Sp_begin_47 rfl (lv_at hl 0 rfl) ?_
        refine lv_iconst (v := nI 4) C.1 C.2.1 d_Sp_begin_48 rfl ?_
        refine lv_icmp_ge (tgt := 74) C.1 C.2.1 d_Sp_begin_49 (by decide) (fun c_ => absurd c_ (by decide)) (fun c_ => ?_)
        refine lv_aload_n C.1 C.2.1 d_Sp_begin_52 rfl (lv_at hl 1 rfl) ?_
        refine gg_r C hh hs.1 rfl in_Sp 6 (by decide) rfl tw_191 rfl d_Sp_begin_53 ?_
        refine lv_iload_n C.1 C.2.1 d_Sp_begin_56 rfl (lv_at hl 0 rfl) ?_
        refine lv_iload_n C.1 C.2.1 d_Sp_begin_57 rfl (lv_at hl 0 rfl) ?_
        refine lv_iconst (v := nI 3) C.1 C.2.1 d_Sp_begin_58 rfl ?_
        refine lv_icmp_ne (tgt := 66) C.1 C.2.1 d_Sp_begin_59 (by decide) (fun c_ => ?_) (fun c_ => absurd c_ (by decide))
        refine lv_lconst (v := 0) C.1 C.2.1 d_Sp_begin_66 rfl ?_
        refine gs_l C hh hs.2.2.2.2.2 (k := 2) rfl (by omega) (by omega) d_Sp_begin_67 (fun H locs hh => ?_)
        obtain ⟨J_13, eJ_13⟩ : ∃ z : gm_J, z = gm_up J_11 (q + 5) 2 (0 : Int64) := ⟨_, rfl⟩
        rw [← eJ_13] at hh
        have tO_14 : offR q (q + 5) I I_5 J J_13 := by rw [eJ_13]; exact offR.upJ tO_12 (by omega)
        refine lv_iinc (v := nI 3) (lv' := [(2, .int (nI 3)), (0, .ref q), (1, .int (nI nm))]) C.1 C.2.1 d_Sp_begin_68 hl (k := 0) rfl (gm_inc 2 1) (by decide) rfl (fun ls hl => ?_)
        refine lv_goto (tgt := 47) C.1 C.2.1 d_Sp_begin_71 (by decide) ?_
        refine lv_iload_n C.1 C.2.1 d_Sp_begin_47 rfl (lv_at hl 0 rfl) ?_
        refine lv_iconst (v := nI 4) C.1 C.2.1 d_Sp_begin_48 rfl ?_
        refine lv_icmp_ge (tgt := 74) C.1 C.2.1 d_Sp_begin_49 (by decide) (fun c_ => absurd c_ (by decide)) (fun c_ => ?_)
        refine lv_aload_n C.1 C.2.1 d_Sp_begin_52 rfl (lv_at hl 1 rfl) ?_
        refine gg_r C hh hs.1 rfl in_Sp 6 (by decide) rfl tw_191 rfl d_Sp_begin_53 ?_
        refine lv_iload_n C.1 C.2.1 d_Sp_begin_56 rfl (lv_at hl 0 rfl) ?_
        refine lv_iload_n C.1 C.2.1 d_Sp_begin_57 rfl (lv_at hl 0 rfl) ?_
        refine lv_iconst (v := nI 3) C.1 C.2.1 d_Sp_begin_58 rfl ?_
        refine lv_icmp_ne (tgt := 66) C.1 C.2.1 d_Sp_begin_59 (by decide) (fun c_ => absurd (by decide) c_) (fun c_ => ?_)
        refine lv_lconst (v := 1) C.1 C.2.1 d_Sp_begin_62 rfl ?_
        refine lv_goto (tgt := 67) C.1 C.2.1 d_Sp_begin_63 (by decide) ?_
        refine gs_l C hh hs.2.2.2.2.2 (k := 3) rfl (by omega) (by omega) d_Sp_begin_67 (fun H locs hh => ?_)
        obtain ⟨J_15, eJ_15⟩ : ∃ z : gm_J, z = gm_up J_13 (q + 5) 3 (1 : Int64) := ⟨_, rfl⟩
        rw [← eJ_15] at hh
        have tO_16 : offR q (q + 5) I I_5 J J_15 := by rw [eJ_15]; exact offR.upJ tO_14 (by omega)
        refine lv_iinc (v := nI 4) (lv' := [(2, .int (nI 4)), (0, .ref q), (1, .int (nI nm))]) C.1 C.2.1 d_Sp_begin_68 hl (k := 0) rfl (gm_inc 3 1) (by decide) rfl (fun ls hl => ?_)
        refine lv_goto (tgt := 47) C.1 C.2.1 d_Sp_begin_71 (by decide) ?_
        refine lv_iload_n C.1 C.2.1 d_Sp_begin_47 rfl (lv_at hl 0 rfl) ?_
        refine lv_iconst (v := nI 4) C.1 C.2.1 d_Sp_begin_48 rfl ?_
        refine lv_icmp_ge (tgt := 74) C.1 C.2.1 d_Sp_begin_49 (by decide) (fun c_ => ?_) (fun c_ => absurd (by decide) c_)
        refine lv_aload_n C.1 C.2.1 d_Sp_begin_74 rfl (lv_at hl 1 rfl) ?_
        refine lv_iconst (v := nI 0) C.1 C.2.1 d_Sp_begin_75 rfl ?_
        refine gc_v hh (gc_runV (As := [.int (nI 0)]) (rest := []) (n := 1) C hml hh (c_Sp_appendPivot l D cs sh sz I_5 J_15 q hs 0 tN_8 (by omega) (nI 0)) (tg_V tw_334 tw_336 tw_6 tw_63 tw_337) (by decide +kernel) ⟨rfl, rfl, by decide, by decide, Nat.zero_le _, Nat.zero_le _⟩ hs.1 rfl rfl hl.1 rfl (Nat.le_of_ble_eq_true rfl) d_Sp_begin_76) (fun I_18 J_19 H locs hr_17 hh => ?_)
        have hr_17 := ap_safe tS_7 hr_17
        have tO_20 : offR q (q + 5) I I_18 J J_19 := offR.tr tO_16 hr_17.1
        have tS_21 : inv_Sp I_18 q := hr_17.2
        refine lv_aload_n C.1 C.2.1 d_Sp_begin_79 rfl (lv_at hl 1 rfl) ?_
        refine lv_iconst (v := nI 2) C.1 C.2.1 d_Sp_begin_80 rfl ?_
        refine gp_i (ty := .int) C hh hs.1 rfl in_Sp t_Sp t_Sp_ok n_Sp 7 (by decide) rfl tw_192 rfl rfl (by decide +kernel) rfl rfl d_Sp_begin_81 (fun H locs hh => ?_)
        obtain ⟨I_22, eI_22⟩ : ∃ z : gm_I, z = gm_up I_18 q 7 (nI 2) := ⟨_, rfl⟩
        rw [← eI_22] at hh
        have tO_23 : offR q (q + 5) I I_22 J J_19 := by rw [eI_22]; exact offR.upI tO_20 (by omega)
        have tS_24 : inv_Sp I_22 q := by rw [eI_22]; exact ⟨tS_21.1.up (by omega), tS_21.2.up (by omega)⟩
        exact gr_v C hlk hret hh (by exact ⟨tO_23, tS_24⟩) d_Sp_begin_84
      · -- 11 -> 14
        have c_4 := gm_gef (by omega) (by omega) c_4
        have c_4' := Nat.not_le.mpr c_4
        refine lv_aload_n C.1 C.2.1 d_Sp_begin_14 rfl (lv_at hl 0 rfl) ?_
        refine gg_r C hh hs.1 rfl in_Sp 0 (by decide) rfl tw_185 rfl d_Sp_begin_15 ?_
        refine lv_iload_n C.1 C.2.1 d_Sp_begin_18 rfl (lv_at hl 2 rfl) ?_
        refine lv_iload_n C.1 C.2.1 d_Sp_begin_19 rfl (lv_at hl 2 rfl) ?_
        refine lv_iconst (v := nI 4) C.1 C.2.1 d_Sp_begin_20 rfl ?_
        refine lv_irem C.1 C.2.1 d_Sp_begin_21 (by decide) ?_
        refine gm_eqi (pk_rem (by omega) (by omega) (by omega)) ?_
        refine lv_iload_n C.1 C.2.1 d_Sp_begin_22 rfl (lv_at hl 2 rfl) ?_
        refine lv_iconst (v := nI 4) C.1 C.2.1 d_Sp_begin_23 rfl ?_
        refine lv_idiv C.1 C.2.1 d_Sp_begin_24 (by decide) ?_
        refine gm_eqi (pk_div (by omega) (by omega) (by omega)) ?_
        refine lv_icmp_ne (tgt := 32) C.1 C.2.1 d_Sp_begin_25 (by decide) (fun c_25 => ?_) (fun c_25 => ?_)
        · -- 25 -> 32
          have c_25 := gm_net (by omega) (by omega) c_25
          refine lv_lconst (v := 0) C.1 C.2.1 d_Sp_begin_32 rfl ?_
          refine gs_l C hh hs.2.1 (k := i) rfl (by omega) (by omega) d_Sp_begin_33 (fun H locs hh => ?_)
          obtain ⟨J_26, eJ_26⟩ : ∃ z : gm_J, z = gm_up J7 (q + 1) i (0 : Int64) := ⟨_, rfl⟩
          rw [← eJ_26] at hh
          have tO_27 : offR q (q + 5) I I7 J J_26 := by rw [eJ_26]; exact offR.upJ tO7 (by omega)
          refine lv_iinc (v := nI (i + 1)) (lv' := [(2, .int (nI (i + 1))), (0, .ref q), (1, .int (nI nm))]) C.1 C.2.1 d_Sp_begin_34 hl (k := 2) rfl (gm_inc i 1) (by decide) rfl (fun ls hl => ?_)
          refine lv_goto (tgt := 7) C.1 C.2.1 d_Sp_begin_37 (by decide) ?_
          exact ih7 (i + 1) I7 J_26 (by omega) (by exact tO_27) (by exact tS7) (by omega) _ _ _ hh (lv_sub hl [1, 2, 0] rfl)
        · -- 25 -> 28
          have c_25 := gm_nef (by omega) (by omega) c_25
          refine lv_lconst (v := 1) C.1 C.2.1 d_Sp_begin_28 rfl ?_
          refine lv_goto (tgt := 33) C.1 C.2.1 d_Sp_begin_29 (by decide) ?_
          refine gs_l C hh hs.2.1 (k := i) rfl (by omega) (by omega) d_Sp_begin_33 (fun H locs hh => ?_)
          obtain ⟨J_28, eJ_28⟩ : ∃ z : gm_J, z = gm_up J7 (q + 1) i (1 : Int64) := ⟨_, rfl⟩
          rw [← eJ_28] at hh
          have tO_29 : offR q (q + 5) I I7 J J_28 := by rw [eJ_28]; exact offR.upJ tO7 (by omega)
          refine lv_iinc (v := nI (i + 1)) (lv' := [(2, .int (nI (i + 1))), (0, .ref q), (1, .int (nI nm))]) C.1 C.2.1 d_Sp_begin_34 hl (k := 2) rfl (gm_inc i 1) (by decide) rfl (fun ls hl => ?_)
          refine lv_goto (tgt := 7) C.1 C.2.1 d_Sp_begin_37 (by decide) ?_
          exact ih7 (i + 1) I7 J_28 (by omega) (by exact tO_29) (by exact tS7) (by omega) _ _ _ hh (lv_sub hl [1, 2, 0] rfl)
  exact K7 _ 0 I_1 J (by omega) (by exact tO_2) (by exact tS_3) (Nat.lt_succ_self _) _ _ _ hh (lv_sub hl [1, 2, 0] rfl)
