set_option maxHeartbeats 4000000 in
set_option maxRecDepth 100000 in
theorem c_Md_ring (l : Launch) (D : va_G) (cs : Nat → ClassId) (sh : gm_H) (sz : Nat) (I : gm_I) (J : gm_J) (r : Nat) (hM : is_Md sh r) (hV : inv_Md I r) (v x : Int32) : CI l y_Md_ring w_Md_ring { frames := 4, cells := 0, slots := 0, locals := 101 } D cs sh sz I J [.ref r, .int v, .int x] (fun z u => (lpB I r v = false ∧ z = -2 ∧ u = (I, J)) ∨ (lpB I r v = true ∧ inI x (nI 0) (nI 6) = false ∧ z = -3 ∧ u = (I, J)) ∨ (lpB I r v = true ∧ inI x (nI 0) (nI 6) = true ∧ ringP I J r (nN v) (nN x) (nN (I (r + 1) (nN v))) z u)) := by
  refine gm_start (by decide) (Nat.le_of_ble_eq_true rfl) ?_
  intro p' e' s' m' be' me' co' ls C hml hlk hret hh hl
  have hl : lv_has ls 10 [(0, .ref r), (1, .int v), (2, .int x)] := hl
  refine lv_aload_n C.1 C.2.1 d_Md_ring_0 rfl (lv_at hl 0 rfl) ?_
  refine lv_iload_n C.1 C.2.1 d_Md_ring_1 rfl (lv_at hl 1 rfl) ?_
  refine gc_i hh (gc_runV (As := [.int v]) (rest := []) (n := 1) C hml hh (c_Md_isLoop l D cs sh sz I J r hM hV v) (tg_V tw_695 tw_697 tw_26 tw_64 tw_698) (by decide +kernel) ⟨rfl, rfl, by decide, by decide, Nat.zero_le _, Nat.zero_le _⟩ (Md_0 hM) rfl rfl hl.1 rfl (Nat.le_of_ble_eq_true rfl) d_Md_ring_2) (fun r_1 I_2 J_3 H locs hr_1 hh => ?_)
  obtain ⟨e_r_1, hr_1⟩ := hr_1
  rw [(Prod.mk.inj e_r_1).1, (Prod.mk.inj e_r_1).2] at hh
  refine lv_if_ne (tgt := 11) C.1 C.2.1 d_Md_ring_5 (by decide) (fun c_4 => ?_) (fun c_4 => ?_)
  · -- 5 -> 11
    have b_5 := bI_t hr_1 c_4
    obtain ⟨n_7, hn_7, en_7⟩ := hV.1
    obtain ⟨j_6, hj_6, ej_6⟩ := lpB_j en_7 hn_7 b_5
    subst ej_6
    skip
    refine lv_iload_n C.1 C.2.1 d_Md_ring_11 rfl (lv_at hl 2 rfl) ?_
    refine lv_iconst (v := nI 0) C.1 C.2.1 d_Md_ring_12 rfl ?_
    refine lv_bipush (v := nI 6) C.1 C.2.1 d_Md_ring_13 rfl ?_
    refine gc_i hh (gc_runS (As := [.int x, .int (nI 0), .int (nI 6)]) (rest := []) (n := 3) C hml hh (c_Md_isIn l D cs sh sz I J x (nI 0) (nI 6)) (tg_S tw_684 tw_685 tw_64 tw_686) (by decide +kernel) ⟨rfl, rfl, by decide, by decide, Nat.zero_le _, Nat.zero_le _⟩ rfl hl.1 rfl (Nat.le_of_ble_eq_true rfl) d_Md_ring_15) (fun r_8 I_9 J_10 H locs hr_8 hh => ?_)
    obtain ⟨e_r_8, hr_8⟩ := hr_8
    rw [(Prod.mk.inj e_r_8).1, (Prod.mk.inj e_r_8).2] at hh
    refine lv_if_ne (tgt := 24) C.1 C.2.1 d_Md_ring_18 (by decide) (fun c_11 => ?_) (fun c_11 => ?_)
    · -- 18 -> 24
      have b_12 := bI_t hr_8 c_11
      obtain ⟨k_13, hk_13, ek_13⟩ := inI_k (by omega) b_12
      subst ek_13
      skip
      obtain ⟨nm, hnm, enm⟩ := hV.2.1 j_6 (by omega)
      refine lv_iload_n C.1 C.2.1 d_Md_ring_24 rfl (lv_at hl 2 rfl) ?_
      refine lv_ineg C.1 C.2.1 d_Md_ring_25 ?_
      refine lv_istore_n (lv' := [(3, .int (-(nI k_13))), (0, .ref r), (1, .int (nI j_6)), (2, .int (nI k_13))]) C.1 C.2.1 d_Md_ring_26 rfl hl (by decide) rfl (fun ls hl => ?_)
      refine lv_aload_n C.1 C.2.1 d_Md_ring_27 rfl (lv_at hl 1 rfl) ?_
      refine gg_r C hh (Md_0 hM) rfl in_Md 1 (by decide) rfl tw_566 rfl d_Md_ring_28 ?_
      refine lv_iload_n C.1 C.2.1 d_Md_ring_31 rfl (lv_at hl 2 rfl) ?_
      refine ga_i C hh (Md_1 hM) (k := j_6) rfl (by omega) (by omega) d_Md_ring_32 ?_
      refine gm_eqi enm ?_
      refine lv_iconst (v := nI 1) C.1 C.2.1 d_Md_ring_33 rfl ?_
      refine lv_icmp_le (tgt := 41) C.1 C.2.1 d_Md_ring_34 (by decide) (fun c_14 => ?_) (fun c_14 => ?_)
      · -- 34 -> 41
        have c_14 := gm_let (by omega) (by omega) c_14
        have c_14' := Nat.not_lt.mpr c_14
        refine lv_iconst (v := nI 0) C.1 C.2.1 d_Md_ring_41 rfl ?_
        refine lv_istore (lv' := [(4, .int (nI 0)), (3, .int (-(nI k_13))), (0, .ref r), (1, .int (nI j_6)), (2, .int (nI k_13))]) C.1 C.2.1 d_Md_ring_42 hl (by decide) rfl (fun ls hl => ?_)
        refine lv_aload_n C.1 C.2.1 d_Md_ring_44 rfl (lv_at hl 2 rfl) ?_
        refine gg_r C hh (Md_0 hM) rfl in_Md 1 (by decide) rfl tw_566 rfl d_Md_ring_45 ?_
        refine lv_iload_n C.1 C.2.1 d_Md_ring_48 rfl (lv_at hl 3 rfl) ?_
        refine ga_i C hh (Md_1 hM) (k := j_6) rfl (by omega) (by omega) d_Md_ring_49 ?_
        refine gm_eqi enm ?_
        refine lv_iconst (v := nI 2) C.1 C.2.1 d_Md_ring_50 rfl ?_
        refine lv_icmp_le (tgt := 58) C.1 C.2.1 d_Md_ring_51 (by decide) (fun c_15 => ?_) (fun c_15 => ?_)
        · -- 51 -> 58
          have c_15 := gm_let (by omega) (by omega) c_15
          have c_15' := Nat.not_lt.mpr c_15
          refine lv_iconst (v := nI 0) C.1 C.2.1 d_Md_ring_58 rfl ?_
          refine lv_istore (lv' := [(5, .int (nI 0)), (4, .int (nI 0)), (3, .int (-(nI k_13))), (0, .ref r), (1, .int (nI j_6)), (2, .int (nI k_13))]) C.1 C.2.1 d_Md_ring_59 hl (by decide) rfl (fun ls hl => ?_)
          refine lv_iload_n C.1 C.2.1 d_Md_ring_61 rfl (lv_at hl 2 rfl) ?_
          refine lv_istore (lv' := [(6, .int (-(nI k_13))), (5, .int (nI 0)), (4, .int (nI 0)), (3, .int (-(nI k_13))), (0, .ref r), (1, .int (nI j_6)), (2, .int (nI k_13))]) C.1 C.2.1 d_Md_ring_62 hl (by decide) rfl (fun ls hl => ?_)
          have hh : gm_St D cs sh (gm_A sh) s'.heap sz I (xyz J r (T3 J r)) H locs := by rw [xyz_self]; exact hh
          have hR : ringR I r j_6 k_13 nm = rgA (kb I r j_6) (nI k_13) (nI 0) (nI 0) 14 (-(nI k_13)) := by unfold ringR; first | (exfalso; omega) | rw [if_pos (by omega), if_pos (by omega)] | rw [if_neg (by omega), if_pos (by omega)] | rw [if_neg (by omega), if_neg (by omega)] | (exfalso; omega)
          have K64 : ∀ (n_64 : Nat) (fa : Nat) (a : Int32) (ta : V3) (ha1 : -7 ≤ a.toInt) (ha2 : a.toInt ≤ 7) (ha3 : ((k_13 : Nat) : Int) + 1 - a.toInt < (fa : Int)) (hRa : ringR I r j_6 k_13 nm = rgA (kb I r j_6) (nI k_13) (nI 0) (nI 0) fa a) (hm_64 : fa < n_64), ∀ (H : Heap) (locs : List Loc) (ls : Array Slot), gm_St D cs sh (gm_A sh) s'.heap sz I (xyz J r ta) H locs → lv_has ls 10 [(0, .ref r), (1, .int (nI j_6)), (2, .int (nI k_13)), (3, .int (-(nI k_13))), (4, .int (nI 0)), (5, .int (nI 0)), (6, .int a)] → W p' l e' { frames := 4, cells := 0, slots := 0, locals := 101 } s' m' ([.ref r, .int (nI j_6), .int (nI k_13)] : List Value).toArray be' me' co' H locs 0 0 (MQ be' (va_Qi (fun z u => (lpB I r (nI j_6) = false ∧ z = -2 ∧ u = (I, J)) ∨ (lpB I r (nI j_6) = true ∧ inI (nI k_13) (nI 0) (nI 6) = false ∧ z = -3 ∧ u = (I, J)) ∨ (lpB I r (nI j_6) = true ∧ inI (nI k_13) (nI 0) (nI 6) = true ∧ ringP I J r (nN (nI j_6)) (nN (nI k_13)) (nN (I (r + 1) (nN (nI j_6)))) z u)) (gm_B D cs sh sz) (gm_A sh)) ([.ref r, .int (nI j_6), .int (nI k_13)] : List Value).toArray s' 0 0 (gm_A sh)) (F0 m' 64 ls []) := by
            intro n_64
            induction n_64 with
            | zero => intro fa a ta ha1 ha2 ha3 hRa hm_64; exact absurd hm_64 (Nat.not_lt_zero _)
            | succ n_64 ih64 =>
              intro fa a ta ha1 ha2 ha3 hRa hm_64 H locs ls hh hl
              refine lv_iload C.1 C.2.1 d_Md_ring_64 (lv_at hl 6 rfl) ?_
              refine lv_iload_n C.1 C.2.1 d_Md_ring_66 rfl (lv_at hl 2 rfl) ?_
              refine lv_icmp_gt (tgt := 159) C.1 C.2.1 d_Md_ring_67 (by decide) (fun c_16 => ?_) (fun c_16 => ?_)
              · -- 67 -> 159
                skip
                refine lv_iconst (v := nI 0) C.1 C.2.1 d_Md_ring_159 rfl ?_
                exact gr_i C hlk hret rfl hh (by refine Or.inr (Or.inr ⟨by assumption, by assumption, ?_⟩); rw [nN_nI (by omega), nN_nI (by omega), enm, nN_nI (by omega)]; exact ringP_no (hRa.trans (rgA_out (by assumption)))) d_Md_ring_160
              · -- 67 -> 70
                skip
                have lo_a : a.toInt ≤ ((k_13 : Nat) : Int) := by have q := Int32.not_lt.mp (by assumption : ¬ nI k_13 < a); rw [Int32.le_iff_toInt_le, nI_toInt (by omega)] at q; exact q
                refine lv_iload C.1 C.2.1 d_Md_ring_70 (lv_at hl 4 rfl) ?_
                refine lv_ineg C.1 C.2.1 d_Md_ring_72 ?_
                refine lv_istore (lv' := [(7, .int (-(nI 0))), (0, .ref r), (1, .int (nI j_6)), (2, .int (nI k_13)), (3, .int (-(nI k_13))), (4, .int (nI 0)), (5, .int (nI 0)), (6, .int a)]) C.1 C.2.1 d_Md_ring_73 hl (by decide) rfl (fun ls hl => ?_)
                have K75 : ∀ (n_75 : Nat) (fb : Nat) (b : Int32) (tb : V3) (hb1 : -7 ≤ b.toInt) (hb2 : b.toInt ≤ 7) (hb3 : ((0 : Nat) : Int) + 1 - b.toInt < (fb : Int)) (hRb : rgB (kb I r j_6) (nI 0) (nI 0) a 14 (-(nI 0)) = rgB (kb I r j_6) (nI 0) (nI 0) a fb b) (hm_75 : fb < n_75), ∀ (H : Heap) (locs : List Loc) (ls : Array Slot), gm_St D cs sh (gm_A sh) s'.heap sz I (xyz J r tb) H locs → lv_has ls 10 [(0, .ref r), (1, .int (nI j_6)), (2, .int (nI k_13)), (3, .int (-(nI k_13))), (4, .int (nI 0)), (5, .int (nI 0)), (6, .int a), (7, .int b)] → W p' l e' { frames := 4, cells := 0, slots := 0, locals := 101 } s' m' ([.ref r, .int (nI j_6), .int (nI k_13)] : List Value).toArray be' me' co' H locs 0 0 (MQ be' (va_Qi (fun z u => (lpB I r (nI j_6) = false ∧ z = -2 ∧ u = (I, J)) ∨ (lpB I r (nI j_6) = true ∧ inI (nI k_13) (nI 0) (nI 6) = false ∧ z = -3 ∧ u = (I, J)) ∨ (lpB I r (nI j_6) = true ∧ inI (nI k_13) (nI 0) (nI 6) = true ∧ ringP I J r (nN (nI j_6)) (nN (nI k_13)) (nN (I (r + 1) (nN (nI j_6)))) z u)) (gm_B D cs sh sz) (gm_A sh)) ([.ref r, .int (nI j_6), .int (nI k_13)] : List Value).toArray s' 0 0 (gm_A sh)) (F0 m' 75 ls []) := by
                  intro n_75
                  induction n_75 with
                  | zero => intro fb b tb hb1 hb2 hb3 hRb hm_75; exact absurd hm_75 (Nat.not_lt_zero _)
                  | succ n_75 ih75 =>
                    intro fb b tb hb1 hb2 hb3 hRb hm_75 H locs ls hh hl
                    refine lv_iload C.1 C.2.1 d_Md_ring_75 (lv_at hl 7 rfl) ?_
                    refine lv_iload C.1 C.2.1 d_Md_ring_77 (lv_at hl 4 rfl) ?_
                    refine lv_icmp_gt (tgt := 153) C.1 C.2.1 d_Md_ring_79 (by decide) (fun c_17 => ?_) (fun c_17 => ?_)
                    · -- 79 -> 153
                      skip
                      obtain ⟨x_18, ex_18⟩ : ∃ z : Int32, z = a + Int32.ofInt 1 := ⟨_, rfl⟩
                      refine lv_iinc (v := x_18) (lv' := [(6, .int x_18), (0, .ref r), (1, .int (nI j_6)), (2, .int (nI k_13)), (3, .int (-(nI k_13))), (4, .int (nI 0)), (5, .int (nI 0)), (7, .int b)]) C.1 C.2.1 d_Md_ring_153 hl (k := 6) rfl (ex_18.symm) (by decide) rfl (fun ls hl => ?_)
                      refine lv_goto (tgt := 64) C.1 C.2.1 d_Md_ring_156 (by decide) ?_
                      have nx_a : x_18.toInt = a.toInt + 1 := by rw [ex_18]; exact incT (by omega) (by omega)
                      obtain ⟨ga, ega⟩ : ∃ z, fa = z + 1 := ⟨fa - 1, by have := lo_a; omega⟩
                      exact ih64 ga x_18 tb (by omega) (by have := lo_a; omega) (by omega) (by rw [hRa, ega, ex_18]; exact rgA_on (by assumption) (hRb.trans (rgB_out (by assumption)))) (by omega) _ _ _ hh (lv_sub hl [1, 2, 3, 4, 5, 6, 0] rfl)
                    · -- 79 -> 82
                      skip
                      have lo_b : b.toInt ≤ ((0 : Nat) : Int) := by have q := Int32.not_lt.mp (by assumption : ¬ nI 0 < b); rw [Int32.le_iff_toInt_le, nI_toInt (by omega)] at q; exact q
                      refine lv_iload C.1 C.2.1 d_Md_ring_82 (lv_at hl 5 rfl) ?_
                      refine lv_ineg C.1 C.2.1 d_Md_ring_84 ?_
                      refine lv_istore (lv' := [(8, .int (-(nI 0))), (0, .ref r), (1, .int (nI j_6)), (2, .int (nI k_13)), (3, .int (-(nI k_13))), (4, .int (nI 0)), (5, .int (nI 0)), (6, .int a), (7, .int b)]) C.1 C.2.1 d_Md_ring_85 hl (by decide) rfl (fun ls hl => ?_)
                      have K87 : ∀ (n_87 : Nat) (fc : Nat) (c : Int32) (tc : V3) (hc1 : -7 ≤ c.toInt) (hc2 : c.toInt ≤ 7) (hc3 : ((0 : Nat) : Int) + 1 - c.toInt < (fc : Int)) (hRc : rgC (kb I r j_6) (nI 0) a b 14 (-(nI 0)) = rgC (kb I r j_6) (nI 0) a b fc c) (hm_87 : fc < n_87), ∀ (H : Heap) (locs : List Loc) (ls : Array Slot), gm_St D cs sh (gm_A sh) s'.heap sz I (xyz J r tc) H locs → lv_has ls 10 [(0, .ref r), (1, .int (nI j_6)), (2, .int (nI k_13)), (3, .int (-(nI k_13))), (4, .int (nI 0)), (5, .int (nI 0)), (6, .int a), (7, .int b), (8, .int c)] → W p' l e' { frames := 4, cells := 0, slots := 0, locals := 101 } s' m' ([.ref r, .int (nI j_6), .int (nI k_13)] : List Value).toArray be' me' co' H locs 0 0 (MQ be' (va_Qi (fun z u => (lpB I r (nI j_6) = false ∧ z = -2 ∧ u = (I, J)) ∨ (lpB I r (nI j_6) = true ∧ inI (nI k_13) (nI 0) (nI 6) = false ∧ z = -3 ∧ u = (I, J)) ∨ (lpB I r (nI j_6) = true ∧ inI (nI k_13) (nI 0) (nI 6) = true ∧ ringP I J r (nN (nI j_6)) (nN (nI k_13)) (nN (I (r + 1) (nN (nI j_6)))) z u)) (gm_B D cs sh sz) (gm_A sh)) ([.ref r, .int (nI j_6), .int (nI k_13)] : List Value).toArray s' 0 0 (gm_A sh)) (F0 m' 87 ls []) := by
                        intro n_87
                        induction n_87 with
                        | zero => intro fc c tc hc1 hc2 hc3 hRc hm_87; exact absurd hm_87 (Nat.not_lt_zero _)
                        | succ n_87 ih87 =>
                          intro fc c tc hc1 hc2 hc3 hRc hm_87 H locs ls hh hl
                          refine lv_iload C.1 C.2.1 d_Md_ring_87 (lv_at hl 8 rfl) ?_
                          refine lv_iload C.1 C.2.1 d_Md_ring_89 (lv_at hl 5 rfl) ?_
                          refine lv_icmp_gt (tgt := 147) C.1 C.2.1 d_Md_ring_91 (by decide) (fun c_19 => ?_) (fun c_19 => ?_)
                          · -- 91 -> 147
                            skip
                            obtain ⟨x_20, ex_20⟩ : ∃ z : Int32, z = b + Int32.ofInt 1 := ⟨_, rfl⟩
                            refine lv_iinc (v := x_20) (lv' := [(7, .int x_20), (0, .ref r), (1, .int (nI j_6)), (2, .int (nI k_13)), (3, .int (-(nI k_13))), (4, .int (nI 0)), (5, .int (nI 0)), (6, .int a), (8, .int c)]) C.1 C.2.1 d_Md_ring_147 hl (k := 7) rfl (ex_20.symm) (by decide) rfl (fun ls hl => ?_)
                            refine lv_goto (tgt := 75) C.1 C.2.1 d_Md_ring_150 (by decide) ?_
                            have nx_b : x_20.toInt = b.toInt + 1 := by rw [ex_20]; exact incT (by omega) (by omega)
                            obtain ⟨gb, egb⟩ : ∃ z, fb = z + 1 := ⟨fb - 1, by have := lo_b; omega⟩
                            exact ih75 gb x_20 tc (by omega) (by have := lo_b; omega) (by omega) (by rw [hRb, egb, ex_20]; exact rgB_on (by assumption) (hRc.trans (rgC_out (by assumption)))) (by omega) _ _ _ hh (lv_sub hl [1, 2, 3, 4, 5, 6, 7, 0] rfl)
                          · -- 91 -> 94
                            skip
                            have lo_c : c.toInt ≤ ((0 : Nat) : Int) := by have q := Int32.not_lt.mp (by assumption : ¬ nI 0 < c); rw [Int32.le_iff_toInt_le, nI_toInt (by omega)] at q; exact q
                            refine lv_aload_n C.1 C.2.1 d_Md_ring_94 rfl (lv_at hl 0 rfl) ?_
                            refine lv_iload_n C.1 C.2.1 d_Md_ring_95 rfl (lv_at hl 1 rfl) ?_
                            refine lv_iload C.1 C.2.1 d_Md_ring_96 (lv_at hl 6 rfl) ?_
                            refine lv_iload C.1 C.2.1 d_Md_ring_98 (lv_at hl 7 rfl) ?_
                            refine lv_iload C.1 C.2.1 d_Md_ring_100 (lv_at hl 8 rfl) ?_
                            refine gc_i hh (gc_runV (As := [.int (nI j_6), .int a, .int b, .int c]) (rest := []) (n := 4) C hml hh (c_Md_comesBack l D cs sh sz I (xyz J r tc) r hM hV j_6 (by omega) a b c) (tg_V tw_903 tw_905 tw_55 tw_64 tw_906) (by decide +kernel) ⟨rfl, rfl, by decide, by decide, Nat.zero_le _, Nat.zero_le _⟩ (Md_0 hM) rfl rfl hl.1 rfl (Nat.le_of_ble_eq_true rfl) d_Md_ring_102) (fun r_21 I_22 J_23 H locs hr_21 hh => ?_)
                            obtain ⟨hr_21, t_25, qhr_21⟩ := hr_21
                            rw [xyz_xyz] at qhr_21
                            rw [(Prod.mk.inj qhr_21).1, (Prod.mk.inj qhr_21).2] at hh
                            obtain ⟨k_24, ek_24⟩ : ∃ z : Nat, z = kb I r j_6 a b c := ⟨_, rfl⟩
                            have lk_24 : k_24 ≤ 200 := by rw [ek_24]; exact kb_le _ _ _ _ _ _
                            replace hr_21 : r_21 = nI k_24 := by rw [hr_21, ek_24]; rfl
                            rw [hr_21]
                            refine lv_istore (lv' := [(9, .int (nI k_24)), (0, .ref r), (1, .int (nI j_6)), (2, .int (nI k_13)), (3, .int (-(nI k_13))), (4, .int (nI 0)), (5, .int (nI 0)), (6, .int a), (7, .int b), (8, .int c)]) C.1 C.2.1 d_Md_ring_105 hl (by decide) rfl (fun ls hl => ?_)
                            refine lv_iload C.1 C.2.1 d_Md_ring_107 (lv_at hl 0 rfl) ?_
                            refine lv_if_le (tgt := 141) C.1 C.2.1 d_Md_ring_109 (by decide) (fun c_26 => ?_) (fun c_26 => ?_)
                            · -- 109 -> 141
                              have c_26 := gm_let (b := 0) (by omega) (by omega) c_26
                              have c_26' := Nat.not_lt.mpr c_26
                              obtain ⟨x_27, ex_27⟩ : ∃ z : Int32, z = c + Int32.ofInt 1 := ⟨_, rfl⟩
                              refine lv_iinc (v := x_27) (lv' := [(8, .int x_27), (9, .int (nI k_24)), (0, .ref r), (1, .int (nI j_6)), (2, .int (nI k_13)), (3, .int (-(nI k_13))), (4, .int (nI 0)), (5, .int (nI 0)), (6, .int a), (7, .int b)]) C.1 C.2.1 d_Md_ring_141 hl (k := 9) rfl (ex_27.symm) (by decide) rfl (fun ls hl => ?_)
                              refine lv_goto (tgt := 87) C.1 C.2.1 d_Md_ring_144 (by decide) ?_
                              have nx_c : x_27.toInt = c.toInt + 1 := by rw [ex_27]; exact incT (by omega) (by omega)
                              obtain ⟨gc, egc⟩ : ∃ z, fc = z + 1 := ⟨fc - 1, by have := lo_c; omega⟩
                              exact ih87 gc x_27 t_25 (by omega) (by have := lo_c; omega) (by omega) (by rw [hRc, egc, ex_27]; exact rgC_on (by assumption) (by rw [← ek_24]; omega)) (by omega) _ _ _ hh (lv_sub hl [2, 3, 4, 5, 6, 7, 8, 9, 0] rfl)
                            · -- 109 -> 112
                              have c_26 := gm_lef (b := 0) (by omega) (by omega) c_26
                              have c_26' := Nat.not_le.mpr c_26
                              refine lv_aload_n C.1 C.2.1 d_Md_ring_112 rfl (lv_at hl 1 rfl) ?_
                              refine lv_iload C.1 C.2.1 d_Md_ring_113 (lv_at hl 7 rfl) ?_
                              refine lv_i2l (v := a.toInt64) C.1 C.2.1 d_Md_ring_115 rfl ?_
                              refine gp_l C hh (Md_0 hM) rfl in_Md t_Md t_Md_ok n_Md 35 (by decide) rfl tw_600 rfl rfl (by decide +kernel) d_Md_ring_116 (fun H locs hh => ?_)
                              obtain ⟨J_28, eJ_28⟩ : ∃ z : gm_J, z = gm_up (xyz J r t_25) r 35 a.toInt64 := ⟨_, rfl⟩
                              rw [← eJ_28] at hh
                              refine lv_aload_n C.1 C.2.1 d_Md_ring_119 rfl (lv_at hl 1 rfl) ?_
                              refine lv_iload C.1 C.2.1 d_Md_ring_120 (lv_at hl 8 rfl) ?_
                              refine lv_i2l (v := b.toInt64) C.1 C.2.1 d_Md_ring_122 rfl ?_
                              refine gp_l C hh (Md_0 hM) rfl in_Md t_Md t_Md_ok n_Md 36 (by decide) rfl tw_601 rfl rfl (by decide +kernel) d_Md_ring_123 (fun H locs hh => ?_)
                              obtain ⟨J_29, eJ_29⟩ : ∃ z : gm_J, z = gm_up J_28 r 36 b.toInt64 := ⟨_, rfl⟩
                              rw [← eJ_29] at hh
                              refine lv_aload_n C.1 C.2.1 d_Md_ring_126 rfl (lv_at hl 1 rfl) ?_
                              refine lv_iload C.1 C.2.1 d_Md_ring_127 (lv_at hl 9 rfl) ?_
                              refine lv_i2l (v := c.toInt64) C.1 C.2.1 d_Md_ring_129 rfl ?_
                              refine gp_l C hh (Md_0 hM) rfl in_Md t_Md t_Md_ok n_Md 37 (by decide) rfl tw_602 rfl rfl (by decide +kernel) d_Md_ring_130 (fun H locs hh => ?_)
                              obtain ⟨J_30, eJ_30⟩ : ∃ z : gm_J, z = gm_up J_29 r 37 c.toInt64 := ⟨_, rfl⟩
                              rw [← eJ_30] at hh
                              have hh : gm_St D cs sh (gm_A sh) s'.heap sz I (xyz J r (v3 a b c)) H locs := by rw [← xyz_xyz J r t_25 (v3 a b c)]; simp only [eJ_28, eJ_29, eJ_30] at hh; exact hh
                              refine lv_aload_n C.1 C.2.1 d_Md_ring_133 rfl (lv_at hl 1 rfl) ?_
                              refine lv_iload_n C.1 C.2.1 d_Md_ring_134 rfl (lv_at hl 2 rfl) ?_
                              refine gc_v hh (gc_runV (As := [.int (nI j_6)]) (rest := []) (n := 1) C hml hh (c_Md_stay l D cs sh sz I (xyz J r (v3 a b c)) r hM j_6 (by omega)) (tg_V tw_887 tw_889 tw_54 tw_64 tw_890) (by decide +kernel) ⟨rfl, rfl, by decide, by decide, Nat.zero_le _, Nat.zero_le _⟩ (Md_0 hM) rfl rfl hl.1 rfl (Nat.le_of_ble_eq_true rfl) d_Md_ring_135) (fun I_32 J_33 H locs hr_31 hh => ?_)
                              rw [stay_is J r j_6 (v3 a b c) rfl] at hr_31
                              rw [(Prod.mk.inj hr_31).1, (Prod.mk.inj hr_31).2] at hh
                              refine lv_iload C.1 C.2.1 d_Md_ring_138 (lv_at hl 0 rfl) ?_
                              exact gr_i C hlk hret rfl hh (by refine Or.inr (Or.inr ⟨by assumption, by assumption, ?_⟩); rw [nN_nI (by omega), nN_nI (by omega), enm, nN_nI (by omega)]; obtain ⟨ga, ega⟩ : ∃ z, fa = z + 1 := ⟨fa - 1, by have := lo_a; omega⟩; obtain ⟨gb, egb⟩ : ∃ z, fb = z + 1 := ⟨fb - 1, by have := lo_b; omega⟩; obtain ⟨gc, egc⟩ : ∃ z, fc = z + 1 := ⟨fc - 1, by have := lo_c; omega⟩; exact ringP_yes (hRa.trans (by rw [ega]; exact rgA_yes (by assumption) (hRb.trans (by rw [egb]; exact rgB_yes (by assumption) (hRc.trans (by rw [egc, ek_24]; exact rgC_yes (by assumption) (by rw [← ek_24]; omega))))))) lk_24) d_Md_ring_140
                      exact K87 _ 14 (-(nI 0)) tb (by rw [negN (by omega)]; omega) (by rw [negN (by omega)]; omega) (by rw [negN (by omega)]; omega) (by rfl) (Nat.lt_succ_self _) _ _ _ hh (lv_sub hl [1, 2, 3, 4, 5, 6, 7, 8, 0] rfl)
                exact K75 _ 14 (-(nI 0)) ta (by rw [negN (by omega)]; omega) (by rw [negN (by omega)]; omega) (by rw [negN (by omega)]; omega) (by rfl) (Nat.lt_succ_self _) _ _ _ hh (lv_sub hl [1, 2, 3, 4, 5, 6, 7, 0] rfl)
          exact K64 _ 14 (-(nI k_13)) (T3 J r) (by rw [negN (by omega)]; omega) (by rw [negN (by omega)]; omega) (by rw [negN (by omega)]; omega) (by exact hR) (Nat.lt_succ_self _) _ _ _ hh (lv_sub hl [4, 5, 6, 3, 2, 1, 0] rfl)
        · -- 51 -> 54
          have c_15 := gm_lef (by omega) (by omega) c_15
          have c_15' := Nat.not_le.mpr c_15
          refine lv_iload_n C.1 C.2.1 d_Md_ring_54 rfl (lv_at hl 4 rfl) ?_
          refine lv_goto (tgt := 59) C.1 C.2.1 d_Md_ring_55 (by decide) ?_
          refine lv_istore (lv' := [(5, .int (nI k_13)), (4, .int (nI 0)), (3, .int (-(nI k_13))), (0, .ref r), (1, .int (nI j_6)), (2, .int (nI k_13))]) C.1 C.2.1 d_Md_ring_59 hl (by decide) rfl (fun ls hl => ?_)
          refine lv_iload_n C.1 C.2.1 d_Md_ring_61 rfl (lv_at hl 2 rfl) ?_
          refine lv_istore (lv' := [(6, .int (-(nI k_13))), (5, .int (nI k_13)), (4, .int (nI 0)), (3, .int (-(nI k_13))), (0, .ref r), (1, .int (nI j_6)), (2, .int (nI k_13))]) C.1 C.2.1 d_Md_ring_62 hl (by decide) rfl (fun ls hl => ?_)
          have hh : gm_St D cs sh (gm_A sh) s'.heap sz I (xyz J r (T3 J r)) H locs := by rw [xyz_self]; exact hh
          have hR : ringR I r j_6 k_13 nm = rgA (kb I r j_6) (nI k_13) (nI 0) (nI k_13) 14 (-(nI k_13)) := by unfold ringR; first | (exfalso; omega) | rw [if_pos (by omega), if_pos (by omega)] | rw [if_neg (by omega), if_pos (by omega)] | rw [if_neg (by omega), if_neg (by omega)] | (exfalso; omega)
          have K64 : ∀ (n_64 : Nat) (fa : Nat) (a : Int32) (ta : V3) (ha1 : -7 ≤ a.toInt) (ha2 : a.toInt ≤ 7) (ha3 : ((k_13 : Nat) : Int) + 1 - a.toInt < (fa : Int)) (hRa : ringR I r j_6 k_13 nm = rgA (kb I r j_6) (nI k_13) (nI 0) (nI k_13) fa a) (hm_64 : fa < n_64), ∀ (H : Heap) (locs : List Loc) (ls : Array Slot), gm_St D cs sh (gm_A sh) s'.heap sz I (xyz J r ta) H locs → lv_has ls 10 [(0, .ref r), (1, .int (nI j_6)), (2, .int (nI k_13)), (3, .int (-(nI k_13))), (4, .int (nI 0)), (5, .int (nI k_13)), (6, .int a)] → W p' l e' { frames := 4, cells := 0, slots := 0, locals := 101 } s' m' ([.ref r, .int (nI j_6), .int (nI k_13)] : List Value).toArray be' me' co' H locs 0 0 (MQ be' (va_Qi (fun z u => (lpB I r (nI j_6) = false ∧ z = -2 ∧ u = (I, J)) ∨ (lpB I r (nI j_6) = true ∧ inI (nI k_13) (nI 0) (nI 6) = false ∧ z = -3 ∧ u = (I, J)) ∨ (lpB I r (nI j_6) = true ∧ inI (nI k_13) (nI 0) (nI 6) = true ∧ ringP I J r (nN (nI j_6)) (nN (nI k_13)) (nN (I (r + 1) (nN (nI j_6)))) z u)) (gm_B D cs sh sz) (gm_A sh)) ([.ref r, .int (nI j_6), .int (nI k_13)] : List Value).toArray s' 0 0 (gm_A sh)) (F0 m' 64 ls []) := by
            intro n_64
            induction n_64 with
            | zero => intro fa a ta ha1 ha2 ha3 hRa hm_64; exact absurd hm_64 (Nat.not_lt_zero _)
            | succ n_64 ih64 =>
              intro fa a ta ha1 ha2 ha3 hRa hm_64 H locs ls hh hl
              refine lv_iload C.1 C.2.1 d_Md_ring_64 (lv_at hl 6 rfl) ?_
              refine lv_iload_n C.1 C.2.1 d_Md_ring_66 rfl (lv_at hl 2 rfl) ?_
              refine lv_icmp_gt (tgt := 159) C.1 C.2.1 d_Md_ring_67 (by decide) (fun c_34 => ?_) (fun c_34 => ?_)
              · -- 67 -> 159
                skip
                refine lv_iconst (v := nI 0) C.1 C.2.1 d_Md_ring_159 rfl ?_
                exact gr_i C hlk hret rfl hh (by refine Or.inr (Or.inr ⟨by assumption, by assumption, ?_⟩); rw [nN_nI (by omega), nN_nI (by omega), enm, nN_nI (by omega)]; exact ringP_no (hRa.trans (rgA_out (by assumption)))) d_Md_ring_160
              · -- 67 -> 70
                skip
                have lo_a : a.toInt ≤ ((k_13 : Nat) : Int) := by have q := Int32.not_lt.mp (by assumption : ¬ nI k_13 < a); rw [Int32.le_iff_toInt_le, nI_toInt (by omega)] at q; exact q
                refine lv_iload C.1 C.2.1 d_Md_ring_70 (lv_at hl 4 rfl) ?_
                refine lv_ineg C.1 C.2.1 d_Md_ring_72 ?_
                refine lv_istore (lv' := [(7, .int (-(nI 0))), (0, .ref r), (1, .int (nI j_6)), (2, .int (nI k_13)), (3, .int (-(nI k_13))), (4, .int (nI 0)), (5, .int (nI k_13)), (6, .int a)]) C.1 C.2.1 d_Md_ring_73 hl (by decide) rfl (fun ls hl => ?_)
                have K75 : ∀ (n_75 : Nat) (fb : Nat) (b : Int32) (tb : V3) (hb1 : -7 ≤ b.toInt) (hb2 : b.toInt ≤ 7) (hb3 : ((0 : Nat) : Int) + 1 - b.toInt < (fb : Int)) (hRb : rgB (kb I r j_6) (nI 0) (nI k_13) a 14 (-(nI 0)) = rgB (kb I r j_6) (nI 0) (nI k_13) a fb b) (hm_75 : fb < n_75), ∀ (H : Heap) (locs : List Loc) (ls : Array Slot), gm_St D cs sh (gm_A sh) s'.heap sz I (xyz J r tb) H locs → lv_has ls 10 [(0, .ref r), (1, .int (nI j_6)), (2, .int (nI k_13)), (3, .int (-(nI k_13))), (4, .int (nI 0)), (5, .int (nI k_13)), (6, .int a), (7, .int b)] → W p' l e' { frames := 4, cells := 0, slots := 0, locals := 101 } s' m' ([.ref r, .int (nI j_6), .int (nI k_13)] : List Value).toArray be' me' co' H locs 0 0 (MQ be' (va_Qi (fun z u => (lpB I r (nI j_6) = false ∧ z = -2 ∧ u = (I, J)) ∨ (lpB I r (nI j_6) = true ∧ inI (nI k_13) (nI 0) (nI 6) = false ∧ z = -3 ∧ u = (I, J)) ∨ (lpB I r (nI j_6) = true ∧ inI (nI k_13) (nI 0) (nI 6) = true ∧ ringP I J r (nN (nI j_6)) (nN (nI k_13)) (nN (I (r + 1) (nN (nI j_6)))) z u)) (gm_B D cs sh sz) (gm_A sh)) ([.ref r, .int (nI j_6), .int (nI k_13)] : List Value).toArray s' 0 0 (gm_A sh)) (F0 m' 75 ls []) := by
                  intro n_75
                  induction n_75 with
                  | zero => intro fb b tb hb1 hb2 hb3 hRb hm_75; exact absurd hm_75 (Nat.not_lt_zero _)
                  | succ n_75 ih75 =>
                    intro fb b tb hb1 hb2 hb3 hRb hm_75 H locs ls hh hl
                    refine lv_iload C.1 C.2.1 d_Md_ring_75 (lv_at hl 7 rfl) ?_
                    refine lv_iload C.1 C.2.1 d_Md_ring_77 (lv_at hl 4 rfl) ?_
                    refine lv_icmp_gt (tgt := 153) C.1 C.2.1 d_Md_ring_79 (by decide) (fun c_35 => ?_) (fun c_35 => ?_)
                    · -- 79 -> 153
                      skip
                      obtain ⟨x_36, ex_36⟩ : ∃ z : Int32, z = a + Int32.ofInt 1 := ⟨_, rfl⟩
                      refine lv_iinc (v := x_36) (lv' := [(6, .int x_36), (0, .ref r), (1, .int (nI j_6)), (2, .int (nI k_13)), (3, .int (-(nI k_13))), (4, .int (nI 0)), (5, .int (nI k_13)), (7, .int b)]) C.1 C.2.1 d_Md_ring_153 hl (k := 6) rfl (ex_36.symm) (by decide) rfl (fun ls hl => ?_)
                      refine lv_goto (tgt := 64) C.1 C.2.1 d_Md_ring_156 (by decide) ?_
                      have nx_a : x_36.toInt = a.toInt + 1 := by rw [ex_36]; exact incT (by omega) (by omega)
                      obtain ⟨ga, ega⟩ : ∃ z, fa = z + 1 := ⟨fa - 1, by have := lo_a; omega⟩
                      exact ih64 ga x_36 tb (by omega) (by have := lo_a; omega) (by omega) (by rw [hRa, ega, ex_36]; exact rgA_on (by assumption) (hRb.trans (rgB_out (by assumption)))) (by omega) _ _ _ hh (lv_sub hl [1, 2, 3, 4, 5, 6, 0] rfl)
                    · -- 79 -> 82
                      skip
                      have lo_b : b.toInt ≤ ((0 : Nat) : Int) := by have q := Int32.not_lt.mp (by assumption : ¬ nI 0 < b); rw [Int32.le_iff_toInt_le, nI_toInt (by omega)] at q; exact q
                      refine lv_iload C.1 C.2.1 d_Md_ring_82 (lv_at hl 5 rfl) ?_
                      refine lv_ineg C.1 C.2.1 d_Md_ring_84 ?_
                      refine lv_istore (lv' := [(8, .int (-(nI k_13))), (0, .ref r), (1, .int (nI j_6)), (2, .int (nI k_13)), (3, .int (-(nI k_13))), (4, .int (nI 0)), (5, .int (nI k_13)), (6, .int a), (7, .int b)]) C.1 C.2.1 d_Md_ring_85 hl (by decide) rfl (fun ls hl => ?_)
                      have K87 : ∀ (n_87 : Nat) (fc : Nat) (c : Int32) (tc : V3) (hc1 : -7 ≤ c.toInt) (hc2 : c.toInt ≤ 7) (hc3 : ((k_13 : Nat) : Int) + 1 - c.toInt < (fc : Int)) (hRc : rgC (kb I r j_6) (nI k_13) a b 14 (-(nI k_13)) = rgC (kb I r j_6) (nI k_13) a b fc c) (hm_87 : fc < n_87), ∀ (H : Heap) (locs : List Loc) (ls : Array Slot), gm_St D cs sh (gm_A sh) s'.heap sz I (xyz J r tc) H locs → lv_has ls 10 [(0, .ref r), (1, .int (nI j_6)), (2, .int (nI k_13)), (3, .int (-(nI k_13))), (4, .int (nI 0)), (5, .int (nI k_13)), (6, .int a), (7, .int b), (8, .int c)] → W p' l e' { frames := 4, cells := 0, slots := 0, locals := 101 } s' m' ([.ref r, .int (nI j_6), .int (nI k_13)] : List Value).toArray be' me' co' H locs 0 0 (MQ be' (va_Qi (fun z u => (lpB I r (nI j_6) = false ∧ z = -2 ∧ u = (I, J)) ∨ (lpB I r (nI j_6) = true ∧ inI (nI k_13) (nI 0) (nI 6) = false ∧ z = -3 ∧ u = (I, J)) ∨ (lpB I r (nI j_6) = true ∧ inI (nI k_13) (nI 0) (nI 6) = true ∧ ringP I J r (nN (nI j_6)) (nN (nI k_13)) (nN (I (r + 1) (nN (nI j_6)))) z u)) (gm_B D cs sh sz) (gm_A sh)) ([.ref r, .int (nI j_6), .int (nI k_13)] : List Value).toArray s' 0 0 (gm_A sh)) (F0 m' 87 ls []) := by
                        intro n_87
                        induction n_87 with
                        | zero => intro fc c tc hc1 hc2 hc3 hRc hm_87; exact absurd hm_87 (Nat.not_lt_zero _)
                        | succ n_87 ih87 =>
                          intro fc c tc hc1 hc2 hc3 hRc hm_87 H locs ls hh hl
                          refine lv_iload C.1 C.2.1 d_Md_ring_87 (lv_at hl 8 rfl) ?_
                          refine lv_iload C.1 C.2.1 d_Md_ring_89 (lv_at hl 5 rfl) ?_
                          refine lv_icmp_gt (tgt := 147) C.1 C.2.1 d_Md_ring_91 (by decide) (fun c_37 => ?_) (fun c_37 => ?_)
                          · -- 91 -> 147
                            skip
                            obtain ⟨x_38, ex_38⟩ : ∃ z : Int32, z = b + Int32.ofInt 1 := ⟨_, rfl⟩
                            refine lv_iinc (v := x_38) (lv' := [(7, .int x_38), (0, .ref r), (1, .int (nI j_6)), (2, .int (nI k_13)), (3, .int (-(nI k_13))), (4, .int (nI 0)), (5, .int (nI k_13)), (6, .int a), (8, .int c)]) C.1 C.2.1 d_Md_ring_147 hl (k := 7) rfl (ex_38.symm) (by decide) rfl (fun ls hl => ?_)
                            refine lv_goto (tgt := 75) C.1 C.2.1 d_Md_ring_150 (by decide) ?_
                            have nx_b : x_38.toInt = b.toInt + 1 := by rw [ex_38]; exact incT (by omega) (by omega)
                            obtain ⟨gb, egb⟩ : ∃ z, fb = z + 1 := ⟨fb - 1, by have := lo_b; omega⟩
                            exact ih75 gb x_38 tc (by omega) (by have := lo_b; omega) (by omega) (by rw [hRb, egb, ex_38]; exact rgB_on (by assumption) (hRc.trans (rgC_out (by assumption)))) (by omega) _ _ _ hh (lv_sub hl [1, 2, 3, 4, 5, 6, 7, 0] rfl)
                          · -- 91 -> 94
                            skip
                            have lo_c : c.toInt ≤ ((k_13 : Nat) : Int) := by have q := Int32.not_lt.mp (by assumption : ¬ nI k_13 < c); rw [Int32.le_iff_toInt_le, nI_toInt (by omega)] at q; exact q
                            refine lv_aload_n C.1 C.2.1 d_Md_ring_94 rfl (lv_at hl 0 rfl) ?_
                            refine lv_iload_n C.1 C.2.1 d_Md_ring_95 rfl (lv_at hl 1 rfl) ?_
                            refine lv_iload C.1 C.2.1 d_Md_ring_96 (lv_at hl 6 rfl) ?_
                            refine lv_iload C.1 C.2.1 d_Md_ring_98 (lv_at hl 7 rfl) ?_
                            refine lv_iload C.1 C.2.1 d_Md_ring_100 (lv_at hl 8 rfl) ?_
                            refine gc_i hh (gc_runV (As := [.int (nI j_6), .int a, .int b, .int c]) (rest := []) (n := 4) C hml hh (c_Md_comesBack l D cs sh sz I (xyz J r tc) r hM hV j_6 (by omega) a b c) (tg_V tw_903 tw_905 tw_55 tw_64 tw_906) (by decide +kernel) ⟨rfl, rfl, by decide, by decide, Nat.zero_le _, Nat.zero_le _⟩ (Md_0 hM) rfl rfl hl.1 rfl (Nat.le_of_ble_eq_true rfl) d_Md_ring_102) (fun r_39 I_40 J_41 H locs hr_39 hh => ?_)
                            obtain ⟨hr_39, t_43, qhr_39⟩ := hr_39
                            rw [xyz_xyz] at qhr_39
                            rw [(Prod.mk.inj qhr_39).1, (Prod.mk.inj qhr_39).2] at hh
                            obtain ⟨k_42, ek_42⟩ : ∃ z : Nat, z = kb I r j_6 a b c := ⟨_, rfl⟩
                            have lk_42 : k_42 ≤ 200 := by rw [ek_42]; exact kb_le _ _ _ _ _ _
                            replace hr_39 : r_39 = nI k_42 := by rw [hr_39, ek_42]; rfl
                            rw [hr_39]
                            refine lv_istore (lv' := [(9, .int (nI k_42)), (0, .ref r), (1, .int (nI j_6)), (2, .int (nI k_13)), (3, .int (-(nI k_13))), (4, .int (nI 0)), (5, .int (nI k_13)), (6, .int a), (7, .int b), (8, .int c)]) C.1 C.2.1 d_Md_ring_105 hl (by decide) rfl (fun ls hl => ?_)
                            refine lv_iload C.1 C.2.1 d_Md_ring_107 (lv_at hl 0 rfl) ?_
                            refine lv_if_le (tgt := 141) C.1 C.2.1 d_Md_ring_109 (by decide) (fun c_44 => ?_) (fun c_44 => ?_)
                            · -- 109 -> 141
                              have c_44 := gm_let (b := 0) (by omega) (by omega) c_44
                              have c_44' := Nat.not_lt.mpr c_44
                              obtain ⟨x_45, ex_45⟩ : ∃ z : Int32, z = c + Int32.ofInt 1 := ⟨_, rfl⟩
                              refine lv_iinc (v := x_45) (lv' := [(8, .int x_45), (9, .int (nI k_42)), (0, .ref r), (1, .int (nI j_6)), (2, .int (nI k_13)), (3, .int (-(nI k_13))), (4, .int (nI 0)), (5, .int (nI k_13)), (6, .int a), (7, .int b)]) C.1 C.2.1 d_Md_ring_141 hl (k := 9) rfl (ex_45.symm) (by decide) rfl (fun ls hl => ?_)
                              refine lv_goto (tgt := 87) C.1 C.2.1 d_Md_ring_144 (by decide) ?_
                              have nx_c : x_45.toInt = c.toInt + 1 := by rw [ex_45]; exact incT (by omega) (by omega)
                              obtain ⟨gc, egc⟩ : ∃ z, fc = z + 1 := ⟨fc - 1, by have := lo_c; omega⟩
                              exact ih87 gc x_45 t_43 (by omega) (by have := lo_c; omega) (by omega) (by rw [hRc, egc, ex_45]; exact rgC_on (by assumption) (by rw [← ek_42]; omega)) (by omega) _ _ _ hh (lv_sub hl [2, 3, 4, 5, 6, 7, 8, 9, 0] rfl)
                            · -- 109 -> 112
                              have c_44 := gm_lef (b := 0) (by omega) (by omega) c_44
                              have c_44' := Nat.not_le.mpr c_44
                              refine lv_aload_n C.1 C.2.1 d_Md_ring_112 rfl (lv_at hl 1 rfl) ?_
                              refine lv_iload C.1 C.2.1 d_Md_ring_113 (lv_at hl 7 rfl) ?_
                              refine lv_i2l (v := a.toInt64) C.1 C.2.1 d_Md_ring_115 rfl ?_
                              refine gp_l C hh (Md_0 hM) rfl in_Md t_Md t_Md_ok n_Md 35 (by decide) rfl tw_600 rfl rfl (by decide +kernel) d_Md_ring_116 (fun H locs hh => ?_)
                              obtain ⟨J_46, eJ_46⟩ : ∃ z : gm_J, z = gm_up (xyz J r t_43) r 35 a.toInt64 := ⟨_, rfl⟩
                              rw [← eJ_46] at hh
                              refine lv_aload_n C.1 C.2.1 d_Md_ring_119 rfl (lv_at hl 1 rfl) ?_
                              refine lv_iload C.1 C.2.1 d_Md_ring_120 (lv_at hl 8 rfl) ?_
                              refine lv_i2l (v := b.toInt64) C.1 C.2.1 d_Md_ring_122 rfl ?_
                              refine gp_l C hh (Md_0 hM) rfl in_Md t_Md t_Md_ok n_Md 36 (by decide) rfl tw_601 rfl rfl (by decide +kernel) d_Md_ring_123 (fun H locs hh => ?_)
                              obtain ⟨J_47, eJ_47⟩ : ∃ z : gm_J, z = gm_up J_46 r 36 b.toInt64 := ⟨_, rfl⟩
                              rw [← eJ_47] at hh
                              refine lv_aload_n C.1 C.2.1 d_Md_ring_126 rfl (lv_at hl 1 rfl) ?_
                              refine lv_iload C.1 C.2.1 d_Md_ring_127 (lv_at hl 9 rfl) ?_
                              refine lv_i2l (v := c.toInt64) C.1 C.2.1 d_Md_ring_129 rfl ?_
                              refine gp_l C hh (Md_0 hM) rfl in_Md t_Md t_Md_ok n_Md 37 (by decide) rfl tw_602 rfl rfl (by decide +kernel) d_Md_ring_130 (fun H locs hh => ?_)
                              obtain ⟨J_48, eJ_48⟩ : ∃ z : gm_J, z = gm_up J_47 r 37 c.toInt64 := ⟨_, rfl⟩
                              rw [← eJ_48] at hh
                              have hh : gm_St D cs sh (gm_A sh) s'.heap sz I (xyz J r (v3 a b c)) H locs := by rw [← xyz_xyz J r t_43 (v3 a b c)]; simp only [eJ_46, eJ_47, eJ_48] at hh; exact hh
                              refine lv_aload_n C.1 C.2.1 d_Md_ring_133 rfl (lv_at hl 1 rfl) ?_
                              refine lv_iload_n C.1 C.2.1 d_Md_ring_134 rfl (lv_at hl 2 rfl) ?_
                              refine gc_v hh (gc_runV (As := [.int (nI j_6)]) (rest := []) (n := 1) C hml hh (c_Md_stay l D cs sh sz I (xyz J r (v3 a b c)) r hM j_6 (by omega)) (tg_V tw_887 tw_889 tw_54 tw_64 tw_890) (by decide +kernel) ⟨rfl, rfl, by decide, by decide, Nat.zero_le _, Nat.zero_le _⟩ (Md_0 hM) rfl rfl hl.1 rfl (Nat.le_of_ble_eq_true rfl) d_Md_ring_135) (fun I_50 J_51 H locs hr_49 hh => ?_)
                              rw [stay_is J r j_6 (v3 a b c) rfl] at hr_49
                              rw [(Prod.mk.inj hr_49).1, (Prod.mk.inj hr_49).2] at hh
                              refine lv_iload C.1 C.2.1 d_Md_ring_138 (lv_at hl 0 rfl) ?_
                              exact gr_i C hlk hret rfl hh (by refine Or.inr (Or.inr ⟨by assumption, by assumption, ?_⟩); rw [nN_nI (by omega), nN_nI (by omega), enm, nN_nI (by omega)]; obtain ⟨ga, ega⟩ : ∃ z, fa = z + 1 := ⟨fa - 1, by have := lo_a; omega⟩; obtain ⟨gb, egb⟩ : ∃ z, fb = z + 1 := ⟨fb - 1, by have := lo_b; omega⟩; obtain ⟨gc, egc⟩ : ∃ z, fc = z + 1 := ⟨fc - 1, by have := lo_c; omega⟩; exact ringP_yes (hRa.trans (by rw [ega]; exact rgA_yes (by assumption) (hRb.trans (by rw [egb]; exact rgB_yes (by assumption) (hRc.trans (by rw [egc, ek_42]; exact rgC_yes (by assumption) (by rw [← ek_42]; omega))))))) lk_42) d_Md_ring_140
                      exact K87 _ 14 (-(nI k_13)) tb (by rw [negN (by omega)]; omega) (by rw [negN (by omega)]; omega) (by rw [negN (by omega)]; omega) (by rfl) (Nat.lt_succ_self _) _ _ _ hh (lv_sub hl [1, 2, 3, 4, 5, 6, 7, 8, 0] rfl)
                exact K75 _ 14 (-(nI 0)) ta (by rw [negN (by omega)]; omega) (by rw [negN (by omega)]; omega) (by rw [negN (by omega)]; omega) (by rfl) (Nat.lt_succ_self _) _ _ _ hh (lv_sub hl [1, 2, 3, 4, 5, 6, 7, 0] rfl)
          exact K64 _ 14 (-(nI k_13)) (T3 J r) (by rw [negN (by omega)]; omega) (by rw [negN (by omega)]; omega) (by rw [negN (by omega)]; omega) (by exact hR) (Nat.lt_succ_self _) _ _ _ hh (lv_sub hl [4, 5, 6, 3, 2, 1, 0] rfl)
      · -- 34 -> 37
        have c_14 := gm_lef (by omega) (by omega) c_14
        have c_14' := Nat.not_le.mpr c_14
        refine lv_iload_n C.1 C.2.1 d_Md_ring_37 rfl (lv_at hl 3 rfl) ?_
        refine lv_goto (tgt := 42) C.1 C.2.1 d_Md_ring_38 (by decide) ?_
        refine lv_istore (lv' := [(4, .int (nI k_13)), (3, .int (-(nI k_13))), (0, .ref r), (1, .int (nI j_6)), (2, .int (nI k_13))]) C.1 C.2.1 d_Md_ring_42 hl (by decide) rfl (fun ls hl => ?_)
        refine lv_aload_n C.1 C.2.1 d_Md_ring_44 rfl (lv_at hl 2 rfl) ?_
        refine gg_r C hh (Md_0 hM) rfl in_Md 1 (by decide) rfl tw_566 rfl d_Md_ring_45 ?_
        refine lv_iload_n C.1 C.2.1 d_Md_ring_48 rfl (lv_at hl 3 rfl) ?_
        refine ga_i C hh (Md_1 hM) (k := j_6) rfl (by omega) (by omega) d_Md_ring_49 ?_
        refine gm_eqi enm ?_
        refine lv_iconst (v := nI 2) C.1 C.2.1 d_Md_ring_50 rfl ?_
        refine lv_icmp_le (tgt := 58) C.1 C.2.1 d_Md_ring_51 (by decide) (fun c_52 => ?_) (fun c_52 => ?_)
        · -- 51 -> 58
          have c_52 := gm_let (by omega) (by omega) c_52
          have c_52' := Nat.not_lt.mpr c_52
          refine lv_iconst (v := nI 0) C.1 C.2.1 d_Md_ring_58 rfl ?_
          refine lv_istore (lv' := [(5, .int (nI 0)), (4, .int (nI k_13)), (3, .int (-(nI k_13))), (0, .ref r), (1, .int (nI j_6)), (2, .int (nI k_13))]) C.1 C.2.1 d_Md_ring_59 hl (by decide) rfl (fun ls hl => ?_)
          refine lv_iload_n C.1 C.2.1 d_Md_ring_61 rfl (lv_at hl 2 rfl) ?_
          refine lv_istore (lv' := [(6, .int (-(nI k_13))), (5, .int (nI 0)), (4, .int (nI k_13)), (3, .int (-(nI k_13))), (0, .ref r), (1, .int (nI j_6)), (2, .int (nI k_13))]) C.1 C.2.1 d_Md_ring_62 hl (by decide) rfl (fun ls hl => ?_)
          have hh : gm_St D cs sh (gm_A sh) s'.heap sz I (xyz J r (T3 J r)) H locs := by rw [xyz_self]; exact hh
          have hR : ringR I r j_6 k_13 nm = rgA (kb I r j_6) (nI k_13) (nI k_13) (nI 0) 14 (-(nI k_13)) := by unfold ringR; first | (exfalso; omega) | rw [if_pos (by omega), if_pos (by omega)] | rw [if_neg (by omega), if_pos (by omega)] | rw [if_neg (by omega), if_neg (by omega)] | (exfalso; omega)
          have K64 : ∀ (n_64 : Nat) (fa : Nat) (a : Int32) (ta : V3) (ha1 : -7 ≤ a.toInt) (ha2 : a.toInt ≤ 7) (ha3 : ((k_13 : Nat) : Int) + 1 - a.toInt < (fa : Int)) (hRa : ringR I r j_6 k_13 nm = rgA (kb I r j_6) (nI k_13) (nI k_13) (nI 0) fa a) (hm_64 : fa < n_64), ∀ (H : Heap) (locs : List Loc) (ls : Array Slot), gm_St D cs sh (gm_A sh) s'.heap sz I (xyz J r ta) H locs → lv_has ls 10 [(0, .ref r), (1, .int (nI j_6)), (2, .int (nI k_13)), (3, .int (-(nI k_13))), (4, .int (nI k_13)), (5, .int (nI 0)), (6, .int a)] → W p' l e' { frames := 4, cells := 0, slots := 0, locals := 101 } s' m' ([.ref r, .int (nI j_6), .int (nI k_13)] : List Value).toArray be' me' co' H locs 0 0 (MQ be' (va_Qi (fun z u => (lpB I r (nI j_6) = false ∧ z = -2 ∧ u = (I, J)) ∨ (lpB I r (nI j_6) = true ∧ inI (nI k_13) (nI 0) (nI 6) = false ∧ z = -3 ∧ u = (I, J)) ∨ (lpB I r (nI j_6) = true ∧ inI (nI k_13) (nI 0) (nI 6) = true ∧ ringP I J r (nN (nI j_6)) (nN (nI k_13)) (nN (I (r + 1) (nN (nI j_6)))) z u)) (gm_B D cs sh sz) (gm_A sh)) ([.ref r, .int (nI j_6), .int (nI k_13)] : List Value).toArray s' 0 0 (gm_A sh)) (F0 m' 64 ls []) := by
            intro n_64
            induction n_64 with
            | zero => intro fa a ta ha1 ha2 ha3 hRa hm_64; exact absurd hm_64 (Nat.not_lt_zero _)
            | succ n_64 ih64 =>
              intro fa a ta ha1 ha2 ha3 hRa hm_64 H locs ls hh hl
              refine lv_iload C.1 C.2.1 d_Md_ring_64 (lv_at hl 6 rfl) ?_
              refine lv_iload_n C.1 C.2.1 d_Md_ring_66 rfl (lv_at hl 2 rfl) ?_
              refine lv_icmp_gt (tgt := 159) C.1 C.2.1 d_Md_ring_67 (by decide) (fun c_53 => ?_) (fun c_53 => ?_)
              · -- 67 -> 159
                skip
                refine lv_iconst (v := nI 0) C.1 C.2.1 d_Md_ring_159 rfl ?_
                exact gr_i C hlk hret rfl hh (by refine Or.inr (Or.inr ⟨by assumption, by assumption, ?_⟩); rw [nN_nI (by omega), nN_nI (by omega), enm, nN_nI (by omega)]; exact ringP_no (hRa.trans (rgA_out (by assumption)))) d_Md_ring_160
              · -- 67 -> 70
                skip
                have lo_a : a.toInt ≤ ((k_13 : Nat) : Int) := by have q := Int32.not_lt.mp (by assumption : ¬ nI k_13 < a); rw [Int32.le_iff_toInt_le, nI_toInt (by omega)] at q; exact q
                refine lv_iload C.1 C.2.1 d_Md_ring_70 (lv_at hl 4 rfl) ?_
                refine lv_ineg C.1 C.2.1 d_Md_ring_72 ?_
                refine lv_istore (lv' := [(7, .int (-(nI k_13))), (0, .ref r), (1, .int (nI j_6)), (2, .int (nI k_13)), (3, .int (-(nI k_13))), (4, .int (nI k_13)), (5, .int (nI 0)), (6, .int a)]) C.1 C.2.1 d_Md_ring_73 hl (by decide) rfl (fun ls hl => ?_)
                have K75 : ∀ (n_75 : Nat) (fb : Nat) (b : Int32) (tb : V3) (hb1 : -7 ≤ b.toInt) (hb2 : b.toInt ≤ 7) (hb3 : ((k_13 : Nat) : Int) + 1 - b.toInt < (fb : Int)) (hRb : rgB (kb I r j_6) (nI k_13) (nI 0) a 14 (-(nI k_13)) = rgB (kb I r j_6) (nI k_13) (nI 0) a fb b) (hm_75 : fb < n_75), ∀ (H : Heap) (locs : List Loc) (ls : Array Slot), gm_St D cs sh (gm_A sh) s'.heap sz I (xyz J r tb) H locs → lv_has ls 10 [(0, .ref r), (1, .int (nI j_6)), (2, .int (nI k_13)), (3, .int (-(nI k_13))), (4, .int (nI k_13)), (5, .int (nI 0)), (6, .int a), (7, .int b)] → W p' l e' { frames := 4, cells := 0, slots := 0, locals := 101 } s' m' ([.ref r, .int (nI j_6), .int (nI k_13)] : List Value).toArray be' me' co' H locs 0 0 (MQ be' (va_Qi (fun z u => (lpB I r (nI j_6) = false ∧ z = -2 ∧ u = (I, J)) ∨ (lpB I r (nI j_6) = true ∧ inI (nI k_13) (nI 0) (nI 6) = false ∧ z = -3 ∧ u = (I, J)) ∨ (lpB I r (nI j_6) = true ∧ inI (nI k_13) (nI 0) (nI 6) = true ∧ ringP I J r (nN (nI j_6)) (nN (nI k_13)) (nN (I (r + 1) (nN (nI j_6)))) z u)) (gm_B D cs sh sz) (gm_A sh)) ([.ref r, .int (nI j_6), .int (nI k_13)] : List Value).toArray s' 0 0 (gm_A sh)) (F0 m' 75 ls []) := by
                  intro n_75
                  induction n_75 with
                  | zero => intro fb b tb hb1 hb2 hb3 hRb hm_75; exact absurd hm_75 (Nat.not_lt_zero _)
                  | succ n_75 ih75 =>
                    intro fb b tb hb1 hb2 hb3 hRb hm_75 H locs ls hh hl
                    refine lv_iload C.1 C.2.1 d_Md_ring_75 (lv_at hl 7 rfl) ?_
                    refine lv_iload C.1 C.2.1 d_Md_ring_77 (lv_at hl 4 rfl) ?_
                    refine lv_icmp_gt (tgt := 153) C.1 C.2.1 d_Md_ring_79 (by decide) (fun c_54 => ?_) (fun c_54 => ?_)
                    · -- 79 -> 153
                      skip
                      obtain ⟨x_55, ex_55⟩ : ∃ z : Int32, z = a + Int32.ofInt 1 := ⟨_, rfl⟩
                      refine lv_iinc (v := x_55) (lv' := [(6, .int x_55), (0, .ref r), (1, .int (nI j_6)), (2, .int (nI k_13)), (3, .int (-(nI k_13))), (4, .int (nI k_13)), (5, .int (nI 0)), (7, .int b)]) C.1 C.2.1 d_Md_ring_153 hl (k := 6) rfl (ex_55.symm) (by decide) rfl (fun ls hl => ?_)
                      refine lv_goto (tgt := 64) C.1 C.2.1 d_Md_ring_156 (by decide) ?_
                      have nx_a : x_55.toInt = a.toInt + 1 := by rw [ex_55]; exact incT (by omega) (by omega)
                      obtain ⟨ga, ega⟩ : ∃ z, fa = z + 1 := ⟨fa - 1, by have := lo_a; omega⟩
                      exact ih64 ga x_55 tb (by omega) (by have := lo_a; omega) (by omega) (by rw [hRa, ega, ex_55]; exact rgA_on (by assumption) (hRb.trans (rgB_out (by assumption)))) (by omega) _ _ _ hh (lv_sub hl [1, 2, 3, 4, 5, 6, 0] rfl)
                    · -- 79 -> 82
                      skip
                      have lo_b : b.toInt ≤ ((k_13 : Nat) : Int) := by have q := Int32.not_lt.mp (by assumption : ¬ nI k_13 < b); rw [Int32.le_iff_toInt_le, nI_toInt (by omega)] at q; exact q
                      refine lv_iload C.1 C.2.1 d_Md_ring_82 (lv_at hl 5 rfl) ?_
                      refine lv_ineg C.1 C.2.1 d_Md_ring_84 ?_
                      refine lv_istore (lv' := [(8, .int (-(nI 0))), (0, .ref r), (1, .int (nI j_6)), (2, .int (nI k_13)), (3, .int (-(nI k_13))), (4, .int (nI k_13)), (5, .int (nI 0)), (6, .int a), (7, .int b)]) C.1 C.2.1 d_Md_ring_85 hl (by decide) rfl (fun ls hl => ?_)
                      have K87 : ∀ (n_87 : Nat) (fc : Nat) (c : Int32) (tc : V3) (hc1 : -7 ≤ c.toInt) (hc2 : c.toInt ≤ 7) (hc3 : ((0 : Nat) : Int) + 1 - c.toInt < (fc : Int)) (hRc : rgC (kb I r j_6) (nI 0) a b 14 (-(nI 0)) = rgC (kb I r j_6) (nI 0) a b fc c) (hm_87 : fc < n_87), ∀ (H : Heap) (locs : List Loc) (ls : Array Slot), gm_St D cs sh (gm_A sh) s'.heap sz I (xyz J r tc) H locs → lv_has ls 10 [(0, .ref r), (1, .int (nI j_6)), (2, .int (nI k_13)), (3, .int (-(nI k_13))), (4, .int (nI k_13)), (5, .int (nI 0)), (6, .int a), (7, .int b), (8, .int c)] → W p' l e' { frames := 4, cells := 0, slots := 0, locals := 101 } s' m' ([.ref r, .int (nI j_6), .int (nI k_13)] : List Value).toArray be' me' co' H locs 0 0 (MQ be' (va_Qi (fun z u => (lpB I r (nI j_6) = false ∧ z = -2 ∧ u = (I, J)) ∨ (lpB I r (nI j_6) = true ∧ inI (nI k_13) (nI 0) (nI 6) = false ∧ z = -3 ∧ u = (I, J)) ∨ (lpB I r (nI j_6) = true ∧ inI (nI k_13) (nI 0) (nI 6) = true ∧ ringP I J r (nN (nI j_6)) (nN (nI k_13)) (nN (I (r + 1) (nN (nI j_6)))) z u)) (gm_B D cs sh sz) (gm_A sh)) ([.ref r, .int (nI j_6), .int (nI k_13)] : List Value).toArray s' 0 0 (gm_A sh)) (F0 m' 87 ls []) := by
                        intro n_87
                        induction n_87 with
                        | zero => intro fc c tc hc1 hc2 hc3 hRc hm_87; exact absurd hm_87 (Nat.not_lt_zero _)
                        | succ n_87 ih87 =>
                          intro fc c tc hc1 hc2 hc3 hRc hm_87 H locs ls hh hl
                          refine lv_iload C.1 C.2.1 d_Md_ring_87 (lv_at hl 8 rfl) ?_
                          refine lv_iload C.1 C.2.1 d_Md_ring_89 (lv_at hl 5 rfl) ?_
                          refine lv_icmp_gt (tgt := 147) C.1 C.2.1 d_Md_ring_91 (by decide) (fun c_56 => ?_) (fun c_56 => ?_)
                          · -- 91 -> 147
                            skip
                            obtain ⟨x_57, ex_57⟩ : ∃ z : Int32, z = b + Int32.ofInt 1 := ⟨_, rfl⟩
                            refine lv_iinc (v := x_57) (lv' := [(7, .int x_57), (0, .ref r), (1, .int (nI j_6)), (2, .int (nI k_13)), (3, .int (-(nI k_13))), (4, .int (nI k_13)), (5, .int (nI 0)), (6, .int a), (8, .int c)]) C.1 C.2.1 d_Md_ring_147 hl (k := 7) rfl (ex_57.symm) (by decide) rfl (fun ls hl => ?_)
                            refine lv_goto (tgt := 75) C.1 C.2.1 d_Md_ring_150 (by decide) ?_
                            have nx_b : x_57.toInt = b.toInt + 1 := by rw [ex_57]; exact incT (by omega) (by omega)
                            obtain ⟨gb, egb⟩ : ∃ z, fb = z + 1 := ⟨fb - 1, by have := lo_b; omega⟩
                            exact ih75 gb x_57 tc (by omega) (by have := lo_b; omega) (by omega) (by rw [hRb, egb, ex_57]; exact rgB_on (by assumption) (hRc.trans (rgC_out (by assumption)))) (by omega) _ _ _ hh (lv_sub hl [1, 2, 3, 4, 5, 6, 7, 0] rfl)
                          · -- 91 -> 94
                            skip
                            have lo_c : c.toInt ≤ ((0 : Nat) : Int) := by have q := Int32.not_lt.mp (by assumption : ¬ nI 0 < c); rw [Int32.le_iff_toInt_le, nI_toInt (by omega)] at q; exact q
                            refine lv_aload_n C.1 C.2.1 d_Md_ring_94 rfl (lv_at hl 0 rfl) ?_
                            refine lv_iload_n C.1 C.2.1 d_Md_ring_95 rfl (lv_at hl 1 rfl) ?_
                            refine lv_iload C.1 C.2.1 d_Md_ring_96 (lv_at hl 6 rfl) ?_
                            refine lv_iload C.1 C.2.1 d_Md_ring_98 (lv_at hl 7 rfl) ?_
                            refine lv_iload C.1 C.2.1 d_Md_ring_100 (lv_at hl 8 rfl) ?_
                            refine gc_i hh (gc_runV (As := [.int (nI j_6), .int a, .int b, .int c]) (rest := []) (n := 4) C hml hh (c_Md_comesBack l D cs sh sz I (xyz J r tc) r hM hV j_6 (by omega) a b c) (tg_V tw_903 tw_905 tw_55 tw_64 tw_906) (by decide +kernel) ⟨rfl, rfl, by decide, by decide, Nat.zero_le _, Nat.zero_le _⟩ (Md_0 hM) rfl rfl hl.1 rfl (Nat.le_of_ble_eq_true rfl) d_Md_ring_102) (fun r_58 I_59 J_60 H locs hr_58 hh => ?_)
                            obtain ⟨hr_58, t_62, qhr_58⟩ := hr_58
                            rw [xyz_xyz] at qhr_58
                            rw [(Prod.mk.inj qhr_58).1, (Prod.mk.inj qhr_58).2] at hh
                            obtain ⟨k_61, ek_61⟩ : ∃ z : Nat, z = kb I r j_6 a b c := ⟨_, rfl⟩
                            have lk_61 : k_61 ≤ 200 := by rw [ek_61]; exact kb_le _ _ _ _ _ _
                            replace hr_58 : r_58 = nI k_61 := by rw [hr_58, ek_61]; rfl
                            rw [hr_58]
                            refine lv_istore (lv' := [(9, .int (nI k_61)), (0, .ref r), (1, .int (nI j_6)), (2, .int (nI k_13)), (3, .int (-(nI k_13))), (4, .int (nI k_13)), (5, .int (nI 0)), (6, .int a), (7, .int b), (8, .int c)]) C.1 C.2.1 d_Md_ring_105 hl (by decide) rfl (fun ls hl => ?_)
                            refine lv_iload C.1 C.2.1 d_Md_ring_107 (lv_at hl 0 rfl) ?_
                            refine lv_if_le (tgt := 141) C.1 C.2.1 d_Md_ring_109 (by decide) (fun c_63 => ?_) (fun c_63 => ?_)
                            · -- 109 -> 141
                              have c_63 := gm_let (b := 0) (by omega) (by omega) c_63
                              have c_63' := Nat.not_lt.mpr c_63
                              obtain ⟨x_64, ex_64⟩ : ∃ z : Int32, z = c + Int32.ofInt 1 := ⟨_, rfl⟩
                              refine lv_iinc (v := x_64) (lv' := [(8, .int x_64), (9, .int (nI k_61)), (0, .ref r), (1, .int (nI j_6)), (2, .int (nI k_13)), (3, .int (-(nI k_13))), (4, .int (nI k_13)), (5, .int (nI 0)), (6, .int a), (7, .int b)]) C.1 C.2.1 d_Md_ring_141 hl (k := 9) rfl (ex_64.symm) (by decide) rfl (fun ls hl => ?_)
                              refine lv_goto (tgt := 87) C.1 C.2.1 d_Md_ring_144 (by decide) ?_
                              have nx_c : x_64.toInt = c.toInt + 1 := by rw [ex_64]; exact incT (by omega) (by omega)
                              obtain ⟨gc, egc⟩ : ∃ z, fc = z + 1 := ⟨fc - 1, by have := lo_c; omega⟩
                              exact ih87 gc x_64 t_62 (by omega) (by have := lo_c; omega) (by omega) (by rw [hRc, egc, ex_64]; exact rgC_on (by assumption) (by rw [← ek_61]; omega)) (by omega) _ _ _ hh (lv_sub hl [2, 3, 4, 5, 6, 7, 8, 9, 0] rfl)
                            · -- 109 -> 112
                              have c_63 := gm_lef (b := 0) (by omega) (by omega) c_63
                              have c_63' := Nat.not_le.mpr c_63
                              refine lv_aload_n C.1 C.2.1 d_Md_ring_112 rfl (lv_at hl 1 rfl) ?_
                              refine lv_iload C.1 C.2.1 d_Md_ring_113 (lv_at hl 7 rfl) ?_
                              refine lv_i2l (v := a.toInt64) C.1 C.2.1 d_Md_ring_115 rfl ?_
                              refine gp_l C hh (Md_0 hM) rfl in_Md t_Md t_Md_ok n_Md 35 (by decide) rfl tw_600 rfl rfl (by decide +kernel) d_Md_ring_116 (fun H locs hh => ?_)
                              obtain ⟨J_65, eJ_65⟩ : ∃ z : gm_J, z = gm_up (xyz J r t_62) r 35 a.toInt64 := ⟨_, rfl⟩
                              rw [← eJ_65] at hh
                              refine lv_aload_n C.1 C.2.1 d_Md_ring_119 rfl (lv_at hl 1 rfl) ?_
                              refine lv_iload C.1 C.2.1 d_Md_ring_120 (lv_at hl 8 rfl) ?_
                              refine lv_i2l (v := b.toInt64) C.1 C.2.1 d_Md_ring_122 rfl ?_
                              refine gp_l C hh (Md_0 hM) rfl in_Md t_Md t_Md_ok n_Md 36 (by decide) rfl tw_601 rfl rfl (by decide +kernel) d_Md_ring_123 (fun H locs hh => ?_)
                              obtain ⟨J_66, eJ_66⟩ : ∃ z : gm_J, z = gm_up J_65 r 36 b.toInt64 := ⟨_, rfl⟩
                              rw [← eJ_66] at hh
                              refine lv_aload_n C.1 C.2.1 d_Md_ring_126 rfl (lv_at hl 1 rfl) ?_
                              refine lv_iload C.1 C.2.1 d_Md_ring_127 (lv_at hl 9 rfl) ?_
                              refine lv_i2l (v := c.toInt64) C.1 C.2.1 d_Md_ring_129 rfl ?_
                              refine gp_l C hh (Md_0 hM) rfl in_Md t_Md t_Md_ok n_Md 37 (by decide) rfl tw_602 rfl rfl (by decide +kernel) d_Md_ring_130 (fun H locs hh => ?_)
                              obtain ⟨J_67, eJ_67⟩ : ∃ z : gm_J, z = gm_up J_66 r 37 c.toInt64 := ⟨_, rfl⟩
                              rw [← eJ_67] at hh
                              have hh : gm_St D cs sh (gm_A sh) s'.heap sz I (xyz J r (v3 a b c)) H locs := by rw [← xyz_xyz J r t_62 (v3 a b c)]; simp only [eJ_65, eJ_66, eJ_67] at hh; exact hh
                              refine lv_aload_n C.1 C.2.1 d_Md_ring_133 rfl (lv_at hl 1 rfl) ?_
                              refine lv_iload_n C.1 C.2.1 d_Md_ring_134 rfl (lv_at hl 2 rfl) ?_
                              refine gc_v hh (gc_runV (As := [.int (nI j_6)]) (rest := []) (n := 1) C hml hh (c_Md_stay l D cs sh sz I (xyz J r (v3 a b c)) r hM j_6 (by omega)) (tg_V tw_887 tw_889 tw_54 tw_64 tw_890) (by decide +kernel) ⟨rfl, rfl, by decide, by decide, Nat.zero_le _, Nat.zero_le _⟩ (Md_0 hM) rfl rfl hl.1 rfl (Nat.le_of_ble_eq_true rfl) d_Md_ring_135) (fun I_69 J_70 H locs hr_68 hh => ?_)
                              rw [stay_is J r j_6 (v3 a b c) rfl] at hr_68
                              rw [(Prod.mk.inj hr_68).1, (Prod.mk.inj hr_68).2] at hh
                              refine lv_iload C.1 C.2.1 d_Md_ring_138 (lv_at hl 0 rfl) ?_
                              exact gr_i C hlk hret rfl hh (by refine Or.inr (Or.inr ⟨by assumption, by assumption, ?_⟩); rw [nN_nI (by omega), nN_nI (by omega), enm, nN_nI (by omega)]; obtain ⟨ga, ega⟩ : ∃ z, fa = z + 1 := ⟨fa - 1, by have := lo_a; omega⟩; obtain ⟨gb, egb⟩ : ∃ z, fb = z + 1 := ⟨fb - 1, by have := lo_b; omega⟩; obtain ⟨gc, egc⟩ : ∃ z, fc = z + 1 := ⟨fc - 1, by have := lo_c; omega⟩; exact ringP_yes (hRa.trans (by rw [ega]; exact rgA_yes (by assumption) (hRb.trans (by rw [egb]; exact rgB_yes (by assumption) (hRc.trans (by rw [egc, ek_61]; exact rgC_yes (by assumption) (by rw [← ek_61]; omega))))))) lk_61) d_Md_ring_140
                      exact K87 _ 14 (-(nI 0)) tb (by rw [negN (by omega)]; omega) (by rw [negN (by omega)]; omega) (by rw [negN (by omega)]; omega) (by rfl) (Nat.lt_succ_self _) _ _ _ hh (lv_sub hl [1, 2, 3, 4, 5, 6, 7, 8, 0] rfl)
                exact K75 _ 14 (-(nI k_13)) ta (by rw [negN (by omega)]; omega) (by rw [negN (by omega)]; omega) (by rw [negN (by omega)]; omega) (by rfl) (Nat.lt_succ_self _) _ _ _ hh (lv_sub hl [1, 2, 3, 4, 5, 6, 7, 0] rfl)
          exact K64 _ 14 (-(nI k_13)) (T3 J r) (by rw [negN (by omega)]; omega) (by rw [negN (by omega)]; omega) (by rw [negN (by omega)]; omega) (by exact hR) (Nat.lt_succ_self _) _ _ _ hh (lv_sub hl [4, 5, 6, 3, 2, 1, 0] rfl)
        · -- 51 -> 54
          have c_52 := gm_lef (by omega) (by omega) c_52
          have c_52' := Nat.not_le.mpr c_52
          refine lv_iload_n C.1 C.2.1 d_Md_ring_54 rfl (lv_at hl 4 rfl) ?_
          refine lv_goto (tgt := 59) C.1 C.2.1 d_Md_ring_55 (by decide) ?_
          refine lv_istore (lv' := [(5, .int (nI k_13)), (4, .int (nI k_13)), (3, .int (-(nI k_13))), (0, .ref r), (1, .int (nI j_6)), (2, .int (nI k_13))]) C.1 C.2.1 d_Md_ring_59 hl (by decide) rfl (fun ls hl => ?_)
          refine lv_iload_n C.1 C.2.1 d_Md_ring_61 rfl (lv_at hl 2 rfl) ?_
          refine lv_istore (lv' := [(6, .int (-(nI k_13))), (5, .int (nI k_13)), (4, .int (nI k_13)), (3, .int (-(nI k_13))), (0, .ref r), (1, .int (nI j_6)), (2, .int (nI k_13))]) C.1 C.2.1 d_Md_ring_62 hl (by decide) rfl (fun ls hl => ?_)
          have hh : gm_St D cs sh (gm_A sh) s'.heap sz I (xyz J r (T3 J r)) H locs := by rw [xyz_self]; exact hh
          have hR : ringR I r j_6 k_13 nm = rgA (kb I r j_6) (nI k_13) (nI k_13) (nI k_13) 14 (-(nI k_13)) := by unfold ringR; first | (exfalso; omega) | rw [if_pos (by omega), if_pos (by omega)] | rw [if_neg (by omega), if_pos (by omega)] | rw [if_neg (by omega), if_neg (by omega)] | (exfalso; omega)
          have K64 : ∀ (n_64 : Nat) (fa : Nat) (a : Int32) (ta : V3) (ha1 : -7 ≤ a.toInt) (ha2 : a.toInt ≤ 7) (ha3 : ((k_13 : Nat) : Int) + 1 - a.toInt < (fa : Int)) (hRa : ringR I r j_6 k_13 nm = rgA (kb I r j_6) (nI k_13) (nI k_13) (nI k_13) fa a) (hm_64 : fa < n_64), ∀ (H : Heap) (locs : List Loc) (ls : Array Slot), gm_St D cs sh (gm_A sh) s'.heap sz I (xyz J r ta) H locs → lv_has ls 10 [(0, .ref r), (1, .int (nI j_6)), (2, .int (nI k_13)), (3, .int (-(nI k_13))), (4, .int (nI k_13)), (5, .int (nI k_13)), (6, .int a)] → W p' l e' { frames := 4, cells := 0, slots := 0, locals := 101 } s' m' ([.ref r, .int (nI j_6), .int (nI k_13)] : List Value).toArray be' me' co' H locs 0 0 (MQ be' (va_Qi (fun z u => (lpB I r (nI j_6) = false ∧ z = -2 ∧ u = (I, J)) ∨ (lpB I r (nI j_6) = true ∧ inI (nI k_13) (nI 0) (nI 6) = false ∧ z = -3 ∧ u = (I, J)) ∨ (lpB I r (nI j_6) = true ∧ inI (nI k_13) (nI 0) (nI 6) = true ∧ ringP I J r (nN (nI j_6)) (nN (nI k_13)) (nN (I (r + 1) (nN (nI j_6)))) z u)) (gm_B D cs sh sz) (gm_A sh)) ([.ref r, .int (nI j_6), .int (nI k_13)] : List Value).toArray s' 0 0 (gm_A sh)) (F0 m' 64 ls []) := by
            intro n_64
            induction n_64 with
            | zero => intro fa a ta ha1 ha2 ha3 hRa hm_64; exact absurd hm_64 (Nat.not_lt_zero _)
            | succ n_64 ih64 =>
              intro fa a ta ha1 ha2 ha3 hRa hm_64 H locs ls hh hl
              refine lv_iload C.1 C.2.1 d_Md_ring_64 (lv_at hl 6 rfl) ?_
              refine lv_iload_n C.1 C.2.1 d_Md_ring_66 rfl (lv_at hl 2 rfl) ?_
              refine lv_icmp_gt (tgt := 159) C.1 C.2.1 d_Md_ring_67 (by decide) (fun c_71 => ?_) (fun c_71 => ?_)
              · -- 67 -> 159
                skip
                refine lv_iconst (v := nI 0) C.1 C.2.1 d_Md_ring_159 rfl ?_
                exact gr_i C hlk hret rfl hh (by refine Or.inr (Or.inr ⟨by assumption, by assumption, ?_⟩); rw [nN_nI (by omega), nN_nI (by omega), enm, nN_nI (by omega)]; exact ringP_no (hRa.trans (rgA_out (by assumption)))) d_Md_ring_160
              · -- 67 -> 70
                skip
                have lo_a : a.toInt ≤ ((k_13 : Nat) : Int) := by have q := Int32.not_lt.mp (by assumption : ¬ nI k_13 < a); rw [Int32.le_iff_toInt_le, nI_toInt (by omega)] at q; exact q
                refine lv_iload C.1 C.2.1 d_Md_ring_70 (lv_at hl 4 rfl) ?_
                refine lv_ineg C.1 C.2.1 d_Md_ring_72 ?_
                refine lv_istore (lv' := [(7, .int (-(nI k_13))), (0, .ref r), (1, .int (nI j_6)), (2, .int (nI k_13)), (3, .int (-(nI k_13))), (4, .int (nI k_13)), (5, .int (nI k_13)), (6, .int a)]) C.1 C.2.1 d_Md_ring_73 hl (by decide) rfl (fun ls hl => ?_)
                have K75 : ∀ (n_75 : Nat) (fb : Nat) (b : Int32) (tb : V3) (hb1 : -7 ≤ b.toInt) (hb2 : b.toInt ≤ 7) (hb3 : ((k_13 : Nat) : Int) + 1 - b.toInt < (fb : Int)) (hRb : rgB (kb I r j_6) (nI k_13) (nI k_13) a 14 (-(nI k_13)) = rgB (kb I r j_6) (nI k_13) (nI k_13) a fb b) (hm_75 : fb < n_75), ∀ (H : Heap) (locs : List Loc) (ls : Array Slot), gm_St D cs sh (gm_A sh) s'.heap sz I (xyz J r tb) H locs → lv_has ls 10 [(0, .ref r), (1, .int (nI j_6)), (2, .int (nI k_13)), (3, .int (-(nI k_13))), (4, .int (nI k_13)), (5, .int (nI k_13)), (6, .int a), (7, .int b)] → W p' l e' { frames := 4, cells := 0, slots := 0, locals := 101 } s' m' ([.ref r, .int (nI j_6), .int (nI k_13)] : List Value).toArray be' me' co' H locs 0 0 (MQ be' (va_Qi (fun z u => (lpB I r (nI j_6) = false ∧ z = -2 ∧ u = (I, J)) ∨ (lpB I r (nI j_6) = true ∧ inI (nI k_13) (nI 0) (nI 6) = false ∧ z = -3 ∧ u = (I, J)) ∨ (lpB I r (nI j_6) = true ∧ inI (nI k_13) (nI 0) (nI 6) = true ∧ ringP I J r (nN (nI j_6)) (nN (nI k_13)) (nN (I (r + 1) (nN (nI j_6)))) z u)) (gm_B D cs sh sz) (gm_A sh)) ([.ref r, .int (nI j_6), .int (nI k_13)] : List Value).toArray s' 0 0 (gm_A sh)) (F0 m' 75 ls []) := by
                  intro n_75
                  induction n_75 with
                  | zero => intro fb b tb hb1 hb2 hb3 hRb hm_75; exact absurd hm_75 (Nat.not_lt_zero _)
                  | succ n_75 ih75 =>
                    intro fb b tb hb1 hb2 hb3 hRb hm_75 H locs ls hh hl
                    refine lv_iload C.1 C.2.1 d_Md_ring_75 (lv_at hl 7 rfl) ?_
                    refine lv_iload C.1 C.2.1 d_Md_ring_77 (lv_at hl 4 rfl) ?_
                    refine lv_icmp_gt (tgt := 153) C.1 C.2.1 d_Md_ring_79 (by decide) (fun c_72 => ?_) (fun c_72 => ?_)
                    · -- 79 -> 153
                      skip
                      obtain ⟨x_73, ex_73⟩ : ∃ z : Int32, z = a + Int32.ofInt 1 := ⟨_, rfl⟩
                      refine lv_iinc (v := x_73) (lv' := [(6, .int x_73), (0, .ref r), (1, .int (nI j_6)), (2, .int (nI k_13)), (3, .int (-(nI k_13))), (4, .int (nI k_13)), (5, .int (nI k_13)), (7, .int b)]) C.1 C.2.1 d_Md_ring_153 hl (k := 6) rfl (ex_73.symm) (by decide) rfl (fun ls hl => ?_)
                      refine lv_goto (tgt := 64) C.1 C.2.1 d_Md_ring_156 (by decide) ?_
                      have nx_a : x_73.toInt = a.toInt + 1 := by rw [ex_73]; exact incT (by omega) (by omega)
                      obtain ⟨ga, ega⟩ : ∃ z, fa = z + 1 := ⟨fa - 1, by have := lo_a; omega⟩
                      exact ih64 ga x_73 tb (by omega) (by have := lo_a; omega) (by omega) (by rw [hRa, ega, ex_73]; exact rgA_on (by assumption) (hRb.trans (rgB_out (by assumption)))) (by omega) _ _ _ hh (lv_sub hl [1, 2, 3, 4, 5, 6, 0] rfl)
                    · -- 79 -> 82
                      skip
                      have lo_b : b.toInt ≤ ((k_13 : Nat) : Int) := by have q := Int32.not_lt.mp (by assumption : ¬ nI k_13 < b); rw [Int32.le_iff_toInt_le, nI_toInt (by omega)] at q; exact q
                      refine lv_iload C.1 C.2.1 d_Md_ring_82 (lv_at hl 5 rfl) ?_
                      refine lv_ineg C.1 C.2.1 d_Md_ring_84 ?_
                      refine lv_istore (lv' := [(8, .int (-(nI k_13))), (0, .ref r), (1, .int (nI j_6)), (2, .int (nI k_13)), (3, .int (-(nI k_13))), (4, .int (nI k_13)), (5, .int (nI k_13)), (6, .int a), (7, .int b)]) C.1 C.2.1 d_Md_ring_85 hl (by decide) rfl (fun ls hl => ?_)
                      have K87 : ∀ (n_87 : Nat) (fc : Nat) (c : Int32) (tc : V3) (hc1 : -7 ≤ c.toInt) (hc2 : c.toInt ≤ 7) (hc3 : ((k_13 : Nat) : Int) + 1 - c.toInt < (fc : Int)) (hRc : rgC (kb I r j_6) (nI k_13) a b 14 (-(nI k_13)) = rgC (kb I r j_6) (nI k_13) a b fc c) (hm_87 : fc < n_87), ∀ (H : Heap) (locs : List Loc) (ls : Array Slot), gm_St D cs sh (gm_A sh) s'.heap sz I (xyz J r tc) H locs → lv_has ls 10 [(0, .ref r), (1, .int (nI j_6)), (2, .int (nI k_13)), (3, .int (-(nI k_13))), (4, .int (nI k_13)), (5, .int (nI k_13)), (6, .int a), (7, .int b), (8, .int c)] → W p' l e' { frames := 4, cells := 0, slots := 0, locals := 101 } s' m' ([.ref r, .int (nI j_6), .int (nI k_13)] : List Value).toArray be' me' co' H locs 0 0 (MQ be' (va_Qi (fun z u => (lpB I r (nI j_6) = false ∧ z = -2 ∧ u = (I, J)) ∨ (lpB I r (nI j_6) = true ∧ inI (nI k_13) (nI 0) (nI 6) = false ∧ z = -3 ∧ u = (I, J)) ∨ (lpB I r (nI j_6) = true ∧ inI (nI k_13) (nI 0) (nI 6) = true ∧ ringP I J r (nN (nI j_6)) (nN (nI k_13)) (nN (I (r + 1) (nN (nI j_6)))) z u)) (gm_B D cs sh sz) (gm_A sh)) ([.ref r, .int (nI j_6), .int (nI k_13)] : List Value).toArray s' 0 0 (gm_A sh)) (F0 m' 87 ls []) := by
                        intro n_87
                        induction n_87 with
                        | zero => intro fc c tc hc1 hc2 hc3 hRc hm_87; exact absurd hm_87 (Nat.not_lt_zero _)
                        | succ n_87 ih87 =>
                          intro fc c tc hc1 hc2 hc3 hRc hm_87 H locs ls hh hl
                          refine lv_iload C.1 C.2.1 d_Md_ring_87 (lv_at hl 8 rfl) ?_
                          refine lv_iload C.1 C.2.1 d_Md_ring_89 (lv_at hl 5 rfl) ?_
                          refine lv_icmp_gt (tgt := 147) C.1 C.2.1 d_Md_ring_91 (by decide) (fun c_74 => ?_) (fun c_74 => ?_)
                          · -- 91 -> 147
                            skip
                            obtain ⟨x_75, ex_75⟩ : ∃ z : Int32, z = b + Int32.ofInt 1 := ⟨_, rfl⟩
                            refine lv_iinc (v := x_75) (lv' := [(7, .int x_75), (0, .ref r), (1, .int (nI j_6)), (2, .int (nI k_13)), (3, .int (-(nI k_13))), (4, .int (nI k_13)), (5, .int (nI k_13)), (6, .int a), (8, .int c)]) C.1 C.2.1 d_Md_ring_147 hl (k := 7) rfl (ex_75.symm) (by decide) rfl (fun ls hl => ?_)
                            refine lv_goto (tgt := 75) C.1 C.2.1 d_Md_ring_150 (by decide) ?_
                            have nx_b : x_75.toInt = b.toInt + 1 := by rw [ex_75]; exact incT (by omega) (by omega)
                            obtain ⟨gb, egb⟩ : ∃ z, fb = z + 1 := ⟨fb - 1, by have := lo_b; omega⟩
                            exact ih75 gb x_75 tc (by omega) (by have := lo_b; omega) (by omega) (by rw [hRb, egb, ex_75]; exact rgB_on (by assumption) (hRc.trans (rgC_out (by assumption)))) (by omega) _ _ _ hh (lv_sub hl [1, 2, 3, 4, 5, 6, 7, 0] rfl)
                          · -- 91 -> 94
                            skip
                            have lo_c : c.toInt ≤ ((k_13 : Nat) : Int) := by have q := Int32.not_lt.mp (by assumption : ¬ nI k_13 < c); rw [Int32.le_iff_toInt_le, nI_toInt (by omega)] at q; exact q
                            refine lv_aload_n C.1 C.2.1 d_Md_ring_94 rfl (lv_at hl 0 rfl) ?_
                            refine lv_iload_n C.1 C.2.1 d_Md_ring_95 rfl (lv_at hl 1 rfl) ?_
                            refine lv_iload C.1 C.2.1 d_Md_ring_96 (lv_at hl 6 rfl) ?_
                            refine lv_iload C.1 C.2.1 d_Md_ring_98 (lv_at hl 7 rfl) ?_
                            refine lv_iload C.1 C.2.1 d_Md_ring_100 (lv_at hl 8 rfl) ?_
                            refine gc_i hh (gc_runV (As := [.int (nI j_6), .int a, .int b, .int c]) (rest := []) (n := 4) C hml hh (c_Md_comesBack l D cs sh sz I (xyz J r tc) r hM hV j_6 (by omega) a b c) (tg_V tw_903 tw_905 tw_55 tw_64 tw_906) (by decide +kernel) ⟨rfl, rfl, by decide, by decide, Nat.zero_le _, Nat.zero_le _⟩ (Md_0 hM) rfl rfl hl.1 rfl (Nat.le_of_ble_eq_true rfl) d_Md_ring_102) (fun r_76 I_77 J_78 H locs hr_76 hh => ?_)
                            obtain ⟨hr_76, t_80, qhr_76⟩ := hr_76
                            rw [xyz_xyz] at qhr_76
                            rw [(Prod.mk.inj qhr_76).1, (Prod.mk.inj qhr_76).2] at hh
                            obtain ⟨k_79, ek_79⟩ : ∃ z : Nat, z = kb I r j_6 a b c := ⟨_, rfl⟩
                            have lk_79 : k_79 ≤ 200 := by rw [ek_79]; exact kb_le _ _ _ _ _ _
                            replace hr_76 : r_76 = nI k_79 := by rw [hr_76, ek_79]; rfl
                            rw [hr_76]
                            refine lv_istore (lv' := [(9, .int (nI k_79)), (0, .ref r), (1, .int (nI j_6)), (2, .int (nI k_13)), (3, .int (-(nI k_13))), (4, .int (nI k_13)), (5, .int (nI k_13)), (6, .int a), (7, .int b), (8, .int c)]) C.1 C.2.1 d_Md_ring_105 hl (by decide) rfl (fun ls hl => ?_)
                            refine lv_iload C.1 C.2.1 d_Md_ring_107 (lv_at hl 0 rfl) ?_
                            refine lv_if_le (tgt := 141) C.1 C.2.1 d_Md_ring_109 (by decide) (fun c_81 => ?_) (fun c_81 => ?_)
                            · -- 109 -> 141
                              have c_81 := gm_let (b := 0) (by omega) (by omega) c_81
                              have c_81' := Nat.not_lt.mpr c_81
                              obtain ⟨x_82, ex_82⟩ : ∃ z : Int32, z = c + Int32.ofInt 1 := ⟨_, rfl⟩
                              refine lv_iinc (v := x_82) (lv' := [(8, .int x_82), (9, .int (nI k_79)), (0, .ref r), (1, .int (nI j_6)), (2, .int (nI k_13)), (3, .int (-(nI k_13))), (4, .int (nI k_13)), (5, .int (nI k_13)), (6, .int a), (7, .int b)]) C.1 C.2.1 d_Md_ring_141 hl (k := 9) rfl (ex_82.symm) (by decide) rfl (fun ls hl => ?_)
                              refine lv_goto (tgt := 87) C.1 C.2.1 d_Md_ring_144 (by decide) ?_
                              have nx_c : x_82.toInt = c.toInt + 1 := by rw [ex_82]; exact incT (by omega) (by omega)
                              obtain ⟨gc, egc⟩ : ∃ z, fc = z + 1 := ⟨fc - 1, by have := lo_c; omega⟩
                              exact ih87 gc x_82 t_80 (by omega) (by have := lo_c; omega) (by omega) (by rw [hRc, egc, ex_82]; exact rgC_on (by assumption) (by rw [← ek_79]; omega)) (by omega) _ _ _ hh (lv_sub hl [2, 3, 4, 5, 6, 7, 8, 9, 0] rfl)
                            · -- 109 -> 112
                              have c_81 := gm_lef (b := 0) (by omega) (by omega) c_81
                              have c_81' := Nat.not_le.mpr c_81
                              refine lv_aload_n C.1 C.2.1 d_Md_ring_112 rfl (lv_at hl 1 rfl) ?_
                              refine lv_iload C.1 C.2.1 d_Md_ring_113 (lv_at hl 7 rfl) ?_
                              refine lv_i2l (v := a.toInt64) C.1 C.2.1 d_Md_ring_115 rfl ?_
                              refine gp_l C hh (Md_0 hM) rfl in_Md t_Md t_Md_ok n_Md 35 (by decide) rfl tw_600 rfl rfl (by decide +kernel) d_Md_ring_116 (fun H locs hh => ?_)
                              obtain ⟨J_83, eJ_83⟩ : ∃ z : gm_J, z = gm_up (xyz J r t_80) r 35 a.toInt64 := ⟨_, rfl⟩
                              rw [← eJ_83] at hh
                              refine lv_aload_n C.1 C.2.1 d_Md_ring_119 rfl (lv_at hl 1 rfl) ?_
                              refine lv_iload C.1 C.2.1 d_Md_ring_120 (lv_at hl 8 rfl) ?_
                              refine lv_i2l (v := b.toInt64) C.1 C.2.1 d_Md_ring_122 rfl ?_
                              refine gp_l C hh (Md_0 hM) rfl in_Md t_Md t_Md_ok n_Md 36 (by decide) rfl tw_601 rfl rfl (by decide +kernel) d_Md_ring_123 (fun H locs hh => ?_)
                              obtain ⟨J_84, eJ_84⟩ : ∃ z : gm_J, z = gm_up J_83 r 36 b.toInt64 := ⟨_, rfl⟩
                              rw [← eJ_84] at hh
                              refine lv_aload_n C.1 C.2.1 d_Md_ring_126 rfl (lv_at hl 1 rfl) ?_
                              refine lv_iload C.1 C.2.1 d_Md_ring_127 (lv_at hl 9 rfl) ?_
                              refine lv_i2l (v := c.toInt64) C.1 C.2.1 d_Md_ring_129 rfl ?_
                              refine gp_l C hh (Md_0 hM) rfl in_Md t_Md t_Md_ok n_Md 37 (by decide) rfl tw_602 rfl rfl (by decide +kernel) d_Md_ring_130 (fun H locs hh => ?_)
                              obtain ⟨J_85, eJ_85⟩ : ∃ z : gm_J, z = gm_up J_84 r 37 c.toInt64 := ⟨_, rfl⟩
                              rw [← eJ_85] at hh
                              have hh : gm_St D cs sh (gm_A sh) s'.heap sz I (xyz J r (v3 a b c)) H locs := by rw [← xyz_xyz J r t_80 (v3 a b c)]; simp only [eJ_83, eJ_84, eJ_85] at hh; exact hh
                              refine lv_aload_n C.1 C.2.1 d_Md_ring_133 rfl (lv_at hl 1 rfl) ?_
                              refine lv_iload_n C.1 C.2.1 d_Md_ring_134 rfl (lv_at hl 2 rfl) ?_
                              refine gc_v hh (gc_runV (As := [.int (nI j_6)]) (rest := []) (n := 1) C hml hh (c_Md_stay l D cs sh sz I (xyz J r (v3 a b c)) r hM j_6 (by omega)) (tg_V tw_887 tw_889 tw_54 tw_64 tw_890) (by decide +kernel) ⟨rfl, rfl, by decide, by decide, Nat.zero_le _, Nat.zero_le _⟩ (Md_0 hM) rfl rfl hl.1 rfl (Nat.le_of_ble_eq_true rfl) d_Md_ring_135) (fun I_87 J_88 H locs hr_86 hh => ?_)
                              rw [stay_is J r j_6 (v3 a b c) rfl] at hr_86
                              rw [(Prod.mk.inj hr_86).1, (Prod.mk.inj hr_86).2] at hh
                              refine lv_iload C.1 C.2.1 d_Md_ring_138 (lv_at hl 0 rfl) ?_
                              exact gr_i C hlk hret rfl hh (by refine Or.inr (Or.inr ⟨by assumption, by assumption, ?_⟩); rw [nN_nI (by omega), nN_nI (by omega), enm, nN_nI (by omega)]; obtain ⟨ga, ega⟩ : ∃ z, fa = z + 1 := ⟨fa - 1, by have := lo_a; omega⟩; obtain ⟨gb, egb⟩ : ∃ z, fb = z + 1 := ⟨fb - 1, by have := lo_b; omega⟩; obtain ⟨gc, egc⟩ : ∃ z, fc = z + 1 := ⟨fc - 1, by have := lo_c; omega⟩; exact ringP_yes (hRa.trans (by rw [ega]; exact rgA_yes (by assumption) (hRb.trans (by rw [egb]; exact rgB_yes (by assumption) (hRc.trans (by rw [egc, ek_79]; exact rgC_yes (by assumption) (by rw [← ek_79]; omega))))))) lk_79) d_Md_ring_140
                      exact K87 _ 14 (-(nI k_13)) tb (by rw [negN (by omega)]; omega) (by rw [negN (by omega)]; omega) (by rw [negN (by omega)]; omega) (by rfl) (Nat.lt_succ_self _) _ _ _ hh (lv_sub hl [1, 2, 3, 4, 5, 6, 7, 8, 0] rfl)
                exact K75 _ 14 (-(nI k_13)) ta (by rw [negN (by omega)]; omega) (by rw [negN (by omega)]; omega) (by rw [negN (by omega)]; omega) (by rfl) (Nat.lt_succ_self _) _ _ _ hh (lv_sub hl [1, 2, 3, 4, 5, 6, 7, 0] rfl)
          exact K64 _ 14 (-(nI k_13)) (T3 J r) (by rw [negN (by omega)]; omega) (by rw [negN (by omega)]; omega) (by rw [negN (by omega)]; omega) (by exact hR) (Nat.lt_succ_self _) _ _ _ hh (lv_sub hl [4, 5, 6, 3, 2, 1, 0] rfl)
    · -- 18 -> 21
      have b_89 := bI_f hr_8 c_11
      skip
      refine lv_bipush (v := (-3)) C.1 C.2.1 d_Md_ring_21 rfl ?_
      exact gr_i C hlk hret rfl hh (by exact Or.inr (Or.inl ⟨by assumption, by assumption, rfl, rfl⟩)) d_Md_ring_23
  · -- 5 -> 8
    have b_90 := bI_f hr_1 c_4
    skip
    refine lv_bipush (v := (-2)) C.1 C.2.1 d_Md_ring_8 rfl ?_
    exact gr_i C hlk hret rfl hh (by exact Or.inl ⟨by assumption, rfl, rfl⟩) d_Md_ring_10
