set_option maxHeartbeats 4000000 in
set_option maxRecDepth 100000 in
theorem c_FT_ringF (l : Launch) (D : va_G) (cs : Nat → ClassId) (sh : gm_H) (sz : Nat) (I : gm_I) (J : gm_J) (B : Nat) (hF : is_FT cs sh B) (hV : inv_FT I B) (n : Nat) (en : I B 1 = nI n) (hn : n ≤ 8) (v w : Int32) : CI l y_FT_ring w_FT_ring { frames := 4, cells := 0, slots := 0, locals := 95 } D cs sh sz I J [.ref B, .int v, .int w] (fun x u => (inI v 0 (nI n - 1) = false ∧ x = -2 ∧ u = (I, J)) ∨ (inI v 0 (nI n - 1) = true ∧ inI w (nI 0) (nI 6) = false ∧ x = -3 ∧ u = (I, J)) ∨ ∃ j i nm, j < n ∧ v = nI j ∧ w = nI i ∧ i ≤ 6 ∧ I (B + 12 + 21 * j) 0 = nI nm ∧ nm ≤ 3 ∧ rgP I J B (B + 12 + 21 * j) i nm x u) := by
  refine gm_start (by decide) (Nat.le_of_ble_eq_true rfl) ?_
  intro p' e' s' m' be' me' co' ls C hml hlk hret hh hl
  have hl : lv_has ls 10 [(0, .ref B), (1, .int v), (2, .int w)] := hl
  refine lv_aload_n C.1 C.2.1 d_FT_ring_0 rfl (lv_at hl 0 rfl) ?_
  refine lv_iload_n C.1 C.2.1 d_FT_ring_1 rfl (lv_at hl 1 rfl) ?_
  refine gc_i hh (gc_runV (As := [.int v]) (rest := []) (n := 1) C hml hh (c_FT_isLoop l D cs sh sz I J B hF hV n en hn v) (tg_V tw_264 tw_266 tw_0 tw_57 tw_267) (by decide +kernel) ⟨rfl, rfl, by decide, by decide, Nat.zero_le _, Nat.zero_le _⟩ hF.1 rfl rfl hl.1 rfl (Nat.le_of_ble_eq_true rfl) d_FT_ring_2) (fun r_1 I_2 J_3 H locs hr_1 hh => ?_)
  obtain ⟨e_r_1, hr_1⟩ := hr_1
  rw [(Prod.mk.inj e_r_1).1, (Prod.mk.inj e_r_1).2] at hh
  refine lv_if_ne (tgt := 11) C.1 C.2.1 d_FT_ring_5 (by decide) (fun c_4 => ?_) (fun c_4 => ?_)
  · -- 5 -> 11
    have b_5 := bI_t hr_1 c_4
    obtain ⟨j_6, hj_6, ej_6⟩ := inI_nat (by omega) b_5
    subst ej_6
    skip
    refine lv_iload_n C.1 C.2.1 d_FT_ring_11 rfl (lv_at hl 2 rfl) ?_
    refine lv_if_lt (tgt := 21) C.1 C.2.1 d_FT_ring_12 (by decide) (fun c_7 => ?_) (fun c_7 => ?_)
    · -- 12 -> 21
      skip
      refine lv_bipush (v := (-3)) C.1 C.2.1 d_FT_ring_21 rfl ?_
      exact gr_i C hlk hret rfl hh (by refine Or.inr (Or.inl ⟨by assumption, ?_, rfl, rfl⟩); unfold inI; simp_all [nI_0]) d_FT_ring_23
    · -- 12 -> 15
      skip
      obtain ⟨i_8, hi_8, ei_8⟩ := nI_of (by assumption : ¬ w < 0)
      subst ei_8
      refine lv_iload_n C.1 C.2.1 d_FT_ring_15 rfl (lv_at hl 2 rfl) ?_
      refine lv_bipush (v := nI 6) C.1 C.2.1 d_FT_ring_16 rfl ?_
      refine lv_icmp_le (tgt := 24) C.1 C.2.1 d_FT_ring_18 (by decide) (fun c_9 => ?_) (fun c_9 => ?_)
      · -- 18 -> 24
        have c_9 := gm_let (by omega) (by omega) c_9
        have c_9' := Nat.not_lt.mpr c_9
        obtain ⟨nm_, hnm_, enm_⟩ := (hV.2.1 j_6 (by omega)).1
        refine lv_aload_n C.1 C.2.1 d_FT_ring_24 rfl (lv_at hl 0 rfl) ?_
        refine gg_r C hh hF.1 rfl in_FT 0 (by decide) rfl tw_210 rfl d_FT_ring_25 ?_
        refine lv_iload_n C.1 C.2.1 d_FT_ring_28 rfl (lv_at hl 1 rfl) ?_
        refine ga_q C hh 2 hF.2.1 (Cn := "FallingTerms$Loop") rfl (k := j_6) (v := B + 12 + 21 * j_6) rfl (by omega) (by omega) (if_pos (by omega)) d_FT_ring_29 ?_
        obtain ⟨p_10, ep_10⟩ : ∃ z : Nat, z = B + 12 + 21 * j_6 := ⟨_, rfl⟩
        have hp_10 : is_Lp cs sh p_10 := by rw [ep_10]; exact hF.2.2.2.2.2.2.2.2.2.2 j_6 (by omega)
        refine gm_eqr ep_10.symm ?_
        refine lv_astore_n (lv' := [(3, .ref p_10), (0, .ref B), (1, .int (nI j_6)), (2, .int (nI i_8))]) C.1 C.2.1 d_FT_ring_30 rfl hl (by decide) rfl (fun ls hl => ?_)
        refine lv_aload_n C.1 C.2.1 d_FT_ring_31 rfl (lv_at hl 0 rfl) ?_
        refine lv_iconst (v := nI 1) C.1 C.2.1 d_FT_ring_32 rfl ?_
        refine lv_iload_n C.1 C.2.1 d_FT_ring_33 rfl (lv_at hl 3 rfl) ?_
        refine gc_i hh (gc_runV (As := [.int (nI 1), .int (nI i_8)]) (rest := []) (n := 2) C hml hh (c_Lp_reach l D cs sh sz I J p_10 hp_10 nm_ 1 (by rw [ep_10]; exact enm_) hnm_ (by omega) (nI i_8)) (tg_V tw_461 tw_436 tw_437 tw_59 tw_438) (by decide +kernel) ⟨rfl, rfl, by decide, by decide, Nat.zero_le _, Nat.zero_le _⟩ hp_10.1 rfl rfl hl.1 rfl (Nat.le_of_ble_eq_true rfl) d_FT_ring_34) (fun r_11 I_12 J_13 H locs hr_11 hh => ?_)
        obtain ⟨e_r_11, hr_11⟩ := hr_11
        rw [(Prod.mk.inj e_r_11).1, (Prod.mk.inj e_r_11).2] at hh
        obtain ⟨g_14, hg_14, eg_14, qg_14⟩ := reachE hr_11
        rw [eg_14]
        refine lv_istore (lv' := [(4, .int (nI g_14)), (3, .ref p_10), (0, .ref B), (1, .int (nI j_6)), (2, .int (nI i_8))]) C.1 C.2.1 d_FT_ring_37 hl (by decide) rfl (fun ls hl => ?_)
        refine lv_aload_n C.1 C.2.1 d_FT_ring_39 rfl (lv_at hl 1 rfl) ?_
        refine lv_iconst (v := nI 2) C.1 C.2.1 d_FT_ring_40 rfl ?_
        refine lv_iload_n C.1 C.2.1 d_FT_ring_41 rfl (lv_at hl 4 rfl) ?_
        refine gc_i hh (gc_runV (As := [.int (nI 2), .int (nI i_8)]) (rest := []) (n := 2) C hml hh (c_Lp_reach l D cs sh sz I J p_10 hp_10 nm_ 2 (by rw [ep_10]; exact enm_) hnm_ (by omega) (nI i_8)) (tg_V tw_461 tw_436 tw_437 tw_59 tw_438) (by decide +kernel) ⟨rfl, rfl, by decide, by decide, Nat.zero_le _, Nat.zero_le _⟩ hp_10.1 rfl rfl hl.1 rfl (Nat.le_of_ble_eq_true rfl) d_FT_ring_42) (fun r_15 I_16 J_17 H locs hr_15 hh => ?_)
        obtain ⟨e_r_15, hr_15⟩ := hr_15
        rw [(Prod.mk.inj e_r_15).1, (Prod.mk.inj e_r_15).2] at hh
        obtain ⟨g_18, hg_18, eg_18, qg_18⟩ := reachE hr_15
        rw [eg_18]
        refine lv_istore (lv' := [(5, .int (nI g_18)), (4, .int (nI g_14)), (3, .ref p_10), (0, .ref B), (1, .int (nI j_6)), (2, .int (nI i_8))]) C.1 C.2.1 d_FT_ring_45 hl (by decide) rfl (fun ls hl => ?_)
        refine lv_iload_n C.1 C.2.1 d_FT_ring_47 rfl (lv_at hl 5 rfl) ?_
        refine lv_ineg C.1 C.2.1 d_FT_ring_48 ?_
        refine lv_istore (lv' := [(6, .int (-(nI i_8))), (5, .int (nI g_18)), (4, .int (nI g_14)), (3, .ref p_10), (0, .ref B), (1, .int (nI j_6)), (2, .int (nI i_8))]) C.1 C.2.1 d_FT_ring_49 hl (by decide) rfl (fun ls hl => ?_)
        have hR_ : rgA (kc I p_10) (nI i_8) (if nm_ ≤ 1 then nI 0 else nI i_8) (if nm_ ≤ 2 then nI 0 else nI i_8) 14 (-(nI i_8)) = rgA (kc I p_10) (nI i_8) (nI g_14) (nI g_18) 14 (-(nI i_8)) := by rw [← qg_14, ← qg_18]
        have K51 : ∀ (n_51 : Nat) (fa : Nat) (a : Int32) (J51 : gm_J) (ha1 : -7 ≤ a.toInt) (ha2 : a.toInt ≤ 7) (ha3 : ((i_8 : Nat) : Int) + 1 - a.toInt < (fa : Int)) (hRa : rgA (kc I p_10) (nI i_8) (nI g_14) (nI g_18) 14 (-(nI i_8)) = rgA (kc I p_10) (nI i_8) (nI g_14) (nI g_18) fa a) (hBa : but5 B p_10 J J51) (hm_51 : fa < n_51), ∀ (H : Heap) (locs : List Loc) (ls : Array Slot), gm_St D cs sh (gm_A sh) s'.heap sz I J51 H locs → lv_has ls 10 [(0, .ref B), (1, .int (nI j_6)), (2, .int (nI i_8)), (3, .ref p_10), (4, .int (nI g_14)), (5, .int (nI g_18)), (6, .int a)] → W p' l e' { frames := 4, cells := 0, slots := 0, locals := 95 } s' m' ([.ref B, .int (nI j_6), .int (nI i_8)] : List Value).toArray be' me' co' H locs 0 0 (MQ be' (va_Qi (fun x u => (inI (nI j_6) 0 (nI n - 1) = false ∧ x = -2 ∧ u = (I, J)) ∨ (inI (nI j_6) 0 (nI n - 1) = true ∧ inI (nI i_8) (nI 0) (nI 6) = false ∧ x = -3 ∧ u = (I, J)) ∨ ∃ j i nm, j < n ∧ (nI j_6) = nI j ∧ (nI i_8) = nI i ∧ i ≤ 6 ∧ I (B + 12 + 21 * j) 0 = nI nm ∧ nm ≤ 3 ∧ rgP I J B (B + 12 + 21 * j) i nm x u) (gm_B D cs sh sz) (gm_A sh)) ([.ref B, .int (nI j_6), .int (nI i_8)] : List Value).toArray s' 0 0 (gm_A sh)) (F0 m' 51 ls []) := by
          intro n_51
          induction n_51 with
          | zero => intro fa a J51 ha1 ha2 ha3 hRa hBa hm_51; exact absurd hm_51 (Nat.not_lt_zero _)
          | succ n_51 ih51 =>
            intro fa a J51 ha1 ha2 ha3 hRa hBa hm_51 H locs ls hh hl
            refine lv_iload C.1 C.2.1 d_FT_ring_51 (lv_at hl 6 rfl) ?_
            refine lv_iload_n C.1 C.2.1 d_FT_ring_53 rfl (lv_at hl 2 rfl) ?_
            refine lv_icmp_gt (tgt := 131) C.1 C.2.1 d_FT_ring_54 (by decide) (fun c_19 => ?_) (fun c_19 => ?_)
            · -- 54 -> 131
              skip
              refine lv_iconst (v := nI 0) C.1 C.2.1 d_FT_ring_131 rfl ?_
              exact gr_i C hlk hret rfl hh (by refine Or.inr (Or.inr ⟨_, _, nm_, by assumption, rfl, rfl, by omega, enm_, hnm_, ?_⟩); rw [← ep_10]; exact rgP_no (hR_.trans (hRa.trans (rgA_out (by assumption)))) hBa) d_FT_ring_132
            · -- 54 -> 57
              skip
              have lo_a := loI (by omega) (by assumption : ¬ nI i_8 < a)
              refine lv_iload C.1 C.2.1 d_FT_ring_57 (lv_at hl 4 rfl) ?_
              refine lv_ineg C.1 C.2.1 d_FT_ring_59 ?_
              refine lv_istore (lv' := [(7, .int (-(nI g_14))), (0, .ref B), (1, .int (nI j_6)), (2, .int (nI i_8)), (3, .ref p_10), (4, .int (nI g_14)), (5, .int (nI g_18)), (6, .int a)]) C.1 C.2.1 d_FT_ring_60 hl (by decide) rfl (fun ls hl => ?_)
              have K62 : ∀ (n_62 : Nat) (fb : Nat) (b : Int32) (J62 : gm_J) (hb1 : -7 ≤ b.toInt) (hb2 : b.toInt ≤ 7) (hb3 : ((g_14 : Nat) : Int) + 1 - b.toInt < (fb : Int)) (hRb : rgB (kc I p_10) (nI g_14) (nI g_18) a 14 (-(nI g_14)) = rgB (kc I p_10) (nI g_14) (nI g_18) a fb b) (hBb : but5 B p_10 J J62) (hm_62 : fb < n_62), ∀ (H : Heap) (locs : List Loc) (ls : Array Slot), gm_St D cs sh (gm_A sh) s'.heap sz I J62 H locs → lv_has ls 10 [(0, .ref B), (1, .int (nI j_6)), (2, .int (nI i_8)), (3, .ref p_10), (4, .int (nI g_14)), (5, .int (nI g_18)), (6, .int a), (7, .int b)] → W p' l e' { frames := 4, cells := 0, slots := 0, locals := 95 } s' m' ([.ref B, .int (nI j_6), .int (nI i_8)] : List Value).toArray be' me' co' H locs 0 0 (MQ be' (va_Qi (fun x u => (inI (nI j_6) 0 (nI n - 1) = false ∧ x = -2 ∧ u = (I, J)) ∨ (inI (nI j_6) 0 (nI n - 1) = true ∧ inI (nI i_8) (nI 0) (nI 6) = false ∧ x = -3 ∧ u = (I, J)) ∨ ∃ j i nm, j < n ∧ (nI j_6) = nI j ∧ (nI i_8) = nI i ∧ i ≤ 6 ∧ I (B + 12 + 21 * j) 0 = nI nm ∧ nm ≤ 3 ∧ rgP I J B (B + 12 + 21 * j) i nm x u) (gm_B D cs sh sz) (gm_A sh)) ([.ref B, .int (nI j_6), .int (nI i_8)] : List Value).toArray s' 0 0 (gm_A sh)) (F0 m' 62 ls []) := by
                intro n_62
                induction n_62 with
                | zero => intro fb b J62 hb1 hb2 hb3 hRb hBb hm_62; exact absurd hm_62 (Nat.not_lt_zero _)
                | succ n_62 ih62 =>
                  intro fb b J62 hb1 hb2 hb3 hRb hBb hm_62 H locs ls hh hl
                  refine lv_iload C.1 C.2.1 d_FT_ring_62 (lv_at hl 7 rfl) ?_
                  refine lv_iload C.1 C.2.1 d_FT_ring_64 (lv_at hl 4 rfl) ?_
                  refine lv_icmp_gt (tgt := 125) C.1 C.2.1 d_FT_ring_66 (by decide) (fun c_20 => ?_) (fun c_20 => ?_)
                  · -- 66 -> 125
                    skip
                    obtain ⟨x_21, ex_21⟩ : ∃ z : Int32, z = a + Int32.ofInt 1 := ⟨_, rfl⟩
                    refine lv_iinc (v := x_21) (lv' := [(6, .int x_21), (0, .ref B), (1, .int (nI j_6)), (2, .int (nI i_8)), (3, .ref p_10), (4, .int (nI g_14)), (5, .int (nI g_18)), (7, .int b)]) C.1 C.2.1 d_FT_ring_125 hl (k := 6) rfl (ex_21.symm) (by decide) rfl (fun ls hl => ?_)
                    refine lv_goto (tgt := 51) C.1 C.2.1 d_FT_ring_128 (by decide) ?_
                    have nx_a : x_21.toInt = a.toInt + 1 := by rw [ex_21]; exact incT (by omega) (by omega)
                    obtain ⟨ga, ega⟩ : ∃ z, fa = z + 1 := ⟨fa - 1, by have := lo_a; omega⟩
                    exact ih51 ga x_21 J62 (by omega) (by have := lo_a; omega) (by omega) (by rw [hRa, ega, ex_21]; exact rgA_on (by assumption) (hRb.trans (rgB_out (by assumption)))) (by exact hBb) (by omega) _ _ _ hh (lv_sub hl [1, 2, 3, 4, 5, 6, 0] rfl)
                  · -- 66 -> 69
                    skip
                    have lo_b := loI (by omega) (by assumption : ¬ nI g_14 < b)
                    refine lv_iload C.1 C.2.1 d_FT_ring_69 (lv_at hl 5 rfl) ?_
                    refine lv_ineg C.1 C.2.1 d_FT_ring_71 ?_
                    refine lv_istore (lv' := [(8, .int (-(nI g_18))), (0, .ref B), (1, .int (nI j_6)), (2, .int (nI i_8)), (3, .ref p_10), (4, .int (nI g_14)), (5, .int (nI g_18)), (6, .int a), (7, .int b)]) C.1 C.2.1 d_FT_ring_72 hl (by decide) rfl (fun ls hl => ?_)
                    have K74 : ∀ (n_74 : Nat) (fc : Nat) (c : Int32) (J74 : gm_J) (hc1 : -7 ≤ c.toInt) (hc2 : c.toInt ≤ 7) (hc3 : ((g_18 : Nat) : Int) + 1 - c.toInt < (fc : Int)) (hRc : rgC (kc I p_10) (nI g_18) a b 14 (-(nI g_18)) = rgC (kc I p_10) (nI g_18) a b fc c) (hBc : but5 B p_10 J J74) (hm_74 : fc < n_74), ∀ (H : Heap) (locs : List Loc) (ls : Array Slot), gm_St D cs sh (gm_A sh) s'.heap sz I J74 H locs → lv_has ls 10 [(0, .ref B), (1, .int (nI j_6)), (2, .int (nI i_8)), (3, .ref p_10), (4, .int (nI g_14)), (5, .int (nI g_18)), (6, .int a), (7, .int b), (8, .int c)] → W p' l e' { frames := 4, cells := 0, slots := 0, locals := 95 } s' m' ([.ref B, .int (nI j_6), .int (nI i_8)] : List Value).toArray be' me' co' H locs 0 0 (MQ be' (va_Qi (fun x u => (inI (nI j_6) 0 (nI n - 1) = false ∧ x = -2 ∧ u = (I, J)) ∨ (inI (nI j_6) 0 (nI n - 1) = true ∧ inI (nI i_8) (nI 0) (nI 6) = false ∧ x = -3 ∧ u = (I, J)) ∨ ∃ j i nm, j < n ∧ (nI j_6) = nI j ∧ (nI i_8) = nI i ∧ i ≤ 6 ∧ I (B + 12 + 21 * j) 0 = nI nm ∧ nm ≤ 3 ∧ rgP I J B (B + 12 + 21 * j) i nm x u) (gm_B D cs sh sz) (gm_A sh)) ([.ref B, .int (nI j_6), .int (nI i_8)] : List Value).toArray s' 0 0 (gm_A sh)) (F0 m' 74 ls []) := by
                      intro n_74
                      induction n_74 with
                      | zero => intro fc c J74 hc1 hc2 hc3 hRc hBc hm_74; exact absurd hm_74 (Nat.not_lt_zero _)
                      | succ n_74 ih74 =>
                        intro fc c J74 hc1 hc2 hc3 hRc hBc hm_74 H locs ls hh hl
                        refine lv_iload C.1 C.2.1 d_FT_ring_74 (lv_at hl 8 rfl) ?_
                        refine lv_iload C.1 C.2.1 d_FT_ring_76 (lv_at hl 5 rfl) ?_
                        refine lv_icmp_gt (tgt := 119) C.1 C.2.1 d_FT_ring_78 (by decide) (fun c_22 => ?_) (fun c_22 => ?_)
                        · -- 78 -> 119
                          skip
                          obtain ⟨x_23, ex_23⟩ : ∃ z : Int32, z = b + Int32.ofInt 1 := ⟨_, rfl⟩
                          refine lv_iinc (v := x_23) (lv' := [(7, .int x_23), (0, .ref B), (1, .int (nI j_6)), (2, .int (nI i_8)), (3, .ref p_10), (4, .int (nI g_14)), (5, .int (nI g_18)), (6, .int a), (8, .int c)]) C.1 C.2.1 d_FT_ring_119 hl (k := 7) rfl (ex_23.symm) (by decide) rfl (fun ls hl => ?_)
                          refine lv_goto (tgt := 62) C.1 C.2.1 d_FT_ring_122 (by decide) ?_
                          have nx_b : x_23.toInt = b.toInt + 1 := by rw [ex_23]; exact incT (by omega) (by omega)
                          obtain ⟨gb, egb⟩ : ∃ z, fb = z + 1 := ⟨fb - 1, by have := lo_b; omega⟩
                          exact ih62 gb x_23 J74 (by omega) (by have := lo_b; omega) (by omega) (by rw [hRb, egb, ex_23]; exact rgB_on (by assumption) (hRc.trans (rgC_out (by assumption)))) (by exact hBc) (by omega) _ _ _ hh (lv_sub hl [1, 2, 3, 4, 5, 6, 7, 0] rfl)
                        · -- 78 -> 81
                          skip
                          have lo_c := loI (by omega) (by assumption : ¬ nI g_18 < c)
                          refine lv_aload_n C.1 C.2.1 d_FT_ring_81 rfl (lv_at hl 0 rfl) ?_
                          refine lv_aload_n C.1 C.2.1 d_FT_ring_82 rfl (lv_at hl 3 rfl) ?_
                          refine lv_iload C.1 C.2.1 d_FT_ring_83 (lv_at hl 6 rfl) ?_
                          refine lv_iload C.1 C.2.1 d_FT_ring_85 (lv_at hl 7 rfl) ?_
                          refine lv_iload C.1 C.2.1 d_FT_ring_87 (lv_at hl 8 rfl) ?_
                          refine gc_i hh (gc_runV (As := [.ref p_10, .int a, .int b, .int c]) (rest := []) (n := 4) C hml hh (c_FT_ringFromF l D cs sh sz I J74 B hF hV j_6 p_10 (by omega) ep_10 hp_10 a b c) (tg_V tw_547 tw_549 tw_25 tw_57 tw_550) (by decide +kernel) ⟨rfl, rfl, by decide, by decide, Nat.zero_le _, Nat.zero_le _⟩ hF.1 rfl rfl hl.1 rfl (Nat.le_of_ble_eq_true rfl) d_FT_ring_89) (fun r_24 I_25 J_26 H locs hr_24 hh => ?_)
                          obtain ⟨x_k_27, i_k_27, s_k_27, b_k_27⟩ := hr_24
                          rw [show I_25 = I from i_k_27] at hh
                          obtain ⟨k_27, ek_27⟩ : ∃ z : Nat, z = kc I p_10 a b c := ⟨_, rfl⟩
                          have lk_27 : k_27 ≤ 200 := by rw [ek_27]; exact kc_le _ _ _ _ _
                          replace x_k_27 : r_24 = nI k_27 := by rw [x_k_27, ek_27]; rfl
                          rw [x_k_27]
                          have s_k_27 : get3 J_26 (B + 9) = v3 a b c := s_k_27
                          have hBk_ : but5 B p_10 J J_26 := fun q h1 h2 h3 h4 => (b_k_27 q h1 h2 h3 h4).trans (hBc q h1 h2 h3 h4)
                          refine lv_istore (lv' := [(9, .int (nI k_27)), (0, .ref B), (1, .int (nI j_6)), (2, .int (nI i_8)), (3, .ref p_10), (4, .int (nI g_14)), (5, .int (nI g_18)), (6, .int a), (7, .int b), (8, .int c)]) C.1 C.2.1 d_FT_ring_92 hl (by decide) rfl (fun ls hl => ?_)
                          refine lv_iload C.1 C.2.1 d_FT_ring_94 (lv_at hl 0 rfl) ?_
                          refine lv_if_le (tgt := 113) C.1 C.2.1 d_FT_ring_96 (by decide) (fun c_28 => ?_) (fun c_28 => ?_)
                          · -- 96 -> 113
                            have c_28 := gm_let (b := 0) (by omega) (by omega) c_28
                            have c_28' := Nat.not_lt.mpr c_28
                            obtain ⟨x_29, ex_29⟩ : ∃ z : Int32, z = c + Int32.ofInt 1 := ⟨_, rfl⟩
                            refine lv_iinc (v := x_29) (lv' := [(8, .int x_29), (9, .int (nI k_27)), (0, .ref B), (1, .int (nI j_6)), (2, .int (nI i_8)), (3, .ref p_10), (4, .int (nI g_14)), (5, .int (nI g_18)), (6, .int a), (7, .int b)]) C.1 C.2.1 d_FT_ring_113 hl (k := 9) rfl (ex_29.symm) (by decide) rfl (fun ls hl => ?_)
                            refine lv_goto (tgt := 74) C.1 C.2.1 d_FT_ring_116 (by decide) ?_
                            have nx_c : x_29.toInt = c.toInt + 1 := by rw [ex_29]; exact incT (by omega) (by omega)
                            obtain ⟨gc, egc⟩ : ∃ z, fc = z + 1 := ⟨fc - 1, by have := lo_c; omega⟩
                            exact ih74 gc x_29 J_26 (by omega) (by have := lo_c; omega) (by omega) (by rw [hRc, egc, ex_29]; exact rgC_on (by assumption) (by rw [← ek_27]; omega)) (by exact hBk_) (by omega) _ _ _ hh (lv_sub hl [2, 3, 4, 5, 6, 7, 8, 9, 0] rfl)
                          · -- 96 -> 99
                            have c_28 := gm_lef (b := 0) (by omega) (by omega) c_28
                            have c_28' := Nat.not_le.mpr c_28
                            refine lv_aload_n C.1 C.2.1 d_FT_ring_99 rfl (lv_at hl 1 rfl) ?_
                            refine gg_r C hh hF.1 rfl in_FT 8 (by decide) rfl tw_218 rfl d_FT_ring_100 ?_
                            refine lv_aload_n C.1 C.2.1 d_FT_ring_103 rfl (lv_at hl 4 rfl) ?_
                            refine gn_r C hh hp_10.1 rfl in_Lp 4 (by decide) rfl tw_165 rfl d_FT_ring_104 ?_
                            refine gc_v hh (gc_runS (As := [.ref (B + 9), .ref (p_10 + 4)]) (rest := []) (n := 2) C hml hh (c_FT_copyState l D cs sh sz I J_26 (B + 9) (p_10 + 4) hF.2.2.2.2.2.2.2.1 hp_10.2.2.2.1 (by omega)) (tg_S tw_551 tw_532 tw_57 tw_533) (by decide +kernel) ⟨rfl, rfl, by decide, by decide, Nat.zero_le _, Nat.zero_le _⟩ rfl hl.1 rfl (Nat.le_of_ble_eq_true rfl) d_FT_ring_107) (fun I_31 J_32 H locs hr_30 hh => ?_)
                            rw [(Prod.mk.inj hr_30).1, (Prod.mk.inj hr_30).2] at hh
                            refine lv_iload C.1 C.2.1 d_FT_ring_110 (lv_at hl 0 rfl) ?_
                            exact gr_i C hlk hret rfl hh (by refine Or.inr (Or.inr ⟨_, _, nm_, by assumption, rfl, rfl, by omega, enm_, hnm_, ?_⟩); obtain ⟨ga, ega⟩ : ∃ z, fa = z + 1 := ⟨fa - 1, by have := lo_a; omega⟩; obtain ⟨gb, egb⟩ : ∃ z, fb = z + 1 := ⟨fb - 1, by have := lo_b; omega⟩; obtain ⟨gc, egc⟩ : ∃ z, fc = z + 1 := ⟨fc - 1, by have := lo_c; omega⟩; rw [← ep_10, s_k_27]; exact rgP_yes (hR_.trans (hRa.trans (by rw [ega]; exact rgA_yes (by assumption) (hRb.trans (by rw [egb]; exact rgB_yes (by assumption) (hRc.trans (by rw [egc, ek_27]; exact rgC_yes (by assumption) (by rw [← ek_27]; omega)))))))) lk_27 hBk_) d_FT_ring_112
                    exact K74 _ 14 (-(nI g_18)) J62 (by rw [negN (by omega)]; omega) (by rw [negN (by omega)]; omega) (by rw [negN (by omega)]; omega) (by rfl) (by exact hBb) (Nat.lt_succ_self _) _ _ _ hh (lv_sub hl [1, 2, 3, 4, 5, 6, 7, 8, 0] rfl)
              exact K62 _ 14 (-(nI g_14)) J51 (by rw [negN (by omega)]; omega) (by rw [negN (by omega)]; omega) (by rw [negN (by omega)]; omega) (by rfl) (by exact hBa) (Nat.lt_succ_self _) _ _ _ hh (lv_sub hl [1, 2, 3, 4, 5, 6, 7, 0] rfl)
        exact K51 _ 14 (-(nI i_8)) J (by rw [negN (by omega)]; omega) (by rw [negN (by omega)]; omega) (by rw [negN (by omega)]; omega) (by rfl) (by exact fun _ _ _ _ _ => rfl) (Nat.lt_succ_self _) _ _ _ hh (lv_sub hl [4, 5, 6, 3, 2, 1, 0] rfl)
      · -- 18 -> 21
        have c_9 := gm_lef (by omega) (by omega) c_9
        have c_9' := Nat.not_le.mpr c_9
        refine lv_bipush (v := (-3)) C.1 C.2.1 d_FT_ring_21 rfl ?_
        exact gr_i C hlk hret rfl hh (by refine Or.inr (Or.inl ⟨by assumption, ?_, rfl, rfl⟩); unfold inI; simp_all [nI_0]) d_FT_ring_23
  · -- 5 -> 8
    have b_33 := bI_f hr_1 c_4
    skip
    refine lv_bipush (v := (-2)) C.1 C.2.1 d_FT_ring_8 rfl ?_
    exact gr_i C hlk hret rfl hh (by exact Or.inl ⟨by assumption, rfl, rfl⟩) d_FT_ring_10
