set_option maxHeartbeats 4000000 in
set_option maxRecDepth 100000 in
theorem c_Pf_takeMoreQ (l : Launch) (D : va_G) (cs : Nat → ClassId) (sh : gm_H) (sz : Nat) (I : gm_I) (J : gm_J) (f : Nat) (hf : is_Pf sh f) (o : Nat) (ho : is_Lp cs sh o) (g h : Nat) (hg : is_Sa cs sh g h) (m nm op n : Nat) (em : I o 3 = nI m) (hm : m ≤ 3) (enm : I o 0 = nI nm) (hnm : nm ≤ 3) (eop : I f 2 = nI op) (hop : op < 8) (en : I f 1 = nI n) (hn : n < 3) (Z : Int32 → Int32 → Int32 → Nat → zT) (hZ : ∀ a b c, numB nm a b c (nI 2) = true → ∀ w, w < m → zok I J (o + 6 + 5 * w) (h + 12 * w) a b c (Z a b c w)) : CI l y_Pf_takeMore w_Pf_takeMore { frames := 4, cells := 0, slots := 0, locals := 100 } D cs sh sz I J [.ref f, .ref o, .ref g] (fun x u => tmP (ckk nm m Z op) f n I J x u) := by
  refine gm_start (by decide) (Nat.le_of_ble_eq_true rfl) ?_
  intro p' e' s' m' be' me' co' ls C hml hlk hret hh hl
  have hl : lv_has ls 10 [(0, .ref f), (1, .ref o), (2, .ref g)] := hl
  refine lv_aload_n C.1 C.2.1 d_Pf_takeMore_0 rfl (lv_at hl 1 rfl) ?_
  refine lv_iconst (v := nI 1) C.1 C.2.1 d_Pf_takeMore_1 rfl ?_
  refine lv_iconst (v := nI 2) C.1 C.2.1 d_Pf_takeMore_2 rfl ?_
  refine gc_i hh (gc_runV (As := [.int (nI 1), .int (nI 2)]) (rest := []) (n := 2) C hml hh (c_Lp_reach l D cs sh sz I J o ho nm 1 enm hnm (by omega) (nI 2)) (tg_V tw_435 tw_436 tw_437 tw_59 tw_438) (by decide +kernel) ⟨rfl, rfl, by decide, by decide, Nat.zero_le _, Nat.zero_le _⟩ ho.1 rfl rfl hl.1 rfl (Nat.le_of_ble_eq_true rfl) d_Pf_takeMore_3) (fun r_1 I_2 J_3 H locs hr_1 hh => ?_)
  obtain ⟨e_r_1, hr_1⟩ := hr_1
  rw [(Prod.mk.inj e_r_1).1, (Prod.mk.inj e_r_1).2] at hh
  obtain ⟨g_4, eg_4, vg_4⟩ : ∃ z : Nat, r_1 = nI z ∧ z = (if 1 < nm then 2 else 0) := ⟨if 1 < nm then 2 else 0, by rw [hr_1]; split <;> rfl, rfl⟩
  have hg_4 : g_4 ≤ 2 := by rw [vg_4]; split <;> omega
  rw [eg_4]
  refine lv_istore_n (lv' := [(3, .int (nI g_4)), (0, .ref f), (1, .ref o), (2, .ref g)]) C.1 C.2.1 d_Pf_takeMore_6 rfl hl (by decide) rfl (fun ls hl => ?_)
  refine lv_aload_n C.1 C.2.1 d_Pf_takeMore_7 rfl (lv_at hl 2 rfl) ?_
  refine lv_iconst (v := nI 2) C.1 C.2.1 d_Pf_takeMore_8 rfl ?_
  refine lv_iconst (v := nI 2) C.1 C.2.1 d_Pf_takeMore_9 rfl ?_
  refine gc_i hh (gc_runV (As := [.int (nI 2), .int (nI 2)]) (rest := []) (n := 2) C hml hh (c_Lp_reach l D cs sh sz I J o ho nm 2 enm hnm (by omega) (nI 2)) (tg_V tw_435 tw_436 tw_437 tw_59 tw_438) (by decide +kernel) ⟨rfl, rfl, by decide, by decide, Nat.zero_le _, Nat.zero_le _⟩ ho.1 rfl rfl hl.1 rfl (Nat.le_of_ble_eq_true rfl) d_Pf_takeMore_10) (fun r_5 I_6 J_7 H locs hr_5 hh => ?_)
  obtain ⟨e_r_5, hr_5⟩ := hr_5
  rw [(Prod.mk.inj e_r_5).1, (Prod.mk.inj e_r_5).2] at hh
  obtain ⟨g_8, eg_8, vg_8⟩ : ∃ z : Nat, r_5 = nI z ∧ z = (if 2 < nm then 2 else 0) := ⟨if 2 < nm then 2 else 0, by rw [hr_5]; split <;> rfl, rfl⟩
  have hg_8 : g_8 ≤ 2 := by rw [vg_8]; split <;> omega
  rw [eg_8]
  refine lv_istore (lv' := [(4, .int (nI g_8)), (3, .int (nI g_4)), (0, .ref f), (1, .ref o), (2, .ref g)]) C.1 C.2.1 d_Pf_takeMore_13 hl (by decide) rfl (fun ls hl => ?_)
  refine lv_bipush (v := (-2)) C.1 C.2.1 d_Pf_takeMore_15 rfl ?_
  refine lv_topi (fun x_9 ex_9 => ?_)
  refine lv_istore (lv' := [(5, .int x_9), (4, .int (nI g_8)), (3, .int (nI g_4)), (0, .ref f), (1, .ref o), (2, .ref g)]) C.1 C.2.1 d_Pf_takeMore_17 hl (by decide) rfl (fun ls hl => ?_)
  have K19 : ∀ (n_19 : Nat) (a : Int32) (ha1 : -7 ≤ a.toInt) (ha2 : a.toInt ≤ 7) (ha3 : -2 ≤ a.toInt) (hza : tz (ckk nm m Z op) (25 * (a.toInt + 2))) (hm_19 : (8 - a.toInt).toNat < n_19), ∀ (H : Heap) (locs : List Loc) (ls : Array Slot), gm_St D cs sh (gm_A sh) s'.heap sz I J H locs → lv_has ls 10 [(0, .ref f), (1, .ref o), (2, .ref g), (3, .int (nI g_4)), (4, .int (nI g_8)), (5, .int a)] → W p' l e' { frames := 4, cells := 0, slots := 0, locals := 100 } s' m' ([.ref f, .ref o, .ref g] : List Value).toArray be' me' co' H locs 0 0 (MQ be' (va_Qi (fun x u => tmP (ckk nm m Z op) f n I J x u) (gm_B D cs sh sz) (gm_A sh)) ([.ref f, .ref o, .ref g] : List Value).toArray s' 0 0 (gm_A sh)) (F0 m' 19 ls []) := by
    intro n_19
    induction n_19 with
    | zero => intro a ha1 ha2 ha3 hza hm_19; exact absurd hm_19 (Nat.not_lt_zero _)
    | succ n_19 ih19 =>
      intro a ha1 ha2 ha3 hza hm_19 H locs ls hh hl
      refine lv_iload C.1 C.2.1 d_Pf_takeMore_19 (lv_at hl 5 rfl) ?_
      refine lv_iconst (v := nI 2) C.1 C.2.1 d_Pf_takeMore_21 rfl ?_
      refine lv_icmp_gt (tgt := 129) C.1 C.2.1 d_Pf_takeMore_22 (by decide) (fun c_10 => ?_) (fun c_10 => ?_)
      · -- 22 -> 129
        skip
        refine lv_iconst (v := nI 0) C.1 C.2.1 d_Pf_takeMore_129 rfl ?_
        exact gr_i C hlk hret (gm_nb (Or.inl rfl)) hh (by exact tm_no hza (by have h_ := hiI (by omega) (by assumption : nI 2 < a); omega)) d_Pf_takeMore_130
      · -- 22 -> 25
        skip
        have lo_a := loI (by omega) (by assumption : ¬ nI 2 < a)
        refine lv_iload_n C.1 C.2.1 d_Pf_takeMore_25 rfl (lv_at hl 3 rfl) ?_
        refine lv_ineg C.1 C.2.1 d_Pf_takeMore_26 ?_
        refine lv_istore (lv' := [(6, .int (-(nI g_4))), (0, .ref f), (1, .ref o), (2, .ref g), (3, .int (nI g_4)), (4, .int (nI g_8)), (5, .int a)]) C.1 C.2.1 d_Pf_takeMore_27 hl (by decide) rfl (fun ls hl => ?_)
        have K29 : ∀ (n_29 : Nat) (b : Int32) (hb1 : -7 ≤ b.toInt) (hb2 : b.toInt ≤ 7) (hb3 : -(g_4 : Int) ≤ b.toInt) (hzb : tz (ckk nm m Z op) (25 * (a.toInt + 2) + 5 * (b.toInt + 2))) (hm_29 : (8 - b.toInt).toNat < n_29), ∀ (H : Heap) (locs : List Loc) (ls : Array Slot), gm_St D cs sh (gm_A sh) s'.heap sz I J H locs → lv_has ls 10 [(0, .ref f), (1, .ref o), (2, .ref g), (3, .int (nI g_4)), (4, .int (nI g_8)), (5, .int a), (6, .int b)] → W p' l e' { frames := 4, cells := 0, slots := 0, locals := 100 } s' m' ([.ref f, .ref o, .ref g] : List Value).toArray be' me' co' H locs 0 0 (MQ be' (va_Qi (fun x u => tmP (ckk nm m Z op) f n I J x u) (gm_B D cs sh sz) (gm_A sh)) ([.ref f, .ref o, .ref g] : List Value).toArray s' 0 0 (gm_A sh)) (F0 m' 29 ls []) := by
          intro n_29
          induction n_29 with
          | zero => intro b hb1 hb2 hb3 hzb hm_29; exact absurd hm_29 (Nat.not_lt_zero _)
          | succ n_29 ih29 =>
            intro b hb1 hb2 hb3 hzb hm_29 H locs ls hh hl
            refine lv_iload C.1 C.2.1 d_Pf_takeMore_29 (lv_at hl 6 rfl) ?_
            refine lv_iload_n C.1 C.2.1 d_Pf_takeMore_31 rfl (lv_at hl 3 rfl) ?_
            refine lv_icmp_gt (tgt := 123) C.1 C.2.1 d_Pf_takeMore_32 (by decide) (fun c_11 => ?_) (fun c_11 => ?_)
            · -- 32 -> 123
              skip
              obtain ⟨x_12, ex_12⟩ : ∃ z : Int32, z = a + Int32.ofInt 1 := ⟨_, rfl⟩
              refine lv_iinc (v := x_12) (lv' := [(5, .int x_12), (0, .ref f), (1, .ref o), (2, .ref g), (3, .int (nI g_4)), (4, .int (nI g_8)), (6, .int b)]) C.1 C.2.1 d_Pf_takeMore_123 hl (k := 5) rfl (ex_12.symm) (by decide) rfl (fun ls hl => ?_)
              refine lv_goto (tgt := 19) C.1 C.2.1 d_Pf_takeMore_126 (by decide) ?_
              have nx_a : x_12.toInt = a.toInt + 1 := by rw [ex_12]; exact incT (by omega) (by omega)
              exact ih19 x_12 (by omega) (by omega) (by omega) (by rw [nx_a]; exact tz_b2 hzb (by omega) (hiI (by omega) (by assumption)) vg_4) (by omega) _ _ _ hh (lv_sub hl [1, 2, 3, 4, 5, 0] rfl)
            · -- 32 -> 35
              skip
              have lo_b := loI (by omega) (by assumption : ¬ nI g_4 < b)
              refine lv_iload C.1 C.2.1 d_Pf_takeMore_35 (lv_at hl 4 rfl) ?_
              refine lv_ineg C.1 C.2.1 d_Pf_takeMore_37 ?_
              refine lv_istore (lv' := [(7, .int (-(nI g_8))), (0, .ref f), (1, .ref o), (2, .ref g), (3, .int (nI g_4)), (4, .int (nI g_8)), (5, .int a), (6, .int b)]) C.1 C.2.1 d_Pf_takeMore_38 hl (by decide) rfl (fun ls hl => ?_)
              have K40 : ∀ (n_40 : Nat) (c : Int32) (hc1 : -7 ≤ c.toInt) (hc2 : c.toInt ≤ 7) (hc3 : -(g_8 : Int) ≤ c.toInt) (hzc : tz (ckk nm m Z op) (25 * (a.toInt + 2) + 5 * (b.toInt + 2) + (c.toInt + 2))) (hm_40 : (8 - c.toInt).toNat < n_40), ∀ (H : Heap) (locs : List Loc) (ls : Array Slot), gm_St D cs sh (gm_A sh) s'.heap sz I J H locs → lv_has ls 10 [(0, .ref f), (1, .ref o), (2, .ref g), (3, .int (nI g_4)), (4, .int (nI g_8)), (5, .int a), (6, .int b), (7, .int c)] → W p' l e' { frames := 4, cells := 0, slots := 0, locals := 100 } s' m' ([.ref f, .ref o, .ref g] : List Value).toArray be' me' co' H locs 0 0 (MQ be' (va_Qi (fun x u => tmP (ckk nm m Z op) f n I J x u) (gm_B D cs sh sz) (gm_A sh)) ([.ref f, .ref o, .ref g] : List Value).toArray s' 0 0 (gm_A sh)) (F0 m' 40 ls []) := by
                intro n_40
                induction n_40 with
                | zero => intro c hc1 hc2 hc3 hzc hm_40; exact absurd hm_40 (Nat.not_lt_zero _)
                | succ n_40 ih40 =>
                  intro c hc1 hc2 hc3 hzc hm_40 H locs ls hh hl
                  refine lv_iload C.1 C.2.1 d_Pf_takeMore_40 (lv_at hl 7 rfl) ?_
                  refine lv_iload C.1 C.2.1 d_Pf_takeMore_42 (lv_at hl 4 rfl) ?_
                  refine lv_icmp_gt (tgt := 117) C.1 C.2.1 d_Pf_takeMore_44 (by decide) (fun c_13 => ?_) (fun c_13 => ?_)
                  · -- 44 -> 117
                    skip
                    obtain ⟨x_14, ex_14⟩ : ∃ z : Int32, z = b + Int32.ofInt 1 := ⟨_, rfl⟩
                    refine lv_iinc (v := x_14) (lv' := [(6, .int x_14), (0, .ref f), (1, .ref o), (2, .ref g), (3, .int (nI g_4)), (4, .int (nI g_8)), (5, .int a), (7, .int c)]) C.1 C.2.1 d_Pf_takeMore_117 hl (k := 6) rfl (ex_14.symm) (by decide) rfl (fun ls hl => ?_)
                    refine lv_goto (tgt := 29) C.1 C.2.1 d_Pf_takeMore_120 (by decide) ?_
                    have nx_b : x_14.toInt = b.toInt + 1 := by rw [ex_14]; exact incT (by omega) (by omega)
                    exact ih29 x_14 (by omega) (by omega) (by omega) (by rw [nx_b]; exact tz_c2 hzc (by omega) (by omega) (hiI (by omega) (by assumption)) vg_8) (by omega) _ _ _ hh (lv_sub hl [1, 2, 3, 4, 5, 6, 0] rfl)
                  · -- 44 -> 47
                    skip
                    have lo_c := loI (by omega) (by assumption : ¬ nI g_8 < c)
                    refine lv_iload C.1 C.2.1 d_Pf_takeMore_47 (lv_at hl 5 rfl) ?_
                    refine lv_if_ne (tgt := 62) C.1 C.2.1 d_Pf_takeMore_49 (by decide) (fun c_15 => ?_) (fun c_15 => ?_)
                    · -- 49 -> 62
                      skip
                      refine lv_iconst (v := nI 1) C.1 C.2.1 d_Pf_takeMore_62 rfl ?_
                      refine lv_goto (tgt := 67) C.1 C.2.1 d_Pf_takeMore_63 (by decide) ?_
                      refine lv_istore (lv' := [(8, .int (nI 1)), (0, .ref f), (1, .ref o), (2, .ref g), (3, .int (nI g_4)), (4, .int (nI g_8)), (5, .int a), (6, .int b), (7, .int c)]) C.1 C.2.1 d_Pf_takeMore_67 hl (by decide) rfl (fun ls hl => ?_)
                      refine lv_iload C.1 C.2.1 d_Pf_takeMore_69 (lv_at hl 0 rfl) ?_
                      refine lv_if_eq (tgt := 89) C.1 C.2.1 d_Pf_takeMore_71 (by decide) (fun c_ => absurd c_ (by decide)) (fun c_ => ?_)
                      refine lv_aload_n C.1 C.2.1 d_Pf_takeMore_74 rfl (lv_at hl 1 rfl) ?_
                      refine lv_aload_n C.1 C.2.1 d_Pf_takeMore_75 rfl (lv_at hl 2 rfl) ?_
                      refine lv_aload_n C.1 C.2.1 d_Pf_takeMore_76 rfl (lv_at hl 3 rfl) ?_
                      refine lv_iload C.1 C.2.1 d_Pf_takeMore_77 (lv_at hl 6 rfl) ?_
                      refine lv_iload C.1 C.2.1 d_Pf_takeMore_79 (lv_at hl 7 rfl) ?_
                      refine lv_iload C.1 C.2.1 d_Pf_takeMore_81 (lv_at hl 8 rfl) ?_
                      have hnb_ : numB nm a b c (nI 2) = true := num_mk (by omega) (by omega) (by omega) vg_4 vg_8 (by rintro ⟨q1, q2, q3⟩; first | exact absurd q1 (by assumption) | exact absurd q2 (by assumption) | exact absurd q3 (by assumption))
                      refine gc_i hh (gc_runV (As := [.ref o, .ref g, .int a, .int b, .int c]) (rest := []) (n := 5) C hml hh (c_Pf_takenByQ l D cs sh sz I J f hf o ho g h hg m op em hm eop hop a b c (Z a b c) (fun w_ hw_ => hZ a b c hnb_ w_ hw_)) (tg_V tw_439 tw_441 tw_19 tw_58 tw_442) (by decide +kernel) ⟨rfl, rfl, by decide, by decide, Nat.zero_le _, Nat.zero_le _⟩ hf.1 rfl rfl hl.1 rfl (Nat.le_of_ble_eq_true rfl) d_Pf_takeMore_83) (fun r_16 I_17 J_18 H locs hr_16 hh => ?_)
                      obtain ⟨e_r_16, hr_16⟩ := hr_16
                      rw [(Prod.mk.inj e_r_16).1, (Prod.mk.inj e_r_16).2] at hh
                      obtain ⟨tk_, etk_⟩ : ∃ z : Nat, z = (ckN (Z a b c) op m).getD 0 := ⟨_, rfl⟩
                      have tk8_ : tk_ < 8 := by rw [etk_]; exact (ck_ok hm hop).1
                      rw [← etk_] at hr_16
                      rw [hr_16]
                      refine lv_goto (tgt := 90) C.1 C.2.1 d_Pf_takeMore_86 (by decide) ?_
                      refine lv_istore (lv' := [(9, .int (nI tk_)), (8, .int (nI 1)), (0, .ref f), (1, .ref o), (2, .ref g), (3, .int (nI g_4)), (4, .int (nI g_8)), (5, .int a), (6, .int b), (7, .int c)]) C.1 C.2.1 d_Pf_takeMore_90 hl (by decide) rfl (fun ls hl => ?_)
                      refine lv_iload C.1 C.2.1 d_Pf_takeMore_92 (lv_at hl 0 rfl) ?_
                      refine lv_if_eq (tgt := 111) C.1 C.2.1 d_Pf_takeMore_94 (by decide) (fun c_19 => ?_) (fun c_19 => ?_)
                      · -- 94 -> 111
                        have c_19 := gm_eqt (b := 0) (by omega) (by omega) c_19
                        obtain ⟨x_20, ex_20⟩ : ∃ z : Int32, z = c + Int32.ofInt 1 := ⟨_, rfl⟩
                        refine lv_iinc (v := x_20) (lv' := [(7, .int x_20), (9, .int (nI tk_)), (8, .int (nI 1)), (0, .ref f), (1, .ref o), (2, .ref g), (3, .int (nI g_4)), (4, .int (nI g_8)), (5, .int a), (6, .int b)]) C.1 C.2.1 d_Pf_takeMore_111 hl (k := 9) rfl (ex_20.symm) (by decide) rfl (fun ls hl => ?_)
                        refine lv_goto (tgt := 40) C.1 C.2.1 d_Pf_takeMore_114 (by decide) ?_
                        have nx_c : x_20.toInt = c.toInt + 1 := by rw [ex_20]; exact incT (by omega) (by omega)
                        exact ih40 x_20 (by omega) (by omega) (by omega) (by rw [nx_c]; exact tz_on hzc (by omega) (by omega) (by omega) (tz_skip (by omega) (by omega) (by omega) (by first | exact Or.inl (by rw [show a = 0 by assumption, show b = 0 by assumption, show c = 0 by assumption]; exact num_0) | exact Or.inr (by rw [← etk_]; omega)))) (by omega) _ _ _ hh (lv_sub hl [3, 4, 5, 6, 7, 8, 9, 0] rfl)
                      · -- 94 -> 97
                        have c_19 := gm_eqf (b := 0) (by omega) (by omega) c_19
                        refine lv_aload_n C.1 C.2.1 d_Pf_takeMore_97 rfl (lv_at hl 2 rfl) ?_
                        refine lv_iload C.1 C.2.1 d_Pf_takeMore_98 (lv_at hl 7 rfl) ?_
                        refine lv_iload C.1 C.2.1 d_Pf_takeMore_100 (lv_at hl 8 rfl) ?_
                        refine lv_iload C.1 C.2.1 d_Pf_takeMore_102 (lv_at hl 9 rfl) ?_
                        refine lv_iload C.1 C.2.1 d_Pf_takeMore_104 (lv_at hl 0 rfl) ?_
                        refine gc_v hh (gc_runV (As := [.int a, .int b, .int c, .int (nI tk_)]) (rest := []) (n := 4) C hml hh (c_Pf_append l D cs sh sz I J f hf n en (Nat.le_of_lt hn) a b c (nI tk_)) (tg_V tw_445 tw_447 tw_20 tw_58 tw_448) (by decide +kernel) ⟨rfl, rfl, by decide, by decide, Nat.zero_le _, Nat.zero_le _⟩ hf.1 rfl rfl hl.1 rfl (Nat.le_of_ble_eq_true rfl) d_Pf_takeMore_106) (fun I_22 J_23 H locs hr_21 hh => ?_)
                        refine lv_iconst (v := nI 1) C.1 C.2.1 d_Pf_takeMore_109 rfl ?_
                        exact gr_i C hlk hret (gm_nb (Or.inr rfl)) hh (by exact tm_yes hzc (by omega) (by omega) (by omega) hnb_ etk_ (by assumption) hn hr_21) d_Pf_takeMore_110
                    · -- 49 -> 52
                      skip
                      refine lv_iload C.1 C.2.1 d_Pf_takeMore_52 (lv_at hl 6 rfl) ?_
                      refine lv_if_ne (tgt := 62) C.1 C.2.1 d_Pf_takeMore_54 (by decide) (fun c_24 => ?_) (fun c_24 => ?_)
                      · -- 54 -> 62
                        skip
                        refine lv_iconst (v := nI 1) C.1 C.2.1 d_Pf_takeMore_62 rfl ?_
                        refine lv_goto (tgt := 67) C.1 C.2.1 d_Pf_takeMore_63 (by decide) ?_
                        refine lv_istore (lv' := [(8, .int (nI 1)), (0, .ref f), (1, .ref o), (2, .ref g), (3, .int (nI g_4)), (4, .int (nI g_8)), (5, .int a), (6, .int b), (7, .int c)]) C.1 C.2.1 d_Pf_takeMore_67 hl (by decide) rfl (fun ls hl => ?_)
                        refine lv_iload C.1 C.2.1 d_Pf_takeMore_69 (lv_at hl 0 rfl) ?_
                        refine lv_if_eq (tgt := 89) C.1 C.2.1 d_Pf_takeMore_71 (by decide) (fun c_ => absurd c_ (by decide)) (fun c_ => ?_)
                        refine lv_aload_n C.1 C.2.1 d_Pf_takeMore_74 rfl (lv_at hl 1 rfl) ?_
                        refine lv_aload_n C.1 C.2.1 d_Pf_takeMore_75 rfl (lv_at hl 2 rfl) ?_
                        refine lv_aload_n C.1 C.2.1 d_Pf_takeMore_76 rfl (lv_at hl 3 rfl) ?_
                        refine lv_iload C.1 C.2.1 d_Pf_takeMore_77 (lv_at hl 6 rfl) ?_
                        refine lv_iload C.1 C.2.1 d_Pf_takeMore_79 (lv_at hl 7 rfl) ?_
                        refine lv_iload C.1 C.2.1 d_Pf_takeMore_81 (lv_at hl 8 rfl) ?_
                        have hnb_ : numB nm a b c (nI 2) = true := num_mk (by omega) (by omega) (by omega) vg_4 vg_8 (by rintro ⟨q1, q2, q3⟩; first | exact absurd q1 (by assumption) | exact absurd q2 (by assumption) | exact absurd q3 (by assumption))
                        refine gc_i hh (gc_runV (As := [.ref o, .ref g, .int a, .int b, .int c]) (rest := []) (n := 5) C hml hh (c_Pf_takenByQ l D cs sh sz I J f hf o ho g h hg m op em hm eop hop a b c (Z a b c) (fun w_ hw_ => hZ a b c hnb_ w_ hw_)) (tg_V tw_439 tw_441 tw_19 tw_58 tw_442) (by decide +kernel) ⟨rfl, rfl, by decide, by decide, Nat.zero_le _, Nat.zero_le _⟩ hf.1 rfl rfl hl.1 rfl (Nat.le_of_ble_eq_true rfl) d_Pf_takeMore_83) (fun r_25 I_26 J_27 H locs hr_25 hh => ?_)
                        obtain ⟨e_r_25, hr_25⟩ := hr_25
                        rw [(Prod.mk.inj e_r_25).1, (Prod.mk.inj e_r_25).2] at hh
                        obtain ⟨tk_, etk_⟩ : ∃ z : Nat, z = (ckN (Z a b c) op m).getD 0 := ⟨_, rfl⟩
                        have tk8_ : tk_ < 8 := by rw [etk_]; exact (ck_ok hm hop).1
                        rw [← etk_] at hr_25
                        rw [hr_25]
                        refine lv_goto (tgt := 90) C.1 C.2.1 d_Pf_takeMore_86 (by decide) ?_
                        refine lv_istore (lv' := [(9, .int (nI tk_)), (8, .int (nI 1)), (0, .ref f), (1, .ref o), (2, .ref g), (3, .int (nI g_4)), (4, .int (nI g_8)), (5, .int a), (6, .int b), (7, .int c)]) C.1 C.2.1 d_Pf_takeMore_90 hl (by decide) rfl (fun ls hl => ?_)
                        refine lv_iload C.1 C.2.1 d_Pf_takeMore_92 (lv_at hl 0 rfl) ?_
                        refine lv_if_eq (tgt := 111) C.1 C.2.1 d_Pf_takeMore_94 (by decide) (fun c_28 => ?_) (fun c_28 => ?_)
                        · -- 94 -> 111
                          have c_28 := gm_eqt (b := 0) (by omega) (by omega) c_28
                          obtain ⟨x_29, ex_29⟩ : ∃ z : Int32, z = c + Int32.ofInt 1 := ⟨_, rfl⟩
                          refine lv_iinc (v := x_29) (lv' := [(7, .int x_29), (9, .int (nI tk_)), (8, .int (nI 1)), (0, .ref f), (1, .ref o), (2, .ref g), (3, .int (nI g_4)), (4, .int (nI g_8)), (5, .int a), (6, .int b)]) C.1 C.2.1 d_Pf_takeMore_111 hl (k := 9) rfl (ex_29.symm) (by decide) rfl (fun ls hl => ?_)
                          refine lv_goto (tgt := 40) C.1 C.2.1 d_Pf_takeMore_114 (by decide) ?_
                          have nx_c : x_29.toInt = c.toInt + 1 := by rw [ex_29]; exact incT (by omega) (by omega)
                          exact ih40 x_29 (by omega) (by omega) (by omega) (by rw [nx_c]; exact tz_on hzc (by omega) (by omega) (by omega) (tz_skip (by omega) (by omega) (by omega) (by first | exact Or.inl (by rw [show a = 0 by assumption, show b = 0 by assumption, show c = 0 by assumption]; exact num_0) | exact Or.inr (by rw [← etk_]; omega)))) (by omega) _ _ _ hh (lv_sub hl [3, 4, 5, 6, 7, 8, 9, 0] rfl)
                        · -- 94 -> 97
                          have c_28 := gm_eqf (b := 0) (by omega) (by omega) c_28
                          refine lv_aload_n C.1 C.2.1 d_Pf_takeMore_97 rfl (lv_at hl 2 rfl) ?_
                          refine lv_iload C.1 C.2.1 d_Pf_takeMore_98 (lv_at hl 7 rfl) ?_
                          refine lv_iload C.1 C.2.1 d_Pf_takeMore_100 (lv_at hl 8 rfl) ?_
                          refine lv_iload C.1 C.2.1 d_Pf_takeMore_102 (lv_at hl 9 rfl) ?_
                          refine lv_iload C.1 C.2.1 d_Pf_takeMore_104 (lv_at hl 0 rfl) ?_
                          refine gc_v hh (gc_runV (As := [.int a, .int b, .int c, .int (nI tk_)]) (rest := []) (n := 4) C hml hh (c_Pf_append l D cs sh sz I J f hf n en (Nat.le_of_lt hn) a b c (nI tk_)) (tg_V tw_445 tw_447 tw_20 tw_58 tw_448) (by decide +kernel) ⟨rfl, rfl, by decide, by decide, Nat.zero_le _, Nat.zero_le _⟩ hf.1 rfl rfl hl.1 rfl (Nat.le_of_ble_eq_true rfl) d_Pf_takeMore_106) (fun I_31 J_32 H locs hr_30 hh => ?_)
                          refine lv_iconst (v := nI 1) C.1 C.2.1 d_Pf_takeMore_109 rfl ?_
                          exact gr_i C hlk hret (gm_nb (Or.inr rfl)) hh (by exact tm_yes hzc (by omega) (by omega) (by omega) hnb_ etk_ (by assumption) hn hr_30) d_Pf_takeMore_110
                      · -- 54 -> 57
                        skip
                        refine lv_iload C.1 C.2.1 d_Pf_takeMore_57 (lv_at hl 7 rfl) ?_
                        refine lv_if_eq (tgt := 66) C.1 C.2.1 d_Pf_takeMore_59 (by decide) (fun c_33 => ?_) (fun c_33 => ?_)
                        · -- 59 -> 66
                          skip
                          refine lv_iconst (v := nI 0) C.1 C.2.1 d_Pf_takeMore_66 rfl ?_
                          refine lv_istore (lv' := [(8, .int (nI 0)), (0, .ref f), (1, .ref o), (2, .ref g), (3, .int (nI g_4)), (4, .int (nI g_8)), (5, .int a), (6, .int b), (7, .int c)]) C.1 C.2.1 d_Pf_takeMore_67 hl (by decide) rfl (fun ls hl => ?_)
                          refine lv_iload C.1 C.2.1 d_Pf_takeMore_69 (lv_at hl 0 rfl) ?_
                          refine lv_if_eq (tgt := 89) C.1 C.2.1 d_Pf_takeMore_71 (by decide) (fun c_ => ?_) (fun c_ => absurd (by decide) c_)
                          refine lv_iconst (v := nI 0) C.1 C.2.1 d_Pf_takeMore_89 rfl ?_
                          refine lv_istore (lv' := [(9, .int (nI 0)), (8, .int (nI 0)), (0, .ref f), (1, .ref o), (2, .ref g), (3, .int (nI g_4)), (4, .int (nI g_8)), (5, .int a), (6, .int b), (7, .int c)]) C.1 C.2.1 d_Pf_takeMore_90 hl (by decide) rfl (fun ls hl => ?_)
                          refine lv_iload C.1 C.2.1 d_Pf_takeMore_92 (lv_at hl 0 rfl) ?_
                          refine lv_if_eq (tgt := 111) C.1 C.2.1 d_Pf_takeMore_94 (by decide) (fun c_ => ?_) (fun c_ => absurd (by decide) c_)
                          obtain ⟨x_34, ex_34⟩ : ∃ z : Int32, z = c + Int32.ofInt 1 := ⟨_, rfl⟩
                          refine lv_iinc (v := x_34) (lv' := [(7, .int x_34), (9, .int (nI 0)), (8, .int (nI 0)), (0, .ref f), (1, .ref o), (2, .ref g), (3, .int (nI g_4)), (4, .int (nI g_8)), (5, .int a), (6, .int b)]) C.1 C.2.1 d_Pf_takeMore_111 hl (k := 9) rfl (ex_34.symm) (by decide) rfl (fun ls hl => ?_)
                          refine lv_goto (tgt := 40) C.1 C.2.1 d_Pf_takeMore_114 (by decide) ?_
                          have nx_c : x_34.toInt = c.toInt + 1 := by rw [ex_34]; exact incT (by omega) (by omega)
                          exact ih40 x_34 (by omega) (by omega) (by omega) (by rw [nx_c]; exact tz_on hzc (by omega) (by omega) (by omega) (tz_skip (by omega) (by omega) (by omega) (by first | exact Or.inl (by rw [show a = 0 by assumption, show b = 0 by assumption, show c = 0 by assumption]; exact num_0) | exact Or.inr (by rw [← etk_]; omega)))) (by omega) _ _ _ hh (lv_sub hl [3, 4, 5, 6, 7, 8, 9, 0] rfl)
                        · -- 59 -> 62
                          skip
                          refine lv_iconst (v := nI 1) C.1 C.2.1 d_Pf_takeMore_62 rfl ?_
                          refine lv_goto (tgt := 67) C.1 C.2.1 d_Pf_takeMore_63 (by decide) ?_
                          refine lv_istore (lv' := [(8, .int (nI 1)), (0, .ref f), (1, .ref o), (2, .ref g), (3, .int (nI g_4)), (4, .int (nI g_8)), (5, .int a), (6, .int b), (7, .int c)]) C.1 C.2.1 d_Pf_takeMore_67 hl (by decide) rfl (fun ls hl => ?_)
                          refine lv_iload C.1 C.2.1 d_Pf_takeMore_69 (lv_at hl 0 rfl) ?_
                          refine lv_if_eq (tgt := 89) C.1 C.2.1 d_Pf_takeMore_71 (by decide) (fun c_ => absurd c_ (by decide)) (fun c_ => ?_)
                          refine lv_aload_n C.1 C.2.1 d_Pf_takeMore_74 rfl (lv_at hl 1 rfl) ?_
                          refine lv_aload_n C.1 C.2.1 d_Pf_takeMore_75 rfl (lv_at hl 2 rfl) ?_
                          refine lv_aload_n C.1 C.2.1 d_Pf_takeMore_76 rfl (lv_at hl 3 rfl) ?_
                          refine lv_iload C.1 C.2.1 d_Pf_takeMore_77 (lv_at hl 6 rfl) ?_
                          refine lv_iload C.1 C.2.1 d_Pf_takeMore_79 (lv_at hl 7 rfl) ?_
                          refine lv_iload C.1 C.2.1 d_Pf_takeMore_81 (lv_at hl 8 rfl) ?_
                          have hnb_ : numB nm a b c (nI 2) = true := num_mk (by omega) (by omega) (by omega) vg_4 vg_8 (by rintro ⟨q1, q2, q3⟩; first | exact absurd q1 (by assumption) | exact absurd q2 (by assumption) | exact absurd q3 (by assumption))
                          refine gc_i hh (gc_runV (As := [.ref o, .ref g, .int a, .int b, .int c]) (rest := []) (n := 5) C hml hh (c_Pf_takenByQ l D cs sh sz I J f hf o ho g h hg m op em hm eop hop a b c (Z a b c) (fun w_ hw_ => hZ a b c hnb_ w_ hw_)) (tg_V tw_439 tw_441 tw_19 tw_58 tw_442) (by decide +kernel) ⟨rfl, rfl, by decide, by decide, Nat.zero_le _, Nat.zero_le _⟩ hf.1 rfl rfl hl.1 rfl (Nat.le_of_ble_eq_true rfl) d_Pf_takeMore_83) (fun r_35 I_36 J_37 H locs hr_35 hh => ?_)
                          obtain ⟨e_r_35, hr_35⟩ := hr_35
                          rw [(Prod.mk.inj e_r_35).1, (Prod.mk.inj e_r_35).2] at hh
                          obtain ⟨tk_, etk_⟩ : ∃ z : Nat, z = (ckN (Z a b c) op m).getD 0 := ⟨_, rfl⟩
                          have tk8_ : tk_ < 8 := by rw [etk_]; exact (ck_ok hm hop).1
                          rw [← etk_] at hr_35
                          rw [hr_35]
                          refine lv_goto (tgt := 90) C.1 C.2.1 d_Pf_takeMore_86 (by decide) ?_
                          refine lv_istore (lv' := [(9, .int (nI tk_)), (8, .int (nI 1)), (0, .ref f), (1, .ref o), (2, .ref g), (3, .int (nI g_4)), (4, .int (nI g_8)), (5, .int a), (6, .int b), (7, .int c)]) C.1 C.2.1 d_Pf_takeMore_90 hl (by decide) rfl (fun ls hl => ?_)
                          refine lv_iload C.1 C.2.1 d_Pf_takeMore_92 (lv_at hl 0 rfl) ?_
                          refine lv_if_eq (tgt := 111) C.1 C.2.1 d_Pf_takeMore_94 (by decide) (fun c_38 => ?_) (fun c_38 => ?_)
                          · -- 94 -> 111
                            have c_38 := gm_eqt (b := 0) (by omega) (by omega) c_38
                            obtain ⟨x_39, ex_39⟩ : ∃ z : Int32, z = c + Int32.ofInt 1 := ⟨_, rfl⟩
                            refine lv_iinc (v := x_39) (lv' := [(7, .int x_39), (9, .int (nI tk_)), (8, .int (nI 1)), (0, .ref f), (1, .ref o), (2, .ref g), (3, .int (nI g_4)), (4, .int (nI g_8)), (5, .int a), (6, .int b)]) C.1 C.2.1 d_Pf_takeMore_111 hl (k := 9) rfl (ex_39.symm) (by decide) rfl (fun ls hl => ?_)
                            refine lv_goto (tgt := 40) C.1 C.2.1 d_Pf_takeMore_114 (by decide) ?_
                            have nx_c : x_39.toInt = c.toInt + 1 := by rw [ex_39]; exact incT (by omega) (by omega)
                            exact ih40 x_39 (by omega) (by omega) (by omega) (by rw [nx_c]; exact tz_on hzc (by omega) (by omega) (by omega) (tz_skip (by omega) (by omega) (by omega) (by first | exact Or.inl (by rw [show a = 0 by assumption, show b = 0 by assumption, show c = 0 by assumption]; exact num_0) | exact Or.inr (by rw [← etk_]; omega)))) (by omega) _ _ _ hh (lv_sub hl [3, 4, 5, 6, 7, 8, 9, 0] rfl)
                          · -- 94 -> 97
                            have c_38 := gm_eqf (b := 0) (by omega) (by omega) c_38
                            refine lv_aload_n C.1 C.2.1 d_Pf_takeMore_97 rfl (lv_at hl 2 rfl) ?_
                            refine lv_iload C.1 C.2.1 d_Pf_takeMore_98 (lv_at hl 7 rfl) ?_
                            refine lv_iload C.1 C.2.1 d_Pf_takeMore_100 (lv_at hl 8 rfl) ?_
                            refine lv_iload C.1 C.2.1 d_Pf_takeMore_102 (lv_at hl 9 rfl) ?_
                            refine lv_iload C.1 C.2.1 d_Pf_takeMore_104 (lv_at hl 0 rfl) ?_
                            refine gc_v hh (gc_runV (As := [.int a, .int b, .int c, .int (nI tk_)]) (rest := []) (n := 4) C hml hh (c_Pf_append l D cs sh sz I J f hf n en (Nat.le_of_lt hn) a b c (nI tk_)) (tg_V tw_445 tw_447 tw_20 tw_58 tw_448) (by decide +kernel) ⟨rfl, rfl, by decide, by decide, Nat.zero_le _, Nat.zero_le _⟩ hf.1 rfl rfl hl.1 rfl (Nat.le_of_ble_eq_true rfl) d_Pf_takeMore_106) (fun I_41 J_42 H locs hr_40 hh => ?_)
                            refine lv_iconst (v := nI 1) C.1 C.2.1 d_Pf_takeMore_109 rfl ?_
                            exact gr_i C hlk hret (gm_nb (Or.inr rfl)) hh (by exact tm_yes hzc (by omega) (by omega) (by omega) hnb_ etk_ (by assumption) hn hr_40) d_Pf_takeMore_110
              exact K40 _ (-(nI g_8)) (by first | decide | (rw [negN (by omega)]; omega)) (by first | decide | (rw [negN (by omega)]; omega)) (by rw [negN (by omega)]; omega) (by rw [negN (by omega)]; exact tz_c hzb (by omega) (by omega) vg_8) (Nat.lt_succ_self _) _ _ _ hh (lv_sub hl [1, 2, 3, 4, 5, 6, 7, 0] rfl)
        exact K29 _ (-(nI g_4)) (by first | decide | (rw [negN (by omega)]; omega)) (by first | decide | (rw [negN (by omega)]; omega)) (by rw [negN (by omega)]; omega) (by rw [negN (by omega)]; exact tz_b hza (by omega) vg_4) (Nat.lt_succ_self _) _ _ _ hh (lv_sub hl [1, 2, 3, 4, 5, 6, 0] rfl)
  exact K19 _ x_9 (by rw [ex_9]; decide) (by rw [ex_9]; decide) (by rw [show (x_9).toInt = -2 by subst ex_9; decide]; decide) (by exact tz_a0 (by subst ex_9; decide)) (Nat.lt_succ_self _) _ _ _ hh (lv_sub hl [3, 4, 5, 2, 1, 0] rfl)
