set_option maxHeartbeats 4000000 in
set_option maxRecDepth 100000 in
theorem c_Md_leftBy (l : Launch) (D : va_G) (cs : Nat → ClassId) (sh : gm_H) (sz : Nat) (I : gm_I) (J : gm_J) (r : Nat) (hM : is_Md sh r) (hV : inv_Md I r) (hb : ∃ b, I r 20 = bI b) (j : Nat) (hj : j < 8) (e : Int32) (x : Bool) (he : e = bI x) : CI l y_Md_leftBy w_Md_leftBy { frames := 5, cells := 0, slots := 0, locals := 139 } D cs sh sz I J [.ref r, .int (nI j), .int e] (fun y u => y = nI (leftR I J r j x).2 ∧ (leftR I J r j x).2 < 8 ∧ (leftR I J r j x).1.length ≤ 3 ∧ eqL r I J u.1 u.2 ∧ u.1 r 33 = nI (leftR I J r j x).1.length ∧ u.1 (r + 16) = kA (leftR I J r j x).1 0 (I (r + 16))) := by
  refine gm_start (by decide) (Nat.le_of_ble_eq_true rfl) ?_
  intro p' e' s' m' be' me' co' ls C hml hlk hret hh hl
  have hl : lv_has ls 11 [(0, .ref r), (1, .int (nI j)), (2, .int e)] := hl
  obtain ⟨wn, hwn, ewn⟩ := hV.2.2.1 j (by omega)
  obtain ⟨nm, hnm, enm⟩ := hV.2.1 j (by omega)
  refine lv_iconst (v := nI 0) C.1 C.2.1 d_Md_leftBy_0 rfl ?_
  refine lv_istore_n (lv' := [(3, .int (nI 0)), (0, .ref r), (1, .int (nI j)), (2, .int e)]) C.1 C.2.1 d_Md_leftBy_1 rfl hl (by decide) rfl (fun ls hl => ?_)
  refine lv_aload_n C.1 C.2.1 d_Md_leftBy_2 rfl (lv_at hl 1 rfl) ?_
  refine lv_iconst (v := nI 0) C.1 C.2.1 d_Md_leftBy_3 rfl ?_
  refine gp_i (ty := .int) C hh (Md_0 hM) rfl in_Md t_Md t_Md_ok n_Md 33 (by decide) rfl tw_598 rfl rfl (by decide +kernel) rfl rfl d_Md_leftBy_4 (fun H locs hh => ?_)
  obtain ⟨I_1, eI_1⟩ : ∃ z : gm_I, z = gm_up I r 33 (nI 0) := ⟨_, rfl⟩
  rw [← eI_1] at hh
  refine lv_iconst (v := nI 0) C.1 C.2.1 d_Md_leftBy_7 rfl ?_
  refine lv_istore (lv' := [(4, .int (nI 0)), (3, .int (nI 0)), (0, .ref r), (1, .int (nI j)), (2, .int e)]) C.1 C.2.1 d_Md_leftBy_8 hl (by decide) rfl (fun ls hl => ?_)
  refine lv_iconst (v := nI 0) C.1 C.2.1 d_Md_leftBy_10 rfl ?_
  refine lv_istore (lv' := [(5, .int (nI 0)), (4, .int (nI 0)), (3, .int (nI 0)), (0, .ref r), (1, .int (nI j)), (2, .int e)]) C.1 C.2.1 d_Md_leftBy_11 hl (by decide) rfl (fun ls hl => ?_)
  have K13 : ∀ (n_13 : Nat) (w : Nat) (z : Nat) (I13 : gm_I) (J13 : gm_J) (hw : w ≤ wn) (hz : z = ztN I J r j x w) (hE13 : eqL r I J I13 J13) (hK13 : I13 r 33 = nI 0) (hA13 : I13 (r + 16) = I (r + 16)) (hm_13 : wn - w < n_13), ∀ (H : Heap) (locs : List Loc) (ls : Array Slot), gm_St D cs sh (gm_A sh) s'.heap sz I13 J13 H locs → lv_has ls 11 [(0, .ref r), (1, .int (nI j)), (2, .int e), (3, .int (nI (opN w))), (4, .int (nI z)), (5, .int (nI w))] → W p' l e' { frames := 5, cells := 0, slots := 0, locals := 139 } s' m' ([.ref r, .int (nI j), .int e] : List Value).toArray be' me' co' H locs 0 0 (MQ be' (va_Qi (fun y u => y = nI (leftR I J r j x).2 ∧ (leftR I J r j x).2 < 8 ∧ (leftR I J r j x).1.length ≤ 3 ∧ eqL r I J u.1 u.2 ∧ u.1 r 33 = nI (leftR I J r j x).1.length ∧ u.1 (r + 16) = kA (leftR I J r j x).1 0 (I (r + 16))) (gm_B D cs sh sz) (gm_A sh)) ([.ref r, .int (nI j), .int e] : List Value).toArray s' 0 0 (gm_A sh)) (F0 m' 13 ls []) := by
    intro n_13
    induction n_13 with
    | zero => intro w z I13 J13 hw hz hE13 hK13 hA13 hm_13; exact absurd hm_13 (Nat.not_lt_zero _)
    | succ n_13 ih13 =>
      intro w z I13 J13 hw hz hE13 hK13 hA13 hm_13 H locs ls hh hl
      have hV13 := inv_eqL hE13 hV
      refine lv_iload C.1 C.2.1 d_Md_leftBy_13 (lv_at hl 5 rfl) ?_
      refine lv_aload_n C.1 C.2.1 d_Md_leftBy_15 rfl (lv_at hl 0 rfl) ?_
      refine gg_r C hh (Md_0 hM) rfl in_Md 2 (by decide) rfl tw_567 rfl d_Md_leftBy_16 ?_
      refine lv_iload_n C.1 C.2.1 d_Md_leftBy_19 rfl (lv_at hl 1 rfl) ?_
      refine ga_i C hh (Md_2 hM) (k := j) rfl (by first | omega | exact gm_dv (by omega)) (by omega) d_Md_leftBy_20 ?_
      refine gm_eqi (y := I (r + 2) j) (by exact hE13.1 _ _ (by omega)) ?_
      refine gm_eqi ewn ?_
      refine lv_icmp_ge (tgt := 65) C.1 C.2.1 d_Md_leftBy_21 (by decide) (fun c_2 => ?_) (fun c_2 => ?_)
      · -- 21 -> 65
        have c_2 := gm_get (by first | omega | exact gm_dv (by omega)) (by first | omega | exact gm_dv (by omega)) c_2
        have c_2' := Nat.not_lt.mpr c_2
        have hw3 : w = wn := by omega
        have opl := opN_lt wn
        have pw3 : 2 ^ wn ≤ 2 ^ 3 := Nat.pow_le_pow_right (by omega) hwn
        obtain ⟨zz, ezz⟩ : ∃ z_ : Nat, z_ = z := ⟨_, rfl⟩
        have hzz : zz = ztN I J r j x (nN (I (r + 2) j)) := by rw [ezz, hz, hw3, ewn, nN_nI (by omega)]
        have zl : zz < 8 := by rw [hzz, ewn, nN_nI (by omega)]; exact Nat.lt_of_lt_of_le (ztN_lt _ _ _ _ _ _) pw3
        rw [hw3, ← ezz] at hl
        refine lv_iconst (v := nI 1) C.1 C.2.1 d_Md_leftBy_65 rfl ?_
        refine lv_istore (lv' := [(5, .int (nI 1)), (0, .ref r), (1, .int (nI j)), (2, .int e), (3, .int (nI (opN wn))), (4, .int (nI zz))]) C.1 C.2.1 d_Md_leftBy_66 hl (by decide) rfl (fun ls hl => ?_)
        have K68 : ∀ (n_68 : Nat) (o : Nat) (L : List (Nat × Nat)) (f : Nat) (I68 : gm_I) (J68 : gm_J) (ho8 : o < 8) (hbc : bc o + L.length ≤ 3) (hf : bc o < f) (hlb : lbN (tkk I J r j x) 4 (opN wn) = (L ++ (lbN (tkk I J r j x) f o).1, (lbN (tkk I J r j x) f o).2)) (hE68 : eqL r I J I68 J68) (hK68 : I68 r 33 = nI L.length) (hA68 : I68 (r + 16) = kA L 0 (I (r + 16))) (hm_68 : f < n_68), ∀ (H : Heap) (locs : List Loc) (ls : Array Slot), gm_St D cs sh (gm_A sh) s'.heap sz I68 J68 H locs → lv_has ls 11 [(0, .ref r), (1, .int (nI j)), (2, .int e), (3, .int (nI o)), (4, .int (nI zz)), (5, .int (nI 1))] → W p' l e' { frames := 5, cells := 0, slots := 0, locals := 139 } s' m' ([.ref r, .int (nI j), .int e] : List Value).toArray be' me' co' H locs 0 0 (MQ be' (va_Qi (fun y u => y = nI (leftR I J r j x).2 ∧ (leftR I J r j x).2 < 8 ∧ (leftR I J r j x).1.length ≤ 3 ∧ eqL r I J u.1 u.2 ∧ u.1 r 33 = nI (leftR I J r j x).1.length ∧ u.1 (r + 16) = kA (leftR I J r j x).1 0 (I (r + 16))) (gm_B D cs sh sz) (gm_A sh)) ([.ref r, .int (nI j), .int e] : List Value).toArray s' 0 0 (gm_A sh)) (F0 m' 68 ls []) := by
          intro n_68
          induction n_68 with
          | zero => intro o L f I68 J68 ho8 hbc hf hlb hE68 hK68 hA68 hm_68; exact absurd hm_68 (Nat.not_lt_zero _)
          | succ n_68 ih68 =>
            intro o L f I68 J68 ho8 hbc hf hlb hE68 hK68 hA68 hm_68 H locs ls hh hl
            refine lv_iload C.1 C.2.1 d_Md_leftBy_68 (lv_at hl 5 rfl) ?_
            refine lv_if_eq (tgt := 211) C.1 C.2.1 d_Md_leftBy_70 (by decide) (fun c_ => absurd c_ (by decide)) (fun c_ => ?_)
            refine lv_iload_n C.1 C.2.1 d_Md_leftBy_73 rfl (lv_at hl 3 rfl) ?_
            refine lv_if_eq (tgt := 211) C.1 C.2.1 d_Md_leftBy_74 (by decide) (fun c_3 => ?_) (fun c_3 => ?_)
            · -- 74 -> 211
              have c_3 := gm_eqt (b := 0) (by first | omega | exact gm_dv (by omega)) (by omega) c_3
              refine lv_iload_n C.1 C.2.1 d_Md_leftBy_211 rfl (lv_at hl 3 rfl) ?_
              exact gr_i C hlk hret rfl hh (by have hl2 : leftR I J r j x = (L, o) := (by unfold leftR; rw [ewn, nN_nI (by omega), hlb]; first | (rw [show o = 0 by assumption, lbN_0]; simp; done) | (rw [lbN_end (hfk.trans (by rw [show 125 - k = 0 by omega]; rfl))]; simp; done)); rw [hl2]; exact ⟨rfl, ho8, by show L.length ≤ 3; omega, hE68, hK68, hA68⟩) d_Md_leftBy_212
            · -- 74 -> 77
              have c_3 := gm_eqf (b := 0) (by first | omega | exact gm_dv (by omega)) (by omega) c_3
              refine lv_iconst (v := nI 0) C.1 C.2.1 d_Md_leftBy_77 rfl ?_
              refine lv_istore (lv' := [(5, .int (nI 0)), (0, .ref r), (1, .int (nI j)), (2, .int e), (3, .int (nI o)), (4, .int (nI zz))]) C.1 C.2.1 d_Md_leftBy_78 hl (by decide) rfl (fun ls hl => ?_)
              refine lv_iconst (v := nI 0) C.1 C.2.1 d_Md_leftBy_80 rfl ?_
              refine lv_istore (lv' := [(6, .int (nI 0)), (5, .int (nI 0)), (0, .ref r), (1, .int (nI j)), (2, .int e), (3, .int (nI o)), (4, .int (nI zz))]) C.1 C.2.1 d_Md_leftBy_81 hl (by decide) rfl (fun ls hl => ?_)
              have K83 : ∀ (n_83 : Nat) (k : Nat) (I83 : gm_I) (J83 : gm_J) (hk : k ≤ 125) (hfk : fkN (tkk I J r j x o) 125 0 = fkN (tkk I J r j x o) (125 - k) k) (hE83 : eqL r I J I83 J83) (hK83 : I83 r 33 = nI L.length) (hA83 : I83 (r + 16) = kA L 0 (I (r + 16))) (hm_83 : 125 - k < n_83), ∀ (H : Heap) (locs : List Loc) (ls : Array Slot), gm_St D cs sh (gm_A sh) s'.heap sz I83 J83 H locs → lv_has ls 11 [(0, .ref r), (1, .int (nI j)), (2, .int e), (3, .int (nI o)), (4, .int (nI zz)), (5, .int (nI 0)), (6, .int (nI k))] → W p' l e' { frames := 5, cells := 0, slots := 0, locals := 139 } s' m' ([.ref r, .int (nI j), .int e] : List Value).toArray be' me' co' H locs 0 0 (MQ be' (va_Qi (fun y u => y = nI (leftR I J r j x).2 ∧ (leftR I J r j x).2 < 8 ∧ (leftR I J r j x).1.length ≤ 3 ∧ eqL r I J u.1 u.2 ∧ u.1 r 33 = nI (leftR I J r j x).1.length ∧ u.1 (r + 16) = kA (leftR I J r j x).1 0 (I (r + 16))) (gm_B D cs sh sz) (gm_A sh)) ([.ref r, .int (nI j), .int e] : List Value).toArray s' 0 0 (gm_A sh)) (F0 m' 83 ls []) := by
                intro n_83
                induction n_83 with
                | zero => intro k I83 J83 hk hfk hE83 hK83 hA83 hm_83; exact absurd hm_83 (Nat.not_lt_zero _)
                | succ n_83 ih83 =>
                  intro k I83 J83 hk hfk hE83 hK83 hA83 hm_83 H locs ls hh hl
                  refine lv_iload C.1 C.2.1 d_Md_leftBy_83 (lv_at hl 6 rfl) ?_
                  refine lv_bipush (v := nI 125) C.1 C.2.1 d_Md_leftBy_85 rfl ?_
                  refine lv_icmp_ge (tgt := 208) C.1 C.2.1 d_Md_leftBy_87 (by decide) (fun c_4 => ?_) (fun c_4 => ?_)
                  · -- 87 -> 208
                    have c_4 := gm_get (by first | omega | exact gm_dv (by omega)) (by first | omega | exact gm_dv (by omega)) c_4
                    have c_4' := Nat.not_lt.mpr c_4
                    refine lv_goto (tgt := 68) C.1 C.2.1 d_Md_leftBy_208 (by decide) ?_
                    refine lv_iload C.1 C.2.1 d_Md_leftBy_68 (lv_at hl 5 rfl) ?_
                    refine lv_if_eq (tgt := 211) C.1 C.2.1 d_Md_leftBy_70 (by decide) (fun c_ => ?_) (fun c_ => absurd (by decide) c_)
                    refine lv_iload_n C.1 C.2.1 d_Md_leftBy_211 rfl (lv_at hl 3 rfl) ?_
                    exact gr_i C hlk hret rfl hh (by have hl2 : leftR I J r j x = (L, o) := (by unfold leftR; rw [ewn, nN_nI (by omega), hlb]; first | (rw [show o = 0 by assumption, lbN_0]; simp; done) | (rw [lbN_end (hfk.trans (by rw [show 125 - k = 0 by omega]; rfl))]; simp; done)); rw [hl2]; exact ⟨rfl, ho8, by show L.length ≤ 3; omega, hE83, hK83, hA83⟩) d_Md_leftBy_212
                  · -- 87 -> 90
                    have c_4 := gm_gef (by first | omega | exact gm_dv (by omega)) (by first | omega | exact gm_dv (by omega)) c_4
                    have c_4' := Nat.not_le.mpr c_4
                    refine lv_iload C.1 C.2.1 d_Md_leftBy_90 (lv_at hl 5 rfl) ?_
                    refine lv_if_ne (tgt := 208) C.1 C.2.1 d_Md_leftBy_92 (by decide) (fun c_ => absurd (by decide) c_) (fun c_ => ?_)
                    refine lv_iload C.1 C.2.1 d_Md_leftBy_95 (lv_at hl 6 rfl) ?_
                    refine lv_bipush (v := nI 25) C.1 C.2.1 d_Md_leftBy_97 rfl ?_
                    refine lv_idiv C.1 C.2.1 d_Md_leftBy_99 (by decide) ?_
                    refine gm_eqi (pk_div (by first | omega | exact gm_dv (by omega)) (by omega) (by omega)) ?_
                    refine lv_iconst (v := nI 2) C.1 C.2.1 d_Md_leftBy_100 rfl ?_
                    refine lv_isub C.1 C.2.1 d_Md_leftBy_101 ?_
                    refine lv_topi (fun x_5 ex_5 => ?_)
                    refine lv_istore (lv' := [(7, .int x_5), (0, .ref r), (1, .int (nI j)), (2, .int e), (3, .int (nI o)), (4, .int (nI zz)), (5, .int (nI 0)), (6, .int (nI k))]) C.1 C.2.1 d_Md_leftBy_102 hl (by decide) rfl (fun ls hl => ?_)
                    refine lv_iload C.1 C.2.1 d_Md_leftBy_104 (lv_at hl 7 rfl) ?_
                    refine lv_iconst (v := nI 5) C.1 C.2.1 d_Md_leftBy_106 rfl ?_
                    refine lv_idiv C.1 C.2.1 d_Md_leftBy_107 (by decide) ?_
                    refine gm_eqi (pk_div (by first | omega | exact gm_dv (by omega)) (by omega) (by omega)) ?_
                    refine lv_iconst (v := nI 5) C.1 C.2.1 d_Md_leftBy_108 rfl ?_
                    refine lv_irem C.1 C.2.1 d_Md_leftBy_109 (by decide) ?_
                    refine gm_eqi (pk_rem (by first | omega | exact gm_dv (by omega)) (by omega) (by omega)) ?_
                    refine lv_iconst (v := nI 2) C.1 C.2.1 d_Md_leftBy_110 rfl ?_
                    refine lv_isub C.1 C.2.1 d_Md_leftBy_111 ?_
                    refine lv_topi (fun x_6 ex_6 => ?_)
                    refine lv_istore (lv' := [(8, .int x_6), (7, .int x_5), (0, .ref r), (1, .int (nI j)), (2, .int e), (3, .int (nI o)), (4, .int (nI zz)), (5, .int (nI 0)), (6, .int (nI k))]) C.1 C.2.1 d_Md_leftBy_112 hl (by decide) rfl (fun ls hl => ?_)
                    refine lv_iload C.1 C.2.1 d_Md_leftBy_114 (lv_at hl 8 rfl) ?_
                    refine lv_iconst (v := nI 5) C.1 C.2.1 d_Md_leftBy_116 rfl ?_
                    refine lv_irem C.1 C.2.1 d_Md_leftBy_117 (by decide) ?_
                    refine gm_eqi (pk_rem (by first | omega | exact gm_dv (by omega)) (by omega) (by omega)) ?_
                    refine lv_iconst (v := nI 2) C.1 C.2.1 d_Md_leftBy_118 rfl ?_
                    refine lv_isub C.1 C.2.1 d_Md_leftBy_119 ?_
                    refine lv_topi (fun x_7 ex_7 => ?_)
                    refine lv_istore (lv' := [(9, .int x_7), (8, .int x_6), (7, .int x_5), (0, .ref r), (1, .int (nI j)), (2, .int e), (3, .int (nI o)), (4, .int (nI zz)), (5, .int (nI 0)), (6, .int (nI k))]) C.1 C.2.1 d_Md_leftBy_120 hl (by decide) rfl (fun ls hl => ?_)
                    refine lv_aload_n C.1 C.2.1 d_Md_leftBy_122 rfl (lv_at hl 3 rfl) ?_
                    refine lv_iload_n C.1 C.2.1 d_Md_leftBy_123 rfl (lv_at hl 4 rfl) ?_
                    refine lv_iload C.1 C.2.1 d_Md_leftBy_124 (lv_at hl 2 rfl) ?_
                    refine lv_iload C.1 C.2.1 d_Md_leftBy_126 (lv_at hl 1 rfl) ?_
                    refine lv_iload C.1 C.2.1 d_Md_leftBy_128 (lv_at hl 0 rfl) ?_
                    refine lv_iconst (v := nI 2) C.1 C.2.1 d_Md_leftBy_130 rfl ?_
                    refine gc_i hh (gc_runV (As := [.int (nI j), .int x_5, .int x_6, .int x_7, .int (nI 2)]) (rest := []) (n := 5) C hml hh (c_Md_areNumbers l D cs sh sz I83 J83 r hM (inv_eqL hE83 hV) j nm x_5 x_6 x_7 (nI 2) (by omega) ((hE83.1 _ _ (by omega)).trans enm) hnm) (tg_V tw_703 tw_705 tw_28 tw_64 tw_706) (by decide +kernel) ⟨rfl, rfl, by decide, by decide, Nat.zero_le _, Nat.zero_le _⟩ (Md_0 hM) rfl rfl hl.1 rfl (Nat.le_of_ble_eq_true rfl) d_Md_leftBy_131) (fun r_8 I_9 J_10 H locs hr_8 hh => ?_)
                    obtain ⟨e_r_8, hr_8⟩ := hr_8
                    rw [(Prod.mk.inj e_r_8).1, (Prod.mk.inj e_r_8).2] at hh
                    refine lv_if_eq (tgt := 155) C.1 C.2.1 d_Md_leftBy_134 (by decide) (fun c_11 => ?_) (fun c_11 => ?_)
                    · -- 134 -> 155
                      have b_12 := bI_f hr_8 c_11
                      skip
                      refine lv_iconst (v := nI 0) C.1 C.2.1 d_Md_leftBy_155 rfl ?_
                      refine lv_istore (lv' := [(10, .int (nI 0)), (9, .int x_7), (8, .int x_6), (7, .int x_5), (0, .ref r), (1, .int (nI j)), (2, .int e), (3, .int (nI o)), (4, .int (nI zz)), (5, .int (nI 0)), (6, .int (nI k))]) C.1 C.2.1 d_Md_leftBy_156 hl (by decide) rfl (fun ls hl => ?_)
                      refine lv_iload C.1 C.2.1 d_Md_leftBy_158 (lv_at hl 0 rfl) ?_
                      refine lv_if_le (tgt := 202) C.1 C.2.1 d_Md_leftBy_160 (by decide) (fun c_ => ?_) (fun c_ => absurd (by decide) c_)
                      refine lv_iinc (v := nI (k + 1)) (lv' := [(6, .int (nI (k + 1))), (10, .int (nI 0)), (9, .int x_7), (8, .int x_6), (7, .int x_5), (0, .ref r), (1, .int (nI j)), (2, .int e), (3, .int (nI o)), (4, .int (nI zz)), (5, .int (nI 0))]) C.1 C.2.1 d_Md_leftBy_202 hl (k := 10) rfl (gm_inc k 1) (by decide) rfl (fun ls hl => ?_)
                      refine lv_goto (tgt := 83) C.1 C.2.1 d_Md_leftBy_205 (by decide) ?_
                      exact ih83 (k + 1) I83 J83 (by omega) (by rw [hfk, show 125 - k = (125 - (k + 1)) + 1 by omega]; first | exact fkN_on (by rw [eT_]; omega) | (subst eI_1 ex_5 ex_6 ex_7 hr_8; exact fkN_on (by unfold tkk; rw [enm, nN_nI (by omega), if_neg (by rw [show numB nm (tKa k) (tKb k) (tKc k) (nI 2) = false by assumption]; decide)]; omega))) (by exact hE83) (by exact hK83) (by exact hA83) (by omega) _ _ _ hh (lv_sub hl [5, 6, 7, 8, 9, 10, 0] rfl)
                    · -- 134 -> 137
                      have b_13 := bI_t hr_8 c_11
                      skip
                      refine lv_aload_n C.1 C.2.1 d_Md_leftBy_137 rfl (lv_at hl 3 rfl) ?_
                      refine lv_iload_n C.1 C.2.1 d_Md_leftBy_138 rfl (lv_at hl 4 rfl) ?_
                      refine lv_iload_n C.1 C.2.1 d_Md_leftBy_139 rfl (lv_at hl 5 rfl) ?_
                      refine lv_iload_n C.1 C.2.1 d_Md_leftBy_140 rfl (lv_at hl 6 rfl) ?_
                      refine lv_iload C.1 C.2.1 d_Md_leftBy_141 (lv_at hl 7 rfl) ?_
                      refine lv_iload C.1 C.2.1 d_Md_leftBy_143 (lv_at hl 2 rfl) ?_
                      refine lv_iload C.1 C.2.1 d_Md_leftBy_145 (lv_at hl 1 rfl) ?_
                      refine lv_iload C.1 C.2.1 d_Md_leftBy_147 (lv_at hl 0 rfl) ?_
                      refine gc_i hh (gc_runV (As := [.int (nI j), .int e, .int (nI o), .int (nI zz), .int x_5, .int x_6, .int x_7]) (rest := []) (n := 7) C hml hh (c_Md_taken l D cs sh sz I83 J83 r hM (inv_eqL hE83 hV) hE83.2.2 j hj e x he o zz (by omega) (by omega) x_5 x_6 x_7) (tg_V tw_815 tw_817 tw_46 tw_64 tw_818) (by decide +kernel) ⟨rfl, rfl, by decide, by decide, Nat.zero_le _, Nat.zero_le _⟩ (Md_0 hM) rfl rfl hl.1 rfl (Nat.le_of_ble_eq_true rfl) d_Md_leftBy_149) (fun r_14 I_15 J_16 H locs hr_14 hh => ?_)
                      obtain ⟨hr_14, hS_tk_17⟩ := hr_14
                      rw [tkN_eqL hE83, hE83.1 (r + 2) _ (by omega)] at hr_14
                      have ok_tk_17 := tk_ok (I := I) (J := J) (r := r) (j := j) (x := x) (o := o) (z := zz) (a := x_5) (b := x_6) (c := x_7) (n := nN (I (r + 2) j)) (by rw [ewn, nN_nI (by omega)]; exact hwn) (by omega)
                      obtain ⟨tk_17, etk_17⟩ : ∃ z_ : Nat, z_ = (tkN I J r j x o zz x_5 x_6 x_7 (nN (I (r + 2) j))).getD 0 := ⟨_, rfl⟩
                      rw [← etk_17] at hr_14 ok_tk_17
                      obtain ⟨l8_tk_17, ok_tk_17⟩ := ok_tk_17
                      rw [hr_14]
                      have hE_tk_17 := eqL_trans hE83 (eqL_S hS_tk_17)
                      have hK_tk_17 := (hS_tk_17.1 r 33 (by omega)).trans hK83
                      have hA_tk_17 := (funext fun k_ => hS_tk_17.1 (r + 16) k_ (by omega)).trans hA83
                      have eT_tk_17 : tkk I J r j x o k = tk_17 := by subst eI_1 ex_5 ex_6 ex_7 hr_8; unfold tkk; rw [enm, nN_nI (by omega), if_pos (by assumption), ← hzz]; exact etk_17.symm
                      refine lv_goto (tgt := 156) C.1 C.2.1 d_Md_leftBy_152 (by decide) ?_
                      refine lv_istore (lv' := [(10, .int (nI tk_17)), (9, .int x_7), (8, .int x_6), (7, .int x_5), (0, .ref r), (1, .int (nI j)), (2, .int e), (3, .int (nI o)), (4, .int (nI zz)), (5, .int (nI 0)), (6, .int (nI k))]) C.1 C.2.1 d_Md_leftBy_156 hl (by decide) rfl (fun ls hl => ?_)
                      refine lv_iload C.1 C.2.1 d_Md_leftBy_158 (lv_at hl 0 rfl) ?_
                      refine lv_if_le (tgt := 202) C.1 C.2.1 d_Md_leftBy_160 (by decide) (fun c_18 => ?_) (fun c_18 => ?_)
                      · -- 160 -> 202
                        have c_18 := gm_let (b := 0) (by first | omega | exact gm_dv (by omega)) (by omega) c_18
                        have c_18' := Nat.not_lt.mpr c_18
                        refine lv_iinc (v := nI (k + 1)) (lv' := [(6, .int (nI (k + 1))), (10, .int (nI tk_17)), (9, .int x_7), (8, .int x_6), (7, .int x_5), (0, .ref r), (1, .int (nI j)), (2, .int e), (3, .int (nI o)), (4, .int (nI zz)), (5, .int (nI 0))]) C.1 C.2.1 d_Md_leftBy_202 hl (k := 10) rfl (gm_inc k 1) (by decide) rfl (fun ls hl => ?_)
                        refine lv_goto (tgt := 83) C.1 C.2.1 d_Md_leftBy_205 (by decide) ?_
                        exact ih83 (k + 1) I_15 J_16 (by omega) (by rw [hfk, show 125 - k = (125 - (k + 1)) + 1 by omega]; first | exact fkN_on (by rw [eT_tk_17]; omega) | (subst eI_1 ex_5 ex_6 ex_7 hr_8; exact fkN_on (by unfold tkk; rw [enm, nN_nI (by omega), if_neg (by rw [show numB nm (tKa k) (tKb k) (tKc k) (nI 2) = false by assumption]; decide)]; omega))) (by exact hE_tk_17) (by exact hK_tk_17) (by exact hA_tk_17) (by omega) _ _ _ hh (lv_sub hl [5, 6, 7, 8, 9, 10, 0] rfl)
                      · -- 160 -> 163
                        have c_18 := gm_lef (b := 0) (by first | omega | exact gm_dv (by omega)) (by omega) c_18
                        have c_18' := Nat.not_le.mpr c_18
                        refine lv_aload_n C.1 C.2.1 d_Md_leftBy_163 rfl (lv_at hl 4 rfl) ?_
                        refine gg_r C hh (Md_0 hM) rfl in_Md 34 (by decide) rfl tw_599 rfl d_Md_leftBy_164 ?_
                        refine lv_iconst (v := nI 4) C.1 C.2.1 d_Md_leftBy_167 rfl ?_
                        refine lv_aload_n C.1 C.2.1 d_Md_leftBy_168 rfl (lv_at hl 4 rfl) ?_
                        refine gg_i C hh (Md_0 hM) rfl in_Md 33 (by decide) rfl tw_598 rfl d_Md_leftBy_169 ?_
                        refine gm_eqi hK_tk_17 ?_
                        refine lv_imul C.1 C.2.1 d_Md_leftBy_172 ?_
                        refine gm_eqi (pk_mul _ _) ?_
                        refine lv_iload C.1 C.2.1 d_Md_leftBy_173 (lv_at hl 3 rfl) ?_
                        refine lv_iload C.1 C.2.1 d_Md_leftBy_175 (lv_at hl 2 rfl) ?_
                        refine lv_iload C.1 C.2.1 d_Md_leftBy_177 (lv_at hl 1 rfl) ?_
                        refine lv_iload C.1 C.2.1 d_Md_leftBy_179 (lv_at hl 0 rfl) ?_
                        refine gc_v hh (gc_runS (As := [.ref (r + 16), .int (nI (4 * L.length)), .int x_5, .int x_6, .int x_7, .int (nI tk_17)]) (rest := []) (n := 6) C hml hh (c_Md_lay l D cs sh sz I_15 J_16 (r + 16) 12 (4 * L.length) x_5 x_6 x_7 (nI tk_17) (Md_16 hM) (by have := ok_tk_17 (by omega); omega) (by omega)) (tg_S tw_707 tw_708 tw_64 tw_709) (by decide +kernel) ⟨rfl, rfl, by decide, by decide, Nat.zero_le _, Nat.zero_le _⟩ rfl hl.1 rfl (Nat.le_of_ble_eq_true rfl) d_Md_leftBy_181) (fun I_20 J_21 H locs hr_19 hh => ?_)
                        obtain ⟨X_22, eX_22⟩ : ∃ z : gm_I, z = gm_up I_15 (r + 16) (4 * L.length) x_5 := ⟨_, rfl⟩
                        obtain ⟨X_23, eX_23⟩ : ∃ z : gm_I, z = gm_up X_22 (r + 16) (4 * L.length + 1) x_6 := ⟨_, rfl⟩
                        obtain ⟨X_24, eX_24⟩ : ∃ z : gm_I, z = gm_up X_23 (r + 16) (4 * L.length + 2) x_7 := ⟨_, rfl⟩
                        obtain ⟨X_25, eX_25⟩ : ∃ z : gm_I, z = gm_up X_24 (r + 16) (4 * L.length + 3) (nI tk_17) := ⟨_, rfl⟩
                        rw [← eX_22, ← eX_23, ← eX_24, ← eX_25] at hr_19
                        rw [(Prod.mk.inj hr_19).1, (Prod.mk.inj hr_19).2] at hh
                        refine lv_aload_n C.1 C.2.1 d_Md_leftBy_184 rfl (lv_at hl 4 rfl) ?_
                        refine lv_dup C.1 C.2.1 d_Md_leftBy_185 rfl ?_
                        refine gg_i C hh (Md_0 hM) rfl in_Md 33 (by decide) rfl tw_598 rfl d_Md_leftBy_186 ?_
                        refine gm_eqi (y := I_15 r 33) (by rw [eX_25, gm_up_ne _ _ (Or.inl (by omega)), eX_24, gm_up_ne _ _ (Or.inl (by omega)), eX_23, gm_up_ne _ _ (Or.inl (by omega)), eX_22, gm_up_ne _ _ (Or.inl (by omega))]) ?_
                        refine gm_eqi hK_tk_17 ?_
                        refine lv_iconst (v := nI 1) C.1 C.2.1 d_Md_leftBy_189 rfl ?_
                        refine lv_iadd C.1 C.2.1 d_Md_leftBy_190 ?_
                        refine gm_eqi (nI_add _ _) ?_
                        refine gp_i (ty := .int) C hh (Md_0 hM) rfl in_Md t_Md t_Md_ok n_Md 33 (by decide) rfl tw_598 rfl rfl (by decide +kernel) rfl rfl d_Md_leftBy_191 (fun H locs hh => ?_)
                        obtain ⟨I_26, eI_26⟩ : ∃ z : gm_I, z = gm_up X_25 r 33 (nI (L.length + 1)) := ⟨_, rfl⟩
                        rw [← eI_26] at hh
                        refine lv_iload_n C.1 C.2.1 d_Md_leftBy_194 rfl (lv_at hl 7 rfl) ?_
                        refine lv_iload C.1 C.2.1 d_Md_leftBy_195 (lv_at hl 0 rfl) ?_
                        refine lv_isub C.1 C.2.1 d_Md_leftBy_197 ?_
                        refine gm_eqi (pk_sub (by omega)) ?_
                        refine lv_istore_n (lv' := [(3, .int (nI (o - tk_17))), (10, .int (nI tk_17)), (9, .int x_7), (8, .int x_6), (7, .int x_5), (0, .ref r), (1, .int (nI j)), (2, .int e), (4, .int (nI zz)), (5, .int (nI 0)), (6, .int (nI k))]) C.1 C.2.1 d_Md_leftBy_198 rfl hl (by decide) rfl (fun ls hl => ?_)
                        refine lv_iconst (v := nI 1) C.1 C.2.1 d_Md_leftBy_199 rfl ?_
                        refine lv_istore (lv' := [(5, .int (nI 1)), (3, .int (nI (o - tk_17))), (10, .int (nI tk_17)), (9, .int x_7), (8, .int x_6), (7, .int x_5), (0, .ref r), (1, .int (nI j)), (2, .int e), (4, .int (nI zz)), (6, .int (nI k))]) C.1 C.2.1 d_Md_leftBy_200 hl (by decide) rfl (fun ls hl => ?_)
                        refine lv_iinc (v := nI (k + 1)) (lv' := [(6, .int (nI (k + 1))), (5, .int (nI 1)), (3, .int (nI (o - tk_17))), (10, .int (nI tk_17)), (9, .int x_7), (8, .int x_6), (7, .int x_5), (0, .ref r), (1, .int (nI j)), (2, .int e), (4, .int (nI zz))]) C.1 C.2.1 d_Md_leftBy_202 hl (k := 10) rfl (gm_inc k 1) (by decide) rfl (fun ls hl => ?_)
                        refine lv_goto (tgt := 83) C.1 C.2.1 d_Md_leftBy_205 (by decide) ?_
                        refine lv_iload C.1 C.2.1 d_Md_leftBy_83 (lv_at hl 0 rfl) ?_
                        refine lv_bipush (v := nI 125) C.1 C.2.1 d_Md_leftBy_85 rfl ?_
                        refine lv_icmp_ge (tgt := 208) C.1 C.2.1 d_Md_leftBy_87 (by decide) (fun c_27 => ?_) (fun c_27 => ?_)
                        · -- 87 -> 208
                          have c_27 := gm_get (by first | omega | exact gm_dv (by omega)) (by first | omega | exact gm_dv (by omega)) c_27
                          have c_27' := Nat.not_lt.mpr c_27
                          refine lv_goto (tgt := 68) C.1 C.2.1 d_Md_leftBy_208 (by decide) ?_
                          exact ih68 (o - tk_17) (L ++ [(k, tk_17)]) (f - 1) I_26 J_16 (by omega) (by have := ok_tk_17 (by omega); simp only [List.length_append, List.length_cons, List.length_nil]; omega) (by have := ok_tk_17 (by omega); omega) (by rw [hlb, show f = (f - 1) + 1 by omega, lbN_on (k := k) (by assumption) (hfk.trans (by rw [show 125 - k = (124 - k) + 1 by omega]; exact fkN_yes (by rw [eT_tk_17]; omega))), eT_tk_17]; simp [List.append_assoc]) (by exact (by rw [eI_26, eX_25, eX_24, eX_23, eX_22]; exact kept_eqL hE_tk_17)) (by exact (by rw [eI_26, gm_up_same, List.length_append]; rfl)) (by exact (by rw [eI_26, eX_25, eX_24, eX_23, eX_22]; subst eI_1 ex_5 ex_6 ex_7 hr_8 eI_26; exact kept_up hA_tk_17)) (by omega) _ _ _ hh (lv_sub hl [7, 8, 9, 2, 10, 1] rfl)
                        · -- 87 -> 90
                          have c_27 := gm_gef (by first | omega | exact gm_dv (by omega)) (by first | omega | exact gm_dv (by omega)) c_27
                          have c_27' := Nat.not_le.mpr c_27
                          refine lv_iload C.1 C.2.1 d_Md_leftBy_90 (lv_at hl 1 rfl) ?_
                          refine lv_if_ne (tgt := 208) C.1 C.2.1 d_Md_leftBy_92 (by decide) (fun c_ => ?_) (fun c_ => absurd c_ (by decide))
                          refine lv_goto (tgt := 68) C.1 C.2.1 d_Md_leftBy_208 (by decide) ?_
                          exact ih68 (o - tk_17) (L ++ [(k, tk_17)]) (f - 1) I_26 J_16 (by omega) (by have := ok_tk_17 (by omega); simp only [List.length_append, List.length_cons, List.length_nil]; omega) (by have := ok_tk_17 (by omega); omega) (by rw [hlb, show f = (f - 1) + 1 by omega, lbN_on (k := k) (by assumption) (hfk.trans (by rw [show 125 - k = (124 - k) + 1 by omega]; exact fkN_yes (by rw [eT_tk_17]; omega))), eT_tk_17]; simp [List.append_assoc]) (by exact (by rw [eI_26, eX_25, eX_24, eX_23, eX_22]; exact kept_eqL hE_tk_17)) (by exact (by rw [eI_26, gm_up_same, List.length_append]; rfl)) (by exact (by rw [eI_26, eX_25, eX_24, eX_23, eX_22]; subst eI_1 ex_5 ex_6 ex_7 hr_8 eI_26; exact kept_up hA_tk_17)) (by omega) _ _ _ hh (lv_sub hl [7, 8, 9, 2, 10, 1] rfl)
              exact K83 _ 0 I68 J68 (by omega) (by rfl) (by exact hE68) (by exact hK68) (by exact hA68) (Nat.lt_succ_self _) _ _ _ hh (lv_sub hl [2, 3, 4, 5, 6, 1, 0] rfl)
        exact K68 _ (opN wn) ([]) 4 I13 J13 (by omega) (by have := bc_le (opN wn) (by omega); simp only [List.length_nil]; omega) (by have := bc_le (opN wn) (by omega); omega) (by rfl) (by exact hE13) (by exact hK13) (by exact hA13) (Nat.lt_succ_self _) _ _ _ hh (lv_sub hl [1, 2, 3, 4, 5, 0] rfl)
      · -- 21 -> 24
        have c_2 := gm_gef (by first | omega | exact gm_dv (by omega)) (by first | omega | exact gm_dv (by omega)) c_2
        have c_2' := Nat.not_le.mpr c_2
        refine lv_iload_n C.1 C.2.1 d_Md_leftBy_24 rfl (lv_at hl 3 rfl) ?_
        refine lv_iconst (v := nI 1) C.1 C.2.1 d_Md_leftBy_25 rfl ?_
        refine lv_iload C.1 C.2.1 d_Md_leftBy_26 (lv_at hl 5 rfl) ?_
        refine lv_ishl C.1 C.2.1 d_Md_leftBy_28 ?_
        refine gm_eqi (gm_shl (by first | omega | exact gm_dv (by omega)) (by first | omega | exact gm_dv (by omega))) ?_
        refine lv_iadd C.1 C.2.1 d_Md_leftBy_29 ?_
        refine gm_eqi (nI_add _ _) ?_
        refine lv_istore_n (lv' := [(3, .int (nI ((opN w) + (1 * 2 ^ w)))), (0, .ref r), (1, .int (nI j)), (2, .int e), (4, .int (nI z)), (5, .int (nI w))]) C.1 C.2.1 d_Md_leftBy_30 rfl hl (by decide) rfl (fun ls hl => ?_)
        refine lv_aload_n C.1 C.2.1 d_Md_leftBy_31 rfl (lv_at hl 1 rfl) ?_
        refine lv_iload_n C.1 C.2.1 d_Md_leftBy_32 rfl (lv_at hl 2 rfl) ?_
        refine lv_iload C.1 C.2.1 d_Md_leftBy_33 (lv_at hl 5 rfl) ?_
        refine lv_iload_n C.1 C.2.1 d_Md_leftBy_35 rfl (lv_at hl 3 rfl) ?_
        obtain ⟨gg_28, hgg_28, egg_28⟩ := hV13.2.2.2.1 j (by omega)
        obtain ⟨tt_29, htt_29, ett_29⟩ := hV13.2.2.2.2.1 (3 * j + w) (by omega)
        refine gc_v hh (gc_runV (As := [.int (nI j), .int (nI w), .int e]) (rest := []) (n := 3) C hml hh (c_Md_space l D cs sh sz I13 J13 r hM (inv_eqS (eqS_rf (I := I13) (J := J13) hE13.2.2) hV13) j (by omega) w (by omega) gg_28 tt_29 hgg_28 htt_29 (((eqS_rf (I := I13) (J := J13) hE13.2.2).1 _ _ (by omega)).trans egg_28) (((eqS_rf (I := I13) (J := J13) hE13.2.2).1 _ _ (by omega)).trans ett_29) e (x) he) (tg_V tw_742 tw_744 tw_31 tw_64 tw_745) (by decide +kernel) ⟨rfl, rfl, by decide, by decide, Nat.zero_le _, Nat.zero_le _⟩ (Md_0 hM) rfl rfl hl.1 rfl (Nat.le_of_ble_eq_true rfl) d_Md_leftBy_36) (fun I_35 J_36 H locs hr_34 hh => ?_)
        obtain ⟨nn_30, enn_30⟩ : ∃ z : Nat, z = gg_28 + tt_29 + (x).toNat := ⟨_, rfl⟩
        have hnn_30 : nn_30 ≤ 8 := by have := Bool.toNat_le (x); omega
        rw [← enn_30] at hr_34
        obtain ⟨Is_31, eIs_31⟩ : ∃ z : gm_I, z = gm_up I13 r 15 (nI nn_30) := ⟨_, rfl⟩
        obtain ⟨Js_32, eJs_32⟩ : ∃ z : gm_J, z = spJ J13 r nn_30 (rowF I13 J13 r j w gg_28 tt_29) := ⟨_, rfl⟩
        rw [← eIs_31, ← eJs_32] at hr_34
        rw [(Prod.mk.inj hr_34).1, (Prod.mk.inj hr_34).2] at hh
        have hn_Is_31 : Is_31 r 15 = nI nn_30 := by rw [eIs_31]; exact gm_up_same _ _ _ _
        obtain ⟨b0_33, hb0_33⟩ := (eqS_rf (I := I13) (J := J13) hE13.2.2).2.2
        have h1b0_33 : Is_31 r 20 = bI b0_33 := by rw [eIs_31, gm_up_ne _ _ (by omega)]; exact hb0_33
        have sc_Is_31 : ∀ z : Sc, eqS r I13 J13 (scI Is_31 r z) (scJ Js_32 r z) := fun z => by rw [eIs_31, eJs_32]; exact eqS_trans (eqS_rf (I := I13) (J := J13) hE13.2.2) eqS_sc
        have sb_Is_31 : eqS r I13 J13 Is_31 Js_32 := by have := sc_Is_31 (b0_33, Js_32 r 21, Js_32 r 22, G3 Js_32 r, (Js_32 r 26, Js_32 r 27, Js_32 r 28)); rw [scJ_id] at this; unfold scI at this; rw [lsI_id h1b0_33] at this; exact this
        have rq_Is_31 : ∀ c, c < 4 → ∀ i, i < nn_30 → rwF Js_32 r c i = rF I13 J13 r j w c i := by rw [eJs_32]; exact rw_eq (eqS_rf (I := I13) (J := J13) hE13.2.2) egg_28 ett_29 hgg_28 htt_29
        have nq_Is_31 : nn_30 = rN I13 r j w (x) := by rw [enn_30]; exact (rN_eq egg_28 ett_29 hgg_28 htt_29).symm
        have hh : gm_St D cs sh (gm_A sh) s'.heap sz (scI Is_31 r (b0_33, Js_32 r 21, Js_32 r 22, G3 Js_32 r, (Js_32 r 26, Js_32 r 27, Js_32 r 28))) (scJ Js_32 r (b0_33, Js_32 r 21, Js_32 r 22, G3 Js_32 r, (Js_32 r 26, Js_32 r 27, Js_32 r 28))) H locs := by rw [scJ_id]; unfold scI; rw [lsI_id h1b0_33]; exact hh
        refine lv_iload C.1 C.2.1 d_Md_leftBy_39 (lv_at hl 4 rfl) ?_
        refine lv_aload_n C.1 C.2.1 d_Md_leftBy_41 rfl (lv_at hl 1 rfl) ?_
        refine gc_i hh (gc_runV (As := []) (rest := [.int (nI z)]) (n := 0) C hml hh (c_Md_isNothing l D cs sh sz Is_31 Js_32 r hM (b0_33, Js_32 r 21, Js_32 r 22, G3 Js_32 r, (Js_32 r 26, Js_32 r 27, Js_32 r 28)) nn_30 hn_Is_31 hnn_30) (tg_V tw_750 tw_752 tw_33 tw_64 tw_753) (by decide +kernel) ⟨rfl, rfl, by decide, by decide, Nat.zero_le _, Nat.zero_le _⟩ (Md_0 hM) rfl rfl hl.1 rfl (Nat.le_of_ble_eq_true rfl) d_Md_leftBy_42) (fun r_37 I_38 J_39 H locs hr_37 hh => ?_)
        obtain ⟨hr_37, c_40, qhr_37⟩ := hr_37
        rw [(Prod.mk.inj qhr_37).1, (Prod.mk.inj qhr_37).2] at hh
        refine lv_if_eq (tgt := 55) C.1 C.2.1 d_Md_leftBy_45 (by decide) (fun c_41 => ?_) (fun c_41 => ?_)
        · -- 45 -> 55
          have b_42 := bI_f hr_37 c_41
          skip
          refine lv_iconst (v := nI 0) C.1 C.2.1 d_Md_leftBy_55 rfl ?_
          refine lv_iadd C.1 C.2.1 d_Md_leftBy_56 ?_
          refine gm_eqi (nI_add _ _) ?_
          refine lv_istore (lv' := [(4, .int (nI (z + 0))), (3, .int (nI ((opN w) + (1 * 2 ^ w)))), (0, .ref r), (1, .int (nI j)), (2, .int e), (5, .int (nI w))]) C.1 C.2.1 d_Md_leftBy_57 hl (by decide) rfl (fun ls hl => ?_)
          refine lv_iinc (v := nI (w + 1)) (lv' := [(5, .int (nI (w + 1))), (4, .int (nI (z + 0))), (3, .int (nI ((opN w) + (1 * 2 ^ w)))), (0, .ref r), (1, .int (nI j)), (2, .int e)]) C.1 C.2.1 d_Md_leftBy_59 hl (k := 5) rfl (gm_inc w 1) (by decide) rfl (fun ls hl => ?_)
          refine lv_goto (tgt := 13) C.1 C.2.1 d_Md_leftBy_62 (by decide) ?_
          exact ih13 (w + 1) (z + 0) (scI Is_31 r c_40) (scJ Js_32 r c_40) (by omega) (by subst eI_1 hr_37; rw [hz, ztN, ← rN_eqL hE13, ← nothB_congr (rF_eqL hE13), ← nq_Is_31, ← nothB_congr rq_Is_31]; first | (rw [show nothB (rwF Js_32 r) nn_30 = true by assumption]; rfl) | (rw [show nothB (rwF Js_32 r) nn_30 = false by assumption]; rfl)) (by exact eqL_trans hE13 (eqL_S (sc_Is_31 _))) (by exact ((sc_Is_31 _).1 r 33 (by omega)).trans hK13) (by exact (funext fun k_ => (sc_Is_31 _).1 (r + 16) k_ (by omega)).trans hA13) (by omega) _ _ _ hh (lv_sub hl [3, 4, 5, 2, 1, 0] rfl)
        · -- 45 -> 48
          have b_43 := bI_t hr_37 c_41
          skip
          refine lv_iconst (v := nI 1) C.1 C.2.1 d_Md_leftBy_48 rfl ?_
          refine lv_iload C.1 C.2.1 d_Md_leftBy_49 (lv_at hl 5 rfl) ?_
          refine lv_ishl C.1 C.2.1 d_Md_leftBy_51 ?_
          refine gm_eqi (gm_shl (by first | omega | exact gm_dv (by omega)) (by first | omega | exact gm_dv (by omega))) ?_
          refine lv_goto (tgt := 56) C.1 C.2.1 d_Md_leftBy_52 (by decide) ?_
          refine lv_iadd C.1 C.2.1 d_Md_leftBy_56 ?_
          refine gm_eqi (nI_add _ _) ?_
          refine lv_istore (lv' := [(4, .int (nI (z + (1 * 2 ^ w)))), (3, .int (nI ((opN w) + (1 * 2 ^ w)))), (0, .ref r), (1, .int (nI j)), (2, .int e), (5, .int (nI w))]) C.1 C.2.1 d_Md_leftBy_57 hl (by decide) rfl (fun ls hl => ?_)
          refine lv_iinc (v := nI (w + 1)) (lv' := [(5, .int (nI (w + 1))), (4, .int (nI (z + (1 * 2 ^ w)))), (3, .int (nI ((opN w) + (1 * 2 ^ w)))), (0, .ref r), (1, .int (nI j)), (2, .int e)]) C.1 C.2.1 d_Md_leftBy_59 hl (k := 5) rfl (gm_inc w 1) (by decide) rfl (fun ls hl => ?_)
          refine lv_goto (tgt := 13) C.1 C.2.1 d_Md_leftBy_62 (by decide) ?_
          exact ih13 (w + 1) (z + (1 * 2 ^ w)) (scI Is_31 r c_40) (scJ Js_32 r c_40) (by omega) (by subst eI_1 hr_37; rw [hz, ztN, ← rN_eqL hE13, ← nothB_congr (rF_eqL hE13), ← nq_Is_31, ← nothB_congr rq_Is_31]; first | (rw [show nothB (rwF Js_32 r) nn_30 = true by assumption]; rfl) | (rw [show nothB (rwF Js_32 r) nn_30 = false by assumption]; rfl)) (by exact eqL_trans hE13 (eqL_S (sc_Is_31 _))) (by exact ((sc_Is_31 _).1 r 33 (by omega)).trans hK13) (by exact (funext fun k_ => (sc_Is_31 _).1 (r + 16) k_ (by omega)).trans hA13) (by omega) _ _ _ hh (lv_sub hl [3, 4, 5, 2, 1, 0] rfl)
  exact K13 _ 0 0 I_1 J (by omega) (by rfl) (by exact ⟨fun q k h => by rw [eI_1, gm_up_ne _ _ (by omega)], fun _ _ _ => rfl, by obtain ⟨b_, h_⟩ := hb; exact ⟨b_, by rw [eI_1, gm_up_ne _ _ (by omega)]; exact h_⟩⟩) (by exact (by rw [eI_1]; exact gm_up_same _ _ _ _)) (by exact (by rw [eI_1]; exact gm_up_off _ _ _ (by omega))) (Nat.lt_succ_self _) _ _ _ hh (lv_sub hl [3, 4, 5, 2, 1, 0] rfl)
