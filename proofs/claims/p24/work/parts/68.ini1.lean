set_option maxHeartbeats 4000000 in
set_option maxRecDepth 100000 in
theorem c_Wy_init (l : Launch) (D : va_G) (cs : Nat → ClassId) (M : mw_M) (r : Nat) (h0 : M r = some (.inr (5, [.null, .null, .null]))) (hok : okW cs M) : Met l y_Wy_init w_Wy_init { frames := 2, cells := 4, slots := 23, locals := 42 } (mi_Pre D cs M (r + 1) [.ref r]) (va_Qv (fun u : mw_M => (∀ q, q < r → u q = M q) ∧ okW cs u ∧ blkWy u cs r) (mi_B D (r + 5)) (fun q => r ≤ q)) 4 23 (fun q => r ≤ q) := by
  refine Met.ofW (cc := b_Wy_init) (maxL := 1) (ret := none) (by decide) rfl ?_
  intro p' e' s' m' args be' me' co' s₁ B hml hv
  obtain ⟨rfl, hsz, hPs, hK, hN, hA⟩ := hv
  have hx := B.exec
  have hb := B.bytes
  have hr := B.returns
  have hts0 := atoms_spec (ws := w_Wy_init) B.pre
  have hts : ∀ w ∈ tg, w.before _ s' = true := fun w h => hts0 w (List.mem_cons_of_mem _ h)
  have hown : s'.vm.findClass R_Wy = some m'.cls := findClass_of_methodNamed B.named
  have hlocks := B.notSynchronized
  have hin : me'.name = "<init>" := (name_of_methodNamed B.named B.method).1
  have hS9 : va_S (fun q => r ≤ q) s'.heap s'.heap [] := va_S.rf
  have hl := lv_entry ([.ref r]) (n := 1) (Nat.le_of_ble_eq_true rfl)
  rw [lg_entry_eq]
  generalize (lg_sl ([.ref r]) ++ List.replicate (1 - (lg_sl ([.ref r])).length) Slot.unset).toArray = ls at hl ⊢
  generalize hHe : s'.heap = H0 at hPs hS9 hsz ⊢
  obtain ⟨M_0, eM_0⟩ : ∃ z : mw_M, z = M := ⟨_, rfl⟩
  have f_0_0 : M_0 r = some (.inr (5, [.null, .null, .null])) := by rw [eM_0]; exact h0
  have ok_0 : okW cs M_0 := by rw [eM_0]; exact hok
  have lo_0 : ∀ q, q < r → M_0 q = M q := fun q _ => by rw [eM_0]
  obtain ⟨H, eH⟩ : ∃ z : Heap, z = H0 := ⟨_, rfl⟩
  have hz : H.size = r + 1 := by rw [eH]; exact hsz
  have hP_0 : mw_P D vwC M_0 H := by rw [eH, eM_0]; exact hPs
  have hS : va_S (fun q => r ≤ q) H0 H [] := by rw [eH]; exact hS9
  suffices hgo : W p' l e' (headSpec w_Wy_init { frames := 2, cells := 4, slots := 23, locals := 42 }).room s' m' ([.ref r] : List Value).toArray be' me' co' H [] 0 0 (MQ be' (va_Qv (fun u : mw_M => (∀ q, q < r → u q = M q) ∧ okW cs u ∧ blkWy u cs r) (mi_B D (r + 5)) (fun q => r ≤ q)) ([.ref r] : List Value).toArray s' 4 23 (fun q => r ≤ q)) (F0 m' 0 ls []) by rw [eH] at hgo; exact hgo
  have hl : lv_has ls 1 [(0, .ref r)] := hl
  refine lv_aload_n hx hb d_Wy_init_0 rfl (lv_at hl 0 rfl) ?_
  refine W.objInit hx hb hown (hts _ tw_133) (hts _ tw_71) (hts _ tw_72) rfl (by rw [hml]; exact hl.1) rfl d_Wy_init_1 (Nat.le_of_ble_eq_true rfl) (Nat.le_of_ble_eq_true rfl) ?_
  refine W.eq (g2 := F0 m' 4 ls []) rfl ?_
  refine lv_aload_n hx hb d_Wy_init_4 rfl (lv_at hl 0 rfl) ?_
  refine mw_new (D := D) (C := R_Rw) (T := F_Rw) (N := 3) (ci := 3) (fs := [.null, .int 0, .int 0]) hx hb hts in_Rw t_Rw t_Rw_ok hown (hts _ tw_134) (hts _ tw_103) (hts _ tw_60) hK hP_0 hS rfl (fun j hj => by rcases (show j = 0 ∨ j = 1 ∨ j = 2 by omega) with rfl | rfl | rfl <;> rfl) (Nat.le_of_ble_eq_true rfl) (Nat.le_of_ble_eq_true rfl) hz d_Wy_init_5 (fun H hPa hS hz => ?_)
  obtain ⟨M_1, eM_1⟩ : ∃ z : mw_M, z = mw_up M_0 (r + 1) (.inr (3, [.null, .int 0, .int 0])) := ⟨_, rfl⟩
  have hP_1 : mw_P D vwC M_1 H := by rw [eM_1]; exact hPa
  have ok_1 : okW cs M_1 := by rw [eM_1]; exact ok_0.up trivial
  have lo_1 : ∀ q, q < r → M_1 q = M q := fun q hq => by rw [eM_1, mw_up_ne (by omega)]; exact lo_0 q hq
  have f_1_0 : M_1 (r) = some (.inr (5, [.null, .null, .null])) := by rw [eM_1, mw_up_ne (by omega)]; exact f_0_0
  have f_1_1 : M_1 (r + 1) = some (.inr (3, [.null, .int 0, .int 0])) := by rw [eM_1]; exact mw_up_self
  have hz : H.size = r + 2 := hz
  refine lv_dup hx hb d_Wy_init_8 rfl ?_
  refine lv_iconst (v := nI 2) hx hb d_Wy_init_9 rfl ?_
  refine mi_callI (As := [.int (nI 2)]) (rest := [.ref (r + 1), .ref r]) (n := 1) hx hb hml hown hts hK hN hA (c_Rw_init2 l D cs M_1 (r + 1) f_1_1 ok_1) tw_135 tw_105 tw_60 tw_106 (by decide +kernel) ⟨rfl, rfl, by decide, by decide, by decide, by decide⟩ hP_1 hS hz (fun q hq => by omega) rfl hl.1 rfl (Nat.le_of_ble_eq_true rfl) d_Wy_init_10 (fun M_2 H locs hb_ hPa hS hz => ?_)
  have hP_2 := hPa
  have hk_2 := hb_.1
  have ok_2 : okW cs M_2 := hb_.2.1
  have lo_2 : ∀ q, q < r → M_2 q = M q := fun q hq => (hk_2 q (by omega)).trans (lo_1 q hq)
  have f_2_0 : M_2 (r) = some (.inr (5, [.null, .null, .null])) := (hk_2 _ (by omega)).trans f_1_0
  have b_2_1 : blkRw M_2 cs (r + 1) 2 := hb_.2.2
  have hz : H.size = r + 3 := hz
  refine mw_putF (D := D) (ci := 5) (v := .ref (r + 1)) (ty := .object "FallingTerms$Rows") (C := R_Wy) (T := F_Wy) (N := 3) hx hb hts in_Wy t_Wy t_Wy_ok n_Wy hown hK hP_2 hS f_2_0 (Nat.le_refl r) rfl 0 (by decide) (hts _ tw_136) (fun _ h9 => h9) rfl hin rfl (by decide +kernel) rfl rfl (Nat.le_of_ble_eq_true rfl) d_Wy_init_13 (fun H locs hPa hS hzb => ?_)
  have hz : H.size = r + 3 := hzb.trans hz
  obtain ⟨M_3, eM_3⟩ : ∃ z : mw_M, z = mw_up M_2 (r) (.inr (5, [.ref (r + 1), .null, .null])) := ⟨_, rfl⟩
  have hP_3 : mw_P D vwC M_3 H := by rw [eM_3]; exact hPa
  have ok_3 : okW cs M_3 := by rw [eM_3]; exact ok_2.up trivial
  have lo_3 : ∀ q, q < r → M_3 q = M q := fun q hq => by rw [eM_3, mw_up_ne (by omega)]; exact lo_2 q hq
  have f_3_0 : M_3 (r) = some (.inr (5, [.ref (r + 1), .null, .null])) := by rw [eM_3]; exact mw_up_self
  have b_3_1 : blkRw M_3 cs (r + 1) 2 := b_2_1.keep (fun q h1 h2 => by rw [eM_3, mw_up_ne (by omega)])
  refine lv_aload_n hx hb d_Wy_init_16 rfl (lv_at hl 0 rfl) ?_
  refine lv_bipush (v := nI 9) hx hb d_Wy_init_17 rfl ?_
  refine mw_newi hx hb (hts _ tw_96) hK 0 rfl hP_3 hS (by omega) (Nat.le_of_ble_eq_true rfl) (Nat.le_of_ble_eq_true rfl) hz d_Wy_init_19 (fun H hPa hS hz => ?_)
  obtain ⟨M_4, eM_4⟩ : ∃ z : mw_M, z = mw_up M_3 (r + 3) (.inl (cs 0, 9, .inl (fun _ => 0))) := ⟨_, rfl⟩
  have hP_4 : mw_P D vwC M_4 H := by rw [eM_4]; exact hPa
  have ok_4 : okW cs M_4 := by rw [eM_4]; exact ok_3.up rfl
  have lo_4 : ∀ q, q < r → M_4 q = M q := fun q hq => by rw [eM_4, mw_up_ne (by omega)]; exact lo_3 q hq
  have f_4_0 : M_4 (r) = some (.inr (5, [.ref (r + 1), .null, .null])) := by rw [eM_4, mw_up_ne (by omega)]; exact f_3_0
  have f_4_3 : M_4 (r + 3) = some (.inl (cs 0, 9, .inl (fun _ => 0))) := by rw [eM_4]; exact mw_up_self
  have b_4_1 : blkRw M_4 cs (r + 1) 2 := b_3_1.keep (fun q h1 h2 => by rw [eM_4, mw_up_ne (by omega)])
  have hz : H.size = r + 4 := hz
  refine mw_putF (D := D) (ci := 5) (v := .ref (r + 3)) (ty := .array (.int)) (C := R_Wy) (T := F_Wy) (N := 3) hx hb hts in_Wy t_Wy t_Wy_ok n_Wy hown hK hP_4 hS f_4_0 (Nat.le_refl r) rfl 1 (by decide) (hts _ tw_140) (fun _ h9 => h9) rfl hin rfl (by decide +kernel) rfl rfl (Nat.le_of_ble_eq_true rfl) d_Wy_init_21 (fun H locs hPa hS hzb => ?_)
  have hz : H.size = r + 4 := hzb.trans hz
  obtain ⟨M_5, eM_5⟩ : ∃ z : mw_M, z = mw_up M_4 (r) (.inr (5, [.ref (r + 1), .ref (r + 3), .null])) := ⟨_, rfl⟩
  have hP_5 : mw_P D vwC M_5 H := by rw [eM_5]; exact hPa
  have ok_5 : okW cs M_5 := by rw [eM_5]; exact ok_4.up trivial
  have lo_5 : ∀ q, q < r → M_5 q = M q := fun q hq => by rw [eM_5, mw_up_ne (by omega)]; exact lo_4 q hq
  have f_5_0 : M_5 (r) = some (.inr (5, [.ref (r + 1), .ref (r + 3), .null])) := by rw [eM_5]; exact mw_up_self
  have f_5_3 : M_5 (r + 3) = some (.inl (cs 0, 9, .inl (fun _ => 0))) := by rw [eM_5, mw_up_ne (by omega)]; exact f_4_3
  have b_5_1 : blkRw M_5 cs (r + 1) 2 := b_4_1.keep (fun q h1 h2 => by rw [eM_5, mw_up_ne (by omega)])
  refine lv_aload_n hx hb d_Wy_init_24 rfl (lv_at hl 0 rfl) ?_
  refine lv_iconst (v := nI 3) hx hb d_Wy_init_25 rfl ?_
  refine mw_newi hx hb (hts _ tw_96) hK 0 rfl hP_5 hS (by omega) (Nat.le_of_ble_eq_true rfl) (Nat.le_of_ble_eq_true rfl) hz d_Wy_init_26 (fun H hPa hS hz => ?_)
  obtain ⟨M_6, eM_6⟩ : ∃ z : mw_M, z = mw_up M_5 (r + 4) (.inl (cs 0, 3, .inl (fun _ => 0))) := ⟨_, rfl⟩
  have hP_6 : mw_P D vwC M_6 H := by rw [eM_6]; exact hPa
  have ok_6 : okW cs M_6 := by rw [eM_6]; exact ok_5.up rfl
  have lo_6 : ∀ q, q < r → M_6 q = M q := fun q hq => by rw [eM_6, mw_up_ne (by omega)]; exact lo_5 q hq
  have f_6_0 : M_6 (r) = some (.inr (5, [.ref (r + 1), .ref (r + 3), .null])) := by rw [eM_6, mw_up_ne (by omega)]; exact f_5_0
  have f_6_3 : M_6 (r + 3) = some (.inl (cs 0, 9, .inl (fun _ => 0))) := by rw [eM_6, mw_up_ne (by omega)]; exact f_5_3
  have f_6_4 : M_6 (r + 4) = some (.inl (cs 0, 3, .inl (fun _ => 0))) := by rw [eM_6]; exact mw_up_self
  have b_6_1 : blkRw M_6 cs (r + 1) 2 := b_5_1.keep (fun q h1 h2 => by rw [eM_6, mw_up_ne (by omega)])
  have hz : H.size = r + 5 := hz
  refine mw_putF (D := D) (ci := 5) (v := .ref (r + 4)) (ty := .array (.int)) (C := R_Wy) (T := F_Wy) (N := 3) hx hb hts in_Wy t_Wy t_Wy_ok n_Wy hown hK hP_6 hS f_6_0 (Nat.le_refl r) rfl 2 (by decide) (hts _ tw_142) (fun _ h9 => h9) rfl hin rfl (by decide +kernel) rfl rfl (Nat.le_of_ble_eq_true rfl) d_Wy_init_28 (fun H locs hPa hS hzb => ?_)
  have hz : H.size = r + 5 := hzb.trans hz
  obtain ⟨M_7, eM_7⟩ : ∃ z : mw_M, z = mw_up M_6 (r) (.inr (5, [.ref (r + 1), .ref (r + 3), .ref (r + 4)])) := ⟨_, rfl⟩
  have hP_7 : mw_P D vwC M_7 H := by rw [eM_7]; exact hPa
  have ok_7 : okW cs M_7 := by rw [eM_7]; exact ok_6.up trivial
  have lo_7 : ∀ q, q < r → M_7 q = M q := fun q hq => by rw [eM_7, mw_up_ne (by omega)]; exact lo_6 q hq
  have f_7_0 : M_7 (r) = some (.inr (5, [.ref (r + 1), .ref (r + 3), .ref (r + 4)])) := by rw [eM_7]; exact mw_up_self
  have f_7_3 : M_7 (r + 3) = some (.inl (cs 0, 9, .inl (fun _ => 0))) := by rw [eM_7, mw_up_ne (by omega)]; exact f_6_3
  have f_7_4 : M_7 (r + 4) = some (.inl (cs 0, 3, .inl (fun _ => 0))) := by rw [eM_7, mw_up_ne (by omega)]; exact f_6_4
  have b_7_1 : blkRw M_7 cs (r + 1) 2 := b_6_1.keep (fun q h1 h2 => by rw [eM_7, mw_up_ne (by omega)])
  have hfin : blkWy M_7 cs r := ⟨f_7_0, b_7_1, f_7_3, f_7_4⟩
  exact W.vret hx hb hr (fun t ht hW => ⟨⟨M_7, rfl, ⟨lo_7, ok_7, hfin⟩, by rw [ht]; exact hz, by rw [ht]; exact hP_7⟩, by rw [← hHe] at hS; exact hS.F ht⟩) hS.2.2 d_Wy_init_31

set_option maxHeartbeats 4000000 in
set_option maxRecDepth 100000 in
theorem c_Pf_init (l : Launch) (D : va_G) (cs : Nat → ClassId) (M : mw_M) (r : Nat) (h0 : M r = some (.inr (2, [.null, .int 0, .int 0]))) (hok : okW cs M) : Met l y_Pf_init w_Pf_init { frames := 1, cells := 1, slots := 12, locals := 12 } (mi_Pre D cs M (r + 1) [.ref r]) (va_Qv (fun u : mw_M => (∀ q, q < r → u q = M q) ∧ okW cs u ∧ blkPf u cs r) (mi_B D (r + 2)) (fun q => r ≤ q)) 1 12 (fun q => r ≤ q) := by
  refine Met.ofW (cc := b_Pf_init) (maxL := 1) (ret := none) (by decide) rfl ?_
  intro p' e' s' m' args be' me' co' s₁ B hml hv
  obtain ⟨rfl, hsz, hPs, hK, hN, hA⟩ := hv
  have hx := B.exec
  have hb := B.bytes
  have hr := B.returns
  have hts0 := atoms_spec (ws := w_Pf_init) B.pre
  have hts : ∀ w ∈ tg, w.before _ s' = true := fun w h => hts0 w (List.mem_cons_of_mem _ h)
  have hown : s'.vm.findClass R_Pf = some m'.cls := findClass_of_methodNamed B.named
  have hlocks := B.notSynchronized
  have hin : me'.name = "<init>" := (name_of_methodNamed B.named B.method).1
  have hS9 : va_S (fun q => r ≤ q) s'.heap s'.heap [] := va_S.rf
  have hl := lv_entry ([.ref r]) (n := 1) (Nat.le_of_ble_eq_true rfl)
  rw [lg_entry_eq]
  generalize (lg_sl ([.ref r]) ++ List.replicate (1 - (lg_sl ([.ref r])).length) Slot.unset).toArray = ls at hl ⊢
  generalize hHe : s'.heap = H0 at hPs hS9 hsz ⊢
  obtain ⟨M_0, eM_0⟩ : ∃ z : mw_M, z = M := ⟨_, rfl⟩
  have f_0_0 : M_0 r = some (.inr (2, [.null, .int 0, .int 0])) := by rw [eM_0]; exact h0
  have ok_0 : okW cs M_0 := by rw [eM_0]; exact hok
  have lo_0 : ∀ q, q < r → M_0 q = M q := fun q _ => by rw [eM_0]
  obtain ⟨H, eH⟩ : ∃ z : Heap, z = H0 := ⟨_, rfl⟩
  have hz : H.size = r + 1 := by rw [eH]; exact hsz
  have hP_0 : mw_P D vwC M_0 H := by rw [eH, eM_0]; exact hPs
  have hS : va_S (fun q => r ≤ q) H0 H [] := by rw [eH]; exact hS9
  suffices hgo : W p' l e' (headSpec w_Pf_init { frames := 1, cells := 1, slots := 12, locals := 12 }).room s' m' ([.ref r] : List Value).toArray be' me' co' H [] 0 0 (MQ be' (va_Qv (fun u : mw_M => (∀ q, q < r → u q = M q) ∧ okW cs u ∧ blkPf u cs r) (mi_B D (r + 2)) (fun q => r ≤ q)) ([.ref r] : List Value).toArray s' 1 12 (fun q => r ≤ q)) (F0 m' 0 ls []) by rw [eH] at hgo; exact hgo
  have hl : lv_has ls 1 [(0, .ref r)] := hl
  refine lv_aload_n hx hb d_Pf_init_0 rfl (lv_at hl 0 rfl) ?_
  refine W.objInit hx hb hown (hts _ tw_82) (hts _ tw_71) (hts _ tw_72) rfl (by rw [hml]; exact hl.1) rfl d_Pf_init_1 (Nat.le_of_ble_eq_true rfl) (Nat.le_of_ble_eq_true rfl) ?_
  refine W.eq (g2 := F0 m' 4 ls []) rfl ?_
  refine lv_aload_n hx hb d_Pf_init_4 rfl (lv_at hl 0 rfl) ?_
  refine lv_bipush (v := nI 12) hx hb d_Pf_init_5 rfl ?_
  refine mw_newi hx hb (hts _ tw_96) hK 0 rfl hP_0 hS (by omega) (Nat.le_of_ble_eq_true rfl) (Nat.le_of_ble_eq_true rfl) hz d_Pf_init_7 (fun H hPa hS hz => ?_)
  obtain ⟨M_1, eM_1⟩ : ∃ z : mw_M, z = mw_up M_0 (r + 1) (.inl (cs 0, 12, .inl (fun _ => 0))) := ⟨_, rfl⟩
  have hP_1 : mw_P D vwC M_1 H := by rw [eM_1]; exact hPa
  have ok_1 : okW cs M_1 := by rw [eM_1]; exact ok_0.up rfl
  have lo_1 : ∀ q, q < r → M_1 q = M q := fun q hq => by rw [eM_1, mw_up_ne (by omega)]; exact lo_0 q hq
  have f_1_0 : M_1 (r) = some (.inr (2, [.null, .int 0, .int 0])) := by rw [eM_1, mw_up_ne (by omega)]; exact f_0_0
  have f_1_1 : M_1 (r + 1) = some (.inl (cs 0, 12, .inl (fun _ => 0))) := by rw [eM_1]; exact mw_up_self
  have hz : H.size = r + 2 := hz
  refine mw_putF (D := D) (ci := 2) (v := .ref (r + 1)) (ty := .array (.int)) (C := R_Pf) (T := F_Pf) (N := 3) hx hb hts in_Pf t_Pf t_Pf_ok n_Pf hown hK hP_1 hS f_1_0 (Nat.le_refl r) rfl 0 (by decide) (hts _ tw_83) (fun _ h9 => h9) rfl hin rfl (by decide +kernel) rfl rfl (Nat.le_of_ble_eq_true rfl) d_Pf_init_9 (fun H locs hPa hS hzb => ?_)
  have hz : H.size = r + 2 := hzb.trans hz
  obtain ⟨M_2, eM_2⟩ : ∃ z : mw_M, z = mw_up M_1 (r) (.inr (2, [.ref (r + 1), .int 0, .int 0])) := ⟨_, rfl⟩
  have hP_2 : mw_P D vwC M_2 H := by rw [eM_2]; exact hPa
  have ok_2 : okW cs M_2 := by rw [eM_2]; exact ok_1.up trivial
  have lo_2 : ∀ q, q < r → M_2 q = M q := fun q hq => by rw [eM_2, mw_up_ne (by omega)]; exact lo_1 q hq
  have f_2_0 : M_2 (r) = some (.inr (2, [.ref (r + 1), .int 0, .int 0])) := by rw [eM_2]; exact mw_up_self
  have f_2_1 : M_2 (r + 1) = some (.inl (cs 0, 12, .inl (fun _ => 0))) := by rw [eM_2, mw_up_ne (by omega)]; exact f_1_1
  have hfin : blkPf M_2 cs r := ⟨f_2_0, f_2_1⟩
  exact W.vret hx hb hr (fun t ht hW => ⟨⟨M_2, rfl, ⟨lo_2, ok_2, hfin⟩, by rw [ht]; exact hz, by rw [ht]; exact hP_2⟩, by rw [← hHe] at hS; exact hS.F ht⟩) hS.2.2 d_Pf_init_12

set_option maxHeartbeats 4000000 in
set_option maxRecDepth 100000 in
theorem c_Sp_init (l : Launch) (D : va_G) (cs : Nat → ClassId) (M : mw_M) (r : Nat) (h0 : M r = some (.inr (4, [.null, .int 0, .null, .int 0, .null, .null, .null, .int 0]))) (hok : okW cs M) : Met l y_Sp_init w_Sp_init { frames := 1, cells := 5, slots := 208, locals := 12 } (mi_Pre D cs M (r + 1) [.ref r]) (va_Qv (fun u : mw_M => (∀ q, q < r → u q = M q) ∧ okW cs u ∧ blkSp u cs r) (mi_B D (r + 6)) (fun q => r ≤ q)) 5 208 (fun q => r ≤ q) := by
  refine Met.ofW (cc := b_Sp_init) (maxL := 1) (ret := none) (by decide) rfl ?_
  intro p' e' s' m' args be' me' co' s₁ B hml hv
  obtain ⟨rfl, hsz, hPs, hK, hN, hA⟩ := hv
  have hx := B.exec
  have hb := B.bytes
  have hr := B.returns
  have hts0 := atoms_spec (ws := w_Sp_init) B.pre
  have hts : ∀ w ∈ tg, w.before _ s' = true := fun w h => hts0 w (List.mem_cons_of_mem _ h)
  have hown : s'.vm.findClass R_Sp = some m'.cls := findClass_of_methodNamed B.named
  have hlocks := B.notSynchronized
  have hin : me'.name = "<init>" := (name_of_methodNamed B.named B.method).1
  have hS9 : va_S (fun q => r ≤ q) s'.heap s'.heap [] := va_S.rf
  have hl := lv_entry ([.ref r]) (n := 1) (Nat.le_of_ble_eq_true rfl)
  rw [lg_entry_eq]
  generalize (lg_sl ([.ref r]) ++ List.replicate (1 - (lg_sl ([.ref r])).length) Slot.unset).toArray = ls at hl ⊢
  generalize hHe : s'.heap = H0 at hPs hS9 hsz ⊢
  obtain ⟨M_0, eM_0⟩ : ∃ z : mw_M, z = M := ⟨_, rfl⟩
  have f_0_0 : M_0 r = some (.inr (4, [.null, .int 0, .null, .int 0, .null, .null, .null, .int 0])) := by rw [eM_0]; exact h0
  have ok_0 : okW cs M_0 := by rw [eM_0]; exact hok
  have lo_0 : ∀ q, q < r → M_0 q = M q := fun q _ => by rw [eM_0]
  obtain ⟨H, eH⟩ : ∃ z : Heap, z = H0 := ⟨_, rfl⟩
  have hz : H.size = r + 1 := by rw [eH]; exact hsz
  have hP_0 : mw_P D vwC M_0 H := by rw [eH, eM_0]; exact hPs
  have hS : va_S (fun q => r ≤ q) H0 H [] := by rw [eH]; exact hS9
  suffices hgo : W p' l e' (headSpec w_Sp_init { frames := 1, cells := 5, slots := 208, locals := 12 }).room s' m' ([.ref r] : List Value).toArray be' me' co' H [] 0 0 (MQ be' (va_Qv (fun u : mw_M => (∀ q, q < r → u q = M q) ∧ okW cs u ∧ blkSp u cs r) (mi_B D (r + 6)) (fun q => r ≤ q)) ([.ref r] : List Value).toArray s' 5 208 (fun q => r ≤ q)) (F0 m' 0 ls []) by rw [eH] at hgo; exact hgo
  have hl : lv_has ls 1 [(0, .ref r)] := hl
  refine lv_aload_n hx hb d_Sp_init_0 rfl (lv_at hl 0 rfl) ?_
  refine W.objInit hx hb hown (hts _ tw_184) (hts _ tw_71) (hts _ tw_72) rfl (by rw [hml]; exact hl.1) rfl d_Sp_init_1 (Nat.le_of_ble_eq_true rfl) (Nat.le_of_ble_eq_true rfl) ?_
  refine W.eq (g2 := F0 m' 4 ls []) rfl ?_
  refine lv_aload_n hx hb d_Sp_init_4 rfl (lv_at hl 0 rfl) ?_
  refine lv_bipush (v := nI 12) hx hb d_Sp_init_5 rfl ?_
  refine mw_newj hx hb (hts _ tw_126) hK 1 rfl hP_0 hS (by omega) (Nat.le_of_ble_eq_true rfl) (Nat.le_of_ble_eq_true rfl) hz d_Sp_init_7 (fun H hPa hS hz => ?_)
  obtain ⟨M_1, eM_1⟩ : ∃ z : mw_M, z = mw_up M_0 (r + 1) (.inl (cs 1, 12, .inr (.inl (fun _ => 0)))) := ⟨_, rfl⟩
  have hP_1 : mw_P D vwC M_1 H := by rw [eM_1]; exact hPa
  have ok_1 : okW cs M_1 := by rw [eM_1]; exact ok_0.up rfl
  have lo_1 : ∀ q, q < r → M_1 q = M q := fun q hq => by rw [eM_1, mw_up_ne (by omega)]; exact lo_0 q hq
  have f_1_0 : M_1 (r) = some (.inr (4, [.null, .int 0, .null, .int 0, .null, .null, .null, .int 0])) := by rw [eM_1, mw_up_ne (by omega)]; exact f_0_0
  have f_1_1 : M_1 (r + 1) = some (.inl (cs 1, 12, .inr (.inl (fun _ => 0)))) := by rw [eM_1]; exact mw_up_self
  have hz : H.size = r + 2 := hz
  refine mw_putF (D := D) (ci := 4) (v := .ref (r + 1)) (ty := .array (.long)) (C := R_Sp) (T := F_Sp) (N := 8) hx hb hts in_Sp t_Sp t_Sp_ok n_Sp hown hK hP_1 hS f_1_0 (Nat.le_refl r) rfl 0 (by decide) (hts _ tw_185) (fun _ h9 => h9) rfl hin rfl (by decide +kernel) rfl rfl (Nat.le_of_ble_eq_true rfl) d_Sp_init_9 (fun H locs hPa hS hzb => ?_)
  have hz : H.size = r + 2 := hzb.trans hz
  obtain ⟨M_2, eM_2⟩ : ∃ z : mw_M, z = mw_up M_1 (r) (.inr (4, [.ref (r + 1), .int 0, .null, .int 0, .null, .null, .null, .int 0])) := ⟨_, rfl⟩
  have hP_2 : mw_P D vwC M_2 H := by rw [eM_2]; exact hPa
  have ok_2 : okW cs M_2 := by rw [eM_2]; exact ok_1.up trivial
  have lo_2 : ∀ q, q < r → M_2 q = M q := fun q hq => by rw [eM_2, mw_up_ne (by omega)]; exact lo_1 q hq
  have f_2_0 : M_2 (r) = some (.inr (4, [.ref (r + 1), .int 0, .null, .int 0, .null, .null, .null, .int 0])) := by rw [eM_2]; exact mw_up_self
  have f_2_1 : M_2 (r + 1) = some (.inl (cs 1, 12, .inr (.inl (fun _ => 0)))) := by rw [eM_2, mw_up_ne (by omega)]; exact f_1_1
  refine lv_aload_n hx hb d_Sp_init_12 rfl (lv_at hl 0 rfl) ?_
  refine lv_sipush (v := nI 128) hx hb d_Sp_init_13 rfl ?_
  refine mw_newj hx hb (hts _ tw_126) hK 1 rfl hP_2 hS (by omega) (Nat.le_of_ble_eq_true rfl) (Nat.le_of_ble_eq_true rfl) hz d_Sp_init_16 (fun H hPa hS hz => ?_)
  obtain ⟨M_3, eM_3⟩ : ∃ z : mw_M, z = mw_up M_2 (r + 2) (.inl (cs 1, 128, .inr (.inl (fun _ => 0)))) := ⟨_, rfl⟩
  have hP_3 : mw_P D vwC M_3 H := by rw [eM_3]; exact hPa
  have ok_3 : okW cs M_3 := by rw [eM_3]; exact ok_2.up rfl
  have lo_3 : ∀ q, q < r → M_3 q = M q := fun q hq => by rw [eM_3, mw_up_ne (by omega)]; exact lo_2 q hq
  have f_3_0 : M_3 (r) = some (.inr (4, [.ref (r + 1), .int 0, .null, .int 0, .null, .null, .null, .int 0])) := by rw [eM_3, mw_up_ne (by omega)]; exact f_2_0
  have f_3_1 : M_3 (r + 1) = some (.inl (cs 1, 12, .inr (.inl (fun _ => 0)))) := by rw [eM_3, mw_up_ne (by omega)]; exact f_2_1
  have f_3_2 : M_3 (r + 2) = some (.inl (cs 1, 128, .inr (.inl (fun _ => 0)))) := by rw [eM_3]; exact mw_up_self
  have hz : H.size = r + 3 := hz
  refine mw_putF (D := D) (ci := 4) (v := .ref (r + 2)) (ty := .array (.long)) (C := R_Sp) (T := F_Sp) (N := 8) hx hb hts in_Sp t_Sp t_Sp_ok n_Sp hown hK hP_3 hS f_3_0 (Nat.le_refl r) rfl 2 (by decide) (hts _ tw_187) (fun _ h9 => h9) rfl hin rfl (by decide +kernel) rfl rfl (Nat.le_of_ble_eq_true rfl) d_Sp_init_18 (fun H locs hPa hS hzb => ?_)
  have hz : H.size = r + 3 := hzb.trans hz
  obtain ⟨M_4, eM_4⟩ : ∃ z : mw_M, z = mw_up M_3 (r) (.inr (4, [.ref (r + 1), .int 0, .ref (r + 2), .int 0, .null, .null, .null, .int 0])) := ⟨_, rfl⟩
  have hP_4 : mw_P D vwC M_4 H := by rw [eM_4]; exact hPa
  have ok_4 : okW cs M_4 := by rw [eM_4]; exact ok_3.up trivial
  have lo_4 : ∀ q, q < r → M_4 q = M q := fun q hq => by rw [eM_4, mw_up_ne (by omega)]; exact lo_3 q hq
  have f_4_0 : M_4 (r) = some (.inr (4, [.ref (r + 1), .int 0, .ref (r + 2), .int 0, .null, .null, .null, .int 0])) := by rw [eM_4]; exact mw_up_self
  have f_4_1 : M_4 (r + 1) = some (.inl (cs 1, 12, .inr (.inl (fun _ => 0)))) := by rw [eM_4, mw_up_ne (by omega)]; exact f_3_1
  have f_4_2 : M_4 (r + 2) = some (.inl (cs 1, 128, .inr (.inl (fun _ => 0)))) := by rw [eM_4, mw_up_ne (by omega)]; exact f_3_2
  refine lv_aload_n hx hb d_Sp_init_21 rfl (lv_at hl 0 rfl) ?_
  refine lv_bipush (v := nI 32) hx hb d_Sp_init_22 rfl ?_
  refine mw_newi hx hb (hts _ tw_96) hK 0 rfl hP_4 hS (by omega) (Nat.le_of_ble_eq_true rfl) (Nat.le_of_ble_eq_true rfl) hz d_Sp_init_24 (fun H hPa hS hz => ?_)
  obtain ⟨M_5, eM_5⟩ : ∃ z : mw_M, z = mw_up M_4 (r + 3) (.inl (cs 0, 32, .inl (fun _ => 0))) := ⟨_, rfl⟩
  have hP_5 : mw_P D vwC M_5 H := by rw [eM_5]; exact hPa
  have ok_5 : okW cs M_5 := by rw [eM_5]; exact ok_4.up rfl
  have lo_5 : ∀ q, q < r → M_5 q = M q := fun q hq => by rw [eM_5, mw_up_ne (by omega)]; exact lo_4 q hq
  have f_5_0 : M_5 (r) = some (.inr (4, [.ref (r + 1), .int 0, .ref (r + 2), .int 0, .null, .null, .null, .int 0])) := by rw [eM_5, mw_up_ne (by omega)]; exact f_4_0
  have f_5_1 : M_5 (r + 1) = some (.inl (cs 1, 12, .inr (.inl (fun _ => 0)))) := by rw [eM_5, mw_up_ne (by omega)]; exact f_4_1
  have f_5_2 : M_5 (r + 2) = some (.inl (cs 1, 128, .inr (.inl (fun _ => 0)))) := by rw [eM_5, mw_up_ne (by omega)]; exact f_4_2
  have f_5_3 : M_5 (r + 3) = some (.inl (cs 0, 32, .inl (fun _ => 0))) := by rw [eM_5]; exact mw_up_self
  have hz : H.size = r + 4 := hz
  refine mw_putF (D := D) (ci := 4) (v := .ref (r + 3)) (ty := .array (.int)) (C := R_Sp) (T := F_Sp) (N := 8) hx hb hts in_Sp t_Sp t_Sp_ok n_Sp hown hK hP_5 hS f_5_0 (Nat.le_refl r) rfl 4 (by decide) (hts _ tw_189) (fun _ h9 => h9) rfl hin rfl (by decide +kernel) rfl rfl (Nat.le_of_ble_eq_true rfl) d_Sp_init_26 (fun H locs hPa hS hzb => ?_)
  have hz : H.size = r + 4 := hzb.trans hz
  obtain ⟨M_6, eM_6⟩ : ∃ z : mw_M, z = mw_up M_5 (r) (.inr (4, [.ref (r + 1), .int 0, .ref (r + 2), .int 0, .ref (r + 3), .null, .null, .int 0])) := ⟨_, rfl⟩
  have hP_6 : mw_P D vwC M_6 H := by rw [eM_6]; exact hPa
  have ok_6 : okW cs M_6 := by rw [eM_6]; exact ok_5.up trivial
  have lo_6 : ∀ q, q < r → M_6 q = M q := fun q hq => by rw [eM_6, mw_up_ne (by omega)]; exact lo_5 q hq
  have f_6_0 : M_6 (r) = some (.inr (4, [.ref (r + 1), .int 0, .ref (r + 2), .int 0, .ref (r + 3), .null, .null, .int 0])) := by rw [eM_6]; exact mw_up_self
  have f_6_1 : M_6 (r + 1) = some (.inl (cs 1, 12, .inr (.inl (fun _ => 0)))) := by rw [eM_6, mw_up_ne (by omega)]; exact f_5_1
  have f_6_2 : M_6 (r + 2) = some (.inl (cs 1, 128, .inr (.inl (fun _ => 0)))) := by rw [eM_6, mw_up_ne (by omega)]; exact f_5_2
  have f_6_3 : M_6 (r + 3) = some (.inl (cs 0, 32, .inl (fun _ => 0))) := by rw [eM_6, mw_up_ne (by omega)]; exact f_5_3
  refine lv_aload_n hx hb d_Sp_init_29 rfl (lv_at hl 0 rfl) ?_
  refine lv_bipush (v := nI 32) hx hb d_Sp_init_30 rfl ?_
  refine mw_newj hx hb (hts _ tw_126) hK 1 rfl hP_6 hS (by omega) (Nat.le_of_ble_eq_true rfl) (Nat.le_of_ble_eq_true rfl) hz d_Sp_init_32 (fun H hPa hS hz => ?_)
  obtain ⟨M_7, eM_7⟩ : ∃ z : mw_M, z = mw_up M_6 (r + 4) (.inl (cs 1, 32, .inr (.inl (fun _ => 0)))) := ⟨_, rfl⟩
  have hP_7 : mw_P D vwC M_7 H := by rw [eM_7]; exact hPa
  have ok_7 : okW cs M_7 := by rw [eM_7]; exact ok_6.up rfl
  have lo_7 : ∀ q, q < r → M_7 q = M q := fun q hq => by rw [eM_7, mw_up_ne (by omega)]; exact lo_6 q hq
  have f_7_0 : M_7 (r) = some (.inr (4, [.ref (r + 1), .int 0, .ref (r + 2), .int 0, .ref (r + 3), .null, .null, .int 0])) := by rw [eM_7, mw_up_ne (by omega)]; exact f_6_0
  have f_7_1 : M_7 (r + 1) = some (.inl (cs 1, 12, .inr (.inl (fun _ => 0)))) := by rw [eM_7, mw_up_ne (by omega)]; exact f_6_1
  have f_7_2 : M_7 (r + 2) = some (.inl (cs 1, 128, .inr (.inl (fun _ => 0)))) := by rw [eM_7, mw_up_ne (by omega)]; exact f_6_2
  have f_7_3 : M_7 (r + 3) = some (.inl (cs 0, 32, .inl (fun _ => 0))) := by rw [eM_7, mw_up_ne (by omega)]; exact f_6_3
  have f_7_4 : M_7 (r + 4) = some (.inl (cs 1, 32, .inr (.inl (fun _ => 0)))) := by rw [eM_7]; exact mw_up_self
  have hz : H.size = r + 5 := hz
  refine mw_putF (D := D) (ci := 4) (v := .ref (r + 4)) (ty := .array (.long)) (C := R_Sp) (T := F_Sp) (N := 8) hx hb hts in_Sp t_Sp t_Sp_ok n_Sp hown hK hP_7 hS f_7_0 (Nat.le_refl r) rfl 5 (by decide) (hts _ tw_190) (fun _ h9 => h9) rfl hin rfl (by decide +kernel) rfl rfl (Nat.le_of_ble_eq_true rfl) d_Sp_init_34 (fun H locs hPa hS hzb => ?_)
  have hz : H.size = r + 5 := hzb.trans hz
  obtain ⟨M_8, eM_8⟩ : ∃ z : mw_M, z = mw_up M_7 (r) (.inr (4, [.ref (r + 1), .int 0, .ref (r + 2), .int 0, .ref (r + 3), .ref (r + 4), .null, .int 0])) := ⟨_, rfl⟩
  have hP_8 : mw_P D vwC M_8 H := by rw [eM_8]; exact hPa
  have ok_8 : okW cs M_8 := by rw [eM_8]; exact ok_7.up trivial
  have lo_8 : ∀ q, q < r → M_8 q = M q := fun q hq => by rw [eM_8, mw_up_ne (by omega)]; exact lo_7 q hq
  have f_8_0 : M_8 (r) = some (.inr (4, [.ref (r + 1), .int 0, .ref (r + 2), .int 0, .ref (r + 3), .ref (r + 4), .null, .int 0])) := by rw [eM_8]; exact mw_up_self
  have f_8_1 : M_8 (r + 1) = some (.inl (cs 1, 12, .inr (.inl (fun _ => 0)))) := by rw [eM_8, mw_up_ne (by omega)]; exact f_7_1
  have f_8_2 : M_8 (r + 2) = some (.inl (cs 1, 128, .inr (.inl (fun _ => 0)))) := by rw [eM_8, mw_up_ne (by omega)]; exact f_7_2
  have f_8_3 : M_8 (r + 3) = some (.inl (cs 0, 32, .inl (fun _ => 0))) := by rw [eM_8, mw_up_ne (by omega)]; exact f_7_3
  have f_8_4 : M_8 (r + 4) = some (.inl (cs 1, 32, .inr (.inl (fun _ => 0)))) := by rw [eM_8, mw_up_ne (by omega)]; exact f_7_4
  refine lv_aload_n hx hb d_Sp_init_37 rfl (lv_at hl 0 rfl) ?_
  refine lv_iconst (v := nI 4) hx hb d_Sp_init_38 rfl ?_
  refine mw_newj hx hb (hts _ tw_126) hK 1 rfl hP_8 hS (by omega) (Nat.le_of_ble_eq_true rfl) (Nat.le_of_ble_eq_true rfl) hz d_Sp_init_39 (fun H hPa hS hz => ?_)
  obtain ⟨M_9, eM_9⟩ : ∃ z : mw_M, z = mw_up M_8 (r + 5) (.inl (cs 1, 4, .inr (.inl (fun _ => 0)))) := ⟨_, rfl⟩
  have hP_9 : mw_P D vwC M_9 H := by rw [eM_9]; exact hPa
  have ok_9 : okW cs M_9 := by rw [eM_9]; exact ok_8.up rfl
  have lo_9 : ∀ q, q < r → M_9 q = M q := fun q hq => by rw [eM_9, mw_up_ne (by omega)]; exact lo_8 q hq
  have f_9_0 : M_9 (r) = some (.inr (4, [.ref (r + 1), .int 0, .ref (r + 2), .int 0, .ref (r + 3), .ref (r + 4), .null, .int 0])) := by rw [eM_9, mw_up_ne (by omega)]; exact f_8_0
  have f_9_1 : M_9 (r + 1) = some (.inl (cs 1, 12, .inr (.inl (fun _ => 0)))) := by rw [eM_9, mw_up_ne (by omega)]; exact f_8_1
  have f_9_2 : M_9 (r + 2) = some (.inl (cs 1, 128, .inr (.inl (fun _ => 0)))) := by rw [eM_9, mw_up_ne (by omega)]; exact f_8_2
  have f_9_3 : M_9 (r + 3) = some (.inl (cs 0, 32, .inl (fun _ => 0))) := by rw [eM_9, mw_up_ne (by omega)]; exact f_8_3
  have f_9_4 : M_9 (r + 4) = some (.inl (cs 1, 32, .inr (.inl (fun _ => 0)))) := by rw [eM_9, mw_up_ne (by omega)]; exact f_8_4
  have f_9_5 : M_9 (r + 5) = some (.inl (cs 1, 4, .inr (.inl (fun _ => 0)))) := by rw [eM_9]; exact mw_up_self
  have hz : H.size = r + 6 := hz
  refine mw_putF (D := D) (ci := 4) (v := .ref (r + 5)) (ty := .array (.long)) (C := R_Sp) (T := F_Sp) (N := 8) hx hb hts in_Sp t_Sp t_Sp_ok n_Sp hown hK hP_9 hS f_9_0 (Nat.le_refl r) rfl 6 (by decide) (hts _ tw_191) (fun _ h9 => h9) rfl hin rfl (by decide +kernel) rfl rfl (Nat.le_of_ble_eq_true rfl) d_Sp_init_41 (fun H locs hPa hS hzb => ?_)
  have hz : H.size = r + 6 := hzb.trans hz
  obtain ⟨M_10, eM_10⟩ : ∃ z : mw_M, z = mw_up M_9 (r) (.inr (4, [.ref (r + 1), .int 0, .ref (r + 2), .int 0, .ref (r + 3), .ref (r + 4), .ref (r + 5), .int 0])) := ⟨_, rfl⟩
  have hP_10 : mw_P D vwC M_10 H := by rw [eM_10]; exact hPa
  have ok_10 : okW cs M_10 := by rw [eM_10]; exact ok_9.up trivial
  have lo_10 : ∀ q, q < r → M_10 q = M q := fun q hq => by rw [eM_10, mw_up_ne (by omega)]; exact lo_9 q hq
  have f_10_0 : M_10 (r) = some (.inr (4, [.ref (r + 1), .int 0, .ref (r + 2), .int 0, .ref (r + 3), .ref (r + 4), .ref (r + 5), .int 0])) := by rw [eM_10]; exact mw_up_self
  have f_10_1 : M_10 (r + 1) = some (.inl (cs 1, 12, .inr (.inl (fun _ => 0)))) := by rw [eM_10, mw_up_ne (by omega)]; exact f_9_1
  have f_10_2 : M_10 (r + 2) = some (.inl (cs 1, 128, .inr (.inl (fun _ => 0)))) := by rw [eM_10, mw_up_ne (by omega)]; exact f_9_2
  have f_10_3 : M_10 (r + 3) = some (.inl (cs 0, 32, .inl (fun _ => 0))) := by rw [eM_10, mw_up_ne (by omega)]; exact f_9_3
  have f_10_4 : M_10 (r + 4) = some (.inl (cs 1, 32, .inr (.inl (fun _ => 0)))) := by rw [eM_10, mw_up_ne (by omega)]; exact f_9_4
  have f_10_5 : M_10 (r + 5) = some (.inl (cs 1, 4, .inr (.inl (fun _ => 0)))) := by rw [eM_10, mw_up_ne (by omega)]; exact f_9_5
  have hfin : blkSp M_10 cs r := ⟨f_10_0, f_10_1, f_10_2, f_10_3, f_10_4, f_10_5⟩
  exact W.vret hx hb hr (fun t ht hW => ⟨⟨M_10, rfl, ⟨lo_10, ok_10, hfin⟩, by rw [ht]; exact hz, by rw [ht]; exact hP_10⟩, by rw [← hHe] at hS; exact hS.F ht⟩) hS.2.2 d_Sp_init_44
