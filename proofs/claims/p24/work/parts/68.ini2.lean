theorem up_Lp_init_3 (r : Nat) : (va_up (va_up (va_up (fun _ => none) 0 (some (r + 6))) 1 (some (r + 11))) 2 (some (r + 16))) = fun k => if k < 3 then some (r + 6 + 5 * k) else none := by
  funext k
  match k with
  | 0 => simp [va_up]
  | 1 => simp [va_up]
  | 2 => simp [va_up]
  | k + 3 => simp [va_up]
set_option maxHeartbeats 4000000 in
set_option maxRecDepth 100000 in
theorem c_Lp_init (l : Launch) (D : va_G) (cs : Nat → ClassId) (M : mw_M) (r : Nat) (h0 : M r = some (.inr (1, [.int 0, .null, .null, .int 0, .null, .null]))) (hok : okW cs M) : Met l y_Lp_init w_Lp_init { frames := 3, cells := 20, slots := 106, locals := 62 } (mi_Pre D cs M (r + 1) [.ref r]) (va_Qv (fun u : mw_M => (∀ q, q < r → u q = M q) ∧ okW cs u ∧ blkLp u cs r) (mi_B D (r + 21)) (fun q => r ≤ q)) 20 106 (fun q => r ≤ q) := by
  refine Met.ofW (cc := b_Lp_init) (maxL := 2) (ret := none) (by decide) rfl ?_
  intro p' e' s' m' args be' me' co' s₁ B hml hv
  obtain ⟨rfl, hsz, hPs, hK, hN, hA⟩ := hv
  have hx := B.exec
  have hb := B.bytes
  have hr := B.returns
  have hts0 := atoms_spec (ws := w_Lp_init) B.pre
  have hts : ∀ w ∈ tg, w.before _ s' = true := fun w h => hts0 w (List.mem_cons_of_mem _ h)
  have hown : s'.vm.findClass R_Lp = some m'.cls := findClass_of_methodNamed B.named
  have hlocks := B.notSynchronized
  have hin : me'.name = "<init>" := (name_of_methodNamed B.named B.method).1
  have hS9 : va_S (fun q => r ≤ q) s'.heap s'.heap [] := va_S.rf
  have hl := lv_entry ([.ref r]) (n := 2) (Nat.le_of_ble_eq_true rfl)
  rw [lg_entry_eq]
  generalize (lg_sl ([.ref r]) ++ List.replicate (2 - (lg_sl ([.ref r])).length) Slot.unset).toArray = ls at hl ⊢
  generalize hHe : s'.heap = H0 at hPs hS9 hsz ⊢
  obtain ⟨M_0, eM_0⟩ : ∃ z : mw_M, z = M := ⟨_, rfl⟩
  have f_0_0 : M_0 r = some (.inr (1, [.int 0, .null, .null, .int 0, .null, .null])) := by rw [eM_0]; exact h0
  have ok_0 : okW cs M_0 := by rw [eM_0]; exact hok
  have lo_0 : ∀ q, q < r → M_0 q = M q := fun q _ => by rw [eM_0]
  obtain ⟨H, eH⟩ : ∃ z : Heap, z = H0 := ⟨_, rfl⟩
  have hz : H.size = r + 1 := by rw [eH]; exact hsz
  have hP_0 : mw_P D vwC M_0 H := by rw [eH, eM_0]; exact hPs
  have hS : va_S (fun q => r ≤ q) H0 H [] := by rw [eH]; exact hS9
  suffices hgo : W p' l e' (headSpec w_Lp_init { frames := 3, cells := 20, slots := 106, locals := 62 }).room s' m' ([.ref r] : List Value).toArray be' me' co' H [] 0 0 (MQ be' (va_Qv (fun u : mw_M => (∀ q, q < r → u q = M q) ∧ okW cs u ∧ blkLp u cs r) (mi_B D (r + 21)) (fun q => r ≤ q)) ([.ref r] : List Value).toArray s' 20 106 (fun q => r ≤ q)) (F0 m' 0 ls []) by rw [eH] at hgo; exact hgo
  have hl : lv_has ls 2 [(0, .ref r)] := hl
  refine lv_aload_n hx hb d_Lp_init_0 rfl (lv_at hl 0 rfl) ?_
  refine W.objInit hx hb hown (hts _ tw_101) (hts _ tw_71) (hts _ tw_72) rfl (by rw [hml]; exact hl.1) rfl d_Lp_init_1 (Nat.le_of_ble_eq_true rfl) (Nat.le_of_ble_eq_true rfl) ?_
  refine W.eq (g2 := F0 m' 4 ls []) rfl ?_
  refine lv_aload_n hx hb d_Lp_init_4 rfl (lv_at hl 0 rfl) ?_
  refine mw_new (D := D) (C := R_Rw) (T := F_Rw) (N := 3) (ci := 3) (fs := [.null, .int 0, .int 0]) hx hb hts in_Rw t_Rw t_Rw_ok hown (hts _ tw_102) (hts _ tw_103) (hts _ tw_60) hK hP_0 hS rfl (fun j hj => by rcases (show j = 0 ∨ j = 1 ∨ j = 2 by omega) with rfl | rfl | rfl <;> rfl) (Nat.le_of_ble_eq_true rfl) (Nat.le_of_ble_eq_true rfl) hz d_Lp_init_5 (fun H hPa hS hz => ?_)
  obtain ⟨M_1, eM_1⟩ : ∃ z : mw_M, z = mw_up M_0 (r + 1) (.inr (3, [.null, .int 0, .int 0])) := ⟨_, rfl⟩
  have hP_1 : mw_P D vwC M_1 H := by rw [eM_1]; exact hPa
  have ok_1 : okW cs M_1 := by rw [eM_1]; exact ok_0.up trivial
  have lo_1 : ∀ q, q < r → M_1 q = M q := fun q hq => by rw [eM_1, mw_up_ne (by omega)]; exact lo_0 q hq
  have f_1_0 : M_1 (r) = some (.inr (1, [.int 0, .null, .null, .int 0, .null, .null])) := by rw [eM_1, mw_up_ne (by omega)]; exact f_0_0
  have f_1_1 : M_1 (r + 1) = some (.inr (3, [.null, .int 0, .int 0])) := by rw [eM_1]; exact mw_up_self
  have hz : H.size = r + 2 := hz
  refine lv_dup hx hb d_Lp_init_8 rfl ?_
  refine lv_iconst (v := nI 4) hx hb d_Lp_init_9 rfl ?_
  refine mi_callI (As := [.int (nI 4)]) (rest := [.ref (r + 1), .ref r]) (n := 1) hx hb hml hown hts hK hN hA (c_Rw_init4 l D cs M_1 (r + 1) f_1_1 ok_1) tw_104 tw_105 tw_60 tw_106 (by decide +kernel) ⟨rfl, rfl, by decide, by decide, by decide, by decide⟩ hP_1 hS hz (fun q hq => by omega) rfl hl.1 rfl (Nat.le_of_ble_eq_true rfl) d_Lp_init_10 (fun M_2 H locs hb_ hPa hS hz => ?_)
  have hP_2 := hPa
  have hk_2 := hb_.1
  have ok_2 : okW cs M_2 := hb_.2.1
  have lo_2 : ∀ q, q < r → M_2 q = M q := fun q hq => (hk_2 q (by omega)).trans (lo_1 q hq)
  have f_2_0 : M_2 (r) = some (.inr (1, [.int 0, .null, .null, .int 0, .null, .null])) := (hk_2 _ (by omega)).trans f_1_0
  have b_2_1 : blkRw M_2 cs (r + 1) 4 := hb_.2.2
  have hz : H.size = r + 3 := hz
  refine mw_putF (D := D) (ci := 1) (v := .ref (r + 1)) (ty := .object "FallingTerms$Rows") (C := R_Lp) (T := F_Lp) (N := 6) hx hb hts in_Lp t_Lp t_Lp_ok n_Lp hown hK hP_2 hS f_2_0 (Nat.le_refl r) rfl 1 (by decide) (hts _ tw_154) (fun _ h9 => h9) rfl hin rfl (by decide +kernel) rfl rfl (Nat.le_of_ble_eq_true rfl) d_Lp_init_13 (fun H locs hPa hS hzb => ?_)
  have hz : H.size = r + 3 := hzb.trans hz
  obtain ⟨M_3, eM_3⟩ : ∃ z : mw_M, z = mw_up M_2 (r) (.inr (1, [.int 0, .ref (r + 1), .null, .int 0, .null, .null])) := ⟨_, rfl⟩
  have hP_3 : mw_P D vwC M_3 H := by rw [eM_3]; exact hPa
  have ok_3 : okW cs M_3 := by rw [eM_3]; exact ok_2.up trivial
  have lo_3 : ∀ q, q < r → M_3 q = M q := fun q hq => by rw [eM_3, mw_up_ne (by omega)]; exact lo_2 q hq
  have f_3_0 : M_3 (r) = some (.inr (1, [.int 0, .ref (r + 1), .null, .int 0, .null, .null])) := by rw [eM_3]; exact mw_up_self
  have b_3_1 : blkRw M_3 cs (r + 1) 4 := b_2_1.keep (fun q h1 h2 => by rw [eM_3, mw_up_ne (by omega)])
  refine lv_aload_n hx hb d_Lp_init_16 rfl (lv_at hl 0 rfl) ?_
  refine lv_iconst (v := nI 3) hx hb d_Lp_init_17 rfl ?_
  refine mw_newq hx hb hown (hts _ tw_127) hA.2.2 hK 4 rfl hP_3 hS (by omega) (Nat.le_of_ble_eq_true rfl) (Nat.le_of_ble_eq_true rfl) hz d_Lp_init_18 (fun H hPa hS hz => ?_)
  obtain ⟨M_4, eM_4⟩ : ∃ z : mw_M, z = mw_up M_3 (r + 3) (.inl (cs 4, 3, .inr (.inr (.inr (.inr (fun _ => none)))))) := ⟨_, rfl⟩
  have hP_4 : mw_P D vwC M_4 H := by rw [eM_4]; exact hPa
  have ok_4 : okW cs M_4 := by rw [eM_4]; exact ok_3.up trivial
  have lo_4 : ∀ q, q < r → M_4 q = M q := fun q hq => by rw [eM_4, mw_up_ne (by omega)]; exact lo_3 q hq
  have f_4_0 : M_4 (r) = some (.inr (1, [.int 0, .ref (r + 1), .null, .int 0, .null, .null])) := by rw [eM_4, mw_up_ne (by omega)]; exact f_3_0
  have f_4_3 : M_4 (r + 3) = some (.inl (cs 4, 3, .inr (.inr (.inr (.inr (fun _ => none)))))) := by rw [eM_4]; exact mw_up_self
  have b_4_1 : blkRw M_4 cs (r + 1) 4 := b_3_1.keep (fun q h1 h2 => by rw [eM_4, mw_up_ne (by omega)])
  have hz : H.size = r + 4 := hz
  refine mw_putF (D := D) (ci := 1) (v := .ref (r + 3)) (ty := .array (.object "FallingTerms$Way")) (C := R_Lp) (T := F_Lp) (N := 6) hx hb hts in_Lp t_Lp t_Lp_ok n_Lp hown hK hP_4 hS f_4_0 (Nat.le_refl r) rfl 2 (by decide) (hts _ tw_157) (fun _ h9 => h9) rfl hin rfl (by decide +kernel) rfl rfl (Nat.le_of_ble_eq_true rfl) d_Lp_init_21 (fun H locs hPa hS hzb => ?_)
  have hz : H.size = r + 4 := hzb.trans hz
  obtain ⟨M_5, eM_5⟩ : ∃ z : mw_M, z = mw_up M_4 (r) (.inr (1, [.int 0, .ref (r + 1), .ref (r + 3), .int 0, .null, .null])) := ⟨_, rfl⟩
  have hP_5 : mw_P D vwC M_5 H := by rw [eM_5]; exact hPa
  have ok_5 : okW cs M_5 := by rw [eM_5]; exact ok_4.up trivial
  have lo_5 : ∀ q, q < r → M_5 q = M q := fun q hq => by rw [eM_5, mw_up_ne (by omega)]; exact lo_4 q hq
  have f_5_0 : M_5 (r) = some (.inr (1, [.int 0, .ref (r + 1), .ref (r + 3), .int 0, .null, .null])) := by rw [eM_5]; exact mw_up_self
  have f_5_3 : M_5 (r + 3) = some (.inl (cs 4, 3, .inr (.inr (.inr (.inr (fun _ => none)))))) := by rw [eM_5, mw_up_ne (by omega)]; exact f_4_3
  have b_5_1 : blkRw M_5 cs (r + 1) 4 := b_4_1.keep (fun q h1 h2 => by rw [eM_5, mw_up_ne (by omega)])
  refine lv_aload_n hx hb d_Lp_init_24 rfl (lv_at hl 0 rfl) ?_
  refine lv_iconst (v := nI 3) hx hb d_Lp_init_25 rfl ?_
  refine mw_newj hx hb (hts _ tw_126) hK 1 rfl hP_5 hS (by omega) (Nat.le_of_ble_eq_true rfl) (Nat.le_of_ble_eq_true rfl) hz d_Lp_init_26 (fun H hPa hS hz => ?_)
  obtain ⟨M_6, eM_6⟩ : ∃ z : mw_M, z = mw_up M_5 (r + 4) (.inl (cs 1, 3, .inr (.inl (fun _ => 0)))) := ⟨_, rfl⟩
  have hP_6 : mw_P D vwC M_6 H := by rw [eM_6]; exact hPa
  have ok_6 : okW cs M_6 := by rw [eM_6]; exact ok_5.up rfl
  have lo_6 : ∀ q, q < r → M_6 q = M q := fun q hq => by rw [eM_6, mw_up_ne (by omega)]; exact lo_5 q hq
  have f_6_0 : M_6 (r) = some (.inr (1, [.int 0, .ref (r + 1), .ref (r + 3), .int 0, .null, .null])) := by rw [eM_6, mw_up_ne (by omega)]; exact f_5_0
  have f_6_3 : M_6 (r + 3) = some (.inl (cs 4, 3, .inr (.inr (.inr (.inr (fun _ => none)))))) := by rw [eM_6, mw_up_ne (by omega)]; exact f_5_3
  have f_6_4 : M_6 (r + 4) = some (.inl (cs 1, 3, .inr (.inl (fun _ => 0)))) := by rw [eM_6]; exact mw_up_self
  have b_6_1 : blkRw M_6 cs (r + 1) 4 := b_5_1.keep (fun q h1 h2 => by rw [eM_6, mw_up_ne (by omega)])
  have hz : H.size = r + 5 := hz
  refine mw_putF (D := D) (ci := 1) (v := .ref (r + 4)) (ty := .array (.long)) (C := R_Lp) (T := F_Lp) (N := 6) hx hb hts in_Lp t_Lp t_Lp_ok n_Lp hown hK hP_6 hS f_6_0 (Nat.le_refl r) rfl 4 (by decide) (hts _ tw_164) (fun _ h9 => h9) rfl hin rfl (by decide +kernel) rfl rfl (Nat.le_of_ble_eq_true rfl) d_Lp_init_28 (fun H locs hPa hS hzb => ?_)
  have hz : H.size = r + 5 := hzb.trans hz
  obtain ⟨M_7, eM_7⟩ : ∃ z : mw_M, z = mw_up M_6 (r) (.inr (1, [.int 0, .ref (r + 1), .ref (r + 3), .int 0, .ref (r + 4), .null])) := ⟨_, rfl⟩
  have hP_7 : mw_P D vwC M_7 H := by rw [eM_7]; exact hPa
  have ok_7 : okW cs M_7 := by rw [eM_7]; exact ok_6.up trivial
  have lo_7 : ∀ q, q < r → M_7 q = M q := fun q hq => by rw [eM_7, mw_up_ne (by omega)]; exact lo_6 q hq
  have f_7_0 : M_7 (r) = some (.inr (1, [.int 0, .ref (r + 1), .ref (r + 3), .int 0, .ref (r + 4), .null])) := by rw [eM_7]; exact mw_up_self
  have f_7_3 : M_7 (r + 3) = some (.inl (cs 4, 3, .inr (.inr (.inr (.inr (fun _ => none)))))) := by rw [eM_7, mw_up_ne (by omega)]; exact f_6_3
  have f_7_4 : M_7 (r + 4) = some (.inl (cs 1, 3, .inr (.inl (fun _ => 0)))) := by rw [eM_7, mw_up_ne (by omega)]; exact f_6_4
  have b_7_1 : blkRw M_7 cs (r + 1) 4 := b_6_1.keep (fun q h1 h2 => by rw [eM_7, mw_up_ne (by omega)])
  refine lv_aload_n hx hb d_Lp_init_31 rfl (lv_at hl 0 rfl) ?_
  refine lv_iconst (v := nI 3) hx hb d_Lp_init_32 rfl ?_
  refine mw_newj hx hb (hts _ tw_126) hK 1 rfl hP_7 hS (by omega) (Nat.le_of_ble_eq_true rfl) (Nat.le_of_ble_eq_true rfl) hz d_Lp_init_33 (fun H hPa hS hz => ?_)
  obtain ⟨M_8, eM_8⟩ : ∃ z : mw_M, z = mw_up M_7 (r + 5) (.inl (cs 1, 3, .inr (.inl (fun _ => 0)))) := ⟨_, rfl⟩
  have hP_8 : mw_P D vwC M_8 H := by rw [eM_8]; exact hPa
  have ok_8 : okW cs M_8 := by rw [eM_8]; exact ok_7.up rfl
  have lo_8 : ∀ q, q < r → M_8 q = M q := fun q hq => by rw [eM_8, mw_up_ne (by omega)]; exact lo_7 q hq
  have f_8_0 : M_8 (r) = some (.inr (1, [.int 0, .ref (r + 1), .ref (r + 3), .int 0, .ref (r + 4), .null])) := by rw [eM_8, mw_up_ne (by omega)]; exact f_7_0
  have f_8_3 : M_8 (r + 3) = some (.inl (cs 4, 3, .inr (.inr (.inr (.inr (fun _ => none)))))) := by rw [eM_8, mw_up_ne (by omega)]; exact f_7_3
  have f_8_4 : M_8 (r + 4) = some (.inl (cs 1, 3, .inr (.inl (fun _ => 0)))) := by rw [eM_8, mw_up_ne (by omega)]; exact f_7_4
  have f_8_5 : M_8 (r + 5) = some (.inl (cs 1, 3, .inr (.inl (fun _ => 0)))) := by rw [eM_8]; exact mw_up_self
  have b_8_1 : blkRw M_8 cs (r + 1) 4 := b_7_1.keep (fun q h1 h2 => by rw [eM_8, mw_up_ne (by omega)])
  have hz : H.size = r + 6 := hz
  refine mw_putF (D := D) (ci := 1) (v := .ref (r + 5)) (ty := .array (.long)) (C := R_Lp) (T := F_Lp) (N := 6) hx hb hts in_Lp t_Lp t_Lp_ok n_Lp hown hK hP_8 hS f_8_0 (Nat.le_refl r) rfl 5 (by decide) (hts _ tw_166) (fun _ h9 => h9) rfl hin rfl (by decide +kernel) rfl rfl (Nat.le_of_ble_eq_true rfl) d_Lp_init_35 (fun H locs hPa hS hzb => ?_)
  have hz : H.size = r + 6 := hzb.trans hz
  obtain ⟨M_9, eM_9⟩ : ∃ z : mw_M, z = mw_up M_8 (r) (.inr (1, [.int 0, .ref (r + 1), .ref (r + 3), .int 0, .ref (r + 4), .ref (r + 5)])) := ⟨_, rfl⟩
  have hP_9 : mw_P D vwC M_9 H := by rw [eM_9]; exact hPa
  have ok_9 : okW cs M_9 := by rw [eM_9]; exact ok_8.up trivial
  have lo_9 : ∀ q, q < r → M_9 q = M q := fun q hq => by rw [eM_9, mw_up_ne (by omega)]; exact lo_8 q hq
  have f_9_0 : M_9 (r) = some (.inr (1, [.int 0, .ref (r + 1), .ref (r + 3), .int 0, .ref (r + 4), .ref (r + 5)])) := by rw [eM_9]; exact mw_up_self
  have f_9_3 : M_9 (r + 3) = some (.inl (cs 4, 3, .inr (.inr (.inr (.inr (fun _ => none)))))) := by rw [eM_9, mw_up_ne (by omega)]; exact f_8_3
  have f_9_4 : M_9 (r + 4) = some (.inl (cs 1, 3, .inr (.inl (fun _ => 0)))) := by rw [eM_9, mw_up_ne (by omega)]; exact f_8_4
  have f_9_5 : M_9 (r + 5) = some (.inl (cs 1, 3, .inr (.inl (fun _ => 0)))) := by rw [eM_9, mw_up_ne (by omega)]; exact f_8_5
  have b_9_1 : blkRw M_9 cs (r + 1) 4 := b_8_1.keep (fun q h1 h2 => by rw [eM_9, mw_up_ne (by omega)])
  refine lv_iconst (v := nI 0) hx hb d_Lp_init_38 rfl ?_
  refine lv_istore_n (lv' := [(1, .int (nI 0)), (0, .ref r)]) hx hb d_Lp_init_39 rfl hl (by decide) rfl (fun ls hl => ?_)
  refine lv_iload_n hx hb d_Lp_init_40 rfl (lv_at hl 0 rfl) ?_
  refine lv_iconst (v := nI 3) hx hb d_Lp_init_41 rfl ?_
  refine lv_icmp_ge (tgt := 64) hx hb d_Lp_init_42 (by decide) (fun c_ => absurd c_ (by decide)) (fun c_ => ?_)
  refine lv_aload_n hx hb d_Lp_init_45 rfl (lv_at hl 1 rfl) ?_
  refine mw_get (D := D) (C := R_Lp) (T := F_Lp) (N := 6) hx hb hts in_Lp hown hK hP_9 f_9_0 rfl 2 (by decide) (hts _ tw_157) (fun _ h9 => h9) rfl d_Lp_init_46 ?_
  refine lv_iload_n hx hb d_Lp_init_49 rfl (lv_at hl 0 rfl) ?_
  refine mw_new (D := D) (C := R_Wy) (T := F_Wy) (N := 3) (ci := 5) (fs := [.null, .null, .null]) hx hb hts in_Wy t_Wy t_Wy_ok hown (hts _ tw_127) (hts _ tw_129) (hts _ tw_62) hK hP_9 hS rfl (fun j hj => by rcases (show j = 0 ∨ j = 1 ∨ j = 2 by omega) with rfl | rfl | rfl <;> rfl) (Nat.le_of_ble_eq_true rfl) (Nat.le_of_ble_eq_true rfl) hz d_Lp_init_50 (fun H hPa hS hz => ?_)
  obtain ⟨M_10, eM_10⟩ : ∃ z : mw_M, z = mw_up M_9 (r + 6) (.inr (5, [.null, .null, .null])) := ⟨_, rfl⟩
  have hP_10 : mw_P D vwC M_10 H := by rw [eM_10]; exact hPa
  have ok_10 : okW cs M_10 := by rw [eM_10]; exact ok_9.up trivial
  have lo_10 : ∀ q, q < r → M_10 q = M q := fun q hq => by rw [eM_10, mw_up_ne (by omega)]; exact lo_9 q hq
  have f_10_0 : M_10 (r) = some (.inr (1, [.int 0, .ref (r + 1), .ref (r + 3), .int 0, .ref (r + 4), .ref (r + 5)])) := by rw [eM_10, mw_up_ne (by omega)]; exact f_9_0
  have f_10_3 : M_10 (r + 3) = some (.inl (cs 4, 3, .inr (.inr (.inr (.inr (fun _ => none)))))) := by rw [eM_10, mw_up_ne (by omega)]; exact f_9_3
  have f_10_4 : M_10 (r + 4) = some (.inl (cs 1, 3, .inr (.inl (fun _ => 0)))) := by rw [eM_10, mw_up_ne (by omega)]; exact f_9_4
  have f_10_5 : M_10 (r + 5) = some (.inl (cs 1, 3, .inr (.inl (fun _ => 0)))) := by rw [eM_10, mw_up_ne (by omega)]; exact f_9_5
  have f_10_6 : M_10 (r + 6) = some (.inr (5, [.null, .null, .null])) := by rw [eM_10]; exact mw_up_self
  have b_10_1 : blkRw M_10 cs (r + 1) 4 := b_9_1.keep (fun q h1 h2 => by rw [eM_10, mw_up_ne (by omega)])
  have hz : H.size = r + 7 := hz
  refine lv_dup hx hb d_Lp_init_53 rfl ?_
  refine mi_callN (As := []) (rest := [.ref (r + 6), .int (nI 0), .ref (r + 3)]) (n := 0) hx hb hml hown hts hK hN hA (c_Wy_init l D cs M_10 (r + 6) f_10_6 ok_10) tw_130 tw_131 tw_62 tw_132 (by decide +kernel) ⟨rfl, rfl, by decide, by decide, by decide, by decide⟩ hP_10 hS hz (fun q hq => by omega) rfl hl.1 rfl (Nat.le_of_ble_eq_true rfl) d_Lp_init_54 (fun M_11 H locs hb_ hPa hS hz => ?_)
  have hP_11 := hPa
  have hk_11 := hb_.1
  have ok_11 : okW cs M_11 := hb_.2.1
  have lo_11 : ∀ q, q < r → M_11 q = M q := fun q hq => (hk_11 q (by omega)).trans (lo_10 q hq)
  have f_11_0 : M_11 (r) = some (.inr (1, [.int 0, .ref (r + 1), .ref (r + 3), .int 0, .ref (r + 4), .ref (r + 5)])) := (hk_11 _ (by omega)).trans f_10_0
  have f_11_3 : M_11 (r + 3) = some (.inl (cs 4, 3, .inr (.inr (.inr (.inr (fun _ => none)))))) := (hk_11 _ (by omega)).trans f_10_3
  have f_11_4 : M_11 (r + 4) = some (.inl (cs 1, 3, .inr (.inl (fun _ => 0)))) := (hk_11 _ (by omega)).trans f_10_4
  have f_11_5 : M_11 (r + 5) = some (.inl (cs 1, 3, .inr (.inl (fun _ => 0)))) := (hk_11 _ (by omega)).trans f_10_5
  have b_11_1 : blkRw M_11 cs (r + 1) 4 := b_10_1.keep (fun q h1 h2 => hk_11 q (by omega))
  have b_11_6 : blkWy M_11 cs (r + 6) := hb_.2.2
  have hz : H.size = r + 11 := hz
  refine mw_astq hx hb hK hP_11 hS 4 5 f_11_3 (by omega) rfl b_11_6.1 rfl (vp_in_nI (by omega) (by omega)) d_Lp_init_57 (fun H locs hPa hS hzb => ?_)
  have hz : H.size = r + 11 := hzb.trans hz
  rw [show (nI 0).toNatClampNeg = 0 from rfl] at hPa
  obtain ⟨M_12, eM_12⟩ : ∃ z : mw_M, z = mw_up M_11 (r + 3) (.inl (cs 4, 3, .inr (.inr (.inr (.inr (va_up (fun _ => none) 0 (some (r + 6)))))))) := ⟨_, rfl⟩
  have hP_12 : mw_P D vwC M_12 H := by rw [eM_12]; exact hPa
  have ok_12 : okW cs M_12 := by rw [eM_12]; exact ok_11.up trivial
  have lo_12 : ∀ q, q < r → M_12 q = M q := fun q hq => by rw [eM_12, mw_up_ne (by omega)]; exact lo_11 q hq
  have f_12_0 : M_12 (r) = some (.inr (1, [.int 0, .ref (r + 1), .ref (r + 3), .int 0, .ref (r + 4), .ref (r + 5)])) := by rw [eM_12, mw_up_ne (by omega)]; exact f_11_0
  have f_12_3 : M_12 (r + 3) = some (.inl (cs 4, 3, .inr (.inr (.inr (.inr (va_up (fun _ => none) 0 (some (r + 6)))))))) := by rw [eM_12]; exact mw_up_self
  have f_12_4 : M_12 (r + 4) = some (.inl (cs 1, 3, .inr (.inl (fun _ => 0)))) := by rw [eM_12, mw_up_ne (by omega)]; exact f_11_4
  have f_12_5 : M_12 (r + 5) = some (.inl (cs 1, 3, .inr (.inl (fun _ => 0)))) := by rw [eM_12, mw_up_ne (by omega)]; exact f_11_5
  have b_12_1 : blkRw M_12 cs (r + 1) 4 := b_11_1.keep (fun q h1 h2 => by rw [eM_12, mw_up_ne (by omega)])
  have b_12_6 : blkWy M_12 cs (r + 6) := b_11_6.keep (fun q h1 h2 => by rw [eM_12, mw_up_ne (by omega)])
  refine lv_iinc (v := nI 1) (lv' := [(1, .int (nI 1)), (0, .ref r)]) hx hb d_Lp_init_58 hl (k := 0) rfl (gm_inc 0 1) (by decide) rfl (fun ls hl => ?_)
  refine lv_goto (tgt := 40) hx hb d_Lp_init_61 (by decide) ?_
  refine lv_iload_n hx hb d_Lp_init_40 rfl (lv_at hl 0 rfl) ?_
  refine lv_iconst (v := nI 3) hx hb d_Lp_init_41 rfl ?_
  refine lv_icmp_ge (tgt := 64) hx hb d_Lp_init_42 (by decide) (fun c_ => absurd c_ (by decide)) (fun c_ => ?_)
  refine lv_aload_n hx hb d_Lp_init_45 rfl (lv_at hl 1 rfl) ?_
  refine mw_get (D := D) (C := R_Lp) (T := F_Lp) (N := 6) hx hb hts in_Lp hown hK hP_12 f_12_0 rfl 2 (by decide) (hts _ tw_157) (fun _ h9 => h9) rfl d_Lp_init_46 ?_
  refine lv_iload_n hx hb d_Lp_init_49 rfl (lv_at hl 0 rfl) ?_
  refine mw_new (D := D) (C := R_Wy) (T := F_Wy) (N := 3) (ci := 5) (fs := [.null, .null, .null]) hx hb hts in_Wy t_Wy t_Wy_ok hown (hts _ tw_127) (hts _ tw_129) (hts _ tw_62) hK hP_12 hS rfl (fun j hj => by rcases (show j = 0 ∨ j = 1 ∨ j = 2 by omega) with rfl | rfl | rfl <;> rfl) (Nat.le_of_ble_eq_true rfl) (Nat.le_of_ble_eq_true rfl) hz d_Lp_init_50 (fun H hPa hS hz => ?_)
  obtain ⟨M_13, eM_13⟩ : ∃ z : mw_M, z = mw_up M_12 (r + 11) (.inr (5, [.null, .null, .null])) := ⟨_, rfl⟩
  have hP_13 : mw_P D vwC M_13 H := by rw [eM_13]; exact hPa
  have ok_13 : okW cs M_13 := by rw [eM_13]; exact ok_12.up trivial
  have lo_13 : ∀ q, q < r → M_13 q = M q := fun q hq => by rw [eM_13, mw_up_ne (by omega)]; exact lo_12 q hq
  have f_13_0 : M_13 (r) = some (.inr (1, [.int 0, .ref (r + 1), .ref (r + 3), .int 0, .ref (r + 4), .ref (r + 5)])) := by rw [eM_13, mw_up_ne (by omega)]; exact f_12_0
  have f_13_3 : M_13 (r + 3) = some (.inl (cs 4, 3, .inr (.inr (.inr (.inr (va_up (fun _ => none) 0 (some (r + 6)))))))) := by rw [eM_13, mw_up_ne (by omega)]; exact f_12_3
  have f_13_4 : M_13 (r + 4) = some (.inl (cs 1, 3, .inr (.inl (fun _ => 0)))) := by rw [eM_13, mw_up_ne (by omega)]; exact f_12_4
  have f_13_5 : M_13 (r + 5) = some (.inl (cs 1, 3, .inr (.inl (fun _ => 0)))) := by rw [eM_13, mw_up_ne (by omega)]; exact f_12_5
  have f_13_11 : M_13 (r + 11) = some (.inr (5, [.null, .null, .null])) := by rw [eM_13]; exact mw_up_self
  have b_13_1 : blkRw M_13 cs (r + 1) 4 := b_12_1.keep (fun q h1 h2 => by rw [eM_13, mw_up_ne (by omega)])
  have b_13_6 : blkWy M_13 cs (r + 6) := b_12_6.keep (fun q h1 h2 => by rw [eM_13, mw_up_ne (by omega)])
  have hz : H.size = r + 12 := hz
  refine lv_dup hx hb d_Lp_init_53 rfl ?_
  refine mi_callN (As := []) (rest := [.ref (r + 11), .int (nI 1), .ref (r + 3)]) (n := 0) hx hb hml hown hts hK hN hA (c_Wy_init l D cs M_13 (r + 11) f_13_11 ok_13) tw_130 tw_131 tw_62 tw_132 (by decide +kernel) ⟨rfl, rfl, by decide, by decide, by decide, by decide⟩ hP_13 hS hz (fun q hq => by omega) rfl hl.1 rfl (Nat.le_of_ble_eq_true rfl) d_Lp_init_54 (fun M_14 H locs hb_ hPa hS hz => ?_)
  have hP_14 := hPa
  have hk_14 := hb_.1
  have ok_14 : okW cs M_14 := hb_.2.1
  have lo_14 : ∀ q, q < r → M_14 q = M q := fun q hq => (hk_14 q (by omega)).trans (lo_13 q hq)
  have f_14_0 : M_14 (r) = some (.inr (1, [.int 0, .ref (r + 1), .ref (r + 3), .int 0, .ref (r + 4), .ref (r + 5)])) := (hk_14 _ (by omega)).trans f_13_0
  have f_14_3 : M_14 (r + 3) = some (.inl (cs 4, 3, .inr (.inr (.inr (.inr (va_up (fun _ => none) 0 (some (r + 6)))))))) := (hk_14 _ (by omega)).trans f_13_3
  have f_14_4 : M_14 (r + 4) = some (.inl (cs 1, 3, .inr (.inl (fun _ => 0)))) := (hk_14 _ (by omega)).trans f_13_4
  have f_14_5 : M_14 (r + 5) = some (.inl (cs 1, 3, .inr (.inl (fun _ => 0)))) := (hk_14 _ (by omega)).trans f_13_5
  have b_14_1 : blkRw M_14 cs (r + 1) 4 := b_13_1.keep (fun q h1 h2 => hk_14 q (by omega))
  have b_14_6 : blkWy M_14 cs (r + 6) := b_13_6.keep (fun q h1 h2 => hk_14 q (by omega))
  have b_14_11 : blkWy M_14 cs (r + 11) := hb_.2.2
  have hz : H.size = r + 16 := hz
  refine mw_astq hx hb hK hP_14 hS 4 5 f_14_3 (by omega) rfl b_14_11.1 rfl (vp_in_nI (by omega) (by omega)) d_Lp_init_57 (fun H locs hPa hS hzb => ?_)
  have hz : H.size = r + 16 := hzb.trans hz
  rw [show (nI 1).toNatClampNeg = 1 from rfl] at hPa
  obtain ⟨M_15, eM_15⟩ : ∃ z : mw_M, z = mw_up M_14 (r + 3) (.inl (cs 4, 3, .inr (.inr (.inr (.inr (va_up (va_up (fun _ => none) 0 (some (r + 6))) 1 (some (r + 11)))))))) := ⟨_, rfl⟩
  have hP_15 : mw_P D vwC M_15 H := by rw [eM_15]; exact hPa
  have ok_15 : okW cs M_15 := by rw [eM_15]; exact ok_14.up trivial
  have lo_15 : ∀ q, q < r → M_15 q = M q := fun q hq => by rw [eM_15, mw_up_ne (by omega)]; exact lo_14 q hq
  have f_15_0 : M_15 (r) = some (.inr (1, [.int 0, .ref (r + 1), .ref (r + 3), .int 0, .ref (r + 4), .ref (r + 5)])) := by rw [eM_15, mw_up_ne (by omega)]; exact f_14_0
  have f_15_3 : M_15 (r + 3) = some (.inl (cs 4, 3, .inr (.inr (.inr (.inr (va_up (va_up (fun _ => none) 0 (some (r + 6))) 1 (some (r + 11)))))))) := by rw [eM_15]; exact mw_up_self
  have f_15_4 : M_15 (r + 4) = some (.inl (cs 1, 3, .inr (.inl (fun _ => 0)))) := by rw [eM_15, mw_up_ne (by omega)]; exact f_14_4
  have f_15_5 : M_15 (r + 5) = some (.inl (cs 1, 3, .inr (.inl (fun _ => 0)))) := by rw [eM_15, mw_up_ne (by omega)]; exact f_14_5
  have b_15_1 : blkRw M_15 cs (r + 1) 4 := b_14_1.keep (fun q h1 h2 => by rw [eM_15, mw_up_ne (by omega)])
  have b_15_6 : blkWy M_15 cs (r + 6) := b_14_6.keep (fun q h1 h2 => by rw [eM_15, mw_up_ne (by omega)])
  have b_15_11 : blkWy M_15 cs (r + 11) := b_14_11.keep (fun q h1 h2 => by rw [eM_15, mw_up_ne (by omega)])
  refine lv_iinc (v := nI 2) (lv' := [(1, .int (nI 2)), (0, .ref r)]) hx hb d_Lp_init_58 hl (k := 0) rfl (gm_inc 1 1) (by decide) rfl (fun ls hl => ?_)
  refine lv_goto (tgt := 40) hx hb d_Lp_init_61 (by decide) ?_
  refine lv_iload_n hx hb d_Lp_init_40 rfl (lv_at hl 0 rfl) ?_
  refine lv_iconst (v := nI 3) hx hb d_Lp_init_41 rfl ?_
  refine lv_icmp_ge (tgt := 64) hx hb d_Lp_init_42 (by decide) (fun c_ => absurd c_ (by decide)) (fun c_ => ?_)
  refine lv_aload_n hx hb d_Lp_init_45 rfl (lv_at hl 1 rfl) ?_
  refine mw_get (D := D) (C := R_Lp) (T := F_Lp) (N := 6) hx hb hts in_Lp hown hK hP_15 f_15_0 rfl 2 (by decide) (hts _ tw_157) (fun _ h9 => h9) rfl d_Lp_init_46 ?_
  refine lv_iload_n hx hb d_Lp_init_49 rfl (lv_at hl 0 rfl) ?_
  refine mw_new (D := D) (C := R_Wy) (T := F_Wy) (N := 3) (ci := 5) (fs := [.null, .null, .null]) hx hb hts in_Wy t_Wy t_Wy_ok hown (hts _ tw_127) (hts _ tw_129) (hts _ tw_62) hK hP_15 hS rfl (fun j hj => by rcases (show j = 0 ∨ j = 1 ∨ j = 2 by omega) with rfl | rfl | rfl <;> rfl) (Nat.le_of_ble_eq_true rfl) (Nat.le_of_ble_eq_true rfl) hz d_Lp_init_50 (fun H hPa hS hz => ?_)
  obtain ⟨M_16, eM_16⟩ : ∃ z : mw_M, z = mw_up M_15 (r + 16) (.inr (5, [.null, .null, .null])) := ⟨_, rfl⟩
  have hP_16 : mw_P D vwC M_16 H := by rw [eM_16]; exact hPa
  have ok_16 : okW cs M_16 := by rw [eM_16]; exact ok_15.up trivial
  have lo_16 : ∀ q, q < r → M_16 q = M q := fun q hq => by rw [eM_16, mw_up_ne (by omega)]; exact lo_15 q hq
  have f_16_0 : M_16 (r) = some (.inr (1, [.int 0, .ref (r + 1), .ref (r + 3), .int 0, .ref (r + 4), .ref (r + 5)])) := by rw [eM_16, mw_up_ne (by omega)]; exact f_15_0
  have f_16_3 : M_16 (r + 3) = some (.inl (cs 4, 3, .inr (.inr (.inr (.inr (va_up (va_up (fun _ => none) 0 (some (r + 6))) 1 (some (r + 11)))))))) := by rw [eM_16, mw_up_ne (by omega)]; exact f_15_3
  have f_16_4 : M_16 (r + 4) = some (.inl (cs 1, 3, .inr (.inl (fun _ => 0)))) := by rw [eM_16, mw_up_ne (by omega)]; exact f_15_4
  have f_16_5 : M_16 (r + 5) = some (.inl (cs 1, 3, .inr (.inl (fun _ => 0)))) := by rw [eM_16, mw_up_ne (by omega)]; exact f_15_5
  have f_16_16 : M_16 (r + 16) = some (.inr (5, [.null, .null, .null])) := by rw [eM_16]; exact mw_up_self
  have b_16_1 : blkRw M_16 cs (r + 1) 4 := b_15_1.keep (fun q h1 h2 => by rw [eM_16, mw_up_ne (by omega)])
  have b_16_6 : blkWy M_16 cs (r + 6) := b_15_6.keep (fun q h1 h2 => by rw [eM_16, mw_up_ne (by omega)])
  have b_16_11 : blkWy M_16 cs (r + 11) := b_15_11.keep (fun q h1 h2 => by rw [eM_16, mw_up_ne (by omega)])
  have hz : H.size = r + 17 := hz
  refine lv_dup hx hb d_Lp_init_53 rfl ?_
  refine mi_callN (As := []) (rest := [.ref (r + 16), .int (nI 2), .ref (r + 3)]) (n := 0) hx hb hml hown hts hK hN hA (c_Wy_init l D cs M_16 (r + 16) f_16_16 ok_16) tw_130 tw_131 tw_62 tw_132 (by decide +kernel) ⟨rfl, rfl, by decide, by decide, by decide, by decide⟩ hP_16 hS hz (fun q hq => by omega) rfl hl.1 rfl (Nat.le_of_ble_eq_true rfl) d_Lp_init_54 (fun M_17 H locs hb_ hPa hS hz => ?_)
  have hP_17 := hPa
  have hk_17 := hb_.1
  have ok_17 : okW cs M_17 := hb_.2.1
  have lo_17 : ∀ q, q < r → M_17 q = M q := fun q hq => (hk_17 q (by omega)).trans (lo_16 q hq)
  have f_17_0 : M_17 (r) = some (.inr (1, [.int 0, .ref (r + 1), .ref (r + 3), .int 0, .ref (r + 4), .ref (r + 5)])) := (hk_17 _ (by omega)).trans f_16_0
  have f_17_3 : M_17 (r + 3) = some (.inl (cs 4, 3, .inr (.inr (.inr (.inr (va_up (va_up (fun _ => none) 0 (some (r + 6))) 1 (some (r + 11)))))))) := (hk_17 _ (by omega)).trans f_16_3
  have f_17_4 : M_17 (r + 4) = some (.inl (cs 1, 3, .inr (.inl (fun _ => 0)))) := (hk_17 _ (by omega)).trans f_16_4
  have f_17_5 : M_17 (r + 5) = some (.inl (cs 1, 3, .inr (.inl (fun _ => 0)))) := (hk_17 _ (by omega)).trans f_16_5
  have b_17_1 : blkRw M_17 cs (r + 1) 4 := b_16_1.keep (fun q h1 h2 => hk_17 q (by omega))
  have b_17_6 : blkWy M_17 cs (r + 6) := b_16_6.keep (fun q h1 h2 => hk_17 q (by omega))
  have b_17_11 : blkWy M_17 cs (r + 11) := b_16_11.keep (fun q h1 h2 => hk_17 q (by omega))
  have b_17_16 : blkWy M_17 cs (r + 16) := hb_.2.2
  have hz : H.size = r + 21 := hz
  refine mw_astq hx hb hK hP_17 hS 4 5 f_17_3 (by omega) rfl b_17_16.1 rfl (vp_in_nI (by omega) (by omega)) d_Lp_init_57 (fun H locs hPa hS hzb => ?_)
  have hz : H.size = r + 21 := hzb.trans hz
  rw [show (nI 2).toNatClampNeg = 2 from rfl] at hPa
  obtain ⟨M_18, eM_18⟩ : ∃ z : mw_M, z = mw_up M_17 (r + 3) (.inl (cs 4, 3, .inr (.inr (.inr (.inr (va_up (va_up (va_up (fun _ => none) 0 (some (r + 6))) 1 (some (r + 11))) 2 (some (r + 16)))))))) := ⟨_, rfl⟩
  have hP_18 : mw_P D vwC M_18 H := by rw [eM_18]; exact hPa
  have ok_18 : okW cs M_18 := by rw [eM_18]; exact ok_17.up trivial
  have lo_18 : ∀ q, q < r → M_18 q = M q := fun q hq => by rw [eM_18, mw_up_ne (by omega)]; exact lo_17 q hq
  have f_18_0 : M_18 (r) = some (.inr (1, [.int 0, .ref (r + 1), .ref (r + 3), .int 0, .ref (r + 4), .ref (r + 5)])) := by rw [eM_18, mw_up_ne (by omega)]; exact f_17_0
  have f_18_3 : M_18 (r + 3) = some (.inl (cs 4, 3, .inr (.inr (.inr (.inr (va_up (va_up (va_up (fun _ => none) 0 (some (r + 6))) 1 (some (r + 11))) 2 (some (r + 16)))))))) := by rw [eM_18]; exact mw_up_self
  have f_18_4 : M_18 (r + 4) = some (.inl (cs 1, 3, .inr (.inl (fun _ => 0)))) := by rw [eM_18, mw_up_ne (by omega)]; exact f_17_4
  have f_18_5 : M_18 (r + 5) = some (.inl (cs 1, 3, .inr (.inl (fun _ => 0)))) := by rw [eM_18, mw_up_ne (by omega)]; exact f_17_5
  have b_18_1 : blkRw M_18 cs (r + 1) 4 := b_17_1.keep (fun q h1 h2 => by rw [eM_18, mw_up_ne (by omega)])
  have b_18_6 : blkWy M_18 cs (r + 6) := b_17_6.keep (fun q h1 h2 => by rw [eM_18, mw_up_ne (by omega)])
  have b_18_11 : blkWy M_18 cs (r + 11) := b_17_11.keep (fun q h1 h2 => by rw [eM_18, mw_up_ne (by omega)])
  have b_18_16 : blkWy M_18 cs (r + 16) := b_17_16.keep (fun q h1 h2 => by rw [eM_18, mw_up_ne (by omega)])
  refine lv_iinc (v := nI 3) (lv' := [(1, .int (nI 3)), (0, .ref r)]) hx hb d_Lp_init_58 hl (k := 0) rfl (gm_inc 2 1) (by decide) rfl (fun ls hl => ?_)
  refine lv_goto (tgt := 40) hx hb d_Lp_init_61 (by decide) ?_
  refine lv_iload_n hx hb d_Lp_init_40 rfl (lv_at hl 0 rfl) ?_
  refine lv_iconst (v := nI 3) hx hb d_Lp_init_41 rfl ?_
  refine lv_icmp_ge (tgt := 64) hx hb d_Lp_init_42 (by decide) (fun c_ => ?_) (fun c_ => absurd (by decide) c_)
  have hfin : blkLp M_18 cs r := ⟨f_18_0, b_18_1, by have h := f_18_3; rw [up_Lp_init_3] at h; exact h, f_18_4, f_18_5, fun k hk => by (match k, hk with | 0, _ => exact b_18_6 | 1, _ => exact b_18_11 | 2, _ => exact b_18_16 | k + 3, hk => exact absurd hk (by omega))⟩
  exact W.vret hx hb hr (fun t ht hW => ⟨⟨M_18, rfl, ⟨lo_18, ok_18, hfin⟩, by rw [ht]; exact hz, by rw [ht]; exact hP_18⟩, by rw [← hHe] at hS; exact hS.F ht⟩) hS.2.2 d_Lp_init_64
