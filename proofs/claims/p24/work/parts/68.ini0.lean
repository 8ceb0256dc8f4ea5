/-- a cell whose shape is one of typed memory's -/
def okE (cs : Nat → ClassId) (e : va_E) : Prop := match e with
  | .inr _ => True
  | .inl (cA, _, .inl _) => cA = cs 0
  | .inl (cA, _, .inr (.inl _)) => cA = cs 1
  | .inl (_, _, .inr (.inr (.inr (.inr _)))) => True
  | _ => False
def okW (cs : Nat → ClassId) (M : mw_M) : Prop := ∀ q e, M q = some e → okE cs e
theorem okW.up {cs : Nat → ClassId} {M : mw_M} {a : Nat} {e : va_E} (h : okW cs M) (he : okE cs e) : okW cs (mw_up M a e) := by
  intro q e' hq
  by_cases hqa : q = a
  · subst hqa; rw [mw_up_self] at hq; cases hq; exact he
  · rw [mw_up_ne hqa] at hq; exact h q e' hq
def blkRw (M : mw_M) (cs : Nat → ClassId) (a cap : Nat) : Prop := M a = some (.inr (3, [.ref (a + 1), .int (nI cap), .int 0])) ∧ M (a + 1) = some (.inl (cs 0, 4 * cap, .inl (fun _ => 0)))
def blkWy (M : mw_M) (cs : Nat → ClassId) (a : Nat) : Prop := M a = some (.inr (5, [.ref (a + 1), .ref (a + 3), .ref (a + 4)])) ∧ blkRw M cs (a + 1) 2 ∧ M (a + 3) = some (.inl (cs 0, 9, .inl (fun _ => 0))) ∧ M (a + 4) = some (.inl (cs 0, 3, .inl (fun _ => 0)))
def blkLp (M : mw_M) (cs : Nat → ClassId) (a : Nat) : Prop := M a = some (.inr (1, [.int 0, .ref (a + 1), .ref (a + 3), .int 0, .ref (a + 4), .ref (a + 5)])) ∧ blkRw M cs (a + 1) 4 ∧ M (a + 3) = some (.inl (cs 4, 3, .inr (.inr (.inr (.inr (fun k => if k < 3 then some (a + 6 + 5 * k) else none)))))) ∧ M (a + 4) = some (.inl (cs 1, 3, .inr (.inl (fun _ => 0)))) ∧ M (a + 5) = some (.inl (cs 1, 3, .inr (.inl (fun _ => 0)))) ∧ ∀ k, k < 3 → blkWy M cs (a + 6 + 5 * k)
def blkPf (M : mw_M) (cs : Nat → ClassId) (a : Nat) : Prop := M a = some (.inr (2, [.ref (a + 1), .int 0, .int 0])) ∧ M (a + 1) = some (.inl (cs 0, 12, .inl (fun _ => 0)))
def blkSp (M : mw_M) (cs : Nat → ClassId) (a : Nat) : Prop := M a = some (.inr (4, [.ref (a + 1), .int 0, .ref (a + 2), .int 0, .ref (a + 3), .ref (a + 4), .ref (a + 5), .int 0])) ∧ M (a + 1) = some (.inl (cs 1, 12, .inr (.inl (fun _ => 0)))) ∧ M (a + 2) = some (.inl (cs 1, 128, .inr (.inl (fun _ => 0)))) ∧ M (a + 3) = some (.inl (cs 0, 32, .inl (fun _ => 0))) ∧ M (a + 4) = some (.inl (cs 1, 32, .inr (.inl (fun _ => 0)))) ∧ M (a + 5) = some (.inl (cs 1, 4, .inr (.inl (fun _ => 0))))
def blkFT (M : mw_M) (cs : Nat → ClassId) (B : Nat) : Prop := M B = some (.inr (6, [.ref (B + 1), .int 0, .ref (B + 2), .ref (B + 3), .ref (B + 4), .ref (B + 6), .ref (B + 8), .int 0, .ref (B + 9), .ref (B + 10), .ref (B + 11)]))
  ∧ M (B + 1) = some (.inl (cs 2, 8, .inr (.inr (.inr (.inr (fun k => if k < 8 then some (B + 12 + 21 * k) else none)))))) ∧ M (B + 2) = some (.inl (cs 3, 3, .inr (.inr (.inr (.inr (fun k => if k < 3 then some (B + 180 + 12 * k) else none)))))) ∧ M (B + 3) = some (.inl (cs 3, 3, .inr (.inr (.inr (.inr (fun k => if k < 3 then some (B + 186 + 12 * k) else none)))))) ∧ blkPf M cs (B + 4) ∧ blkPf M cs (B + 6)
  ∧ M (B + 8) = some (.inl (cs 0, 4, .inl (fun _ => 0))) ∧ M (B + 9) = some (.inl (cs 1, 3, .inr (.inl (fun _ => 0)))) ∧ M (B + 10) = some (.inl (cs 1, 3, .inr (.inl (fun _ => 0)))) ∧ M (B + 11) = some (.inl (cs 1, 3, .inr (.inl (fun _ => 0)))) ∧ (∀ j, j < 8 → blkLp M cs (B + 12 + 21 * j)) ∧ ∀ k, k < 6 → blkSp M cs (B + 180 + 6 * k)
section BLK
variable {M u : mw_M} {cs : Nat → ClassId} {a cap : Nat}
theorem blkRw.keep (h : blkRw M cs a cap) (hk : ∀ q, a ≤ q → q < a + 2 → u q = M q) : blkRw u cs a cap := ⟨(hk _ (by omega) (by omega)).trans h.1, (hk _ (by omega) (by omega)).trans h.2⟩
theorem blkWy.keep (h : blkWy M cs a) (hk : ∀ q, a ≤ q → q < a + 5 → u q = M q) : blkWy u cs a := ⟨(hk _ (by omega) (by omega)).trans h.1, h.2.1.keep (fun q h1 h2 => hk q (by omega) (by omega)), (hk _ (by omega) (by omega)).trans h.2.2.1, (hk _ (by omega) (by omega)).trans h.2.2.2⟩
theorem blkLp.keep (h : blkLp M cs a) (hk : ∀ q, a ≤ q → q < a + 21 → u q = M q) : blkLp u cs a := ⟨(hk _ (by omega) (by omega)).trans h.1, h.2.1.keep (fun q h1 h2 => hk q (by omega) (by omega)), (hk _ (by omega) (by omega)).trans h.2.2.1, (hk _ (by omega) (by omega)).trans h.2.2.2.1, (hk _ (by omega) (by omega)).trans h.2.2.2.2.1, fun k hk3 => (h.2.2.2.2.2 k hk3).keep (fun q h1 h2 => hk q (by omega) (by omega))⟩
theorem blkPf.keep (h : blkPf M cs a) (hk : ∀ q, a ≤ q → q < a + 2 → u q = M q) : blkPf u cs a := ⟨(hk _ (by omega) (by omega)).trans h.1, (hk _ (by omega) (by omega)).trans h.2⟩
theorem blkSp.keep (h : blkSp M cs a) (hk : ∀ q, a ≤ q → q < a + 6 → u q = M q) : blkSp u cs a := ⟨(hk _ (by omega) (by omega)).trans h.1, (hk _ (by omega) (by omega)).trans h.2.1, (hk _ (by omega) (by omega)).trans h.2.2.1, (hk _ (by omega) (by omega)).trans h.2.2.2.1, (hk _ (by omega) (by omega)).trans h.2.2.2.2.1, (hk _ (by omega) (by omega)).trans h.2.2.2.2.2⟩
end BLK

set_option maxHeartbeats 4000000 in
set_option maxRecDepth 100000 in
theorem c_Rw_init4 (l : Launch) (D : va_G) (cs : Nat → ClassId) (M : mw_M) (r : Nat) (h0 : M r = some (.inr (3, [.null, .int 0, .int 0]))) (hok : okW cs M) : Met l y_Rw_init w_Rw_init { frames := 1, cells := 1, slots := 16, locals := 21 } (mi_Pre D cs M (r + 1) [.ref r, .int (nI 4)]) (va_Qv (fun u : mw_M => (∀ q, q < r → u q = M q) ∧ okW cs u ∧ blkRw u cs r 4) (mi_B D (r + 2)) (fun q => r ≤ q)) 1 16 (fun q => r ≤ q) := by
  refine Met.ofW (cc := b_Rw_init) (maxL := 2) (ret := none) (by decide) rfl ?_
  intro p' e' s' m' args be' me' co' s₁ B hml hv
  obtain ⟨rfl, hsz, hPs, hK, hN, hA⟩ := hv
  have hx := B.exec
  have hb := B.bytes
  have hr := B.returns
  have hts0 := atoms_spec (ws := w_Rw_init) B.pre
  have hts : ∀ w ∈ tg, w.before _ s' = true := fun w h => hts0 w (List.mem_cons_of_mem _ h)
  have hown : s'.vm.findClass R_Rw = some m'.cls := findClass_of_methodNamed B.named
  have hlocks := B.notSynchronized
  have hin : me'.name = "<init>" := (name_of_methodNamed B.named B.method).1
  have hS9 : va_S (fun q => r ≤ q) s'.heap s'.heap [] := va_S.rf
  have hl := lv_entry ([.ref r, .int (nI 4)]) (n := 2) (Nat.le_of_ble_eq_true rfl)
  rw [lg_entry_eq]
  generalize (lg_sl ([.ref r, .int (nI 4)]) ++ List.replicate (2 - (lg_sl ([.ref r, .int (nI 4)])).length) Slot.unset).toArray = ls at hl ⊢
  generalize hHe : s'.heap = H0 at hPs hS9 hsz ⊢
  obtain ⟨M_0, eM_0⟩ : ∃ z : mw_M, z = M := ⟨_, rfl⟩
  have f_0_0 : M_0 r = some (.inr (3, [.null, .int 0, .int 0])) := by rw [eM_0]; exact h0
  have ok_0 : okW cs M_0 := by rw [eM_0]; exact hok
  have lo_0 : ∀ q, q < r → M_0 q = M q := fun q _ => by rw [eM_0]
  obtain ⟨H, eH⟩ : ∃ z : Heap, z = H0 := ⟨_, rfl⟩
  have hz : H.size = r + 1 := by rw [eH]; exact hsz
  have hP_0 : mw_P D vwC M_0 H := by rw [eH, eM_0]; exact hPs
  have hS : va_S (fun q => r ≤ q) H0 H [] := by rw [eH]; exact hS9
  suffices hgo : W p' l e' (headSpec w_Rw_init { frames := 1, cells := 1, slots := 16, locals := 21 }).room s' m' ([.ref r, .int (nI 4)] : List Value).toArray be' me' co' H [] 0 0 (MQ be' (va_Qv (fun u : mw_M => (∀ q, q < r → u q = M q) ∧ okW cs u ∧ blkRw u cs r 4) (mi_B D (r + 2)) (fun q => r ≤ q)) ([.ref r, .int (nI 4)] : List Value).toArray s' 1 16 (fun q => r ≤ q)) (F0 m' 0 ls []) by rw [eH] at hgo; exact hgo
  have hl : lv_has ls 2 [(0, .ref r), (1, .int (nI 4))] := hl
  refine lv_aload_n hx hb d_Rw_init_0 rfl (lv_at hl 0 rfl) ?_
  refine W.objInit hx hb hown (hts _ tw_107) (hts _ tw_71) (hts _ tw_72) rfl (by rw [hml]; exact hl.1) rfl d_Rw_init_1 (Nat.le_of_ble_eq_true rfl) (Nat.le_of_ble_eq_true rfl) ?_
  refine W.eq (g2 := F0 m' 4 ls []) rfl ?_
  refine lv_aload_n hx hb d_Rw_init_4 rfl (lv_at hl 0 rfl) ?_
  refine lv_iconst (v := nI 0) hx hb d_Rw_init_5 rfl ?_
  refine lv_iload_n hx hb d_Rw_init_6 rfl (lv_at hl 1 rfl) ?_
  refine va_mmax hx hb (by rw [hml]; exact hl.1.symm) hown (hts _ tw_108) (hts _ tw_109) (hts _ tw_61) (hts _ tw_110) (Nat.le_of_ble_eq_true rfl) (Nat.le_of_ble_eq_true rfl) (Nat.le_of_ble_eq_true rfl) (Nat.le_of_ble_eq_true rfl) d_Rw_init_7 ?_
  refine gm_eqi (y := nI 4) (if_pos (by decide)) ?_
  refine mw_putF (D := D) (ci := 3) (v := .int (nI 4)) (ty := .int) (C := R_Rw) (T := F_Rw) (N := 3) hx hb hts in_Rw t_Rw t_Rw_ok n_Rw hown hK hP_0 hS f_0_0 (Nat.le_refl r) rfl 1 (by decide) (hts _ tw_113) (fun _ h9 => h9) rfl hin rfl (by decide +kernel) rfl rfl (Nat.le_of_ble_eq_true rfl) d_Rw_init_10 (fun H locs hPa hS hzb => ?_)
  have hz : H.size = r + 1 := hzb.trans hz
  obtain ⟨M_1, eM_1⟩ : ∃ z : mw_M, z = mw_up M_0 (r) (.inr (3, [.null, .int (nI 4), .int 0])) := ⟨_, rfl⟩
  have hP_1 : mw_P D vwC M_1 H := by rw [eM_1]; exact hPa
  have ok_1 : okW cs M_1 := by rw [eM_1]; exact ok_0.up trivial
  have lo_1 : ∀ q, q < r → M_1 q = M q := fun q hq => by rw [eM_1, mw_up_ne (by omega)]; exact lo_0 q hq
  have f_1_0 : M_1 (r) = some (.inr (3, [.null, .int (nI 4), .int 0])) := by rw [eM_1]; exact mw_up_self
  refine lv_aload_n hx hb d_Rw_init_13 rfl (lv_at hl 0 rfl) ?_
  refine lv_iconst (v := nI 4) hx hb d_Rw_init_14 rfl ?_
  refine lv_aload_n hx hb d_Rw_init_15 rfl (lv_at hl 0 rfl) ?_
  refine mw_get (D := D) (C := R_Rw) (T := F_Rw) (N := 3) hx hb hts in_Rw hown hK hP_1 f_1_0 rfl 1 (by decide) (hts _ tw_113) (fun _ h9 => h9) rfl d_Rw_init_16 ?_
  refine lv_imul hx hb d_Rw_init_19 ?_
  refine gm_eqi (y := nI 16) (by decide) ?_
  refine mw_newi hx hb (hts _ tw_96) hK 0 rfl hP_1 hS (by omega) (Nat.le_of_ble_eq_true rfl) (Nat.le_of_ble_eq_true rfl) hz d_Rw_init_20 (fun H hPa hS hz => ?_)
  obtain ⟨M_2, eM_2⟩ : ∃ z : mw_M, z = mw_up M_1 (r + 1) (.inl (cs 0, 16, .inl (fun _ => 0))) := ⟨_, rfl⟩
  have hP_2 : mw_P D vwC M_2 H := by rw [eM_2]; exact hPa
  have ok_2 : okW cs M_2 := by rw [eM_2]; exact ok_1.up rfl
  have lo_2 : ∀ q, q < r → M_2 q = M q := fun q hq => by rw [eM_2, mw_up_ne (by omega)]; exact lo_1 q hq
  have f_2_0 : M_2 (r) = some (.inr (3, [.null, .int (nI 4), .int 0])) := by rw [eM_2, mw_up_ne (by omega)]; exact f_1_0
  have f_2_1 : M_2 (r + 1) = some (.inl (cs 0, 16, .inl (fun _ => 0))) := by rw [eM_2]; exact mw_up_self
  have hz : H.size = r + 2 := hz
  refine mw_putF (D := D) (ci := 3) (v := .ref (r + 1)) (ty := .array (.int)) (C := R_Rw) (T := F_Rw) (N := 3) hx hb hts in_Rw t_Rw t_Rw_ok n_Rw hown hK hP_2 hS f_2_0 (Nat.le_refl r) rfl 0 (by decide) (hts _ tw_111) (fun _ h9 => h9) rfl hin rfl (by decide +kernel) rfl rfl (Nat.le_of_ble_eq_true rfl) d_Rw_init_22 (fun H locs hPa hS hzb => ?_)
  have hz : H.size = r + 2 := hzb.trans hz
  obtain ⟨M_3, eM_3⟩ : ∃ z : mw_M, z = mw_up M_2 (r) (.inr (3, [.ref (r + 1), .int (nI 4), .int 0])) := ⟨_, rfl⟩
  have hP_3 : mw_P D vwC M_3 H := by rw [eM_3]; exact hPa
  have ok_3 : okW cs M_3 := by rw [eM_3]; exact ok_2.up trivial
  have lo_3 : ∀ q, q < r → M_3 q = M q := fun q hq => by rw [eM_3, mw_up_ne (by omega)]; exact lo_2 q hq
  have f_3_0 : M_3 (r) = some (.inr (3, [.ref (r + 1), .int (nI 4), .int 0])) := by rw [eM_3]; exact mw_up_self
  have f_3_1 : M_3 (r + 1) = some (.inl (cs 0, 16, .inl (fun _ => 0))) := by rw [eM_3, mw_up_ne (by omega)]; exact f_2_1
  have hfin : blkRw M_3 cs r 4 := ⟨f_3_0, f_3_1⟩
  exact W.vret hx hb hr (fun t ht hW => ⟨⟨M_3, rfl, ⟨lo_3, ok_3, hfin⟩, by rw [ht]; exact hz, by rw [ht]; exact hP_3⟩, by rw [← hHe] at hS; exact hS.F ht⟩) hS.2.2 d_Rw_init_25

set_option maxHeartbeats 4000000 in
set_option maxRecDepth 100000 in
theorem c_Rw_init2 (l : Launch) (D : va_G) (cs : Nat → ClassId) (M : mw_M) (r : Nat) (h0 : M r = some (.inr (3, [.null, .int 0, .int 0]))) (hok : okW cs M) : Met l y_Rw_init w_Rw_init { frames := 1, cells := 1, slots := 8, locals := 21 } (mi_Pre D cs M (r + 1) [.ref r, .int (nI 2)]) (va_Qv (fun u : mw_M => (∀ q, q < r → u q = M q) ∧ okW cs u ∧ blkRw u cs r 2) (mi_B D (r + 2)) (fun q => r ≤ q)) 1 8 (fun q => r ≤ q) := by
  refine Met.ofW (cc := b_Rw_init) (maxL := 2) (ret := none) (by decide) rfl ?_
  intro p' e' s' m' args be' me' co' s₁ B hml hv
  obtain ⟨rfl, hsz, hPs, hK, hN, hA⟩ := hv
  have hx := B.exec
  have hb := B.bytes
  have hr := B.returns
  have hts0 := atoms_spec (ws := w_Rw_init) B.pre
  have hts : ∀ w ∈ tg, w.before _ s' = true := fun w h => hts0 w (List.mem_cons_of_mem _ h)
  have hown : s'.vm.findClass R_Rw = some m'.cls := findClass_of_methodNamed B.named
  have hlocks := B.notSynchronized
  have hin : me'.name = "<init>" := (name_of_methodNamed B.named B.method).1
  have hS9 : va_S (fun q => r ≤ q) s'.heap s'.heap [] := va_S.rf
  have hl := lv_entry ([.ref r, .int (nI 2)]) (n := 2) (Nat.le_of_ble_eq_true rfl)
  rw [lg_entry_eq]
  generalize (lg_sl ([.ref r, .int (nI 2)]) ++ List.replicate (2 - (lg_sl ([.ref r, .int (nI 2)])).length) Slot.unset).toArray = ls at hl ⊢
  generalize hHe : s'.heap = H0 at hPs hS9 hsz ⊢
  obtain ⟨M_0, eM_0⟩ : ∃ z : mw_M, z = M := ⟨_, rfl⟩
  have f_0_0 : M_0 r = some (.inr (3, [.null, .int 0, .int 0])) := by rw [eM_0]; exact h0
  have ok_0 : okW cs M_0 := by rw [eM_0]; exact hok
  have lo_0 : ∀ q, q < r → M_0 q = M q := fun q _ => by rw [eM_0]
  obtain ⟨H, eH⟩ : ∃ z : Heap, z = H0 := ⟨_, rfl⟩
  have hz : H.size = r + 1 := by rw [eH]; exact hsz
  have hP_0 : mw_P D vwC M_0 H := by rw [eH, eM_0]; exact hPs
  have hS : va_S (fun q => r ≤ q) H0 H [] := by rw [eH]; exact hS9
  suffices hgo : W p' l e' (headSpec w_Rw_init { frames := 1, cells := 1, slots := 8, locals := 21 }).room s' m' ([.ref r, .int (nI 2)] : List Value).toArray be' me' co' H [] 0 0 (MQ be' (va_Qv (fun u : mw_M => (∀ q, q < r → u q = M q) ∧ okW cs u ∧ blkRw u cs r 2) (mi_B D (r + 2)) (fun q => r ≤ q)) ([.ref r, .int (nI 2)] : List Value).toArray s' 1 8 (fun q => r ≤ q)) (F0 m' 0 ls []) by rw [eH] at hgo; exact hgo
  have hl : lv_has ls 2 [(0, .ref r), (1, .int (nI 2))] := hl
  refine lv_aload_n hx hb d_Rw_init_0 rfl (lv_at hl 0 rfl) ?_
  refine W.objInit hx hb hown (hts _ tw_107) (hts _ tw_71) (hts _ tw_72) rfl (by rw [hml]; exact hl.1) rfl d_Rw_init_1 (Nat.le_of_ble_eq_true rfl) (Nat.le_of_ble_eq_true rfl) ?_
  refine W.eq (g2 := F0 m' 4 ls []) rfl ?_
  refine lv_aload_n hx hb d_Rw_init_4 rfl (lv_at hl 0 rfl) ?_
  refine lv_iconst (v := nI 0) hx hb d_Rw_init_5 rfl ?_
  refine lv_iload_n hx hb d_Rw_init_6 rfl (lv_at hl 1 rfl) ?_
  refine va_mmax hx hb (by rw [hml]; exact hl.1.symm) hown (hts _ tw_108) (hts _ tw_109) (hts _ tw_61) (hts _ tw_110) (Nat.le_of_ble_eq_true rfl) (Nat.le_of_ble_eq_true rfl) (Nat.le_of_ble_eq_true rfl) (Nat.le_of_ble_eq_true rfl) d_Rw_init_7 ?_
  refine gm_eqi (y := nI 2) (if_pos (by decide)) ?_
  refine mw_putF (D := D) (ci := 3) (v := .int (nI 2)) (ty := .int) (C := R_Rw) (T := F_Rw) (N := 3) hx hb hts in_Rw t_Rw t_Rw_ok n_Rw hown hK hP_0 hS f_0_0 (Nat.le_refl r) rfl 1 (by decide) (hts _ tw_113) (fun _ h9 => h9) rfl hin rfl (by decide +kernel) rfl rfl (Nat.le_of_ble_eq_true rfl) d_Rw_init_10 (fun H locs hPa hS hzb => ?_)
  have hz : H.size = r + 1 := hzb.trans hz
  obtain ⟨M_1, eM_1⟩ : ∃ z : mw_M, z = mw_up M_0 (r) (.inr (3, [.null, .int (nI 2), .int 0])) := ⟨_, rfl⟩
  have hP_1 : mw_P D vwC M_1 H := by rw [eM_1]; exact hPa
  have ok_1 : okW cs M_1 := by rw [eM_1]; exact ok_0.up trivial
  have lo_1 : ∀ q, q < r → M_1 q = M q := fun q hq => by rw [eM_1, mw_up_ne (by omega)]; exact lo_0 q hq
  have f_1_0 : M_1 (r) = some (.inr (3, [.null, .int (nI 2), .int 0])) := by rw [eM_1]; exact mw_up_self
  refine lv_aload_n hx hb d_Rw_init_13 rfl (lv_at hl 0 rfl) ?_
  refine lv_iconst (v := nI 4) hx hb d_Rw_init_14 rfl ?_
  refine lv_aload_n hx hb d_Rw_init_15 rfl (lv_at hl 0 rfl) ?_
  refine mw_get (D := D) (C := R_Rw) (T := F_Rw) (N := 3) hx hb hts in_Rw hown hK hP_1 f_1_0 rfl 1 (by decide) (hts _ tw_113) (fun _ h9 => h9) rfl d_Rw_init_16 ?_
  refine lv_imul hx hb d_Rw_init_19 ?_
  refine gm_eqi (y := nI 8) (by decide) ?_
  refine mw_newi hx hb (hts _ tw_96) hK 0 rfl hP_1 hS (by omega) (Nat.le_of_ble_eq_true rfl) (Nat.le_of_ble_eq_true rfl) hz d_Rw_init_20 (fun H hPa hS hz => ?_)
  obtain ⟨M_2, eM_2⟩ : ∃ z : mw_M, z = mw_up M_1 (r + 1) (.inl (cs 0, 8, .inl (fun _ => 0))) := ⟨_, rfl⟩
  have hP_2 : mw_P D vwC M_2 H := by rw [eM_2]; exact hPa
  have ok_2 : okW cs M_2 := by rw [eM_2]; exact ok_1.up rfl
  have lo_2 : ∀ q, q < r → M_2 q = M q := fun q hq => by rw [eM_2, mw_up_ne (by omega)]; exact lo_1 q hq
  have f_2_0 : M_2 (r) = some (.inr (3, [.null, .int (nI 2), .int 0])) := by rw [eM_2, mw_up_ne (by omega)]; exact f_1_0
  have f_2_1 : M_2 (r + 1) = some (.inl (cs 0, 8, .inl (fun _ => 0))) := by rw [eM_2]; exact mw_up_self
  have hz : H.size = r + 2 := hz
  refine mw_putF (D := D) (ci := 3) (v := .ref (r + 1)) (ty := .array (.int)) (C := R_Rw) (T := F_Rw) (N := 3) hx hb hts in_Rw t_Rw t_Rw_ok n_Rw hown hK hP_2 hS f_2_0 (Nat.le_refl r) rfl 0 (by decide) (hts _ tw_111) (fun _ h9 => h9) rfl hin rfl (by decide +kernel) rfl rfl (Nat.le_of_ble_eq_true rfl) d_Rw_init_22 (fun H locs hPa hS hzb => ?_)
  have hz : H.size = r + 2 := hzb.trans hz
  obtain ⟨M_3, eM_3⟩ : ∃ z : mw_M, z = mw_up M_2 (r) (.inr (3, [.ref (r + 1), .int (nI 2), .int 0])) := ⟨_, rfl⟩
  have hP_3 : mw_P D vwC M_3 H := by rw [eM_3]; exact hPa
  have ok_3 : okW cs M_3 := by rw [eM_3]; exact ok_2.up trivial
  have lo_3 : ∀ q, q < r → M_3 q = M q := fun q hq => by rw [eM_3, mw_up_ne (by omega)]; exact lo_2 q hq
  have f_3_0 : M_3 (r) = some (.inr (3, [.ref (r + 1), .int (nI 2), .int 0])) := by rw [eM_3]; exact mw_up_self
  have f_3_1 : M_3 (r + 1) = some (.inl (cs 0, 8, .inl (fun _ => 0))) := by rw [eM_3, mw_up_ne (by omega)]; exact f_2_1
  have hfin : blkRw M_3 cs r 2 := ⟨f_3_0, f_3_1⟩
  exact W.vret hx hb hr (fun t ht hW => ⟨⟨M_3, rfl, ⟨lo_3, ok_3, hfin⟩, by rw [ht]; exact hz, by rw [ht]; exact hP_3⟩, by rw [← hHe] at hS; exact hS.F ht⟩) hS.2.2 d_Rw_init_25
