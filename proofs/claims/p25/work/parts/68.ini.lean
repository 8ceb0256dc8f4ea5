/-- a cell whose shape is one of typed memory's -/
def okE (cs : Nat → ClassId) (e : va_E) : Prop := match e with
  | .inr _ => True
  | .inl (cA, _, .inl _) => cA = cs 0
  | .inl (cA, _, .inr (.inl _)) => cA = cs 1
  | .inl (_, _, .inr (.inr (.inr (.inr _)))) => True
  | _ => False
def okW (cs : Nat → ClassId) (M : mw_M) : Prop := ∀ q e, M q = some e → okE cs e
theorem okW.up {cs : Nat → ClassId} {M : mw_M} {a : Nat} {e : va_E} (h : okW cs M) (he : okE cs e) : okW cs (mw_up M a e) := by
  intro q e' hq
  by_cases hqa : q = a
  · subst hqa; rw [mw_up_self] at hq; cases hq; exact he
  · rw [mw_up_ne hqa] at hq; exact h q e' hq
def blkRw (M : mw_M) (cs : Nat → ClassId) (a cap : Nat) : Prop := M a = some (.inr (3, [.ref (a + 1), .int (nI cap), .int 0])) ∧ M (a + 1) = some (.inl (cs 0, 4 * cap, .inl (fun _ => 0)))
def blkWy (M : mw_M) (cs : Nat → ClassId) (a : Nat) : Prop := M a = some (.inr (5, [.ref (a + 1), .ref (a + 3), .ref (a + 4)])) ∧ blkRw M cs (a + 1) 2 ∧ M (a + 3) = some (.inl (cs 0, 9, .inl (fun _ => 0))) ∧ M (a + 4) = some (.inl (cs 0, 3, .inl (fun _ => 0)))
def blkLp (M : mw_M) (cs : Nat → ClassId) (a : Nat) : Prop := M a = some (.inr (1, [.int 0, .ref (a + 1), .ref (a + 3), .int 0, .ref (a + 4), .ref (a + 5)])) ∧ blkRw M cs (a + 1) 4 ∧ M (a + 3) = some (.inl (cs 4, 3, .inr (.inr (.inr (.inr (fun k => if k < 3 then some (a + 6 + 5 * k) else none)))))) ∧ M (a + 4) = some (.inl (cs 1, 3, .inr (.inl (fun _ => 0)))) ∧ M (a + 5) = some (.inl (cs 1, 3, .inr (.inl (fun _ => 0)))) ∧ ∀ k, k < 3 → blkWy M cs (a + 6 + 5 * k)
def blkPf (M : mw_M) (cs : Nat → ClassId) (a : Nat) : Prop := M a = some (.inr (2, [.ref (a + 1), .int 0, .int 0])) ∧ M (a + 1) = some (.inl (cs 0, 12, .inl (fun _ => 0)))
def blkSp (M : mw_M) (cs : Nat → ClassId) (a : Nat) : Prop := M a = some (.inr (4, [.ref (a + 1), .int 0, .ref (a + 2), .int 0, .ref (a + 3), .ref (a + 4), .ref (a + 5), .int 0])) ∧ M (a + 1) = some (.inl (cs 1, 12, .inr (.inl (fun _ => 0)))) ∧ M (a + 2) = some (.inl (cs 1, 128, .inr (.inl (fun _ => 0)))) ∧ M (a + 3) = some (.inl (cs 0, 32, .inl (fun _ => 0))) ∧ M (a + 4) = some (.inl (cs 1, 32, .inr (.inl (fun _ => 0)))) ∧ M (a + 5) = some (.inl (cs 1, 4, .inr (.inl (fun _ => 0))))
def blkFT (M : mw_M) (cs : Nat → ClassId) (B : Nat) : Prop := M B = some (.inr (6, [.ref (B + 1), .int 0, .ref (B + 2), .ref (B + 3), .ref (B + 4), .ref (B + 6), .ref (B + 8), .int 0, .ref (B + 9), .ref (B + 10), .ref (B + 11)]))
  ∧ M (B + 1) = some (.inl (cs 2, 8, .inr (.inr (.inr (.inr (fun k => if k < 8 then some (B + 12 + 21 * k) else none)))))) ∧ M (B + 2) = some (.inl (cs 3, 3, .inr (.inr (.inr (.inr (fun k => if k < 3 then some (B + 180 + 12 * k) else none)))))) ∧ M (B + 3) = some (.inl (cs 3, 3, .inr (.inr (.inr (.inr (fun k => if k < 3 then some (B + 186 + 12 * k) else none)))))) ∧ blkPf M cs (B + 4) ∧ blkPf M cs (B + 6)
  ∧ M (B + 8) = some (.inl (cs 0, 4, .inl (fun _ => 0))) ∧ M (B + 9) = some (.inl (cs 1, 3, .inr (.inl (fun _ => 0)))) ∧ M (B + 10) = some (.inl (cs 1, 3, .inr (.inl (fun _ => 0)))) ∧ M (B + 11) = some (.inl (cs 1, 3, .inr (.inl (fun _ => 0)))) ∧ (∀ j, j < 8 → blkLp M cs (B + 12 + 21 * j)) ∧ ∀ k, k < 6 → blkSp M cs (B + 180 + 6 * k)
section BLK
variable {M u : mw_M} {cs : Nat → ClassId} {a cap : Nat}
theorem blkRw.keep (h : blkRw M cs a cap) (hk : ∀ q, a ≤ q → q < a + 2 → u q = M q) : blkRw u cs a cap := ⟨(hk _ (by omega) (by omega)).trans h.1, (hk _ (by omega) (by omega)).trans h.2⟩
theorem blkWy.keep (h : blkWy M cs a) (hk : ∀ q, a ≤ q → q < a + 5 → u q = M q) : blkWy u cs a := ⟨(hk _ (by omega) (by omega)).trans h.1, h.2.1.keep (fun q h1 h2 => hk q (by omega) (by omega)), (hk _ (by omega) (by omega)).trans h.2.2.1, (hk _ (by omega) (by omega)).trans h.2.2.2⟩
theorem blkLp.keep (h : blkLp M cs a) (hk : ∀ q, a ≤ q → q < a + 21 → u q = M q) : blkLp u cs a := ⟨(hk _ (by omega) (by omega)).trans h.1, h.2.1.keep (fun q h1 h2 => hk q (by omega) (by omega)), (hk _ (by omega) (by omega)).trans h.2.2.1, (hk _ (by omega) (by omega)).trans h.2.2.2.1, (hk _ (by omega) (by omega)).trans h.2.2.2.2.1, fun k hk3 => (h.2.2.2.2.2 k hk3).keep (fun q h1 h2 => hk q (by omega) (by omega))⟩
theorem blkPf.keep (h : blkPf M cs a) (hk : ∀ q, a ≤ q → q < a + 2 → u q = M q) : blkPf u cs a := ⟨(hk _ (by omega) (by omega)).trans h.1, (hk _ (by omega) (by omega)).trans h.2⟩
theorem blkSp.keep (h : blkSp M cs a) (hk : ∀ q, a ≤ q → q < a + 6 → u q = M q) : blkSp u cs a := ⟨(hk _ (by omega) (by omega)).trans h.1, (hk _ (by omega) (by omega)).trans h.2.1, (hk _ (by omega) (by omega)).trans h.2.2.1, (hk _ (by omega) (by omega)).trans h.2.2.2.1, (hk _ (by omega) (by omega)).trans h.2.2.2.2.1, (hk _ (by omega) (by omega)).trans h.2.2.2.2.2⟩
end BLK
abbrev b_Mx_max : ByteArray := prog_9_method_65_code
def y_Mx_max : MethodName := ⟨"java/lang/Math", "max", "(II)I"⟩
abbrev w_Mx_max : List Cond := wU y_Mx_max b_Mx_max 2 (some (.int))
theorem d_Mx_max_0 : decode b_Mx_max 0 = .ok (.iload_n 0, 1) := by decide +kernel
theorem d_Mx_max_1 : decode b_Mx_max 1 = .ok (.iload_n 1, 1) := by decide +kernel
theorem d_Mx_max_2 : decode b_Mx_max 2 = .ok (.if_icmp .lt 7, 3) := by decide +kernel
theorem d_Mx_max_5 : decode b_Mx_max 5 = .ok (.iload_n 0, 1) := by decide +kernel
theorem d_Mx_max_6 : decode b_Mx_max 6 = .ok (.goto 4, 3) := by decide +kernel
theorem d_Mx_max_9 : decode b_Mx_max 9 = .ok (.iload_n 1, 1) := by decide +kernel
theorem d_Mx_max_10 : decode b_Mx_max 10 = .ok (.ireturn, 1) := by decide +kernel

set_option maxHeartbeats 4000000 in
set_option maxRecDepth 100000 in
theorem c_Mx_max (l : Launch) (D : va_G) (cs : Nat → ClassId) (sh : gm_H) (sz : Nat) (I : gm_I) (J : gm_J) (a b : Int32) : CI l y_Mx_max w_Mx_max { frames := 0, cells := 0, slots := 0, locals := 0 } D cs sh sz I J [.int a, .int b] (fun x u => u = (I, J) ∧ x = if b ≤ a then a else b) := by
  refine gm_start (by decide) (Nat.le_of_ble_eq_true rfl) ?_
  intro p' e' s' m' be' me' co' ls C hml hlk hret hh hl
  have hl : lv_has ls 2 [(0, .int a), (1, .int b)] := hl
  refine lv_iload_n C.1 C.2.1 d_Mx_max_0 rfl (lv_at hl 0 rfl) ?_
  refine lv_iload_n C.1 C.2.1 d_Mx_max_1 rfl (lv_at hl 1 rfl) ?_
  refine lv_icmp_lt (tgt := 9) C.1 C.2.1 d_Mx_max_2 (by decide) (fun c_1 => ?_) (fun c_1 => ?_)
  · -- 2 -> 9
    skip
    refine lv_iload_n C.1 C.2.1 d_Mx_max_9 rfl (lv_at hl 1 rfl) ?_
    exact gr_i C hlk hret rfl hh (by refine ⟨rfl, ?_⟩; first | rw [if_pos (by assumption)] | rw [if_neg (by assumption)] | (rw [if_neg (Int32.not_le.mpr (by assumption))]) | (rw [if_pos (Int32.not_lt.mp (by assumption))])) d_Mx_max_10
  · -- 2 -> 5
    skip
    refine lv_iload_n C.1 C.2.1 d_Mx_max_5 rfl (lv_at hl 0 rfl) ?_
    refine lv_goto (tgt := 10) C.1 C.2.1 d_Mx_max_6 (by decide) ?_
    exact gr_i C hlk hret rfl hh (by refine ⟨rfl, ?_⟩; first | rw [if_pos (by assumption)] | rw [if_neg (by assumption)] | (rw [if_neg (Int32.not_le.mpr (by assumption))]) | (rw [if_pos (Int32.not_lt.mp (by assumption))])) d_Mx_max_10

set_option maxHeartbeats 4000000 in
set_option maxRecDepth 100000 in
theorem c_Rw_init4 (l : Launch) (D : va_G) (cs : Nat → ClassId) (M : mw_M) (r : Nat) (h0 : M r = some (.inr (3, [.null, .int 0, .int 0]))) (hok : okW cs M) : Met l y_Rw_init w_Rw_init { frames := 1, cells := 1, slots := 16, locals := 21 } (mi_Pre D cs M (r + 1) [.ref r, .int (nI 4)]) (va_Qv (fun u : mw_M => (∀ q, q < r → u q = M q) ∧ okW cs u ∧ blkRw u cs r 4) (mi_B D (r + 2)) (fun q => r ≤ q)) 1 16 (fun q => r ≤ q) := by
  refine Met.ofW (cc := b_Rw_init) (maxL := 2) (ret := none) (by decide) rfl ?_
  intro p' e' s' m' args be' me' co' s₁ B hml hv
  obtain ⟨rfl, hsz, hPs, hK, hN, hA⟩ := hv
  have hx := B.exec
  have hb := B.bytes
  have hr := B.returns
  have hts0 := atoms_spec (ws := w_Rw_init) B.pre
  have hts : ∀ w ∈ tg, w.before _ s' = true := fun w h => hts0 w (List.mem_cons_of_mem _ h)
  have hown : s'.vm.findClass R_Rw = some m'.cls := findClass_of_methodNamed B.named
  have hlocks := B.notSynchronized
  have hin : me'.name = "<init>" := (name_of_methodNamed B.named B.method).1
  have hS9 : va_S (fun q => r ≤ q) s'.heap s'.heap [] := va_S.rf
  have hl := lv_entry ([.ref r, .int (nI 4)]) (n := 2) (Nat.le_of_ble_eq_true rfl)
  rw [lg_entry_eq]
  generalize (lg_sl ([.ref r, .int (nI 4)]) ++ List.replicate (2 - (lg_sl ([.ref r, .int (nI 4)])).length) Slot.unset).toArray = ls at hl ⊢
  generalize hHe : s'.heap = H0 at hPs hS9 hsz ⊢
  obtain ⟨M_0, eM_0⟩ : ∃ z : mw_M, z = M := ⟨_, rfl⟩
  have f_0_0 : M_0 r = some (.inr (3, [.null, .int 0, .int 0])) := by rw [eM_0]; exact h0
  have ok_0 : okW cs M_0 := by rw [eM_0]; exact hok
  have lo_0 : ∀ q, q < r → M_0 q = M q := fun q _ => by rw [eM_0]
  obtain ⟨H, eH⟩ : ∃ z : Heap, z = H0 := ⟨_, rfl⟩
  have hz : H.size = r + 1 := by rw [eH]; exact hsz
  have hP_0 : mw_P D vwC M_0 H := by rw [eH, eM_0]; exact hPs
  have hS : va_S (fun q => r ≤ q) H0 H [] := by rw [eH]; exact hS9
  suffices hgo : W p' l e' (headSpec w_Rw_init { frames := 1, cells := 1, slots := 16, locals := 21 }).room s' m' ([.ref r, .int (nI 4)] : List Value).toArray be' me' co' H [] 0 0 (MQ be' (va_Qv (fun u : mw_M => (∀ q, q < r → u q = M q) ∧ okW cs u ∧ blkRw u cs r 4) (mi_B D (r + 2)) (fun q => r ≤ q)) ([.ref r, .int (nI 4)] : List Value).toArray s' 1 16 (fun q => r ≤ q)) (F0 m' 0 ls []) by rw [eH] at hgo; exact hgo
  have hl : lv_has ls 2 [(0, .ref r), (1, .int (nI 4))] := hl
  refine lv_aload_n hx hb d_Rw_init_0 rfl (lv_at hl 0 rfl) ?_
  refine W.objInit hx hb hown (hts _ tw_107) (hts _ tw_71) (hts _ tw_72) rfl (by rw [hml]; exact hl.1) rfl d_Rw_init_1 (Nat.le_of_ble_eq_true rfl) (Nat.le_of_ble_eq_true rfl) ?_
  refine W.eq (g2 := F0 m' 4 ls []) rfl ?_
  refine lv_aload_n hx hb d_Rw_init_4 rfl (lv_at hl 0 rfl) ?_
  refine lv_iconst (v := nI 0) hx hb d_Rw_init_5 rfl ?_
  refine lv_iload_n hx hb d_Rw_init_6 rfl (lv_at hl 1 rfl) ?_
  refine mi_pure (D' := D) (As := [.int (nI 0), .int (nI 4)]) (rest := [.ref r]) (n := 2) hx hb hml hown hts hK hN (c_Mx_max l D cs (fun _ => none) (r + 1) (fun _ _ => 0) (fun _ _ => 0) (nI 0) (nI 4)) tw_108 tw_109 tw_61 tw_110 (by decide +kernel) ⟨rfl, rfl, by decide, by decide, by decide, by decide⟩ hP_0 hS hz rfl hl.1 rfl (Nat.le_of_ble_eq_true rfl) d_Rw_init_7 (fun xm um H locs hmx hPm hS hz => ?_)
  have hP_0 := hPm
  have hmx : xm = nI 4 := hmx.2.trans (if_neg (by decide))
  rw [hmx]
  refine mw_putF (D := D) (ci := 3) (v := .int (nI 4)) (ty := .int) (C := R_Rw) (T := F_Rw) (N := 3) hx hb hts in_Rw t_Rw t_Rw_ok n_Rw hown hK hP_0 hS f_0_0 (Nat.le_refl r) rfl 1 (by decide) (hts _ tw_113) (fun _ h9 => h9) rfl hin rfl (by decide +kernel) rfl rfl (Nat.le_of_ble_eq_true rfl) d_Rw_init_10 (fun H locs hPa hS hzb => ?_)
  have hz : H.size = r + 1 := hzb.trans hz
  obtain ⟨M_1, eM_1⟩ : ∃ z : mw_M, z = mw_up M_0 (r) (.inr (3, [.null, .int (nI 4), .int 0])) := ⟨_, rfl⟩
  have hP_1 : mw_P D vwC M_1 H := by rw [eM_1]; exact hPa
  have ok_1 : okW cs M_1 := by rw [eM_1]; exact ok_0.up trivial
  have lo_1 : ∀ q, q < r → M_1 q = M q := fun q hq => by rw [eM_1, mw_up_ne (by omega)]; exact lo_0 q hq
  have f_1_0 : M_1 (r) = some (.inr (3, [.null, .int (nI 4), .int 0])) := by rw [eM_1]; exact mw_up_self
  refine lv_aload_n hx hb d_Rw_init_13 rfl (lv_at hl 0 rfl) ?_
  refine lv_iconst (v := nI 4) hx hb d_Rw_init_14 rfl ?_
  refine lv_aload_n hx hb d_Rw_init_15 rfl (lv_at hl 0 rfl) ?_
  refine mw_get (D := D) (C := R_Rw) (T := F_Rw) (N := 3) hx hb hts in_Rw hown hK hP_1 f_1_0 rfl 1 (by decide) (hts _ tw_113) (fun _ h9 => h9) rfl d_Rw_init_16 ?_
  refine lv_imul hx hb d_Rw_init_19 ?_
  refine gm_eqi (y := nI 16) (by decide) ?_
  refine mw_newi hx hb (hts _ tw_96) hK 0 rfl hP_1 hS (by omega) (Nat.le_of_ble_eq_true rfl) (Nat.le_of_ble_eq_true rfl) hz d_Rw_init_20 (fun H hPa hS hz => ?_)
  obtain ⟨M_2, eM_2⟩ : ∃ z : mw_M, z = mw_up M_1 (r + 1) (.inl (cs 0, 16, .inl (fun _ => 0))) := ⟨_, rfl⟩
  have hP_2 : mw_P D vwC M_2 H := by rw [eM_2]; exact hPa
  have ok_2 : okW cs M_2 := by rw [eM_2]; exact ok_1.up rfl
  have lo_2 : ∀ q, q < r → M_2 q = M q := fun q hq => by rw [eM_2, mw_up_ne (by omega)]; exact lo_1 q hq
  have f_2_0 : M_2 (r) = some (.inr (3, [.null, .int (nI 4), .int 0])) := by rw [eM_2, mw_up_ne (by omega)]; exact f_1_0
  have f_2_1 : M_2 (r + 1) = some (.inl (cs 0, 16, .inl (fun _ => 0))) := by rw [eM_2]; exact mw_up_self
  have hz : H.size = r + 2 := hz
  refine mw_putF (D := D) (ci := 3) (v := .ref (r + 1)) (ty := .array (.int)) (C := R_Rw) (T := F_Rw) (N := 3) hx hb hts in_Rw t_Rw t_Rw_ok n_Rw hown hK hP_2 hS f_2_0 (Nat.le_refl r) rfl 0 (by decide) (hts _ tw_111) (fun _ h9 => h9) rfl hin rfl (by decide +kernel) rfl rfl (Nat.le_of_ble_eq_true rfl) d_Rw_init_22 (fun H locs hPa hS hzb => ?_)
  have hz : H.size = r + 2 := hzb.trans hz
  obtain ⟨M_3, eM_3⟩ : ∃ z : mw_M, z = mw_up M_2 (r) (.inr (3, [.ref (r + 1), .int (nI 4), .int 0])) := ⟨_, rfl⟩
  have hP_3 : mw_P D vwC M_3 H := by rw [eM_3]; exact hPa
  have ok_3 : okW cs M_3 := by rw [eM_3]; exact ok_2.up trivial
  have lo_3 : ∀ q, q < r → M_3 q = M q := fun q hq => by rw [eM_3, mw_up_ne (by omega)]; exact lo_2 q hq
  have f_3_0 : M_3 (r) = some (.inr (3, [.ref (r + 1), .int (nI 4), .int 0])) := by rw [eM_3]; exact mw_up_self
  have f_3_1 : M_3 (r + 1) = some (.inl (cs 0, 16, .inl (fun _ => 0))) := by rw [eM_3, mw_up_ne (by omega)]; exact f_2_1
  have hfin : blkRw M_3 cs r 4 := ⟨f_3_0, f_3_1⟩
  exact W.vret hx hb hr (fun t ht hW => ⟨⟨M_3, rfl, ⟨lo_3, ok_3, hfin⟩, by rw [ht]; exact hz, by rw [ht]; exact hP_3⟩, by rw [← hHe] at hS; exact hS.F ht⟩) hS.2.2 d_Rw_init_25

set_option maxHeartbeats 4000000 in
set_option maxRecDepth 100000 in
theorem c_Rw_init2 (l : Launch) (D : va_G) (cs : Nat → ClassId) (M : mw_M) (r : Nat) (h0 : M r = some (.inr (3, [.null, .int 0, .int 0]))) (hok : okW cs M) : Met l y_Rw_init w_Rw_init { frames := 1, cells := 1, slots := 8, locals := 21 } (mi_Pre D cs M (r + 1) [.ref r, .int (nI 2)]) (va_Qv (fun u : mw_M => (∀ q, q < r → u q = M q) ∧ okW cs u ∧ blkRw u cs r 2) (mi_B D (r + 2)) (fun q => r ≤ q)) 1 8 (fun q => r ≤ q) := by
  refine Met.ofW (cc := b_Rw_init) (maxL := 2) (ret := none) (by decide) rfl ?_
  intro p' e' s' m' args be' me' co' s₁ B hml hv
  obtain ⟨rfl, hsz, hPs, hK, hN, hA⟩ := hv
  have hx := B.exec
  have hb := B.bytes
  have hr := B.returns
  have hts0 := atoms_spec (ws := w_Rw_init) B.pre
  have hts : ∀ w ∈ tg, w.before _ s' = true := fun w h => hts0 w (List.mem_cons_of_mem _ h)
  have hown : s'.vm.findClass R_Rw = some m'.cls := findClass_of_methodNamed B.named
  have hlocks := B.notSynchronized
  have hin : me'.name = "<init>" := (name_of_methodNamed B.named B.method).1
  have hS9 : va_S (fun q => r ≤ q) s'.heap s'.heap [] := va_S.rf
  have hl := lv_entry ([.ref r, .int (nI 2)]) (n := 2) (Nat.le_of_ble_eq_true rfl)
  rw [lg_entry_eq]
  generalize (lg_sl ([.ref r, .int (nI 2)]) ++ List.replicate (2 - (lg_sl ([.ref r, .int (nI 2)])).length) Slot.unset).toArray = ls at hl ⊢
  generalize hHe : s'.heap = H0 at hPs hS9 hsz ⊢
  obtain ⟨M_0, eM_0⟩ : ∃ z : mw_M, z = M := ⟨_, rfl⟩
  have f_0_0 : M_0 r = some (.inr (3, [.null, .int 0, .int 0])) := by rw [eM_0]; exact h0
  have ok_0 : okW cs M_0 := by rw [eM_0]; exact hok
  have lo_0 : ∀ q, q < r → M_0 q = M q := fun q _ => by rw [eM_0]
  obtain ⟨H, eH⟩ : ∃ z : Heap, z = H0 := ⟨_, rfl⟩
  have hz : H.size = r + 1 := by rw [eH]; exact hsz
  have hP_0 : mw_P D vwC M_0 H := by rw [eH, eM_0]; exact hPs
  have hS : va_S (fun q => r ≤ q) H0 H [] := by rw [eH]; exact hS9
  suffices hgo : W p' l e' (headSpec w_Rw_init { frames := 1, cells := 1, slots := 8, locals := 21 }).room s' m' ([.ref r, .int (nI 2)] : List Value).toArray be' me' co' H [] 0 0 (MQ be' (va_Qv (fun u : mw_M => (∀ q, q < r → u q = M q) ∧ okW cs u ∧ blkRw u cs r 2) (mi_B D (r + 2)) (fun q => r ≤ q)) ([.ref r, .int (nI 2)] : List Value).toArray s' 1 8 (fun q => r ≤ q)) (F0 m' 0 ls []) by rw [eH] at hgo; exact hgo
  have hl : lv_has ls 2 [(0, .ref r), (1, .int (nI 2))] := hl
  refine lv_aload_n hx hb d_Rw_init_0 rfl (lv_at hl 0 rfl) ?_
  refine W.objInit hx hb hown (hts _ tw_107) (hts _ tw_71) (hts _ tw_72) rfl (by rw [hml]; exact hl.1) rfl d_Rw_init_1 (Nat.le_of_ble_eq_true rfl) (Nat.le_of_ble_eq_true rfl) ?_
  refine W.eq (g2 := F0 m' 4 ls []) rfl ?_
  refine lv_aload_n hx hb d_Rw_init_4 rfl (lv_at hl 0 rfl) ?_
  refine lv_iconst (v := nI 0) hx hb d_Rw_init_5 rfl ?_
  refine lv_iload_n hx hb d_Rw_init_6 rfl (lv_at hl 1 rfl) ?_
  refine mi_pure (D' := D) (As := [.int (nI 0), .int (nI 2)]) (rest := [.ref r]) (n := 2) hx hb hml hown hts hK hN (c_Mx_max l D cs (fun _ => none) (r + 1) (fun _ _ => 0) (fun _ _ => 0) (nI 0) (nI 2)) tw_108 tw_109 tw_61 tw_110 (by decide +kernel) ⟨rfl, rfl, by decide, by decide, by decide, by decide⟩ hP_0 hS hz rfl hl.1 rfl (Nat.le_of_ble_eq_true rfl) d_Rw_init_7 (fun xm um H locs hmx hPm hS hz => ?_)
  have hP_0 := hPm
  have hmx : xm = nI 2 := hmx.2.trans (if_neg (by decide))
  rw [hmx]
  refine mw_putF (D := D) (ci := 3) (v := .int (nI 2)) (ty := .int) (C := R_Rw) (T := F_Rw) (N := 3) hx hb hts in_Rw t_Rw t_Rw_ok n_Rw hown hK hP_0 hS f_0_0 (Nat.le_refl r) rfl 1 (by decide) (hts _ tw_113) (fun _ h9 => h9) rfl hin rfl (by decide +kernel) rfl rfl (Nat.le_of_ble_eq_true rfl) d_Rw_init_10 (fun H locs hPa hS hzb => ?_)
  have hz : H.size = r + 1 := hzb.trans hz
  obtain ⟨M_1, eM_1⟩ : ∃ z : mw_M, z = mw_up M_0 (r) (.inr (3, [.null, .int (nI 2), .int 0])) := ⟨_, rfl⟩
  have hP_1 : mw_P D vwC M_1 H := by rw [eM_1]; exact hPa
  have ok_1 : okW cs M_1 := by rw [eM_1]; exact ok_0.up trivial
  have lo_1 : ∀ q, q < r → M_1 q = M q := fun q hq => by rw [eM_1, mw_up_ne (by omega)]; exact lo_0 q hq
  have f_1_0 : M_1 (r) = some (.inr (3, [.null, .int (nI 2), .int 0])) := by rw [eM_1]; exact mw_up_self
  refine lv_aload_n hx hb d_Rw_init_13 rfl (lv_at hl 0 rfl) ?_
  refine lv_iconst (v := nI 4) hx hb d_Rw_init_14 rfl ?_
  refine lv_aload_n hx hb d_Rw_init_15 rfl (lv_at hl 0 rfl) ?_
  refine mw_get (D := D) (C := R_Rw) (T := F_Rw) (N := 3) hx hb hts in_Rw hown hK hP_1 f_1_0 rfl 1 (by decide) (hts _ tw_113) (fun _ h9 => h9) rfl d_Rw_init_16 ?_
  refine lv_imul hx hb d_Rw_init_19 ?_
  refine gm_eqi (y := nI 8) (by decide) ?_
  refine mw_newi hx hb (hts _ tw_96) hK 0 rfl hP_1 hS (by omega) (Nat.le_of_ble_eq_true rfl) (Nat.le_of_ble_eq_true rfl) hz d_Rw_init_20 (fun H hPa hS hz => ?_)
  obtain ⟨M_2, eM_2⟩ : ∃ z : mw_M, z = mw_up M_1 (r + 1) (.inl (cs 0, 8, .inl (fun _ => 0))) := ⟨_, rfl⟩
  have hP_2 : mw_P D vwC M_2 H := by rw [eM_2]; exact hPa
  have ok_2 : okW cs M_2 := by rw [eM_2]; exact ok_1.up rfl
  have lo_2 : ∀ q, q < r → M_2 q = M q := fun q hq => by rw [eM_2, mw_up_ne (by omega)]; exact lo_1 q hq
  have f_2_0 : M_2 (r) = some (.inr (3, [.null, .int (nI 2), .int 0])) := by rw [eM_2, mw_up_ne (by omega)]; exact f_1_0
  have f_2_1 : M_2 (r + 1) = some (.inl (cs 0, 8, .inl (fun _ => 0))) := by rw [eM_2]; exact mw_up_self
  have hz : H.size = r + 2 := hz
  refine mw_putF (D := D) (ci := 3) (v := .ref (r + 1)) (ty := .array (.int)) (C := R_Rw) (T := F_Rw) (N := 3) hx hb hts in_Rw t_Rw t_Rw_ok n_Rw hown hK hP_2 hS f_2_0 (Nat.le_refl r) rfl 0 (by decide) (hts _ tw_111) (fun _ h9 => h9) rfl hin rfl (by decide +kernel) rfl rfl (Nat.le_of_ble_eq_true rfl) d_Rw_init_22 (fun H locs hPa hS hzb => ?_)
  have hz : H.size = r + 2 := hzb.trans hz
  obtain ⟨M_3, eM_3⟩ : ∃ z : mw_M, z = mw_up M_2 (r) (.inr (3, [.ref (r + 1), .int (nI 2), .int 0])) := ⟨_, rfl⟩
  have hP_3 : mw_P D vwC M_3 H := by rw [eM_3]; exact hPa
  have ok_3 : okW cs M_3 := by rw [eM_3]; exact ok_2.up trivial
  have lo_3 : ∀ q, q < r → M_3 q = M q := fun q hq => by rw [eM_3, mw_up_ne (by omega)]; exact lo_2 q hq
  have f_3_0 : M_3 (r) = some (.inr (3, [.ref (r + 1), .int (nI 2), .int 0])) := by rw [eM_3]; exact mw_up_self
  have f_3_1 : M_3 (r + 1) = some (.inl (cs 0, 8, .inl (fun _ => 0))) := by rw [eM_3, mw_up_ne (by omega)]; exact f_2_1
  have hfin : blkRw M_3 cs r 2 := ⟨f_3_0, f_3_1⟩
  exact W.vret hx hb hr (fun t ht hW => ⟨⟨M_3, rfl, ⟨lo_3, ok_3, hfin⟩, by rw [ht]; exact hz, by rw [ht]; exact hP_3⟩, by rw [← hHe] at hS; exact hS.F ht⟩) hS.2.2 d_Rw_init_25

set_option maxHeartbeats 4000000 in
set_option maxRecDepth 100000 in
theorem c_Wy_init (l : Launch) (D : va_G) (cs : Nat → ClassId) (M : mw_M) (r : Nat) (h0 : M r = some (.inr (5, [.null, .null, .null]))) (hok : okW cs M) : Met l y_Wy_init w_Wy_init { frames := 2, cells := 4, slots := 23, locals := 42 } (mi_Pre D cs M (r + 1) [.ref r]) (va_Qv (fun u : mw_M => (∀ q, q < r → u q = M q) ∧ okW cs u ∧ blkWy u cs r) (mi_B D (r + 5)) (fun q => r ≤ q)) 4 23 (fun q => r ≤ q) := by
  refine Met.ofW (cc := b_Wy_init) (maxL := 1) (ret := none) (by decide) rfl ?_
  intro p' e' s' m' args be' me' co' s₁ B hml hv
  obtain ⟨rfl, hsz, hPs, hK, hN, hA⟩ := hv
  have hx := B.exec
  have hb := B.bytes
  have hr := B.returns
  have hts0 := atoms_spec (ws := w_Wy_init) B.pre
  have hts : ∀ w ∈ tg, w.before _ s' = true := fun w h => hts0 w (List.mem_cons_of_mem _ h)
  have hown : s'.vm.findClass R_Wy = some m'.cls := findClass_of_methodNamed B.named
  have hlocks := B.notSynchronized
  have hin : me'.name = "<init>" := (name_of_methodNamed B.named B.method).1
  have hS9 : va_S (fun q => r ≤ q) s'.heap s'.heap [] := va_S.rf
  have hl := lv_entry ([.ref r]) (n := 1) (Nat.le_of_ble_eq_true rfl)
  rw [lg_entry_eq]
  generalize (lg_sl ([.ref r]) ++ List.replicate (1 - (lg_sl ([.ref r])).length) Slot.unset).toArray = ls at hl ⊢
  generalize hHe : s'.heap = H0 at hPs hS9 hsz ⊢
  obtain ⟨M_0, eM_0⟩ : ∃ z : mw_M, z = M := ⟨_, rfl⟩
  have f_0_0 : M_0 r = some (.inr (5, [.null, .null, .null])) := by rw [eM_0]; exact h0
  have ok_0 : okW cs M_0 := by rw [eM_0]; exact hok
  have lo_0 : ∀ q, q < r → M_0 q = M q := fun q _ => by rw [eM_0]
  obtain ⟨H, eH⟩ : ∃ z : Heap, z = H0 := ⟨_, rfl⟩
  have hz : H.size = r + 1 := by rw [eH]; exact hsz
  have hP_0 : mw_P D vwC M_0 H := by rw [eH, eM_0]; exact hPs
  have hS : va_S (fun q => r ≤ q) H0 H [] := by rw [eH]; exact hS9
  suffices hgo : W p' l e' (headSpec w_Wy_init { frames := 2, cells := 4, slots := 23, locals := 42 }).room s' m' ([.ref r] : List Value).toArray be' me' co' H [] 0 0 (MQ be' (va_Qv (fun u : mw_M => (∀ q, q < r → u q = M q) ∧ okW cs u ∧ blkWy u cs r) (mi_B D (r + 5)) (fun q => r ≤ q)) ([.ref r] : List Value).toArray s' 4 23 (fun q => r ≤ q)) (F0 m' 0 ls []) by rw [eH] at hgo; exact hgo
  have hl : lv_has ls 1 [(0, .ref r)] := hl
  refine lv_aload_n hx hb d_Wy_init_0 rfl (lv_at hl 0 rfl) ?_
  refine W.objInit hx hb hown (hts _ tw_133) (hts _ tw_71) (hts _ tw_72) rfl (by rw [hml]; exact hl.1) rfl d_Wy_init_1 (Nat.le_of_ble_eq_true rfl) (Nat.le_of_ble_eq_true rfl) ?_
  refine W.eq (g2 := F0 m' 4 ls []) rfl ?_
  refine lv_aload_n hx hb d_Wy_init_4 rfl (lv_at hl 0 rfl) ?_
  refine mw_new (D := D) (C := R_Rw) (T := F_Rw) (N := 3) (ci := 3) (fs := [.null, .int 0, .int 0]) hx hb hts in_Rw t_Rw t_Rw_ok hown (hts _ tw_134) (hts _ tw_103) (hts _ tw_60) hK hP_0 hS rfl (fun j hj => by rcases (show j = 0 ∨ j = 1 ∨ j = 2 by omega) with rfl | rfl | rfl <;> rfl) (Nat.le_of_ble_eq_true rfl) (Nat.le_of_ble_eq_true rfl) hz d_Wy_init_5 (fun H hPa hS hz => ?_)
  obtain ⟨M_1, eM_1⟩ : ∃ z : mw_M, z = mw_up M_0 (r + 1) (.inr (3, [.null, .int 0, .int 0])) := ⟨_, rfl⟩
  have hP_1 : mw_P D vwC M_1 H := by rw [eM_1]; exact hPa
  have ok_1 : okW cs M_1 := by rw [eM_1]; exact ok_0.up trivial
  have lo_1 : ∀ q, q < r → M_1 q = M q := fun q hq => by rw [eM_1, mw_up_ne (by omega)]; exact lo_0 q hq
  have f_1_0 : M_1 (r) = some (.inr (5, [.null, .null, .null])) := by rw [eM_1, mw_up_ne (by omega)]; exact f_0_0
  have f_1_1 : M_1 (r + 1) = some (.inr (3, [.null, .int 0, .int 0])) := by rw [eM_1]; exact mw_up_self
  have hz : H.size = r + 2 := hz
  refine lv_dup hx hb d_Wy_init_8 rfl ?_
  refine lv_iconst (v := nI 2) hx hb d_Wy_init_9 rfl ?_
  refine mi_callI (As := [.int (nI 2)]) (rest := [.ref (r + 1), .ref r]) (n := 1) hx hb hml hown hts hK hN hA (c_Rw_init2 l D cs M_1 (r + 1) f_1_1 ok_1) tw_135 tw_105 tw_60 tw_106 (by decide +kernel) ⟨rfl, rfl, by decide, by decide, by decide, by decide⟩ hP_1 hS hz (fun q hq => by omega) rfl hl.1 rfl (Nat.le_of_ble_eq_true rfl) d_Wy_init_10 (fun M_2 H locs hb_ hPa hS hz => ?_)
  have hP_2 := hPa
  have hk_2 := hb_.1
  have ok_2 : okW cs M_2 := hb_.2.1
  have lo_2 : ∀ q, q < r → M_2 q = M q := fun q hq => (hk_2 q (by omega)).trans (lo_1 q hq)
  have f_2_0 : M_2 (r) = some (.inr (5, [.null, .null, .null])) := (hk_2 _ (by omega)).trans f_1_0
  have b_2_1 : blkRw M_2 cs (r + 1) 2 := hb_.2.2
  have hz : H.size = r + 3 := hz
  refine mw_putF (D := D) (ci := 5) (v := .ref (r + 1)) (ty := .object "FallingTerms$Rows") (C := R_Wy) (T := F_Wy) (N := 3) hx hb hts in_Wy t_Wy t_Wy_ok n_Wy hown hK hP_2 hS f_2_0 (Nat.le_refl r) rfl 0 (by decide) (hts _ tw_136) (fun _ h9 => h9) rfl hin rfl (by decide +kernel) rfl rfl (Nat.le_of_ble_eq_true rfl) d_Wy_init_13 (fun H locs hPa hS hzb => ?_)
  have hz : H.size = r + 3 := hzb.trans hz
  obtain ⟨M_3, eM_3⟩ : ∃ z : mw_M, z = mw_up M_2 (r) (.inr (5, [.ref (r + 1), .null, .null])) := ⟨_, rfl⟩
  have hP_3 : mw_P D vwC M_3 H := by rw [eM_3]; exact hPa
  have ok_3 : okW cs M_3 := by rw [eM_3]; exact ok_2.up trivial
  have lo_3 : ∀ q, q < r → M_3 q = M q := fun q hq => by rw [eM_3, mw_up_ne (by omega)]; exact lo_2 q hq
  have f_3_0 : M_3 (r) = some (.inr (5, [.ref (r + 1), .null, .null])) := by rw [eM_3]; exact mw_up_self
  have b_3_1 : blkRw M_3 cs (r + 1) 2 := b_2_1.keep (fun q h1 h2 => by rw [eM_3, mw_up_ne (by omega)])
  refine lv_aload_n hx hb d_Wy_init_16 rfl (lv_at hl 0 rfl) ?_
  refine lv_bipush (v := nI 9) hx hb d_Wy_init_17 rfl ?_
  refine mw_newi hx hb (hts _ tw_96) hK 0 rfl hP_3 hS (by omega) (Nat.le_of_ble_eq_true rfl) (Nat.le_of_ble_eq_true rfl) hz d_Wy_init_19 (fun H hPa hS hz => ?_)
  obtain ⟨M_4, eM_4⟩ : ∃ z : mw_M, z = mw_up M_3 (r + 3) (.inl (cs 0, 9, .inl (fun _ => 0))) := ⟨_, rfl⟩
  have hP_4 : mw_P D vwC M_4 H := by rw [eM_4]; exact hPa
  have ok_4 : okW cs M_4 := by rw [eM_4]; exact ok_3.up rfl
  have lo_4 : ∀ q, q < r → M_4 q = M q := fun q hq => by rw [eM_4, mw_up_ne (by omega)]; exact lo_3 q hq
  have f_4_0 : M_4 (r) = some (.inr (5, [.ref (r + 1), .null, .null])) := by rw [eM_4, mw_up_ne (by omega)]; exact f_3_0
  have f_4_3 : M_4 (r + 3) = some (.inl (cs 0, 9, .inl (fun _ => 0))) := by rw [eM_4]; exact mw_up_self
  have b_4_1 : blkRw M_4 cs (r + 1) 2 := b_3_1.keep (fun q h1 h2 => by rw [eM_4, mw_up_ne (by omega)])
  have hz : H.size = r + 4 := hz
  refine mw_putF (D := D) (ci := 5) (v := .ref (r + 3)) (ty := .array (.int)) (C := R_Wy) (T := F_Wy) (N := 3) hx hb hts in_Wy t_Wy t_Wy_ok n_Wy hown hK hP_4 hS f_4_0 (Nat.le_refl r) rfl 1 (by decide) (hts _ tw_140) (fun _ h9 => h9) rfl hin rfl (by decide +kernel) rfl rfl (Nat.le_of_ble_eq_true rfl) d_Wy_init_21 (fun H locs hPa hS hzb => ?_)
  have hz : H.size = r + 4 := hzb.trans hz
  obtain ⟨M_5, eM_5⟩ : ∃ z : mw_M, z = mw_up M_4 (r) (.inr (5, [.ref (r + 1), .ref (r + 3), .null])) := ⟨_, rfl⟩
  have hP_5 : mw_P D vwC M_5 H := by rw [eM_5]; exact hPa
  have ok_5 : okW cs M_5 := by rw [eM_5]; exact ok_4.up trivial
  have lo_5 : ∀ q, q < r → M_5 q = M q := fun q hq => by rw [eM_5, mw_up_ne (by omega)]; exact lo_4 q hq
  have f_5_0 : M_5 (r) = some (.inr (5, [.ref (r + 1), .ref (r + 3), .null])) := by rw [eM_5]; exact mw_up_self
  have f_5_3 : M_5 (r + 3) = some (.inl (cs 0, 9, .inl (fun _ => 0))) := by rw [eM_5, mw_up_ne (by omega)]; exact f_4_3
  have b_5_1 : blkRw M_5 cs (r + 1) 2 := b_4_1.keep (fun q h1 h2 => by rw [eM_5, mw_up_ne (by omega)])
  refine lv_aload_n hx hb d_Wy_init_24 rfl (lv_at hl 0 rfl) ?_
  refine lv_iconst (v := nI 3) hx hb d_Wy_init_25 rfl ?_
  refine mw_newi hx hb (hts _ tw_96) hK 0 rfl hP_5 hS (by omega) (Nat.le_of_ble_eq_true rfl) (Nat.le_of_ble_eq_true rfl) hz d_Wy_init_26 (fun H hPa hS hz => ?_)
  obtain ⟨M_6, eM_6⟩ : ∃ z : mw_M, z = mw_up M_5 (r + 4) (.inl (cs 0, 3, .inl (fun _ => 0))) := ⟨_, rfl⟩
  have hP_6 : mw_P D vwC M_6 H := by rw [eM_6]; exact hPa
  have ok_6 : okW cs M_6 := by rw [eM_6]; exact ok_5.up rfl
  have lo_6 : ∀ q, q < r → M_6 q = M q := fun q hq => by rw [eM_6, mw_up_ne (by omega)]; exact lo_5 q hq
  have f_6_0 : M_6 (r) = some (.inr (5, [.ref (r + 1), .ref (r + 3), .null])) := by rw [eM_6, mw_up_ne (by omega)]; exact f_5_0
  have f_6_3 : M_6 (r + 3) = some (.inl (cs 0, 9, .inl (fun _ => 0))) := by rw [eM_6, mw_up_ne (by omega)]; exact f_5_3
  have f_6_4 : M_6 (r + 4) = some (.inl (cs 0, 3, .inl (fun _ => 0))) := by rw [eM_6]; exact mw_up_self
  have b_6_1 : blkRw M_6 cs (r + 1) 2 := b_5_1.keep (fun q h1 h2 => by rw [eM_6, mw_up_ne (by omega)])
  have hz : H.size = r + 5 := hz
  refine mw_putF (D := D) (ci := 5) (v := .ref (r + 4)) (ty := .array (.int)) (C := R_Wy) (T := F_Wy) (N := 3) hx hb hts in_Wy t_Wy t_Wy_ok n_Wy hown hK hP_6 hS f_6_0 (Nat.le_refl r) rfl 2 (by decide) (hts _ tw_142) (fun _ h9 => h9) rfl hin rfl (by decide +kernel) rfl rfl (Nat.le_of_ble_eq_true rfl) d_Wy_init_28 (fun H locs hPa hS hzb => ?_)
  have hz : H.size = r + 5 := hzb.trans hz
  obtain ⟨M_7, eM_7⟩ : ∃ z : mw_M, z = mw_up M_6 (r) (.inr (5, [.ref (r + 1), .ref (r + 3), .ref (r + 4)])) := ⟨_, rfl⟩
  have hP_7 : mw_P D vwC M_7 H := by rw [eM_7]; exact hPa
  have ok_7 : okW cs M_7 := by rw [eM_7]; exact ok_6.up trivial
  have lo_7 : ∀ q, q < r → M_7 q = M q := fun q hq => by rw [eM_7, mw_up_ne (by omega)]; exact lo_6 q hq
  have f_7_0 : M_7 (r) = some (.inr (5, [.ref (r + 1), .ref (r + 3), .ref (r + 4)])) := by rw [eM_7]; exact mw_up_self
  have f_7_3 : M_7 (r + 3) = some (.inl (cs 0, 9, .inl (fun _ => 0))) := by rw [eM_7, mw_up_ne (by omega)]; exact f_6_3
  have f_7_4 : M_7 (r + 4) = some (.inl (cs 0, 3, .inl (fun _ => 0))) := by rw [eM_7, mw_up_ne (by omega)]; exact f_6_4
  have b_7_1 : blkRw M_7 cs (r + 1) 2 := b_6_1.keep (fun q h1 h2 => by rw [eM_7, mw_up_ne (by omega)])
  have hfin : blkWy M_7 cs r := ⟨f_7_0, b_7_1, f_7_3, f_7_4⟩
  exact W.vret hx hb hr (fun t ht hW => ⟨⟨M_7, rfl, ⟨lo_7, ok_7, hfin⟩, by rw [ht]; exact hz, by rw [ht]; exact hP_7⟩, by rw [← hHe] at hS; exact hS.F ht⟩) hS.2.2 d_Wy_init_31

set_option maxHeartbeats 4000000 in
set_option maxRecDepth 100000 in
theorem c_Pf_init (l : Launch) (D : va_G) (cs : Nat → ClassId) (M : mw_M) (r : Nat) (h0 : M r = some (.inr (2, [.null, .int 0, .int 0]))) (hok : okW cs M) : Met l y_Pf_init w_Pf_init { frames := 1, cells := 1, slots := 12, locals := 12 } (mi_Pre D cs M (r + 1) [.ref r]) (va_Qv (fun u : mw_M => (∀ q, q < r → u q = M q) ∧ okW cs u ∧ blkPf u cs r) (mi_B D (r + 2)) (fun q => r ≤ q)) 1 12 (fun q => r ≤ q) := by
  refine Met.ofW (cc := b_Pf_init) (maxL := 1) (ret := none) (by decide) rfl ?_
  intro p' e' s' m' args be' me' co' s₁ B hml hv
  obtain ⟨rfl, hsz, hPs, hK, hN, hA⟩ := hv
  have hx := B.exec
  have hb := B.bytes
  have hr := B.returns
  have hts0 := atoms_spec (ws := w_Pf_init) B.pre
  have hts : ∀ w ∈ tg, w.before _ s' = true := fun w h => hts0 w (List.mem_cons_of_mem _ h)
  have hown : s'.vm.findClass R_Pf = some m'.cls := findClass_of_methodNamed B.named
  have hlocks := B.notSynchronized
  have hin : me'.name = "<init>" := (name_of_methodNamed B.named B.method).1
  have hS9 : va_S (fun q => r ≤ q) s'.heap s'.heap [] := va_S.rf
  have hl := lv_entry ([.ref r]) (n := 1) (Nat.le_of_ble_eq_true rfl)
  rw [lg_entry_eq]
  generalize (lg_sl ([.ref r]) ++ List.replicate (1 - (lg_sl ([.ref r])).length) Slot.unset).toArray = ls at hl ⊢
  generalize hHe : s'.heap = H0 at hPs hS9 hsz ⊢
  obtain ⟨M_0, eM_0⟩ : ∃ z : mw_M, z = M := ⟨_, rfl⟩
  have f_0_0 : M_0 r = some (.inr (2, [.null, .int 0, .int 0])) := by rw [eM_0]; exact h0
  have ok_0 : okW cs M_0 := by rw [eM_0]; exact hok
  have lo_0 : ∀ q, q < r → M_0 q = M q := fun q _ => by rw [eM_0]
  obtain ⟨H, eH⟩ : ∃ z : Heap, z = H0 := ⟨_, rfl⟩
  have hz : H.size = r + 1 := by rw [eH]; exact hsz
  have hP_0 : mw_P D vwC M_0 H := by rw [eH, eM_0]; exact hPs
  have hS : va_S (fun q => r ≤ q) H0 H [] := by rw [eH]; exact hS9
  suffices hgo : W p' l e' (headSpec w_Pf_init { frames := 1, cells := 1, slots := 12, locals := 12 }).room s' m' ([.ref r] : List Value).toArray be' me' co' H [] 0 0 (MQ be' (va_Qv (fun u : mw_M => (∀ q, q < r → u q = M q) ∧ okW cs u ∧ blkPf u cs r) (mi_B D (r + 2)) (fun q => r ≤ q)) ([.ref r] : List Value).toArray s' 1 12 (fun q => r ≤ q)) (F0 m' 0 ls []) by rw [eH] at hgo; exact hgo
  have hl : lv_has ls 1 [(0, .ref r)] := hl
  refine lv_aload_n hx hb d_Pf_init_0 rfl (lv_at hl 0 rfl) ?_
  refine W.objInit hx hb hown (hts _ tw_82) (hts _ tw_71) (hts _ tw_72) rfl (by rw [hml]; exact hl.1) rfl d_Pf_init_1 (Nat.le_of_ble_eq_true rfl) (Nat.le_of_ble_eq_true rfl) ?_
  refine W.eq (g2 := F0 m' 4 ls []) rfl ?_
  refine lv_aload_n hx hb d_Pf_init_4 rfl (lv_at hl 0 rfl) ?_
  refine lv_bipush (v := nI 12) hx hb d_Pf_init_5 rfl ?_
  refine mw_newi hx hb (hts _ tw_96) hK 0 rfl hP_0 hS (by omega) (Nat.le_of_ble_eq_true rfl) (Nat.le_of_ble_eq_true rfl) hz d_Pf_init_7 (fun H hPa hS hz => ?_)
  obtain ⟨M_1, eM_1⟩ : ∃ z : mw_M, z = mw_up M_0 (r + 1) (.inl (cs 0, 12, .inl (fun _ => 0))) := ⟨_, rfl⟩
  have hP_1 : mw_P D vwC M_1 H := by rw [eM_1]; exact hPa
  have ok_1 : okW cs M_1 := by rw [eM_1]; exact ok_0.up rfl
  have lo_1 : ∀ q, q < r → M_1 q = M q := fun q hq => by rw [eM_1, mw_up_ne (by omega)]; exact lo_0 q hq
  have f_1_0 : M_1 (r) = some (.inr (2, [.null, .int 0, .int 0])) := by rw [eM_1, mw_up_ne (by omega)]; exact f_0_0
  have f_1_1 : M_1 (r + 1) = some (.inl (cs 0, 12, .inl (fun _ => 0))) := by rw [eM_1]; exact mw_up_self
  have hz : H.size = r + 2 := hz
  refine mw_putF (D := D) (ci := 2) (v := .ref (r + 1)) (ty := .array (.int)) (C := R_Pf) (T := F_Pf) (N := 3) hx hb hts in_Pf t_Pf t_Pf_ok n_Pf hown hK hP_1 hS f_1_0 (Nat.le_refl r) rfl 0 (by decide) (hts _ tw_83) (fun _ h9 => h9) rfl hin rfl (by decide +kernel) rfl rfl (Nat.le_of_ble_eq_true rfl) d_Pf_init_9 (fun H locs hPa hS hzb => ?_)
  have hz : H.size = r + 2 := hzb.trans hz
  obtain ⟨M_2, eM_2⟩ : ∃ z : mw_M, z = mw_up M_1 (r) (.inr (2, [.ref (r + 1), .int 0, .int 0])) := ⟨_, rfl⟩
  have hP_2 : mw_P D vwC M_2 H := by rw [eM_2]; exact hPa
  have ok_2 : okW cs M_2 := by rw [eM_2]; exact ok_1.up trivial
  have lo_2 : ∀ q, q < r → M_2 q = M q := fun q hq => by rw [eM_2, mw_up_ne (by omega)]; exact lo_1 q hq
  have f_2_0 : M_2 (r) = some (.inr (2, [.ref (r + 1), .int 0, .int 0])) := by rw [eM_2]; exact mw_up_self
  have f_2_1 : M_2 (r + 1) = some (.inl (cs 0, 12, .inl (fun _ => 0))) := by rw [eM_2, mw_up_ne (by omega)]; exact f_1_1
  have hfin : blkPf M_2 cs r := ⟨f_2_0, f_2_1⟩
  exact W.vret hx hb hr (fun t ht hW => ⟨⟨M_2, rfl, ⟨lo_2, ok_2, hfin⟩, by rw [ht]; exact hz, by rw [ht]; exact hP_2⟩, by rw [← hHe] at hS; exact hS.F ht⟩) hS.2.2 d_Pf_init_12

set_option maxHeartbeats 4000000 in
set_option maxRecDepth 100000 in
theorem c_Sp_init (l : Launch) (D : va_G) (cs : Nat → ClassId) (M : mw_M) (r : Nat) (h0 : M r = some (.inr (4, [.null, .int 0, .null, .int 0, .null, .null, .null, .int 0]))) (hok : okW cs M) : Met l y_Sp_init w_Sp_init { frames := 1, cells := 5, slots := 208, locals := 12 } (mi_Pre D cs M (r + 1) [.ref r]) (va_Qv (fun u : mw_M => (∀ q, q < r → u q = M q) ∧ okW cs u ∧ blkSp u cs r) (mi_B D (r + 6)) (fun q => r ≤ q)) 5 208 (fun q => r ≤ q) := by
  refine Met.ofW (cc := b_Sp_init) (maxL := 1) (ret := none) (by decide) rfl ?_
  intro p' e' s' m' args be' me' co' s₁ B hml hv
  obtain ⟨rfl, hsz, hPs, hK, hN, hA⟩ := hv
  have hx := B.exec
  have hb := B.bytes
  have hr := B.returns
  have hts0 := atoms_spec (ws := w_Sp_init) B.pre
  have hts : ∀ w ∈ tg, w.before _ s' = true := fun w h => hts0 w (List.mem_cons_of_mem _ h)
  have hown : s'.vm.findClass R_Sp = some m'.cls := findClass_of_methodNamed B.named
  have hlocks := B.notSynchronized
  have hin : me'.name = "<init>" := (name_of_methodNamed B.named B.method).1
  have hS9 : va_S (fun q => r ≤ q) s'.heap s'.heap [] := va_S.rf
  have hl := lv_entry ([.ref r]) (n := 1) (Nat.le_of_ble_eq_true rfl)
  rw [lg_entry_eq]
  generalize (lg_sl ([.ref r]) ++ List.replicate (1 - (lg_sl ([.ref r])).length) Slot.unset).toArray = ls at hl ⊢
  generalize hHe : s'.heap = H0 at hPs hS9 hsz ⊢
  obtain ⟨M_0, eM_0⟩ : ∃ z : mw_M, z = M := ⟨_, rfl⟩
  have f_0_0 : M_0 r = some (.inr (4, [.null, .int 0, .null, .int 0, .null, .null, .null, .int 0])) := by rw [eM_0]; exact h0
  have ok_0 : okW cs M_0 := by rw [eM_0]; exact hok
  have lo_0 : ∀ q, q < r → M_0 q = M q := fun q _ => by rw [eM_0]
  obtain ⟨H, eH⟩ : ∃ z : Heap, z = H0 := ⟨_, rfl⟩
  have hz : H.size = r + 1 := by rw [eH]; exact hsz
  have hP_0 : mw_P D vwC M_0 H := by rw [eH, eM_0]; exact hPs
  have hS : va_S (fun q => r ≤ q) H0 H [] := by rw [eH]; exact hS9
  suffices hgo : W p' l e' (headSpec w_Sp_init { frames := 1, cells := 5, slots := 208, locals := 12 }).room s' m' ([.ref r] : List Value).toArray be' me' co' H [] 0 0 (MQ be' (va_Qv (fun u : mw_M => (∀ q, q < r → u q = M q) ∧ okW cs u ∧ blkSp u cs r) (mi_B D (r + 6)) (fun q => r ≤ q)) ([.ref r] : List Value).toArray s' 5 208 (fun q => r ≤ q)) (F0 m' 0 ls []) by rw [eH] at hgo; exact hgo
  have hl : lv_has ls 1 [(0, .ref r)] := hl
  refine lv_aload_n hx hb d_Sp_init_0 rfl (lv_at hl 0 rfl) ?_
  refine W.objInit hx hb hown (hts _ tw_184) (hts _ tw_71) (hts _ tw_72) rfl (by rw [hml]; exact hl.1) rfl d_Sp_init_1 (Nat.le_of_ble_eq_true rfl) (Nat.le_of_ble_eq_true rfl) ?_
  refine W.eq (g2 := F0 m' 4 ls []) rfl ?_
  refine lv_aload_n hx hb d_Sp_init_4 rfl (lv_at hl 0 rfl) ?_
  refine lv_bipush (v := nI 12) hx hb d_Sp_init_5 rfl ?_
  refine mw_newj hx hb (hts _ tw_126) hK 1 rfl hP_0 hS (by omega) (Nat.le_of_ble_eq_true rfl) (Nat.le_of_ble_eq_true rfl) hz d_Sp_init_7 (fun H hPa hS hz => ?_)
  obtain ⟨M_1, eM_1⟩ : ∃ z : mw_M, z = mw_up M_0 (r + 1) (.inl (cs 1, 12, .inr (.inl (fun _ => 0)))) := ⟨_, rfl⟩
  have hP_1 : mw_P D vwC M_1 H := by rw [eM_1]; exact hPa
  have ok_1 : okW cs M_1 := by rw [eM_1]; exact ok_0.up rfl
  have lo_1 : ∀ q, q < r → M_1 q = M q := fun q hq => by rw [eM_1, mw_up_ne (by omega)]; exact lo_0 q hq
  have f_1_0 : M_1 (r) = some (.inr (4, [.null, .int 0, .null, .int 0, .null, .null, .null, .int 0])) := by rw [eM_1, mw_up_ne (by omega)]; exact f_0_0
  have f_1_1 : M_1 (r + 1) = some (.inl (cs 1, 12, .inr (.inl (fun _ => 0)))) := by rw [eM_1]; exact mw_up_self
  have hz : H.size = r + 2 := hz
  refine mw_putF (D := D) (ci := 4) (v := .ref (r + 1)) (ty := .array (.long)) (C := R_Sp) (T := F_Sp) (N := 8) hx hb hts in_Sp t_Sp t_Sp_ok n_Sp hown hK hP_1 hS f_1_0 (Nat.le_refl r) rfl 0 (by decide) (hts _ tw_185) (fun _ h9 => h9) rfl hin rfl (by decide +kernel) rfl rfl (Nat.le_of_ble_eq_true rfl) d_Sp_init_9 (fun H locs hPa hS hzb => ?_)
  have hz : H.size = r + 2 := hzb.trans hz
  obtain ⟨M_2, eM_2⟩ : ∃ z : mw_M, z = mw_up M_1 (r) (.inr (4, [.ref (r + 1), .int 0, .null, .int 0, .null, .null, .null, .int 0])) := ⟨_, rfl⟩
  have hP_2 : mw_P D vwC M_2 H := by rw [eM_2]; exact hPa
  have ok_2 : okW cs M_2 := by rw [eM_2]; exact ok_1.up trivial
  have lo_2 : ∀ q, q < r → M_2 q = M q := fun q hq => by rw [eM_2, mw_up_ne (by omega)]; exact lo_1 q hq
  have f_2_0 : M_2 (r) = some (.inr (4, [.ref (r + 1), .int 0, .null, .int 0, .null, .null, .null, .int 0])) := by rw [eM_2]; exact mw_up_self
  have f_2_1 : M_2 (r + 1) = some (.inl (cs 1, 12, .inr (.inl (fun _ => 0)))) := by rw [eM_2, mw_up_ne (by omega)]; exact f_1_1
  refine lv_aload_n hx hb d_Sp_init_12 rfl (lv_at hl 0 rfl) ?_
  refine lv_sipush (v := nI 128) hx hb d_Sp_init_13 rfl ?_
  refine mw_newj hx hb (hts _ tw_126) hK 1 rfl hP_2 hS (by omega) (Nat.le_of_ble_eq_true rfl) (Nat.le_of_ble_eq_true rfl) hz d_Sp_init_16 (fun H hPa hS hz => ?_)
  obtain ⟨M_3, eM_3⟩ : ∃ z : mw_M, z = mw_up M_2 (r + 2) (.inl (cs 1, 128, .inr (.inl (fun _ => 0)))) := ⟨_, rfl⟩
  have hP_3 : mw_P D vwC M_3 H := by rw [eM_3]; exact hPa
  have ok_3 : okW cs M_3 := by rw [eM_3]; exact ok_2.up rfl
  have lo_3 : ∀ q, q < r → M_3 q = M q := fun q hq => by rw [eM_3, mw_up_ne (by omega)]; exact lo_2 q hq
  have f_3_0 : M_3 (r) = some (.inr (4, [.ref (r + 1), .int 0, .null, .int 0, .null, .null, .null, .int 0])) := by rw [eM_3, mw_up_ne (by omega)]; exact f_2_0
  have f_3_1 : M_3 (r + 1) = some (.inl (cs 1, 12, .inr (.inl (fun _ => 0)))) := by rw [eM_3, mw_up_ne (by omega)]; exact f_2_1
  have f_3_2 : M_3 (r + 2) = some (.inl (cs 1, 128, .inr (.inl (fun _ => 0)))) := by rw [eM_3]; exact mw_up_self
  have hz : H.size = r + 3 := hz
  refine mw_putF (D := D) (ci := 4) (v := .ref (r + 2)) (ty := .array (.long)) (C := R_Sp) (T := F_Sp) (N := 8) hx hb hts in_Sp t_Sp t_Sp_ok n_Sp hown hK hP_3 hS f_3_0 (Nat.le_refl r) rfl 2 (by decide) (hts _ tw_187) (fun _ h9 => h9) rfl hin rfl (by decide +kernel) rfl rfl (Nat.le_of_ble_eq_true rfl) d_Sp_init_18 (fun H locs hPa hS hzb => ?_)
  have hz : H.size = r + 3 := hzb.trans hz
  obtain ⟨M_4, eM_4⟩ : ∃ z : mw_M, z = mw_up M_3 (r) (.inr (4, [.ref (r + 1), .int 0, .ref (r + 2), .int 0, .null, .null, .null, .int 0])) := ⟨_, rfl⟩
  have hP_4 : mw_P D vwC M_4 H := by rw [eM_4]; exact hPa
  have ok_4 : okW cs M_4 := by rw [eM_4]; exact ok_3.up trivial
  have lo_4 : ∀ q, q < r → M_4 q = M q := fun q hq => by rw [eM_4, mw_up_ne (by omega)]; exact lo_3 q hq
  have f_4_0 : M_4 (r) = some (.inr (4, [.ref (r + 1), .int 0, .ref (r + 2), .int 0, .null, .null, .null, .int 0])) := by rw [eM_4]; exact mw_up_self
  have f_4_1 : M_4 (r + 1) = some (.inl (cs 1, 12, .inr (.inl (fun _ => 0)))) := by rw [eM_4, mw_up_ne (by omega)]; exact f_3_1
  have f_4_2 : M_4 (r + 2) = some (.inl (cs 1, 128, .inr (.inl (fun _ => 0)))) := by rw [eM_4, mw_up_ne (by omega)]; exact f_3_2
  refine lv_aload_n hx hb d_Sp_init_21 rfl (lv_at hl 0 rfl) ?_
  refine lv_bipush (v := nI 32) hx hb d_Sp_init_22 rfl ?_
  refine mw_newi hx hb (hts _ tw_96) hK 0 rfl hP_4 hS (by omega) (Nat.le_of_ble_eq_true rfl) (Nat.le_of_ble_eq_true rfl) hz d_Sp_init_24 (fun H hPa hS hz => ?_)
  obtain ⟨M_5, eM_5⟩ : ∃ z : mw_M, z = mw_up M_4 (r + 3) (.inl (cs 0, 32, .inl (fun _ => 0))) := ⟨_, rfl⟩
  have hP_5 : mw_P D vwC M_5 H := by rw [eM_5]; exact hPa
  have ok_5 : okW cs M_5 := by rw [eM_5]; exact ok_4.up rfl
  have lo_5 : ∀ q, q < r → M_5 q = M q := fun q hq => by rw [eM_5, mw_up_ne (by omega)]; exact lo_4 q hq
  have f_5_0 : M_5 (r) = some (.inr (4, [.ref (r + 1), .int 0, .ref (r + 2), .int 0, .null, .null, .null, .int 0])) := by rw [eM_5, mw_up_ne (by omega)]; exact f_4_0
  have f_5_1 : M_5 (r + 1) = some (.inl (cs 1, 12, .inr (.inl (fun _ => 0)))) := by rw [eM_5, mw_up_ne (by omega)]; exact f_4_1
  have f_5_2 : M_5 (r + 2) = some (.inl (cs 1, 128, .inr (.inl (fun _ => 0)))) := by rw [eM_5, mw_up_ne (by omega)]; exact f_4_2
  have f_5_3 : M_5 (r + 3) = some (.inl (cs 0, 32, .inl (fun _ => 0))) := by rw [eM_5]; exact mw_up_self
  have hz : H.size = r + 4 := hz
  refine mw_putF (D := D) (ci := 4) (v := .ref (r + 3)) (ty := .array (.int)) (C := R_Sp) (T := F_Sp) (N := 8) hx hb hts in_Sp t_Sp t_Sp_ok n_Sp hown hK hP_5 hS f_5_0 (Nat.le_refl r) rfl 4 (by decide) (hts _ tw_189) (fun _ h9 => h9) rfl hin rfl (by decide +kernel) rfl rfl (Nat.le_of_ble_eq_true rfl) d_Sp_init_26 (fun H locs hPa hS hzb => ?_)
  have hz : H.size = r + 4 := hzb.trans hz
  obtain ⟨M_6, eM_6⟩ : ∃ z : mw_M, z = mw_up M_5 (r) (.inr (4, [.ref (r + 1), .int 0, .ref (r + 2), .int 0, .ref (r + 3), .null, .null, .int 0])) := ⟨_, rfl⟩
  have hP_6 : mw_P D vwC M_6 H := by rw [eM_6]; exact hPa
  have ok_6 : okW cs M_6 := by rw [eM_6]; exact ok_5.up trivial
  have lo_6 : ∀ q, q < r → M_6 q = M q := fun q hq => by rw [eM_6, mw_up_ne (by omega)]; exact lo_5 q hq
  have f_6_0 : M_6 (r) = some (.inr (4, [.ref (r + 1), .int 0, .ref (r + 2), .int 0, .ref (r + 3), .null, .null, .int 0])) := by rw [eM_6]; exact mw_up_self
  have f_6_1 : M_6 (r + 1) = some (.inl (cs 1, 12, .inr (.inl (fun _ => 0)))) := by rw [eM_6, mw_up_ne (by omega)]; exact f_5_1
  have f_6_2 : M_6 (r + 2) = some (.inl (cs 1, 128, .inr (.inl (fun _ => 0)))) := by rw [eM_6, mw_up_ne (by omega)]; exact f_5_2
  have f_6_3 : M_6 (r + 3) = some (.inl (cs 0, 32, .inl (fun _ => 0))) := by rw [eM_6, mw_up_ne (by omega)]; exact f_5_3
  refine lv_aload_n hx hb d_Sp_init_29 rfl (lv_at hl 0 rfl) ?_
  refine lv_bipush (v := nI 32) hx hb d_Sp_init_30 rfl ?_
  refine mw_newj hx hb (hts _ tw_126) hK 1 rfl hP_6 hS (by omega) (Nat.le_of_ble_eq_true rfl) (Nat.le_of_ble_eq_true rfl) hz d_Sp_init_32 (fun H hPa hS hz => ?_)
  obtain ⟨M_7, eM_7⟩ : ∃ z : mw_M, z = mw_up M_6 (r + 4) (.inl (cs 1, 32, .inr (.inl (fun _ => 0)))) := ⟨_, rfl⟩
  have hP_7 : mw_P D vwC M_7 H := by rw [eM_7]; exact hPa
  have ok_7 : okW cs M_7 := by rw [eM_7]; exact ok_6.up rfl
  have lo_7 : ∀ q, q < r → M_7 q = M q := fun q hq => by rw [eM_7, mw_up_ne (by omega)]; exact lo_6 q hq
  have f_7_0 : M_7 (r) = some (.inr (4, [.ref (r + 1), .int 0, .ref (r + 2), .int 0, .ref (r + 3), .null, .null, .int 0])) := by rw [eM_7, mw_up_ne (by omega)]; exact f_6_0
  have f_7_1 : M_7 (r + 1) = some (.inl (cs 1, 12, .inr (.inl (fun _ => 0)))) := by rw [eM_7, mw_up_ne (by omega)]; exact f_6_1
  have f_7_2 : M_7 (r + 2) = some (.inl (cs 1, 128, .inr (.inl (fun _ => 0)))) := by rw [eM_7, mw_up_ne (by omega)]; exact f_6_2
  have f_7_3 : M_7 (r + 3) = some (.inl (cs 0, 32, .inl (fun _ => 0))) := by rw [eM_7, mw_up_ne (by omega)]; exact f_6_3
  have f_7_4 : M_7 (r + 4) = some (.inl (cs 1, 32, .inr (.inl (fun _ => 0)))) := by rw [eM_7]; exact mw_up_self
  have hz : H.size = r + 5 := hz
  refine mw_putF (D := D) (ci := 4) (v := .ref (r + 4)) (ty := .array (.long)) (C := R_Sp) (T := F_Sp) (N := 8) hx hb hts in_Sp t_Sp t_Sp_ok n_Sp hown hK hP_7 hS f_7_0 (Nat.le_refl r) rfl 5 (by decide) (hts _ tw_190) (fun _ h9 => h9) rfl hin rfl (by decide +kernel) rfl rfl (Nat.le_of_ble_eq_true rfl) d_Sp_init_34 (fun H locs hPa hS hzb => ?_)
  have hz : H.size = r + 5 := hzb.trans hz
  obtain ⟨M_8, eM_8⟩ : ∃ z : mw_M, z = mw_up M_7 (r) (.inr (4, [.ref (r + 1), .int 0, .ref (r + 2), .int 0, .ref (r + 3), .ref (r + 4), .null, .int 0])) := ⟨_, rfl⟩
  have hP_8 : mw_P D vwC M_8 H := by rw [eM_8]; exact hPa
  have ok_8 : okW cs M_8 := by rw [eM_8]; exact ok_7.up trivial
  have lo_8 : ∀ q, q < r → M_8 q = M q := fun q hq => by rw [eM_8, mw_up_ne (by omega)]; exact lo_7 q hq
  have f_8_0 : M_8 (r) = some (.inr (4, [.ref (r + 1), .int 0, .ref (r + 2), .int 0, .ref (r + 3), .ref (r + 4), .null, .int 0])) := by rw [eM_8]; exact mw_up_self
  have f_8_1 : M_8 (r + 1) = some (.inl (cs 1, 12, .inr (.inl (fun _ => 0)))) := by rw [eM_8, mw_up_ne (by omega)]; exact f_7_1
  have f_8_2 : M_8 (r + 2) = some (.inl (cs 1, 128, .inr (.inl (fun _ => 0)))) := by rw [eM_8, mw_up_ne (by omega)]; exact f_7_2
  have f_8_3 : M_8 (r + 3) = some (.inl (cs 0, 32, .inl (fun _ => 0))) := by rw [eM_8, mw_up_ne (by omega)]; exact f_7_3
  have f_8_4 : M_8 (r + 4) = some (.inl (cs 1, 32, .inr (.inl (fun _ => 0)))) := by rw [eM_8, mw_up_ne (by omega)]; exact f_7_4
  refine lv_aload_n hx hb d_Sp_init_37 rfl (lv_at hl 0 rfl) ?_
  refine lv_iconst (v := nI 4) hx hb d_Sp_init_38 rfl ?_
  refine mw_newj hx hb (hts _ tw_126) hK 1 rfl hP_8 hS (by omega) (Nat.le_of_ble_eq_true rfl) (Nat.le_of_ble_eq_true rfl) hz d_Sp_init_39 (fun H hPa hS hz => ?_)
  obtain ⟨M_9, eM_9⟩ : ∃ z : mw_M, z = mw_up M_8 (r + 5) (.inl (cs 1, 4, .inr (.inl (fun _ => 0)))) := ⟨_, rfl⟩
  have hP_9 : mw_P D vwC M_9 H := by rw [eM_9]; exact hPa
  have ok_9 : okW cs M_9 := by rw [eM_9]; exact ok_8.up rfl
  have lo_9 : ∀ q, q < r → M_9 q = M q := fun q hq => by rw [eM_9, mw_up_ne (by omega)]; exact lo_8 q hq
  have f_9_0 : M_9 (r) = some (.inr (4, [.ref (r + 1), .int 0, .ref (r + 2), .int 0, .ref (r + 3), .ref (r + 4), .null, .int 0])) := by rw [eM_9, mw_up_ne (by omega)]; exact f_8_0
  have f_9_1 : M_9 (r + 1) = some (.inl (cs 1, 12, .inr (.inl (fun _ => 0)))) := by rw [eM_9, mw_up_ne (by omega)]; exact f_8_1
  have f_9_2 : M_9 (r + 2) = some (.inl (cs 1, 128, .inr (.inl (fun _ => 0)))) := by rw [eM_9, mw_up_ne (by omega)]; exact f_8_2
  have f_9_3 : M_9 (r + 3) = some (.inl (cs 0, 32, .inl (fun _ => 0))) := by rw [eM_9, mw_up_ne (by omega)]; exact f_8_3
  have f_9_4 : M_9 (r + 4) = some (.inl (cs 1, 32, .inr (.inl (fun _ => 0)))) := by rw [eM_9, mw_up_ne (by omega)]; exact f_8_4
  have f_9_5 : M_9 (r + 5) = some (.inl (cs 1, 4, .inr (.inl (fun _ => 0)))) := by rw [eM_9]; exact mw_up_self
  have hz : H.size = r + 6 := hz
  refine mw_putF (D := D) (ci := 4) (v := .ref (r + 5)) (ty := .array (.long)) (C := R_Sp) (T := F_Sp) (N := 8) hx hb hts in_Sp t_Sp t_Sp_ok n_Sp hown hK hP_9 hS f_9_0 (Nat.le_refl r) rfl 6 (by decide) (hts _ tw_191) (fun _ h9 => h9) rfl hin rfl (by decide +kernel) rfl rfl (Nat.le_of_ble_eq_true rfl) d_Sp_init_41 (fun H locs hPa hS hzb => ?_)
  have hz : H.size = r + 6 := hzb.trans hz
  obtain ⟨M_10, eM_10⟩ : ∃ z : mw_M, z = mw_up M_9 (r) (.inr (4, [.ref (r + 1), .int 0, .ref (r + 2), .int 0, .ref (r + 3), .ref (r + 4), .ref (r + 5), .int 0])) := ⟨_, rfl⟩
  have hP_10 : mw_P D vwC M_10 H := by rw [eM_10]; exact hPa
  have ok_10 : okW cs M_10 := by rw [eM_10]; exact ok_9.up trivial
  have lo_10 : ∀ q, q < r → M_10 q = M q := fun q hq => by rw [eM_10, mw_up_ne (by omega)]; exact lo_9 q hq
  have f_10_0 : M_10 (r) = some (.inr (4, [.ref (r + 1), .int 0, .ref (r + 2), .int 0, .ref (r + 3), .ref (r + 4), .ref (r + 5), .int 0])) := by rw [eM_10]; exact mw_up_self
  have f_10_1 : M_10 (r + 1) = some (.inl (cs 1, 12, .inr (.inl (fun _ => 0)))) := by rw [eM_10, mw_up_ne (by omega)]; exact f_9_1
  have f_10_2 : M_10 (r + 2) = some (.inl (cs 1, 128, .inr (.inl (fun _ => 0)))) := by rw [eM_10, mw_up_ne (by omega)]; exact f_9_2
  have f_10_3 : M_10 (r + 3) = some (.inl (cs 0, 32, .inl (fun _ => 0))) := by rw [eM_10, mw_up_ne (by omega)]; exact f_9_3
  have f_10_4 : M_10 (r + 4) = some (.inl (cs 1, 32, .inr (.inl (fun _ => 0)))) := by rw [eM_10, mw_up_ne (by omega)]; exact f_9_4
  have f_10_5 : M_10 (r + 5) = some (.inl (cs 1, 4, .inr (.inl (fun _ => 0)))) := by rw [eM_10, mw_up_ne (by omega)]; exact f_9_5
  have hfin : blkSp M_10 cs r := ⟨f_10_0, f_10_1, f_10_2, f_10_3, f_10_4, f_10_5⟩
  exact W.vret hx hb hr (fun t ht hW => ⟨⟨M_10, rfl, ⟨lo_10, ok_10, hfin⟩, by rw [ht]; exact hz, by rw [ht]; exact hP_10⟩, by rw [← hHe] at hS; exact hS.F ht⟩) hS.2.2 d_Sp_init_44

theorem up_Lp_init_3 (r : Nat) : (va_up (va_up (va_up (fun _ => none) 0 (some (r + 6))) 1 (some (r + 11))) 2 (some (r + 16))) = fun k => if k < 3 then some (r + 6 + 5 * k) else none := by
  funext k
  match k with
  | 0 => simp [va_up]
  | 1 => simp [va_up]
  | 2 => simp [va_up]
  | k + 3 => simp [va_up]
set_option maxHeartbeats 4000000 in
set_option maxRecDepth 100000 in
theorem c_Lp_init (l : Launch) (D : va_G) (cs : Nat → ClassId) (M : mw_M) (r : Nat) (h0 : M r = some (.inr (1, [.int 0, .null, .null, .int 0, .null, .null]))) (hok : okW cs M) : Met l y_Lp_init w_Lp_init { frames := 3, cells := 20, slots := 106, locals := 62 } (mi_Pre D cs M (r + 1) [.ref r]) (va_Qv (fun u : mw_M => (∀ q, q < r → u q = M q) ∧ okW cs u ∧ blkLp u cs r) (mi_B D (r + 21)) (fun q => r ≤ q)) 20 106 (fun q => r ≤ q) := by
  refine Met.ofW (cc := b_Lp_init) (maxL := 2) (ret := none) (by decide) rfl ?_
  intro p' e' s' m' args be' me' co' s₁ B hml hv
  obtain ⟨rfl, hsz, hPs, hK, hN, hA⟩ := hv
  have hx := B.exec
  have hb := B.bytes
  have hr := B.returns
  have hts0 := atoms_spec (ws := w_Lp_init) B.pre
  have hts : ∀ w ∈ tg, w.before _ s' = true := fun w h => hts0 w (List.mem_cons_of_mem _ h)
  have hown : s'.vm.findClass R_Lp = some m'.cls := findClass_of_methodNamed B.named
  have hlocks := B.notSynchronized
  have hin : me'.name = "<init>" := (name_of_methodNamed B.named B.method).1
  have hS9 : va_S (fun q => r ≤ q) s'.heap s'.heap [] := va_S.rf
  have hl := lv_entry ([.ref r]) (n := 2) (Nat.le_of_ble_eq_true rfl)
  rw [lg_entry_eq]
  generalize (lg_sl ([.ref r]) ++ List.replicate (2 - (lg_sl ([.ref r])).length) Slot.unset).toArray = ls at hl ⊢
  generalize hHe : s'.heap = H0 at hPs hS9 hsz ⊢
  obtain ⟨M_0, eM_0⟩ : ∃ z : mw_M, z = M := ⟨_, rfl⟩
  have f_0_0 : M_0 r = some (.inr (1, [.int 0, .null, .null, .int 0, .null, .null])) := by rw [eM_0]; exact h0
  have ok_0 : okW cs M_0 := by rw [eM_0]; exact hok
  have lo_0 : ∀ q, q < r → M_0 q = M q := fun q _ => by rw [eM_0]
  obtain ⟨H, eH⟩ : ∃ z : Heap, z = H0 := ⟨_, rfl⟩
  have hz : H.size = r + 1 := by rw [eH]; exact hsz
  have hP_0 : mw_P D vwC M_0 H := by rw [eH, eM_0]; exact hPs
  have hS : va_S (fun q => r ≤ q) H0 H [] := by rw [eH]; exact hS9
  suffices hgo : W p' l e' (headSpec w_Lp_init { frames := 3, cells := 20, slots := 106, locals := 62 }).room s' m' ([.ref r] : List Value).toArray be' me' co' H [] 0 0 (MQ be' (va_Qv (fun u : mw_M => (∀ q, q < r → u q = M q) ∧ okW cs u ∧ blkLp u cs r) (mi_B D (r + 21)) (fun q => r ≤ q)) ([.ref r] : List Value).toArray s' 20 106 (fun q => r ≤ q)) (F0 m' 0 ls []) by rw [eH] at hgo; exact hgo
  have hl : lv_has ls 2 [(0, .ref r)] := hl
  refine lv_aload_n hx hb d_Lp_init_0 rfl (lv_at hl 0 rfl) ?_
  refine W.objInit hx hb hown (hts _ tw_101) (hts _ tw_71) (hts _ tw_72) rfl (by rw [hml]; exact hl.1) rfl d_Lp_init_1 (Nat.le_of_ble_eq_true rfl) (Nat.le_of_ble_eq_true rfl) ?_
  refine W.eq (g2 := F0 m' 4 ls []) rfl ?_
  refine lv_aload_n hx hb d_Lp_init_4 rfl (lv_at hl 0 rfl) ?_
  refine mw_new (D := D) (C := R_Rw) (T := F_Rw) (N := 3) (ci := 3) (fs := [.null, .int 0, .int 0]) hx hb hts in_Rw t_Rw t_Rw_ok hown (hts _ tw_102) (hts _ tw_103) (hts _ tw_60) hK hP_0 hS rfl (fun j hj => by rcases (show j = 0 ∨ j = 1 ∨ j = 2 by omega) with rfl | rfl | rfl <;> rfl) (Nat.le_of_ble_eq_true rfl) (Nat.le_of_ble_eq_true rfl) hz d_Lp_init_5 (fun H hPa hS hz => ?_)
  obtain ⟨M_1, eM_1⟩ : ∃ z : mw_M, z = mw_up M_0 (r + 1) (.inr (3, [.null, .int 0, .int 0])) := ⟨_, rfl⟩
  have hP_1 : mw_P D vwC M_1 H := by rw [eM_1]; exact hPa
  have ok_1 : okW cs M_1 := by rw [eM_1]; exact ok_0.up trivial
  have lo_1 : ∀ q, q < r → M_1 q = M q := fun q hq => by rw [eM_1, mw_up_ne (by omega)]; exact lo_0 q hq
  have f_1_0 : M_1 (r) = some (.inr (1, [.int 0, .null, .null, .int 0, .null, .null])) := by rw [eM_1, mw_up_ne (by omega)]; exact f_0_0
  have f_1_1 : M_1 (r + 1) = some (.inr (3, [.null, .int 0, .int 0])) := by rw [eM_1]; exact mw_up_self
  have hz : H.size = r + 2 := hz
  refine lv_dup hx hb d_Lp_init_8 rfl ?_
  refine lv_iconst (v := nI 4) hx hb d_Lp_init_9 rfl ?_
  refine mi_callI (As := [.int (nI 4)]) (rest := [.ref (r + 1), .ref r]) (n := 1) hx hb hml hown hts hK hN hA (c_Rw_init4 l D cs M_1 (r + 1) f_1_1 ok_1) tw_104 tw_105 tw_60 tw_106 (by decide +kernel) ⟨rfl, rfl, by decide, by decide, by decide, by decide⟩ hP_1 hS hz (fun q hq => by omega) rfl hl.1 rfl (Nat.le_of_ble_eq_true rfl) d_Lp_init_10 (fun M_2 H locs hb_ hPa hS hz => ?_)
  have hP_2 := hPa
  have hk_2 := hb_.1
  have ok_2 : okW cs M_2 := hb_.2.1
  have lo_2 : ∀ q, q < r → M_2 q = M q := fun q hq => (hk_2 q (by omega)).trans (lo_1 q hq)
  have f_2_0 : M_2 (r) = some (.inr (1, [.int 0, .null, .null, .int 0, .null, .null])) := (hk_2 _ (by omega)).trans f_1_0
  have b_2_1 : blkRw M_2 cs (r + 1) 4 := hb_.2.2
  have hz : H.size = r + 3 := hz
  refine mw_putF (D := D) (ci := 1) (v := .ref (r + 1)) (ty := .object "FallingTerms$Rows") (C := R_Lp) (T := F_Lp) (N := 6) hx hb hts in_Lp t_Lp t_Lp_ok n_Lp hown hK hP_2 hS f_2_0 (Nat.le_refl r) rfl 1 (by decide) (hts _ tw_154) (fun _ h9 => h9) rfl hin rfl (by decide +kernel) rfl rfl (Nat.le_of_ble_eq_true rfl) d_Lp_init_13 (fun H locs hPa hS hzb => ?_)
  have hz : H.size = r + 3 := hzb.trans hz
  obtain ⟨M_3, eM_3⟩ : ∃ z : mw_M, z = mw_up M_2 (r) (.inr (1, [.int 0, .ref (r + 1), .null, .int 0, .null, .null])) := ⟨_, rfl⟩
  have hP_3 : mw_P D vwC M_3 H := by rw [eM_3]; exact hPa
  have ok_3 : okW cs M_3 := by rw [eM_3]; exact ok_2.up trivial
  have lo_3 : ∀ q, q < r → M_3 q = M q := fun q hq => by rw [eM_3, mw_up_ne (by omega)]; exact lo_2 q hq
  have f_3_0 : M_3 (r) = some (.inr (1, [.int 0, .ref (r + 1), .null, .int 0, .null, .null])) := by rw [eM_3]; exact mw_up_self
  have b_3_1 : blkRw M_3 cs (r + 1) 4 := b_2_1.keep (fun q h1 h2 => by rw [eM_3, mw_up_ne (by omega)])
  refine lv_aload_n hx hb d_Lp_init_16 rfl (lv_at hl 0 rfl) ?_
  refine lv_iconst (v := nI 3) hx hb d_Lp_init_17 rfl ?_
  refine mw_newq hx hb hown (hts _ tw_127) hA.2.2 hK 4 rfl hP_3 hS (by omega) (Nat.le_of_ble_eq_true rfl) (Nat.le_of_ble_eq_true rfl) hz d_Lp_init_18 (fun H hPa hS hz => ?_)
  obtain ⟨M_4, eM_4⟩ : ∃ z : mw_M, z = mw_up M_3 (r + 3) (.inl (cs 4, 3, .inr (.inr (.inr (.inr (fun _ => none)))))) := ⟨_, rfl⟩
  have hP_4 : mw_P D vwC M_4 H := by rw [eM_4]; exact hPa
  have ok_4 : okW cs M_4 := by rw [eM_4]; exact ok_3.up trivial
  have lo_4 : ∀ q, q < r → M_4 q = M q := fun q hq => by rw [eM_4, mw_up_ne (by omega)]; exact lo_3 q hq
  have f_4_0 : M_4 (r) = some (.inr (1, [.int 0, .ref (r + 1), .null, .int 0, .null, .null])) := by rw [eM_4, mw_up_ne (by omega)]; exact f_3_0
  have f_4_3 : M_4 (r + 3) = some (.inl (cs 4, 3, .inr (.inr (.inr (.inr (fun _ => none)))))) := by rw [eM_4]; exact mw_up_self
  have b_4_1 : blkRw M_4 cs (r + 1) 4 := b_3_1.keep (fun q h1 h2 => by rw [eM_4, mw_up_ne (by omega)])
  have hz : H.size = r + 4 := hz
  refine mw_putF (D := D) (ci := 1) (v := .ref (r + 3)) (ty := .array (.object "FallingTerms$Way")) (C := R_Lp) (T := F_Lp) (N := 6) hx hb hts in_Lp t_Lp t_Lp_ok n_Lp hown hK hP_4 hS f_4_0 (Nat.le_refl r) rfl 2 (by decide) (hts _ tw_157) (fun _ h9 => h9) rfl hin rfl (by decide +kernel) rfl rfl (Nat.le_of_ble_eq_true rfl) d_Lp_init_21 (fun H locs hPa hS hzb => ?_)
  have hz : H.size = r + 4 := hzb.trans hz
  obtain ⟨M_5, eM_5⟩ : ∃ z : mw_M, z = mw_up M_4 (r) (.inr (1, [.int 0, .ref (r + 1), .ref (r + 3), .int 0, .null, .null])) := ⟨_, rfl⟩
  have hP_5 : mw_P D vwC M_5 H := by rw [eM_5]; exact hPa
  have ok_5 : okW cs M_5 := by rw [eM_5]; exact ok_4.up trivial
  have lo_5 : ∀ q, q < r → M_5 q = M q := fun q hq => by rw [eM_5, mw_up_ne (by omega)]; exact lo_4 q hq
  have f_5_0 : M_5 (r) = some (.inr (1, [.int 0, .ref (r + 1), .ref (r + 3), .int 0, .null, .null])) := by rw [eM_5]; exact mw_up_self
  have f_5_3 : M_5 (r + 3) = some (.inl (cs 4, 3, .inr (.inr (.inr (.inr (fun _ => none)))))) := by rw [eM_5, mw_up_ne (by omega)]; exact f_4_3
  have b_5_1 : blkRw M_5 cs (r + 1) 4 := b_4_1.keep (fun q h1 h2 => by rw [eM_5, mw_up_ne (by omega)])
  refine lv_aload_n hx hb d_Lp_init_24 rfl (lv_at hl 0 rfl) ?_
  refine lv_iconst (v := nI 3) hx hb d_Lp_init_25 rfl ?_
  refine mw_newj hx hb (hts _ tw_126) hK 1 rfl hP_5 hS (by omega) (Nat.le_of_ble_eq_true rfl) (Nat.le_of_ble_eq_true rfl) hz d_Lp_init_26 (fun H hPa hS hz => ?_)
  obtain ⟨M_6, eM_6⟩ : ∃ z : mw_M, z = mw_up M_5 (r + 4) (.inl (cs 1, 3, .inr (.inl (fun _ => 0)))) := ⟨_, rfl⟩
  have hP_6 : mw_P D vwC M_6 H := by rw [eM_6]; exact hPa
  have ok_6 : okW cs M_6 := by rw [eM_6]; exact ok_5.up rfl
  have lo_6 : ∀ q, q < r → M_6 q = M q := fun q hq => by rw [eM_6, mw_up_ne (by omega)]; exact lo_5 q hq
  have f_6_0 : M_6 (r) = some (.inr (1, [.int 0, .ref (r + 1), .ref (r + 3), .int 0, .null, .null])) := by rw [eM_6, mw_up_ne (by omega)]; exact f_5_0
  have f_6_3 : M_6 (r + 3) = some (.inl (cs 4, 3, .inr (.inr (.inr (.inr (fun _ => none)))))) := by rw [eM_6, mw_up_ne (by omega)]; exact f_5_3
  have f_6_4 : M_6 (r + 4) = some (.inl (cs 1, 3, .inr (.inl (fun _ => 0)))) := by rw [eM_6]; exact mw_up_self
  have b_6_1 : blkRw M_6 cs (r + 1) 4 := b_5_1.keep (fun q h1 h2 => by rw [eM_6, mw_up_ne (by omega)])
  have hz : H.size = r + 5 := hz
  refine mw_putF (D := D) (ci := 1) (v := .ref (r + 4)) (ty := .array (.long)) (C := R_Lp) (T := F_Lp) (N := 6) hx hb hts in_Lp t_Lp t_Lp_ok n_Lp hown hK hP_6 hS f_6_0 (Nat.le_refl r) rfl 4 (by decide) (hts _ tw_164) (fun _ h9 => h9) rfl hin rfl (by decide +kernel) rfl rfl (Nat.le_of_ble_eq_true rfl) d_Lp_init_28 (fun H locs hPa hS hzb => ?_)
  have hz : H.size = r + 5 := hzb.trans hz
  obtain ⟨M_7, eM_7⟩ : ∃ z : mw_M, z = mw_up M_6 (r) (.inr (1, [.int 0, .ref (r + 1), .ref (r + 3), .int 0, .ref (r + 4), .null])) := ⟨_, rfl⟩
  have hP_7 : mw_P D vwC M_7 H := by rw [eM_7]; exact hPa
  have ok_7 : okW cs M_7 := by rw [eM_7]; exact ok_6.up trivial
  have lo_7 : ∀ q, q < r → M_7 q = M q := fun q hq => by rw [eM_7, mw_up_ne (by omega)]; exact lo_6 q hq
  have f_7_0 : M_7 (r) = some (.inr (1, [.int 0, .ref (r + 1), .ref (r + 3), .int 0, .ref (r + 4), .null])) := by rw [eM_7]; exact mw_up_self
  have f_7_3 : M_7 (r + 3) = some (.inl (cs 4, 3, .inr (.inr (.inr (.inr (fun _ => none)))))) := by rw [eM_7, mw_up_ne (by omega)]; exact f_6_3
  have f_7_4 : M_7 (r + 4) = some (.inl (cs 1, 3, .inr (.inl (fun _ => 0)))) := by rw [eM_7, mw_up_ne (by omega)]; exact f_6_4
  have b_7_1 : blkRw M_7 cs (r + 1) 4 := b_6_1.keep (fun q h1 h2 => by rw [eM_7, mw_up_ne (by omega)])
  refine lv_aload_n hx hb d_Lp_init_31 rfl (lv_at hl 0 rfl) ?_
  refine lv_iconst (v := nI 3) hx hb d_Lp_init_32 rfl ?_
  refine mw_newj hx hb (hts _ tw_126) hK 1 rfl hP_7 hS (by omega) (Nat.le_of_ble_eq_true rfl) (Nat.le_of_ble_eq_true rfl) hz d_Lp_init_33 (fun H hPa hS hz => ?_)
  obtain ⟨M_8, eM_8⟩ : ∃ z : mw_M, z = mw_up M_7 (r + 5) (.inl (cs 1, 3, .inr (.inl (fun _ => 0)))) := ⟨_, rfl⟩
  have hP_8 : mw_P D vwC M_8 H := by rw [eM_8]; exact hPa
  have ok_8 : okW cs M_8 := by rw [eM_8]; exact ok_7.up rfl
  have lo_8 : ∀ q, q < r → M_8 q = M q := fun q hq => by rw [eM_8, mw_up_ne (by omega)]; exact lo_7 q hq
  have f_8_0 : M_8 (r) = some (.inr (1, [.int 0, .ref (r + 1), .ref (r + 3), .int 0, .ref (r + 4), .null])) := by rw [eM_8, mw_up_ne (by omega)]; exact f_7_0
  have f_8_3 : M_8 (r + 3) = some (.inl (cs 4, 3, .inr (.inr (.inr (.inr (fun _ => none)))))) := by rw [eM_8, mw_up_ne (by omega)]; exact f_7_3
  have f_8_4 : M_8 (r + 4) = some (.inl (cs 1, 3, .inr (.inl (fun _ => 0)))) := by rw [eM_8, mw_up_ne (by omega)]; exact f_7_4
  have f_8_5 : M_8 (r + 5) = some (.inl (cs 1, 3, .inr (.inl (fun _ => 0)))) := by rw [eM_8]; exact mw_up_self
  have b_8_1 : blkRw M_8 cs (r + 1) 4 := b_7_1.keep (fun q h1 h2 => by rw [eM_8, mw_up_ne (by omega)])
  have hz : H.size = r + 6 := hz
  refine mw_putF (D := D) (ci := 1) (v := .ref (r + 5)) (ty := .array (.long)) (C := R_Lp) (T := F_Lp) (N := 6) hx hb hts in_Lp t_Lp t_Lp_ok n_Lp hown hK hP_8 hS f_8_0 (Nat.le_refl r) rfl 5 (by decide) (hts _ tw_166) (fun _ h9 => h9) rfl hin rfl (by decide +kernel) rfl rfl (Nat.le_of_ble_eq_true rfl) d_Lp_init_35 (fun H locs hPa hS hzb => ?_)
  have hz : H.size = r + 6 := hzb.trans hz
  obtain ⟨M_9, eM_9⟩ : ∃ z : mw_M, z = mw_up M_8 (r) (.inr (1, [.int 0, .ref (r + 1), .ref (r + 3), .int 0, .ref (r + 4), .ref (r + 5)])) := ⟨_, rfl⟩
  have hP_9 : mw_P D vwC M_9 H := by rw [eM_9]; exact hPa
  have ok_9 : okW cs M_9 := by rw [eM_9]; exact ok_8.up trivial
  have lo_9 : ∀ q, q < r → M_9 q = M q := fun q hq => by rw [eM_9, mw_up_ne (by omega)]; exact lo_8 q hq
  have f_9_0 : M_9 (r) = some (.inr (1, [.int 0, .ref (r + 1), .ref (r + 3), .int 0, .ref (r + 4), .ref (r + 5)])) := by rw [eM_9]; exact mw_up_self
  have f_9_3 : M_9 (r + 3) = some (.inl (cs 4, 3, .inr (.inr (.inr (.inr (fun _ => none)))))) := by rw [eM_9, mw_up_ne (by omega)]; exact f_8_3
  have f_9_4 : M_9 (r + 4) = some (.inl (cs 1, 3, .inr (.inl (fun _ => 0)))) := by rw [eM_9, mw_up_ne (by omega)]; exact f_8_4
  have f_9_5 : M_9 (r + 5) = some (.inl (cs 1, 3, .inr (.inl (fun _ => 0)))) := by rw [eM_9, mw_up_ne (by omega)]; exact f_8_5
  have b_9_1 : blkRw M_9 cs (r + 1) 4 := b_8_1.keep (fun q h1 h2 => by rw [eM_9, mw_up_ne (by omega)])
  refine lv_iconst (v := nI 0) hx hb d_Lp_init_38 rfl ?_
  refine lv_istore_n (lv' := [(1, .int (nI 0)), (0, .ref r)]) hx hb d_Lp_init_39 rfl hl (by decide) rfl (fun ls hl => ?_)
  refine lv_iload_n hx hb d_Lp_init_40 rfl (lv_at hl 0 rfl) ?_
  refine lv_iconst (v := nI 3) hx hb d_Lp_init_41 rfl ?_
  refine lv_icmp_ge (tgt := 64) hx hb d_Lp_init_42 (by decide) (fun c_ => absurd c_ (by decide)) (fun c_ => ?_)
  refine lv_aload_n hx hb d_Lp_init_45 rfl (lv_at hl 1 rfl) ?_
  refine mw_get (D := D) (C := R_Lp) (T := F_Lp) (N := 6) hx hb hts in_Lp hown hK hP_9 f_9_0 rfl 2 (by decide) (hts _ tw_157) (fun _ h9 => h9) rfl d_Lp_init_46 ?_
  refine lv_iload_n hx hb d_Lp_init_49 rfl (lv_at hl 0 rfl) ?_
  refine mw_new (D := D) (C := R_Wy) (T := F_Wy) (N := 3) (ci := 5) (fs := [.null, .null, .null]) hx hb hts in_Wy t_Wy t_Wy_ok hown (hts _ tw_127) (hts _ tw_129) (hts _ tw_62) hK hP_9 hS rfl (fun j hj => by rcases (show j = 0 ∨ j = 1 ∨ j = 2 by omega) with rfl | rfl | rfl <;> rfl) (Nat.le_of_ble_eq_true rfl) (Nat.le_of_ble_eq_true rfl) hz d_Lp_init_50 (fun H hPa hS hz => ?_)
  obtain ⟨M_10, eM_10⟩ : ∃ z : mw_M, z = mw_up M_9 (r + 6) (.inr (5, [.null, .null, .null])) := ⟨_, rfl⟩
  have hP_10 : mw_P D vwC M_10 H := by rw [eM_10]; exact hPa
  have ok_10 : okW cs M_10 := by rw [eM_10]; exact ok_9.up trivial
  have lo_10 : ∀ q, q < r → M_10 q = M q := fun q hq => by rw [eM_10, mw_up_ne (by omega)]; exact lo_9 q hq
  have f_10_0 : M_10 (r) = some (.inr (1, [.int 0, .ref (r + 1), .ref (r + 3), .int 0, .ref (r + 4), .ref (r + 5)])) := by rw [eM_10, mw_up_ne (by omega)]; exact f_9_0
  have f_10_3 : M_10 (r + 3) = some (.inl (cs 4, 3, .inr (.inr (.inr (.inr (fun _ => none)))))) := by rw [eM_10, mw_up_ne (by omega)]; exact f_9_3
  have f_10_4 : M_10 (r + 4) = some (.inl (cs 1, 3, .inr (.inl (fun _ => 0)))) := by rw [eM_10, mw_up_ne (by omega)]; exact f_9_4
  have f_10_5 : M_10 (r + 5) = some (.inl (cs 1, 3, .inr (.inl (fun _ => 0)))) := by rw [eM_10, mw_up_ne (by omega)]; exact f_9_5
  have f_10_6 : M_10 (r + 6) = some (.inr (5, [.null, .null, .null])) := by rw [eM_10]; exact mw_up_self
  have b_10_1 : blkRw M_10 cs (r + 1) 4 := b_9_1.keep (fun q h1 h2 => by rw [eM_10, mw_up_ne (by omega)])
  have hz : H.size = r + 7 := hz
  refine lv_dup hx hb d_Lp_init_53 rfl ?_
  refine mi_callN (As := []) (rest := [.ref (r + 6), .int (nI 0), .ref (r + 3)]) (n := 0) hx hb hml hown hts hK hN hA (c_Wy_init l D cs M_10 (r + 6) f_10_6 ok_10) tw_130 tw_131 tw_62 tw_132 (by decide +kernel) ⟨rfl, rfl, by decide, by decide, by decide, by decide⟩ hP_10 hS hz (fun q hq => by omega) rfl hl.1 rfl (Nat.le_of_ble_eq_true rfl) d_Lp_init_54 (fun M_11 H locs hb_ hPa hS hz => ?_)
  have hP_11 := hPa
  have hk_11 := hb_.1
  have ok_11 : okW cs M_11 := hb_.2.1
  have lo_11 : ∀ q, q < r → M_11 q = M q := fun q hq => (hk_11 q (by omega)).trans (lo_10 q hq)
  have f_11_0 : M_11 (r) = some (.inr (1, [.int 0, .ref (r + 1), .ref (r + 3), .int 0, .ref (r + 4), .ref (r + 5)])) := (hk_11 _ (by omega)).trans f_10_0
  have f_11_3 : M_11 (r + 3) = some (.inl (cs 4, 3, .inr (.inr (.inr (.inr (fun _ => none)))))) := (hk_11 _ (by omega)).trans f_10_3
  have f_11_4 : M_11 (r + 4) = some (.inl (cs 1, 3, .inr (.inl (fun _ => 0)))) := (hk_11 _ (by omega)).trans f_10_4
  have f_11_5 : M_11 (r + 5) = some (.inl (cs 1, 3, .inr (.inl (fun _ => 0)))) := (hk_11 _ (by omega)).trans f_10_5
  have b_11_1 : blkRw M_11 cs (r + 1) 4 := b_10_1.keep (fun q h1 h2 => hk_11 q (by omega))
  have b_11_6 : blkWy M_11 cs (r + 6) := hb_.2.2
  have hz : H.size = r + 11 := hz
  refine mw_astq hx hb hK hP_11 hS 4 5 f_11_3 (by omega) rfl b_11_6.1 rfl (vp_in_nI (by omega) (by omega)) d_Lp_init_57 (fun H locs hPa hS hzb => ?_)
  have hz : H.size = r + 11 := hzb.trans hz
  rw [show (nI 0).toNatClampNeg = 0 from rfl] at hPa
  obtain ⟨M_12, eM_12⟩ : ∃ z : mw_M, z = mw_up M_11 (r + 3) (.inl (cs 4, 3, .inr (.inr (.inr (.inr (va_up (fun _ => none) 0 (some (r + 6)))))))) := ⟨_, rfl⟩
  have hP_12 : mw_P D vwC M_12 H := by rw [eM_12]; exact hPa
  have ok_12 : okW cs M_12 := by rw [eM_12]; exact ok_11.up trivial
  have lo_12 : ∀ q, q < r → M_12 q = M q := fun q hq => by rw [eM_12, mw_up_ne (by omega)]; exact lo_11 q hq
  have f_12_0 : M_12 (r) = some (.inr (1, [.int 0, .ref (r + 1), .ref (r + 3), .int 0, .ref (r + 4), .ref (r + 5)])) := by rw [eM_12, mw_up_ne (by omega)]; exact f_11_0
  have f_12_3 : M_12 (r + 3) = some (.inl (cs 4, 3, .inr (.inr (.inr (.inr (va_up (fun _ => none) 0 (some (r + 6)))))))) := by rw [eM_12]; exact mw_up_self
  have f_12_4 : M_12 (r + 4) = some (.inl (cs 1, 3, .inr (.inl (fun _ => 0)))) := by rw [eM_12, mw_up_ne (by omega)]; exact f_11_4
  have f_12_5 : M_12 (r + 5) = some (.inl (cs 1, 3, .inr (.inl (fun _ => 0)))) := by rw [eM_12, mw_up_ne (by omega)]; exact f_11_5
  have b_12_1 : blkRw M_12 cs (r + 1) 4 := b_11_1.keep (fun q h1 h2 => by rw [eM_12, mw_up_ne (by omega)])
  have b_12_6 : blkWy M_12 cs (r + 6) := b_11_6.keep (fun q h1 h2 => by rw [eM_12, mw_up_ne (by omega)])
  refine lv_iinc (v := nI 1) (lv' := [(1, .int (nI 1)), (0, .ref r)]) hx hb d_Lp_init_58 hl (k := 0) rfl (gm_inc 0 1) (by decide) rfl (fun ls hl => ?_)
  refine lv_goto (tgt := 40) hx hb d_Lp_init_61 (by decide) ?_
  refine lv_iload_n hx hb d_Lp_init_40 rfl (lv_at hl 0 rfl) ?_
  refine lv_iconst (v := nI 3) hx hb d_Lp_init_41 rfl ?_
  refine lv_icmp_ge (tgt := 64) hx hb d_Lp_init_42 (by decide) (fun c_ => absurd c_ (by decide)) (fun c_ => ?_)
  refine lv_aload_n hx hb d_Lp_init_45 rfl (lv_at hl 1 rfl) ?_
  refine mw_get (D := D) (C := R_Lp) (T := F_Lp) (N := 6) hx hb hts in_Lp hown hK hP_12 f_12_0 rfl 2 (by decide) (hts _ tw_157) (fun _ h9 => h9) rfl d_Lp_init_46 ?_
  refine lv_iload_n hx hb d_Lp_init_49 rfl (lv_at hl 0 rfl) ?_
  refine mw_new (D := D) (C := R_Wy) (T := F_Wy) (N := 3) (ci := 5) (fs := [.null, .null, .null]) hx hb hts in_Wy t_Wy t_Wy_ok hown (hts _ tw_127) (hts _ tw_129) (hts _ tw_62) hK hP_12 hS rfl (fun j hj => by rcases (show j = 0 ∨ j = 1 ∨ j = 2 by omega) with rfl | rfl | rfl <;> rfl) (Nat.le_of_ble_eq_true rfl) (Nat.le_of_ble_eq_true rfl) hz d_Lp_init_50 (fun H hPa hS hz => ?_)
  obtain ⟨M_13, eM_13⟩ : ∃ z : mw_M, z = mw_up M_12 (r + 11) (.inr (5, [.null, .null, .null])) := ⟨_, rfl⟩
  have hP_13 : mw_P D vwC M_13 H := by rw [eM_13]; exact hPa
  have ok_13 : okW cs M_13 := by rw [eM_13]; exact ok_12.up trivial
  have lo_13 : ∀ q, q < r → M_13 q = M q := fun q hq => by rw [eM_13, mw_up_ne (by omega)]; exact lo_12 q hq
  have f_13_0 : M_13 (r) = some (.inr (1, [.int 0, .ref (r + 1), .ref (r + 3), .int 0, .ref (r + 4), .ref (r + 5)])) := by rw [eM_13, mw_up_ne (by omega)]; exact f_12_0
  have f_13_3 : M_13 (r + 3) = some (.inl (cs 4, 3, .inr (.inr (.inr (.inr (va_up (fun _ => none) 0 (some (r + 6)))))))) := by rw [eM_13, mw_up_ne (by omega)]; exact f_12_3
  have f_13_4 : M_13 (r + 4) = some (.inl (cs 1, 3, .inr (.inl (fun _ => 0)))) := by rw [eM_13, mw_up_ne (by omega)]; exact f_12_4
  have f_13_5 : M_13 (r + 5) = some (.inl (cs 1, 3, .inr (.inl (fun _ => 0)))) := by rw [eM_13, mw_up_ne (by omega)]; exact f_12_5
  have f_13_11 : M_13 (r + 11) = some (.inr (5, [.null, .null, .null])) := by rw [eM_13]; exact mw_up_self
  have b_13_1 : blkRw M_13 cs (r + 1) 4 := b_12_1.keep (fun q h1 h2 => by rw [eM_13, mw_up_ne (by omega)])
  have b_13_6 : blkWy M_13 cs (r + 6) := b_12_6.keep (fun q h1 h2 => by rw [eM_13, mw_up_ne (by omega)])
  have hz : H.size = r + 12 := hz
  refine lv_dup hx hb d_Lp_init_53 rfl ?_
  refine mi_callN (As := []) (rest := [.ref (r + 11), .int (nI 1), .ref (r + 3)]) (n := 0) hx hb hml hown hts hK hN hA (c_Wy_init l D cs M_13 (r + 11) f_13_11 ok_13) tw_130 tw_131 tw_62 tw_132 (by decide +kernel) ⟨rfl, rfl, by decide, by decide, by decide, by decide⟩ hP_13 hS hz (fun q hq => by omega) rfl hl.1 rfl (Nat.le_of_ble_eq_true rfl) d_Lp_init_54 (fun M_14 H locs hb_ hPa hS hz => ?_)
  have hP_14 := hPa
  have hk_14 := hb_.1
  have ok_14 : okW cs M_14 := hb_.2.1
  have lo_14 : ∀ q, q < r → M_14 q = M q := fun q hq => (hk_14 q (by omega)).trans (lo_13 q hq)
  have f_14_0 : M_14 (r) = some (.inr (1, [.int 0, .ref (r + 1), .ref (r + 3), .int 0, .ref (r + 4), .ref (r + 5)])) := (hk_14 _ (by omega)).trans f_13_0
  have f_14_3 : M_14 (r + 3) = some (.inl (cs 4, 3, .inr (.inr (.inr (.inr (va_up (fun _ => none) 0 (some (r + 6)))))))) := (hk_14 _ (by omega)).trans f_13_3
  have f_14_4 : M_14 (r + 4) = some (.inl (cs 1, 3, .inr (.inl (fun _ => 0)))) := (hk_14 _ (by omega)).trans f_13_4
  have f_14_5 : M_14 (r + 5) = some (.inl (cs 1, 3, .inr (.inl (fun _ => 0)))) := (hk_14 _ (by omega)).trans f_13_5
  have b_14_1 : blkRw M_14 cs (r + 1) 4 := b_13_1.keep (fun q h1 h2 => hk_14 q (by omega))
  have b_14_6 : blkWy M_14 cs (r + 6) := b_13_6.keep (fun q h1 h2 => hk_14 q (by omega))
  have b_14_11 : blkWy M_14 cs (r + 11) := hb_.2.2
  have hz : H.size = r + 16 := hz
  refine mw_astq hx hb hK hP_14 hS 4 5 f_14_3 (by omega) rfl b_14_11.1 rfl (vp_in_nI (by omega) (by omega)) d_Lp_init_57 (fun H locs hPa hS hzb => ?_)
  have hz : H.size = r + 16 := hzb.trans hz
  rw [show (nI 1).toNatClampNeg = 1 from rfl] at hPa
  obtain ⟨M_15, eM_15⟩ : ∃ z : mw_M, z = mw_up M_14 (r + 3) (.inl (cs 4, 3, .inr (.inr (.inr (.inr (va_up (va_up (fun _ => none) 0 (some (r + 6))) 1 (some (r + 11)))))))) := ⟨_, rfl⟩
  have hP_15 : mw_P D vwC M_15 H := by rw [eM_15]; exact hPa
  have ok_15 : okW cs M_15 := by rw [eM_15]; exact ok_14.up trivial
  have lo_15 : ∀ q, q < r → M_15 q = M q := fun q hq => by rw [eM_15, mw_up_ne (by omega)]; exact lo_14 q hq
  have f_15_0 : M_15 (r) = some (.inr (1, [.int 0, .ref (r + 1), .ref (r + 3), .int 0, .ref (r + 4), .ref (r + 5)])) := by rw [eM_15, mw_up_ne (by omega)]; exact f_14_0
  have f_15_3 : M_15 (r + 3) = some (.inl (cs 4, 3, .inr (.inr (.inr (.inr (va_up (va_up (fun _ => none) 0 (some (r + 6))) 1 (some (r + 11)))))))) := by rw [eM_15]; exact mw_up_self
  have f_15_4 : M_15 (r + 4) = some (.inl (cs 1, 3, .inr (.inl (fun _ => 0)))) := by rw [eM_15, mw_up_ne (by omega)]; exact f_14_4
  have f_15_5 : M_15 (r + 5) = some (.inl (cs 1, 3, .inr (.inl (fun _ => 0)))) := by rw [eM_15, mw_up_ne (by omega)]; exact f_14_5
  have b_15_1 : blkRw M_15 cs (r + 1) 4 := b_14_1.keep (fun q h1 h2 => by rw [eM_15, mw_up_ne (by omega)])
  have b_15_6 : blkWy M_15 cs (r + 6) := b_14_6.keep (fun q h1 h2 => by rw [eM_15, mw_up_ne (by omega)])
  have b_15_11 : blkWy M_15 cs (r + 11) := b_14_11.keep (fun q h1 h2 => by rw [eM_15, mw_up_ne (by omega)])
  refine lv_iinc (v := nI 2) (lv' := [(1, .int (nI 2)), (0, .ref r)]) hx hb d_Lp_init_58 hl (k := 0) rfl (gm_inc 1 1) (by decide) rfl (fun ls hl => ?_)
  refine lv_goto (tgt := 40) hx hb d_Lp_init_61 (by decide) ?_
  refine lv_iload_n hx hb d_Lp_init_40 rfl (lv_at hl 0 rfl) ?_
  refine lv_iconst (v := nI 3) hx hb d_Lp_init_41 rfl ?_
  refine lv_icmp_ge (tgt := 64) hx hb d_Lp_init_42 (by decide) (fun c_ => absurd c_ (by decide)) (fun c_ => ?_)
  refine lv_aload_n hx hb d_Lp_init_45 rfl (lv_at hl 1 rfl) ?_
  refine mw_get (D := D) (C := R_Lp) (T := F_Lp) (N := 6) hx hb hts in_Lp hown hK hP_15 f_15_0 rfl 2 (by decide) (hts _ tw_157) (fun _ h9 => h9) rfl d_Lp_init_46 ?_
  refine lv_iload_n hx hb d_Lp_init_49 rfl (lv_at hl 0 rfl) ?_
  refine mw_new (D := D) (C := R_Wy) (T := F_Wy) (N := 3) (ci := 5) (fs := [.null, .null, .null]) hx hb hts in_Wy t_Wy t_Wy_ok hown (hts _ tw_127) (hts _ tw_129) (hts _ tw_62) hK hP_15 hS rfl (fun j hj => by rcases (show j = 0 ∨ j = 1 ∨ j = 2 by omega) with rfl | rfl | rfl <;> rfl) (Nat.le_of_ble_eq_true rfl) (Nat.le_of_ble_eq_true rfl) hz d_Lp_init_50 (fun H hPa hS hz => ?_)
  obtain ⟨M_16, eM_16⟩ : ∃ z : mw_M, z = mw_up M_15 (r + 16) (.inr (5, [.null, .null, .null])) := ⟨_, rfl⟩
  have hP_16 : mw_P D vwC M_16 H := by rw [eM_16]; exact hPa
  have ok_16 : okW cs M_16 := by rw [eM_16]; exact ok_15.up trivial
  have lo_16 : ∀ q, q < r → M_16 q = M q := fun q hq => by rw [eM_16, mw_up_ne (by omega)]; exact lo_15 q hq
  have f_16_0 : M_16 (r) = some (.inr (1, [.int 0, .ref (r + 1), .ref (r + 3), .int 0, .ref (r + 4), .ref (r + 5)])) := by rw [eM_16, mw_up_ne (by omega)]; exact f_15_0
  have f_16_3 : M_16 (r + 3) = some (.inl (cs 4, 3, .inr (.inr (.inr (.inr (va_up (va_up (fun _ => none) 0 (some (r + 6))) 1 (some (r + 11)))))))) := by rw [eM_16, mw_up_ne (by omega)]; exact f_15_3
  have f_16_4 : M_16 (r + 4) = some (.inl (cs 1, 3, .inr (.inl (fun _ => 0)))) := by rw [eM_16, mw_up_ne (by omega)]; exact f_15_4
  have f_16_5 : M_16 (r + 5) = some (.inl (cs 1, 3, .inr (.inl (fun _ => 0)))) := by rw [eM_16, mw_up_ne (by omega)]; exact f_15_5
  have f_16_16 : M_16 (r + 16) = some (.inr (5, [.null, .null, .null])) := by rw [eM_16]; exact mw_up_self
  have b_16_1 : blkRw M_16 cs (r + 1) 4 := b_15_1.keep (fun q h1 h2 => by rw [eM_16, mw_up_ne (by omega)])
  have b_16_6 : blkWy M_16 cs (r + 6) := b_15_6.keep (fun q h1 h2 => by rw [eM_16, mw_up_ne (by omega)])
  have b_16_11 : blkWy M_16 cs (r + 11) := b_15_11.keep (fun q h1 h2 => by rw [eM_16, mw_up_ne (by omega)])
  have hz : H.size = r + 17 := hz
  refine lv_dup hx hb d_Lp_init_53 rfl ?_
  refine mi_callN (As := []) (rest := [.ref (r + 16), .int (nI 2), .ref (r + 3)]) (n := 0) hx hb hml hown hts hK hN hA (c_Wy_init l D cs M_16 (r + 16) f_16_16 ok_16) tw_130 tw_131 tw_62 tw_132 (by decide +kernel) ⟨rfl, rfl, by decide, by decide, by decide, by decide⟩ hP_16 hS hz (fun q hq => by omega) rfl hl.1 rfl (Nat.le_of_ble_eq_true rfl) d_Lp_init_54 (fun M_17 H locs hb_ hPa hS hz => ?_)
  have hP_17 := hPa
  have hk_17 := hb_.1
  have ok_17 : okW cs M_17 := hb_.2.1
  have lo_17 : ∀ q, q < r → M_17 q = M q := fun q hq => (hk_17 q (by omega)).trans (lo_16 q hq)
  have f_17_0 : M_17 (r) = some (.inr (1, [.int 0, .ref (r + 1), .ref (r + 3), .int 0, .ref (r + 4), .ref (r + 5)])) := (hk_17 _ (by omega)).trans f_16_0
  have f_17_3 : M_17 (r + 3) = some (.inl (cs 4, 3, .inr (.inr (.inr (.inr (va_up (va_up (fun _ => none) 0 (some (r + 6))) 1 (some (r + 11)))))))) := (hk_17 _ (by omega)).trans f_16_3
  have f_17_4 : M_17 (r + 4) = some (.inl (cs 1, 3, .inr (.inl (fun _ => 0)))) := (hk_17 _ (by omega)).trans f_16_4
  have f_17_5 : M_17 (r + 5) = some (.inl (cs 1, 3, .inr (.inl (fun _ => 0)))) := (hk_17 _ (by omega)).trans f_16_5
  have b_17_1 : blkRw M_17 cs (r + 1) 4 := b_16_1.keep (fun q h1 h2 => hk_17 q (by omega))
  have b_17_6 : blkWy M_17 cs (r + 6) := b_16_6.keep (fun q h1 h2 => hk_17 q (by omega))
  have b_17_11 : blkWy M_17 cs (r + 11) := b_16_11.keep (fun q h1 h2 => hk_17 q (by omega))
  have b_17_16 : blkWy M_17 cs (r + 16) := hb_.2.2
  have hz : H.size = r + 21 := hz
  refine mw_astq hx hb hK hP_17 hS 4 5 f_17_3 (by omega) rfl b_17_16.1 rfl (vp_in_nI (by omega) (by omega)) d_Lp_init_57 (fun H locs hPa hS hzb => ?_)
  have hz : H.size = r + 21 := hzb.trans hz
  rw [show (nI 2).toNatClampNeg = 2 from rfl] at hPa
  obtain ⟨M_18, eM_18⟩ : ∃ z : mw_M, z = mw_up M_17 (r + 3) (.inl (cs 4, 3, .inr (.inr (.inr (.inr (va_up (va_up (va_up (fun _ => none) 0 (some (r + 6))) 1 (some (r + 11))) 2 (some (r + 16)))))))) := ⟨_, rfl⟩
  have hP_18 : mw_P D vwC M_18 H := by rw [eM_18]; exact hPa
  have ok_18 : okW cs M_18 := by rw [eM_18]; exact ok_17.up trivial
  have lo_18 : ∀ q, q < r → M_18 q = M q := fun q hq => by rw [eM_18, mw_up_ne (by omega)]; exact lo_17 q hq
  have f_18_0 : M_18 (r) = some (.inr (1, [.int 0, .ref (r + 1), .ref (r + 3), .int 0, .ref (r + 4), .ref (r + 5)])) := by rw [eM_18, mw_up_ne (by omega)]; exact f_17_0
  have f_18_3 : M_18 (r + 3) = some (.inl (cs 4, 3, .inr (.inr (.inr (.inr (va_up (va_up (va_up (fun _ => none) 0 (some (r + 6))) 1 (some (r + 11))) 2 (some (r + 16)))))))) := by rw [eM_18]; exact mw_up_self
  have f_18_4 : M_18 (r + 4) = some (.inl (cs 1, 3, .inr (.inl (fun _ => 0)))) := by rw [eM_18, mw_up_ne (by omega)]; exact f_17_4
  have f_18_5 : M_18 (r + 5) = some (.inl (cs 1, 3, .inr (.inl (fun _ => 0)))) := by rw [eM_18, mw_up_ne (by omega)]; exact f_17_5
  have b_18_1 : blkRw M_18 cs (r + 1) 4 := b_17_1.keep (fun q h1 h2 => by rw [eM_18, mw_up_ne (by omega)])
  have b_18_6 : blkWy M_18 cs (r + 6) := b_17_6.keep (fun q h1 h2 => by rw [eM_18, mw_up_ne (by omega)])
  have b_18_11 : blkWy M_18 cs (r + 11) := b_17_11.keep (fun q h1 h2 => by rw [eM_18, mw_up_ne (by omega)])
  have b_18_16 : blkWy M_18 cs (r + 16) := b_17_16.keep (fun q h1 h2 => by rw [eM_18, mw_up_ne (by omega)])
  refine lv_iinc (v := nI 3) (lv' := [(1, .int (nI 3)), (0, .ref r)]) hx hb d_Lp_init_58 hl (k := 0) rfl (gm_inc 2 1) (by decide) rfl (fun ls hl => ?_)
  refine lv_goto (tgt := 40) hx hb d_Lp_init_61 (by decide) ?_
  refine lv_iload_n hx hb d_Lp_init_40 rfl (lv_at hl 0 rfl) ?_
  refine lv_iconst (v := nI 3) hx hb d_Lp_init_41 rfl ?_
  refine lv_icmp_ge (tgt := 64) hx hb d_Lp_init_42 (by decide) (fun c_ => ?_) (fun c_ => absurd (by decide) c_)
  have hfin : blkLp M_18 cs r := ⟨f_18_0, b_18_1, by have h := f_18_3; rw [up_Lp_init_3] at h; exact h, f_18_4, f_18_5, fun k hk => by (match k, hk with | 0, _ => exact b_18_6 | 1, _ => exact b_18_11 | 2, _ => exact b_18_16 | k + 3, hk => exact absurd hk (by omega))⟩
  exact W.vret hx hb hr (fun t ht hW => ⟨⟨M_18, rfl, ⟨lo_18, ok_18, hfin⟩, by rw [ht]; exact hz, by rw [ht]; exact hP_18⟩, by rw [← hHe] at hS; exact hS.F ht⟩) hS.2.2 d_Lp_init_64

theorem up_FT_init_1 (r : Nat) : (va_up (va_up (va_up (va_up (va_up (va_up (va_up (va_up (fun _ => none) 0 (some (r + 12))) 1 (some (r + 33))) 2 (some (r + 54))) 3 (some (r + 75))) 4 (some (r + 96))) 5 (some (r + 117))) 6 (some (r + 138))) 7 (some (r + 159))) = fun k => if k < 8 then some (r + 12 + 21 * k) else none := by
  funext k
  match k with
  | 0 => simp [va_up]
  | 1 => simp [va_up]
  | 2 => simp [va_up]
  | 3 => simp [va_up]
  | 4 => simp [va_up]
  | 5 => simp [va_up]
  | 6 => simp [va_up]
  | 7 => simp [va_up]
  | k + 8 => simp [va_up]
theorem up_FT_init_2 (r : Nat) : (va_up (va_up (va_up (fun _ => none) 0 (some (r + 180))) 1 (some (r + 192))) 2 (some (r + 204))) = fun k => if k < 3 then some (r + 180 + 12 * k) else none := by
  funext k
  match k with
  | 0 => simp [va_up]
  | 1 => simp [va_up]
  | 2 => simp [va_up]
  | k + 3 => simp [va_up]
theorem up_FT_init_3 (r : Nat) : (va_up (va_up (va_up (fun _ => none) 0 (some (r + 186))) 1 (some (r + 198))) 2 (some (r + 210))) = fun k => if k < 3 then some (r + 186 + 12 * k) else none := by
  funext k
  match k with
  | 0 => simp [va_up]
  | 1 => simp [va_up]
  | 2 => simp [va_up]
  | k + 3 => simp [va_up]
set_option maxHeartbeats 4000000 in
set_option maxRecDepth 100000 in
theorem c_FT_init (l : Launch) (D : va_G) (cs : Nat → ClassId) (M : mw_M) (r : Nat) (h0 : M r = some (.inr (6, [.null, .int 0, .null, .null, .null, .null, .null, .int 0, .null, .null, .null]))) (hok : okW cs M) : Met l y_FT_init w_FT_init { frames := 4, cells := 215, slots := 2249, locals := 83 } (mi_Pre D cs M (r + 1) [.ref r]) (va_Qv (fun u : mw_M => (∀ q, q < r → u q = M q) ∧ okW cs u ∧ blkFT u cs r) (mi_B D (r + 216)) (fun q => r ≤ q)) 215 2249 (fun q => r ≤ q) := by
  refine Met.ofW (cc := b_FT_init) (maxL := 2) (ret := none) (by decide) rfl ?_
  intro p' e' s' m' args be' me' co' s₁ B hml hv
  obtain ⟨rfl, hsz, hPs, hK, hN, hA⟩ := hv
  have hx := B.exec
  have hb := B.bytes
  have hr := B.returns
  have hts0 := atoms_spec (ws := w_FT_init) B.pre
  have hts : ∀ w ∈ tg, w.before _ s' = true := fun w h => hts0 w (List.mem_cons_of_mem _ h)
  have hown : s'.vm.findClass R_FT = some m'.cls := findClass_of_methodNamed B.named
  have hlocks := B.notSynchronized
  have hin : me'.name = "<init>" := (name_of_methodNamed B.named B.method).1
  have hS9 : va_S (fun q => r ≤ q) s'.heap s'.heap [] := va_S.rf
  have hl := lv_entry ([.ref r]) (n := 2) (Nat.le_of_ble_eq_true rfl)
  rw [lg_entry_eq]
  generalize (lg_sl ([.ref r]) ++ List.replicate (2 - (lg_sl ([.ref r])).length) Slot.unset).toArray = ls at hl ⊢
  generalize hHe : s'.heap = H0 at hPs hS9 hsz ⊢
  obtain ⟨M_0, eM_0⟩ : ∃ z : mw_M, z = M := ⟨_, rfl⟩
  have f_0_0 : M_0 r = some (.inr (6, [.null, .int 0, .null, .null, .null, .null, .null, .int 0, .null, .null, .null])) := by rw [eM_0]; exact h0
  have ok_0 : okW cs M_0 := by rw [eM_0]; exact hok
  have lo_0 : ∀ q, q < r → M_0 q = M q := fun q _ => by rw [eM_0]
  obtain ⟨H, eH⟩ : ∃ z : Heap, z = H0 := ⟨_, rfl⟩
  have hz : H.size = r + 1 := by rw [eH]; exact hsz
  have hP_0 : mw_P D vwC M_0 H := by rw [eH, eM_0]; exact hPs
  have hS : va_S (fun q => r ≤ q) H0 H [] := by rw [eH]; exact hS9
  suffices hgo : W p' l e' (headSpec w_FT_init { frames := 4, cells := 215, slots := 2249, locals := 83 }).room s' m' ([.ref r] : List Value).toArray be' me' co' H [] 0 0 (MQ be' (va_Qv (fun u : mw_M => (∀ q, q < r → u q = M q) ∧ okW cs u ∧ blkFT u cs r) (mi_B D (r + 216)) (fun q => r ≤ q)) ([.ref r] : List Value).toArray s' 215 2249 (fun q => r ≤ q)) (F0 m' 0 ls []) by rw [eH] at hgo; exact hgo
  have hl : lv_has ls 2 [(0, .ref r)] := hl
  refine lv_aload_n hx hb d_FT_init_0 rfl (lv_at hl 0 rfl) ?_
  refine W.objInit hx hb hown (hts _ tw_70) (hts _ tw_71) (hts _ tw_72) rfl (by rw [hml]; exact hl.1) rfl d_FT_init_1 (Nat.le_of_ble_eq_true rfl) (Nat.le_of_ble_eq_true rfl) ?_
  refine W.eq (g2 := F0 m' 4 ls []) rfl ?_
  refine lv_aload_n hx hb d_FT_init_4 rfl (lv_at hl 0 rfl) ?_
  refine lv_bipush (v := nI 8) hx hb d_FT_init_5 rfl ?_
  refine mw_newq hx hb hown (hts _ tw_73) hA.1 hK 2 rfl hP_0 hS (by omega) (Nat.le_of_ble_eq_true rfl) (Nat.le_of_ble_eq_true rfl) hz d_FT_init_7 (fun H hPa hS hz => ?_)
  obtain ⟨M_1, eM_1⟩ : ∃ z : mw_M, z = mw_up M_0 (r + 1) (.inl (cs 2, 8, .inr (.inr (.inr (.inr (fun _ => none)))))) := ⟨_, rfl⟩
  have hP_1 : mw_P D vwC M_1 H := by rw [eM_1]; exact hPa
  have ok_1 : okW cs M_1 := by rw [eM_1]; exact ok_0.up trivial
  have lo_1 : ∀ q, q < r → M_1 q = M q := fun q hq => by rw [eM_1, mw_up_ne (by omega)]; exact lo_0 q hq
  have f_1_0 : M_1 (r) = some (.inr (6, [.null, .int 0, .null, .null, .null, .null, .null, .int 0, .null, .null, .null])) := by rw [eM_1, mw_up_ne (by omega)]; exact f_0_0
  have f_1_1 : M_1 (r + 1) = some (.inl (cs 2, 8, .inr (.inr (.inr (.inr (fun _ => none)))))) := by rw [eM_1]; exact mw_up_self
  have hz : H.size = r + 2 := hz
  refine mw_putF (D := D) (ci := 6) (v := .ref (r + 1)) (ty := .array (.object "FallingTerms$Loop")) (C := R_FT) (T := F_FT) (N := 11) hx hb hts in_FT t_FT t_FT_ok n_FT hown hK hP_1 hS f_1_0 (Nat.le_refl r) rfl 0 (by decide) (hts _ tw_210) (fun _ h9 => h9) rfl hin rfl (by decide +kernel) rfl rfl (Nat.le_of_ble_eq_true rfl) d_FT_init_10 (fun H locs hPa hS hzb => ?_)
  have hz : H.size = r + 2 := hzb.trans hz
  obtain ⟨M_2, eM_2⟩ : ∃ z : mw_M, z = mw_up M_1 (r) (.inr (6, [.ref (r + 1), .int 0, .null, .null, .null, .null, .null, .int 0, .null, .null, .null])) := ⟨_, rfl⟩
  have hP_2 : mw_P D vwC M_2 H := by rw [eM_2]; exact hPa
  have ok_2 : okW cs M_2 := by rw [eM_2]; exact ok_1.up trivial
  have lo_2 : ∀ q, q < r → M_2 q = M q := fun q hq => by rw [eM_2, mw_up_ne (by omega)]; exact lo_1 q hq
  have f_2_0 : M_2 (r) = some (.inr (6, [.ref (r + 1), .int 0, .null, .null, .null, .null, .null, .int 0, .null, .null, .null])) := by rw [eM_2]; exact mw_up_self
  have f_2_1 : M_2 (r + 1) = some (.inl (cs 2, 8, .inr (.inr (.inr (.inr (fun _ => none)))))) := by rw [eM_2, mw_up_ne (by omega)]; exact f_1_1
  refine lv_aload_n hx hb d_FT_init_13 rfl (lv_at hl 0 rfl) ?_
  refine lv_iconst (v := nI 3) hx hb d_FT_init_14 rfl ?_
  refine mw_newq hx hb hown (hts _ tw_75) hA.2.1 hK 3 rfl hP_2 hS (by omega) (Nat.le_of_ble_eq_true rfl) (Nat.le_of_ble_eq_true rfl) hz d_FT_init_15 (fun H hPa hS hz => ?_)
  obtain ⟨M_3, eM_3⟩ : ∃ z : mw_M, z = mw_up M_2 (r + 2) (.inl (cs 3, 3, .inr (.inr (.inr (.inr (fun _ => none)))))) := ⟨_, rfl⟩
  have hP_3 : mw_P D vwC M_3 H := by rw [eM_3]; exact hPa
  have ok_3 : okW cs M_3 := by rw [eM_3]; exact ok_2.up trivial
  have lo_3 : ∀ q, q < r → M_3 q = M q := fun q hq => by rw [eM_3, mw_up_ne (by omega)]; exact lo_2 q hq
  have f_3_0 : M_3 (r) = some (.inr (6, [.ref (r + 1), .int 0, .null, .null, .null, .null, .null, .int 0, .null, .null, .null])) := by rw [eM_3, mw_up_ne (by omega)]; exact f_2_0
  have f_3_1 : M_3 (r + 1) = some (.inl (cs 2, 8, .inr (.inr (.inr (.inr (fun _ => none)))))) := by rw [eM_3, mw_up_ne (by omega)]; exact f_2_1
  have f_3_2 : M_3 (r + 2) = some (.inl (cs 3, 3, .inr (.inr (.inr (.inr (fun _ => none)))))) := by rw [eM_3]; exact mw_up_self
  have hz : H.size = r + 3 := hz
  refine mw_putF (D := D) (ci := 6) (v := .ref (r + 2)) (ty := .array (.object "FallingTerms$Space")) (C := R_FT) (T := F_FT) (N := 11) hx hb hts in_FT t_FT t_FT_ok n_FT hown hK hP_3 hS f_3_0 (Nat.le_refl r) rfl 2 (by decide) (hts _ tw_212) (fun _ h9 => h9) rfl hin rfl (by decide +kernel) rfl rfl (Nat.le_of_ble_eq_true rfl) d_FT_init_18 (fun H locs hPa hS hzb => ?_)
  have hz : H.size = r + 3 := hzb.trans hz
  obtain ⟨M_4, eM_4⟩ : ∃ z : mw_M, z = mw_up M_3 (r) (.inr (6, [.ref (r + 1), .int 0, .ref (r + 2), .null, .null, .null, .null, .int 0, .null, .null, .null])) := ⟨_, rfl⟩
  have hP_4 : mw_P D vwC M_4 H := by rw [eM_4]; exact hPa
  have ok_4 : okW cs M_4 := by rw [eM_4]; exact ok_3.up trivial
  have lo_4 : ∀ q, q < r → M_4 q = M q := fun q hq => by rw [eM_4, mw_up_ne (by omega)]; exact lo_3 q hq
  have f_4_0 : M_4 (r) = some (.inr (6, [.ref (r + 1), .int 0, .ref (r + 2), .null, .null, .null, .null, .int 0, .null, .null, .null])) := by rw [eM_4]; exact mw_up_self
  have f_4_1 : M_4 (r + 1) = some (.inl (cs 2, 8, .inr (.inr (.inr (.inr (fun _ => none)))))) := by rw [eM_4, mw_up_ne (by omega)]; exact f_3_1
  have f_4_2 : M_4 (r + 2) = some (.inl (cs 3, 3, .inr (.inr (.inr (.inr (fun _ => none)))))) := by rw [eM_4, mw_up_ne (by omega)]; exact f_3_2
  refine lv_aload_n hx hb d_FT_init_21 rfl (lv_at hl 0 rfl) ?_
  refine lv_iconst (v := nI 3) hx hb d_FT_init_22 rfl ?_
  refine mw_newq hx hb hown (hts _ tw_75) hA.2.1 hK 3 rfl hP_4 hS (by omega) (Nat.le_of_ble_eq_true rfl) (Nat.le_of_ble_eq_true rfl) hz d_FT_init_23 (fun H hPa hS hz => ?_)
  obtain ⟨M_5, eM_5⟩ : ∃ z : mw_M, z = mw_up M_4 (r + 3) (.inl (cs 3, 3, .inr (.inr (.inr (.inr (fun _ => none)))))) := ⟨_, rfl⟩
  have hP_5 : mw_P D vwC M_5 H := by rw [eM_5]; exact hPa
  have ok_5 : okW cs M_5 := by rw [eM_5]; exact ok_4.up trivial
  have lo_5 : ∀ q, q < r → M_5 q = M q := fun q hq => by rw [eM_5, mw_up_ne (by omega)]; exact lo_4 q hq
  have f_5_0 : M_5 (r) = some (.inr (6, [.ref (r + 1), .int 0, .ref (r + 2), .null, .null, .null, .null, .int 0, .null, .null, .null])) := by rw [eM_5, mw_up_ne (by omega)]; exact f_4_0
  have f_5_1 : M_5 (r + 1) = some (.inl (cs 2, 8, .inr (.inr (.inr (.inr (fun _ => none)))))) := by rw [eM_5, mw_up_ne (by omega)]; exact f_4_1
  have f_5_2 : M_5 (r + 2) = some (.inl (cs 3, 3, .inr (.inr (.inr (.inr (fun _ => none)))))) := by rw [eM_5, mw_up_ne (by omega)]; exact f_4_2
  have f_5_3 : M_5 (r + 3) = some (.inl (cs 3, 3, .inr (.inr (.inr (.inr (fun _ => none)))))) := by rw [eM_5]; exact mw_up_self
  have hz : H.size = r + 4 := hz
  refine mw_putF (D := D) (ci := 6) (v := .ref (r + 3)) (ty := .array (.object "FallingTerms$Space")) (C := R_FT) (T := F_FT) (N := 11) hx hb hts in_FT t_FT t_FT_ok n_FT hown hK hP_5 hS f_5_0 (Nat.le_refl r) rfl 3 (by decide) (hts _ tw_213) (fun _ h9 => h9) rfl hin rfl (by decide +kernel) rfl rfl (Nat.le_of_ble_eq_true rfl) d_FT_init_26 (fun H locs hPa hS hzb => ?_)
  have hz : H.size = r + 4 := hzb.trans hz
  obtain ⟨M_6, eM_6⟩ : ∃ z : mw_M, z = mw_up M_5 (r) (.inr (6, [.ref (r + 1), .int 0, .ref (r + 2), .ref (r + 3), .null, .null, .null, .int 0, .null, .null, .null])) := ⟨_, rfl⟩
  have hP_6 : mw_P D vwC M_6 H := by rw [eM_6]; exact hPa
  have ok_6 : okW cs M_6 := by rw [eM_6]; exact ok_5.up trivial
  have lo_6 : ∀ q, q < r → M_6 q = M q := fun q hq => by rw [eM_6, mw_up_ne (by omega)]; exact lo_5 q hq
  have f_6_0 : M_6 (r) = some (.inr (6, [.ref (r + 1), .int 0, .ref (r + 2), .ref (r + 3), .null, .null, .null, .int 0, .null, .null, .null])) := by rw [eM_6]; exact mw_up_self
  have f_6_1 : M_6 (r + 1) = some (.inl (cs 2, 8, .inr (.inr (.inr (.inr (fun _ => none)))))) := by rw [eM_6, mw_up_ne (by omega)]; exact f_5_1
  have f_6_2 : M_6 (r + 2) = some (.inl (cs 3, 3, .inr (.inr (.inr (.inr (fun _ => none)))))) := by rw [eM_6, mw_up_ne (by omega)]; exact f_5_2
  have f_6_3 : M_6 (r + 3) = some (.inl (cs 3, 3, .inr (.inr (.inr (.inr (fun _ => none)))))) := by rw [eM_6, mw_up_ne (by omega)]; exact f_5_3
  refine lv_aload_n hx hb d_FT_init_29 rfl (lv_at hl 0 rfl) ?_
  refine mw_new (D := D) (C := R_Pf) (T := F_Pf) (N := 3) (ci := 2) (fs := [.null, .int 0, .int 0]) hx hb hts in_Pf t_Pf t_Pf_ok hown (hts _ tw_77) (hts _ tw_78) (hts _ tw_58) hK hP_6 hS rfl (fun j hj => by rcases (show j = 0 ∨ j = 1 ∨ j = 2 by omega) with rfl | rfl | rfl <;> rfl) (Nat.le_of_ble_eq_true rfl) (Nat.le_of_ble_eq_true rfl) hz d_FT_init_30 (fun H hPa hS hz => ?_)
  obtain ⟨M_7, eM_7⟩ : ∃ z : mw_M, z = mw_up M_6 (r + 4) (.inr (2, [.null, .int 0, .int 0])) := ⟨_, rfl⟩
  have hP_7 : mw_P D vwC M_7 H := by rw [eM_7]; exact hPa
  have ok_7 : okW cs M_7 := by rw [eM_7]; exact ok_6.up trivial
  have lo_7 : ∀ q, q < r → M_7 q = M q := fun q hq => by rw [eM_7, mw_up_ne (by omega)]; exact lo_6 q hq
  have f_7_0 : M_7 (r) = some (.inr (6, [.ref (r + 1), .int 0, .ref (r + 2), .ref (r + 3), .null, .null, .null, .int 0, .null, .null, .null])) := by rw [eM_7, mw_up_ne (by omega)]; exact f_6_0
  have f_7_1 : M_7 (r + 1) = some (.inl (cs 2, 8, .inr (.inr (.inr (.inr (fun _ => none)))))) := by rw [eM_7, mw_up_ne (by omega)]; exact f_6_1
  have f_7_2 : M_7 (r + 2) = some (.inl (cs 3, 3, .inr (.inr (.inr (.inr (fun _ => none)))))) := by rw [eM_7, mw_up_ne (by omega)]; exact f_6_2
  have f_7_3 : M_7 (r + 3) = some (.inl (cs 3, 3, .inr (.inr (.inr (.inr (fun _ => none)))))) := by rw [eM_7, mw_up_ne (by omega)]; exact f_6_3
  have f_7_4 : M_7 (r + 4) = some (.inr (2, [.null, .int 0, .int 0])) := by rw [eM_7]; exact mw_up_self
  have hz : H.size = r + 5 := hz
  refine lv_dup hx hb d_FT_init_33 rfl ?_
  refine mi_callN (As := []) (rest := [.ref (r + 4), .ref r]) (n := 0) hx hb hml hown hts hK hN hA (c_Pf_init l D cs M_7 (r + 4) f_7_4 ok_7) tw_79 tw_80 tw_58 tw_81 (by decide +kernel) ⟨rfl, rfl, by decide, by decide, by decide, by decide⟩ hP_7 hS hz (fun q hq => by omega) rfl hl.1 rfl (Nat.le_of_ble_eq_true rfl) d_FT_init_34 (fun M_8 H locs hb_ hPa hS hz => ?_)
  have hP_8 := hPa
  have hk_8 := hb_.1
  have ok_8 : okW cs M_8 := hb_.2.1
  have lo_8 : ∀ q, q < r → M_8 q = M q := fun q hq => (hk_8 q (by omega)).trans (lo_7 q hq)
  have f_8_0 : M_8 (r) = some (.inr (6, [.ref (r + 1), .int 0, .ref (r + 2), .ref (r + 3), .null, .null, .null, .int 0, .null, .null, .null])) := (hk_8 _ (by omega)).trans f_7_0
  have f_8_1 : M_8 (r + 1) = some (.inl (cs 2, 8, .inr (.inr (.inr (.inr (fun _ => none)))))) := (hk_8 _ (by omega)).trans f_7_1
  have f_8_2 : M_8 (r + 2) = some (.inl (cs 3, 3, .inr (.inr (.inr (.inr (fun _ => none)))))) := (hk_8 _ (by omega)).trans f_7_2
  have f_8_3 : M_8 (r + 3) = some (.inl (cs 3, 3, .inr (.inr (.inr (.inr (fun _ => none)))))) := (hk_8 _ (by omega)).trans f_7_3
  have b_8_4 : blkPf M_8 cs (r + 4) := hb_.2.2
  have hz : H.size = r + 6 := hz
  refine mw_putF (D := D) (ci := 6) (v := .ref (r + 4)) (ty := .object "FallingTerms$Proof") (C := R_FT) (T := F_FT) (N := 11) hx hb hts in_FT t_FT t_FT_ok n_FT hown hK hP_8 hS f_8_0 (Nat.le_refl r) rfl 4 (by decide) (hts _ tw_214) (fun _ h9 => h9) rfl hin rfl (by decide +kernel) rfl rfl (Nat.le_of_ble_eq_true rfl) d_FT_init_37 (fun H locs hPa hS hzb => ?_)
  have hz : H.size = r + 6 := hzb.trans hz
  obtain ⟨M_9, eM_9⟩ : ∃ z : mw_M, z = mw_up M_8 (r) (.inr (6, [.ref (r + 1), .int 0, .ref (r + 2), .ref (r + 3), .ref (r + 4), .null, .null, .int 0, .null, .null, .null])) := ⟨_, rfl⟩
  have hP_9 : mw_P D vwC M_9 H := by rw [eM_9]; exact hPa
  have ok_9 : okW cs M_9 := by rw [eM_9]; exact ok_8.up trivial
  have lo_9 : ∀ q, q < r → M_9 q = M q := fun q hq => by rw [eM_9, mw_up_ne (by omega)]; exact lo_8 q hq
  have f_9_0 : M_9 (r) = some (.inr (6, [.ref (r + 1), .int 0, .ref (r + 2), .ref (r + 3), .ref (r + 4), .null, .null, .int 0, .null, .null, .null])) := by rw [eM_9]; exact mw_up_self
  have f_9_1 : M_9 (r + 1) = some (.inl (cs 2, 8, .inr (.inr (.inr (.inr (fun _ => none)))))) := by rw [eM_9, mw_up_ne (by omega)]; exact f_8_1
  have f_9_2 : M_9 (r + 2) = some (.inl (cs 3, 3, .inr (.inr (.inr (.inr (fun _ => none)))))) := by rw [eM_9, mw_up_ne (by omega)]; exact f_8_2
  have f_9_3 : M_9 (r + 3) = some (.inl (cs 3, 3, .inr (.inr (.inr (.inr (fun _ => none)))))) := by rw [eM_9, mw_up_ne (by omega)]; exact f_8_3
  have b_9_4 : blkPf M_9 cs (r + 4) := b_8_4.keep (fun q h1 h2 => by rw [eM_9, mw_up_ne (by omega)])
  refine lv_aload_n hx hb d_FT_init_40 rfl (lv_at hl 0 rfl) ?_
  refine mw_new (D := D) (C := R_Pf) (T := F_Pf) (N := 3) (ci := 2) (fs := [.null, .int 0, .int 0]) hx hb hts in_Pf t_Pf t_Pf_ok hown (hts _ tw_77) (hts _ tw_78) (hts _ tw_58) hK hP_9 hS rfl (fun j hj => by rcases (show j = 0 ∨ j = 1 ∨ j = 2 by omega) with rfl | rfl | rfl <;> rfl) (Nat.le_of_ble_eq_true rfl) (Nat.le_of_ble_eq_true rfl) hz d_FT_init_41 (fun H hPa hS hz => ?_)
  obtain ⟨M_10, eM_10⟩ : ∃ z : mw_M, z = mw_up M_9 (r + 6) (.inr (2, [.null, .int 0, .int 0])) := ⟨_, rfl⟩
  have hP_10 : mw_P D vwC M_10 H := by rw [eM_10]; exact hPa
  have ok_10 : okW cs M_10 := by rw [eM_10]; exact ok_9.up trivial
  have lo_10 : ∀ q, q < r → M_10 q = M q := fun q hq => by rw [eM_10, mw_up_ne (by omega)]; exact lo_9 q hq
  have f_10_0 : M_10 (r) = some (.inr (6, [.ref (r + 1), .int 0, .ref (r + 2), .ref (r + 3), .ref (r + 4), .null, .null, .int 0, .null, .null, .null])) := by rw [eM_10, mw_up_ne (by omega)]; exact f_9_0
  have f_10_1 : M_10 (r + 1) = some (.inl (cs 2, 8, .inr (.inr (.inr (.inr (fun _ => none)))))) := by rw [eM_10, mw_up_ne (by omega)]; exact f_9_1
  have f_10_2 : M_10 (r + 2) = some (.inl (cs 3, 3, .inr (.inr (.inr (.inr (fun _ => none)))))) := by rw [eM_10, mw_up_ne (by omega)]; exact f_9_2
  have f_10_3 : M_10 (r + 3) = some (.inl (cs 3, 3, .inr (.inr (.inr (.inr (fun _ => none)))))) := by rw [eM_10, mw_up_ne (by omega)]; exact f_9_3
  have f_10_6 : M_10 (r + 6) = some (.inr (2, [.null, .int 0, .int 0])) := by rw [eM_10]; exact mw_up_self
  have b_10_4 : blkPf M_10 cs (r + 4) := b_9_4.keep (fun q h1 h2 => by rw [eM_10, mw_up_ne (by omega)])
  have hz : H.size = r + 7 := hz
  refine lv_dup hx hb d_FT_init_44 rfl ?_
  refine mi_callN (As := []) (rest := [.ref (r + 6), .ref r]) (n := 0) hx hb hml hown hts hK hN hA (c_Pf_init l D cs M_10 (r + 6) f_10_6 ok_10) tw_79 tw_80 tw_58 tw_81 (by decide +kernel) ⟨rfl, rfl, by decide, by decide, by decide, by decide⟩ hP_10 hS hz (fun q hq => by omega) rfl hl.1 rfl (Nat.le_of_ble_eq_true rfl) d_FT_init_45 (fun M_11 H locs hb_ hPa hS hz => ?_)
  have hP_11 := hPa
  have hk_11 := hb_.1
  have ok_11 : okW cs M_11 := hb_.2.1
  have lo_11 : ∀ q, q < r → M_11 q = M q := fun q hq => (hk_11 q (by omega)).trans (lo_10 q hq)
  have f_11_0 : M_11 (r) = some (.inr (6, [.ref (r + 1), .int 0, .ref (r + 2), .ref (r + 3), .ref (r + 4), .null, .null, .int 0, .null, .null, .null])) := (hk_11 _ (by omega)).trans f_10_0
  have f_11_1 : M_11 (r + 1) = some (.inl (cs 2, 8, .inr (.inr (.inr (.inr (fun _ => none)))))) := (hk_11 _ (by omega)).trans f_10_1
  have f_11_2 : M_11 (r + 2) = some (.inl (cs 3, 3, .inr (.inr (.inr (.inr (fun _ => none)))))) := (hk_11 _ (by omega)).trans f_10_2
  have f_11_3 : M_11 (r + 3) = some (.inl (cs 3, 3, .inr (.inr (.inr (.inr (fun _ => none)))))) := (hk_11 _ (by omega)).trans f_10_3
  have b_11_4 : blkPf M_11 cs (r + 4) := b_10_4.keep (fun q h1 h2 => hk_11 q (by omega))
  have b_11_6 : blkPf M_11 cs (r + 6) := hb_.2.2
  have hz : H.size = r + 8 := hz
  refine mw_putF (D := D) (ci := 6) (v := .ref (r + 6)) (ty := .object "FallingTerms$Proof") (C := R_FT) (T := F_FT) (N := 11) hx hb hts in_FT t_FT t_FT_ok n_FT hown hK hP_11 hS f_11_0 (Nat.le_refl r) rfl 5 (by decide) (hts _ tw_215) (fun _ h9 => h9) rfl hin rfl (by decide +kernel) rfl rfl (Nat.le_of_ble_eq_true rfl) d_FT_init_48 (fun H locs hPa hS hzb => ?_)
  have hz : H.size = r + 8 := hzb.trans hz
  obtain ⟨M_12, eM_12⟩ : ∃ z : mw_M, z = mw_up M_11 (r) (.inr (6, [.ref (r + 1), .int 0, .ref (r + 2), .ref (r + 3), .ref (r + 4), .ref (r + 6), .null, .int 0, .null, .null, .null])) := ⟨_, rfl⟩
  have hP_12 : mw_P D vwC M_12 H := by rw [eM_12]; exact hPa
  have ok_12 : okW cs M_12 := by rw [eM_12]; exact ok_11.up trivial
  have lo_12 : ∀ q, q < r → M_12 q = M q := fun q hq => by rw [eM_12, mw_up_ne (by omega)]; exact lo_11 q hq
  have f_12_0 : M_12 (r) = some (.inr (6, [.ref (r + 1), .int 0, .ref (r + 2), .ref (r + 3), .ref (r + 4), .ref (r + 6), .null, .int 0, .null, .null, .null])) := by rw [eM_12]; exact mw_up_self
  have f_12_1 : M_12 (r + 1) = some (.inl (cs 2, 8, .inr (.inr (.inr (.inr (fun _ => none)))))) := by rw [eM_12, mw_up_ne (by omega)]; exact f_11_1
  have f_12_2 : M_12 (r + 2) = some (.inl (cs 3, 3, .inr (.inr (.inr (.inr (fun _ => none)))))) := by rw [eM_12, mw_up_ne (by omega)]; exact f_11_2
  have f_12_3 : M_12 (r + 3) = some (.inl (cs 3, 3, .inr (.inr (.inr (.inr (fun _ => none)))))) := by rw [eM_12, mw_up_ne (by omega)]; exact f_11_3
  have b_12_4 : blkPf M_12 cs (r + 4) := b_11_4.keep (fun q h1 h2 => by rw [eM_12, mw_up_ne (by omega)])
  have b_12_6 : blkPf M_12 cs (r + 6) := b_11_6.keep (fun q h1 h2 => by rw [eM_12, mw_up_ne (by omega)])
  refine lv_aload_n hx hb d_FT_init_51 rfl (lv_at hl 0 rfl) ?_
  refine lv_iconst (v := nI 4) hx hb d_FT_init_52 rfl ?_
  refine mw_newi hx hb (hts _ tw_96) hK 0 rfl hP_12 hS (by omega) (Nat.le_of_ble_eq_true rfl) (Nat.le_of_ble_eq_true rfl) hz d_FT_init_53 (fun H hPa hS hz => ?_)
  obtain ⟨M_13, eM_13⟩ : ∃ z : mw_M, z = mw_up M_12 (r + 8) (.inl (cs 0, 4, .inl (fun _ => 0))) := ⟨_, rfl⟩
  have hP_13 : mw_P D vwC M_13 H := by rw [eM_13]; exact hPa
  have ok_13 : okW cs M_13 := by rw [eM_13]; exact ok_12.up rfl
  have lo_13 : ∀ q, q < r → M_13 q = M q := fun q hq => by rw [eM_13, mw_up_ne (by omega)]; exact lo_12 q hq
  have f_13_0 : M_13 (r) = some (.inr (6, [.ref (r + 1), .int 0, .ref (r + 2), .ref (r + 3), .ref (r + 4), .ref (r + 6), .null, .int 0, .null, .null, .null])) := by rw [eM_13, mw_up_ne (by omega)]; exact f_12_0
  have f_13_1 : M_13 (r + 1) = some (.inl (cs 2, 8, .inr (.inr (.inr (.inr (fun _ => none)))))) := by rw [eM_13, mw_up_ne (by omega)]; exact f_12_1
  have f_13_2 : M_13 (r + 2) = some (.inl (cs 3, 3, .inr (.inr (.inr (.inr (fun _ => none)))))) := by rw [eM_13, mw_up_ne (by omega)]; exact f_12_2
  have f_13_3 : M_13 (r + 3) = some (.inl (cs 3, 3, .inr (.inr (.inr (.inr (fun _ => none)))))) := by rw [eM_13, mw_up_ne (by omega)]; exact f_12_3
  have f_13_8 : M_13 (r + 8) = some (.inl (cs 0, 4, .inl (fun _ => 0))) := by rw [eM_13]; exact mw_up_self
  have b_13_4 : blkPf M_13 cs (r + 4) := b_12_4.keep (fun q h1 h2 => by rw [eM_13, mw_up_ne (by omega)])
  have b_13_6 : blkPf M_13 cs (r + 6) := b_12_6.keep (fun q h1 h2 => by rw [eM_13, mw_up_ne (by omega)])
  have hz : H.size = r + 9 := hz
  refine mw_putF (D := D) (ci := 6) (v := .ref (r + 8)) (ty := .array (.int)) (C := R_FT) (T := F_FT) (N := 11) hx hb hts in_FT t_FT t_FT_ok n_FT hown hK hP_13 hS f_13_0 (Nat.le_refl r) rfl 6 (by decide) (hts _ tw_216) (fun _ h9 => h9) rfl hin rfl (by decide +kernel) rfl rfl (Nat.le_of_ble_eq_true rfl) d_FT_init_55 (fun H locs hPa hS hzb => ?_)
  have hz : H.size = r + 9 := hzb.trans hz
  obtain ⟨M_14, eM_14⟩ : ∃ z : mw_M, z = mw_up M_13 (r) (.inr (6, [.ref (r + 1), .int 0, .ref (r + 2), .ref (r + 3), .ref (r + 4), .ref (r + 6), .ref (r + 8), .int 0, .null, .null, .null])) := ⟨_, rfl⟩
  have hP_14 : mw_P D vwC M_14 H := by rw [eM_14]; exact hPa
  have ok_14 : okW cs M_14 := by rw [eM_14]; exact ok_13.up trivial
  have lo_14 : ∀ q, q < r → M_14 q = M q := fun q hq => by rw [eM_14, mw_up_ne (by omega)]; exact lo_13 q hq
  have f_14_0 : M_14 (r) = some (.inr (6, [.ref (r + 1), .int 0, .ref (r + 2), .ref (r + 3), .ref (r + 4), .ref (r + 6), .ref (r + 8), .int 0, .null, .null, .null])) := by rw [eM_14]; exact mw_up_self
  have f_14_1 : M_14 (r + 1) = some (.inl (cs 2, 8, .inr (.inr (.inr (.inr (fun _ => none)))))) := by rw [eM_14, mw_up_ne (by omega)]; exact f_13_1
  have f_14_2 : M_14 (r + 2) = some (.inl (cs 3, 3, .inr (.inr (.inr (.inr (fun _ => none)))))) := by rw [eM_14, mw_up_ne (by omega)]; exact f_13_2
  have f_14_3 : M_14 (r + 3) = some (.inl (cs 3, 3, .inr (.inr (.inr (.inr (fun _ => none)))))) := by rw [eM_14, mw_up_ne (by omega)]; exact f_13_3
  have f_14_8 : M_14 (r + 8) = some (.inl (cs 0, 4, .inl (fun _ => 0))) := by rw [eM_14, mw_up_ne (by omega)]; exact f_13_8
  have b_14_4 : blkPf M_14 cs (r + 4) := b_13_4.keep (fun q h1 h2 => by rw [eM_14, mw_up_ne (by omega)])
  have b_14_6 : blkPf M_14 cs (r + 6) := b_13_6.keep (fun q h1 h2 => by rw [eM_14, mw_up_ne (by omega)])
  refine lv_aload_n hx hb d_FT_init_58 rfl (lv_at hl 0 rfl) ?_
  refine lv_iconst (v := nI 3) hx hb d_FT_init_59 rfl ?_
  refine mw_newj hx hb (hts _ tw_126) hK 1 rfl hP_14 hS (by omega) (Nat.le_of_ble_eq_true rfl) (Nat.le_of_ble_eq_true rfl) hz d_FT_init_60 (fun H hPa hS hz => ?_)
  obtain ⟨M_15, eM_15⟩ : ∃ z : mw_M, z = mw_up M_14 (r + 9) (.inl (cs 1, 3, .inr (.inl (fun _ => 0)))) := ⟨_, rfl⟩
  have hP_15 : mw_P D vwC M_15 H := by rw [eM_15]; exact hPa
  have ok_15 : okW cs M_15 := by rw [eM_15]; exact ok_14.up rfl
  have lo_15 : ∀ q, q < r → M_15 q = M q := fun q hq => by rw [eM_15, mw_up_ne (by omega)]; exact lo_14 q hq
  have f_15_0 : M_15 (r) = some (.inr (6, [.ref (r + 1), .int 0, .ref (r + 2), .ref (r + 3), .ref (r + 4), .ref (r + 6), .ref (r + 8), .int 0, .null, .null, .null])) := by rw [eM_15, mw_up_ne (by omega)]; exact f_14_0
  have f_15_1 : M_15 (r + 1) = some (.inl (cs 2, 8, .inr (.inr (.inr (.inr (fun _ => none)))))) := by rw [eM_15, mw_up_ne (by omega)]; exact f_14_1
  have f_15_2 : M_15 (r + 2) = some (.inl (cs 3, 3, .inr (.inr (.inr (.inr (fun _ => none)))))) := by rw [eM_15, mw_up_ne (by omega)]; exact f_14_2
  have f_15_3 : M_15 (r + 3) = some (.inl (cs 3, 3, .inr (.inr (.inr (.inr (fun _ => none)))))) := by rw [eM_15, mw_up_ne (by omega)]; exact f_14_3
  have f_15_8 : M_15 (r + 8) = some (.inl (cs 0, 4, .inl (fun _ => 0))) := by rw [eM_15, mw_up_ne (by omega)]; exact f_14_8
  have f_15_9 : M_15 (r + 9) = some (.inl (cs 1, 3, .inr (.inl (fun _ => 0)))) := by rw [eM_15]; exact mw_up_self
  have b_15_4 : blkPf M_15 cs (r + 4) := b_14_4.keep (fun q h1 h2 => by rw [eM_15, mw_up_ne (by omega)])
  have b_15_6 : blkPf M_15 cs (r + 6) := b_14_6.keep (fun q h1 h2 => by rw [eM_15, mw_up_ne (by omega)])
  have hz : H.size = r + 10 := hz
  refine mw_putF (D := D) (ci := 6) (v := .ref (r + 9)) (ty := .array (.long)) (C := R_FT) (T := F_FT) (N := 11) hx hb hts in_FT t_FT t_FT_ok n_FT hown hK hP_15 hS f_15_0 (Nat.le_refl r) rfl 8 (by decide) (hts _ tw_218) (fun _ h9 => h9) rfl hin rfl (by decide +kernel) rfl rfl (Nat.le_of_ble_eq_true rfl) d_FT_init_62 (fun H locs hPa hS hzb => ?_)
  have hz : H.size = r + 10 := hzb.trans hz
  obtain ⟨M_16, eM_16⟩ : ∃ z : mw_M, z = mw_up M_15 (r) (.inr (6, [.ref (r + 1), .int 0, .ref (r + 2), .ref (r + 3), .ref (r + 4), .ref (r + 6), .ref (r + 8), .int 0, .ref (r + 9), .null, .null])) := ⟨_, rfl⟩
  have hP_16 : mw_P D vwC M_16 H := by rw [eM_16]; exact hPa
  have ok_16 : okW cs M_16 := by rw [eM_16]; exact ok_15.up trivial
  have lo_16 : ∀ q, q < r → M_16 q = M q := fun q hq => by rw [eM_16, mw_up_ne (by omega)]; exact lo_15 q hq
  have f_16_0 : M_16 (r) = some (.inr (6, [.ref (r + 1), .int 0, .ref (r + 2), .ref (r + 3), .ref (r + 4), .ref (r + 6), .ref (r + 8), .int 0, .ref (r + 9), .null, .null])) := by rw [eM_16]; exact mw_up_self
  have f_16_1 : M_16 (r + 1) = some (.inl (cs 2, 8, .inr (.inr (.inr (.inr (fun _ => none)))))) := by rw [eM_16, mw_up_ne (by omega)]; exact f_15_1
  have f_16_2 : M_16 (r + 2) = some (.inl (cs 3, 3, .inr (.inr (.inr (.inr (fun _ => none)))))) := by rw [eM_16, mw_up_ne (by omega)]; exact f_15_2
  have f_16_3 : M_16 (r + 3) = some (.inl (cs 3, 3, .inr (.inr (.inr (.inr (fun _ => none)))))) := by rw [eM_16, mw_up_ne (by omega)]; exact f_15_3
  have f_16_8 : M_16 (r + 8) = some (.inl (cs 0, 4, .inl (fun _ => 0))) := by rw [eM_16, mw_up_ne (by omega)]; exact f_15_8
  have f_16_9 : M_16 (r + 9) = some (.inl (cs 1, 3, .inr (.inl (fun _ => 0)))) := by rw [eM_16, mw_up_ne (by omega)]; exact f_15_9
  have b_16_4 : blkPf M_16 cs (r + 4) := b_15_4.keep (fun q h1 h2 => by rw [eM_16, mw_up_ne (by omega)])
  have b_16_6 : blkPf M_16 cs (r + 6) := b_15_6.keep (fun q h1 h2 => by rw [eM_16, mw_up_ne (by omega)])
  refine lv_aload_n hx hb d_FT_init_65 rfl (lv_at hl 0 rfl) ?_
  refine lv_iconst (v := nI 3) hx hb d_FT_init_66 rfl ?_
  refine mw_newj hx hb (hts _ tw_126) hK 1 rfl hP_16 hS (by omega) (Nat.le_of_ble_eq_true rfl) (Nat.le_of_ble_eq_true rfl) hz d_FT_init_67 (fun H hPa hS hz => ?_)
  obtain ⟨M_17, eM_17⟩ : ∃ z : mw_M, z = mw_up M_16 (r + 10) (.inl (cs 1, 3, .inr (.inl (fun _ => 0)))) := ⟨_, rfl⟩
  have hP_17 : mw_P D vwC M_17 H := by rw [eM_17]; exact hPa
  have ok_17 : okW cs M_17 := by rw [eM_17]; exact ok_16.up rfl
  have lo_17 : ∀ q, q < r → M_17 q = M q := fun q hq => by rw [eM_17, mw_up_ne (by omega)]; exact lo_16 q hq
  have f_17_0 : M_17 (r) = some (.inr (6, [.ref (r + 1), .int 0, .ref (r + 2), .ref (r + 3), .ref (r + 4), .ref (r + 6), .ref (r + 8), .int 0, .ref (r + 9), .null, .null])) := by rw [eM_17, mw_up_ne (by omega)]; exact f_16_0
  have f_17_1 : M_17 (r + 1) = some (.inl (cs 2, 8, .inr (.inr (.inr (.inr (fun _ => none)))))) := by rw [eM_17, mw_up_ne (by omega)]; exact f_16_1
  have f_17_2 : M_17 (r + 2) = some (.inl (cs 3, 3, .inr (.inr (.inr (.inr (fun _ => none)))))) := by rw [eM_17, mw_up_ne (by omega)]; exact f_16_2
  have f_17_3 : M_17 (r + 3) = some (.inl (cs 3, 3, .inr (.inr (.inr (.inr (fun _ => none)))))) := by rw [eM_17, mw_up_ne (by omega)]; exact f_16_3
  have f_17_8 : M_17 (r + 8) = some (.inl (cs 0, 4, .inl (fun _ => 0))) := by rw [eM_17, mw_up_ne (by omega)]; exact f_16_8
  have f_17_9 : M_17 (r + 9) = some (.inl (cs 1, 3, .inr (.inl (fun _ => 0)))) := by rw [eM_17, mw_up_ne (by omega)]; exact f_16_9
  have f_17_10 : M_17 (r + 10) = some (.inl (cs 1, 3, .inr (.inl (fun _ => 0)))) := by rw [eM_17]; exact mw_up_self
  have b_17_4 : blkPf M_17 cs (r + 4) := b_16_4.keep (fun q h1 h2 => by rw [eM_17, mw_up_ne (by omega)])
  have b_17_6 : blkPf M_17 cs (r + 6) := b_16_6.keep (fun q h1 h2 => by rw [eM_17, mw_up_ne (by omega)])
  have hz : H.size = r + 11 := hz
  refine mw_putF (D := D) (ci := 6) (v := .ref (r + 10)) (ty := .array (.long)) (C := R_FT) (T := F_FT) (N := 11) hx hb hts in_FT t_FT t_FT_ok n_FT hown hK hP_17 hS f_17_0 (Nat.le_refl r) rfl 9 (by decide) (hts _ tw_219) (fun _ h9 => h9) rfl hin rfl (by decide +kernel) rfl rfl (Nat.le_of_ble_eq_true rfl) d_FT_init_69 (fun H locs hPa hS hzb => ?_)
  have hz : H.size = r + 11 := hzb.trans hz
  obtain ⟨M_18, eM_18⟩ : ∃ z : mw_M, z = mw_up M_17 (r) (.inr (6, [.ref (r + 1), .int 0, .ref (r + 2), .ref (r + 3), .ref (r + 4), .ref (r + 6), .ref (r + 8), .int 0, .ref (r + 9), .ref (r + 10), .null])) := ⟨_, rfl⟩
  have hP_18 : mw_P D vwC M_18 H := by rw [eM_18]; exact hPa
  have ok_18 : okW cs M_18 := by rw [eM_18]; exact ok_17.up trivial
  have lo_18 : ∀ q, q < r → M_18 q = M q := fun q hq => by rw [eM_18, mw_up_ne (by omega)]; exact lo_17 q hq
  have f_18_0 : M_18 (r) = some (.inr (6, [.ref (r + 1), .int 0, .ref (r + 2), .ref (r + 3), .ref (r + 4), .ref (r + 6), .ref (r + 8), .int 0, .ref (r + 9), .ref (r + 10), .null])) := by rw [eM_18]; exact mw_up_self
  have f_18_1 : M_18 (r + 1) = some (.inl (cs 2, 8, .inr (.inr (.inr (.inr (fun _ => none)))))) := by rw [eM_18, mw_up_ne (by omega)]; exact f_17_1
  have f_18_2 : M_18 (r + 2) = some (.inl (cs 3, 3, .inr (.inr (.inr (.inr (fun _ => none)))))) := by rw [eM_18, mw_up_ne (by omega)]; exact f_17_2
  have f_18_3 : M_18 (r + 3) = some (.inl (cs 3, 3, .inr (.inr (.inr (.inr (fun _ => none)))))) := by rw [eM_18, mw_up_ne (by omega)]; exact f_17_3
  have f_18_8 : M_18 (r + 8) = some (.inl (cs 0, 4, .inl (fun _ => 0))) := by rw [eM_18, mw_up_ne (by omega)]; exact f_17_8
  have f_18_9 : M_18 (r + 9) = some (.inl (cs 1, 3, .inr (.inl (fun _ => 0)))) := by rw [eM_18, mw_up_ne (by omega)]; exact f_17_9
  have f_18_10 : M_18 (r + 10) = some (.inl (cs 1, 3, .inr (.inl (fun _ => 0)))) := by rw [eM_18, mw_up_ne (by omega)]; exact f_17_10
  have b_18_4 : blkPf M_18 cs (r + 4) := b_17_4.keep (fun q h1 h2 => by rw [eM_18, mw_up_ne (by omega)])
  have b_18_6 : blkPf M_18 cs (r + 6) := b_17_6.keep (fun q h1 h2 => by rw [eM_18, mw_up_ne (by omega)])
  refine lv_aload_n hx hb d_FT_init_72 rfl (lv_at hl 0 rfl) ?_
  refine lv_iconst (v := nI 3) hx hb d_FT_init_73 rfl ?_
  refine mw_newj hx hb (hts _ tw_126) hK 1 rfl hP_18 hS (by omega) (Nat.le_of_ble_eq_true rfl) (Nat.le_of_ble_eq_true rfl) hz d_FT_init_74 (fun H hPa hS hz => ?_)
  obtain ⟨M_19, eM_19⟩ : ∃ z : mw_M, z = mw_up M_18 (r + 11) (.inl (cs 1, 3, .inr (.inl (fun _ => 0)))) := ⟨_, rfl⟩
  have hP_19 : mw_P D vwC M_19 H := by rw [eM_19]; exact hPa
  have ok_19 : okW cs M_19 := by rw [eM_19]; exact ok_18.up rfl
  have lo_19 : ∀ q, q < r → M_19 q = M q := fun q hq => by rw [eM_19, mw_up_ne (by omega)]; exact lo_18 q hq
  have f_19_0 : M_19 (r) = some (.inr (6, [.ref (r + 1), .int 0, .ref (r + 2), .ref (r + 3), .ref (r + 4), .ref (r + 6), .ref (r + 8), .int 0, .ref (r + 9), .ref (r + 10), .null])) := by rw [eM_19, mw_up_ne (by omega)]; exact f_18_0
  have f_19_1 : M_19 (r + 1) = some (.inl (cs 2, 8, .inr (.inr (.inr (.inr (fun _ => none)))))) := by rw [eM_19, mw_up_ne (by omega)]; exact f_18_1
  have f_19_2 : M_19 (r + 2) = some (.inl (cs 3, 3, .inr (.inr (.inr (.inr (fun _ => none)))))) := by rw [eM_19, mw_up_ne (by omega)]; exact f_18_2
  have f_19_3 : M_19 (r + 3) = some (.inl (cs 3, 3, .inr (.inr (.inr (.inr (fun _ => none)))))) := by rw [eM_19, mw_up_ne (by omega)]; exact f_18_3
  have f_19_8 : M_19 (r + 8) = some (.inl (cs 0, 4, .inl (fun _ => 0))) := by rw [eM_19, mw_up_ne (by omega)]; exact f_18_8
  have f_19_9 : M_19 (r + 9) = some (.inl (cs 1, 3, .inr (.inl (fun _ => 0)))) := by rw [eM_19, mw_up_ne (by omega)]; exact f_18_9
  have f_19_10 : M_19 (r + 10) = some (.inl (cs 1, 3, .inr (.inl (fun _ => 0)))) := by rw [eM_19, mw_up_ne (by omega)]; exact f_18_10
  have f_19_11 : M_19 (r + 11) = some (.inl (cs 1, 3, .inr (.inl (fun _ => 0)))) := by rw [eM_19]; exact mw_up_self
  have b_19_4 : blkPf M_19 cs (r + 4) := b_18_4.keep (fun q h1 h2 => by rw [eM_19, mw_up_ne (by omega)])
  have b_19_6 : blkPf M_19 cs (r + 6) := b_18_6.keep (fun q h1 h2 => by rw [eM_19, mw_up_ne (by omega)])
  have hz : H.size = r + 12 := hz
  refine mw_putF (D := D) (ci := 6) (v := .ref (r + 11)) (ty := .array (.long)) (C := R_FT) (T := F_FT) (N := 11) hx hb hts in_FT t_FT t_FT_ok n_FT hown hK hP_19 hS f_19_0 (Nat.le_refl r) rfl 10 (by decide) (hts _ tw_220) (fun _ h9 => h9) rfl hin rfl (by decide +kernel) rfl rfl (Nat.le_of_ble_eq_true rfl) d_FT_init_76 (fun H locs hPa hS hzb => ?_)
  have hz : H.size = r + 12 := hzb.trans hz
  obtain ⟨M_20, eM_20⟩ : ∃ z : mw_M, z = mw_up M_19 (r) (.inr (6, [.ref (r + 1), .int 0, .ref (r + 2), .ref (r + 3), .ref (r + 4), .ref (r + 6), .ref (r + 8), .int 0, .ref (r + 9), .ref (r + 10), .ref (r + 11)])) := ⟨_, rfl⟩
  have hP_20 : mw_P D vwC M_20 H := by rw [eM_20]; exact hPa
  have ok_20 : okW cs M_20 := by rw [eM_20]; exact ok_19.up trivial
  have lo_20 : ∀ q, q < r → M_20 q = M q := fun q hq => by rw [eM_20, mw_up_ne (by omega)]; exact lo_19 q hq
  have f_20_0 : M_20 (r) = some (.inr (6, [.ref (r + 1), .int 0, .ref (r + 2), .ref (r + 3), .ref (r + 4), .ref (r + 6), .ref (r + 8), .int 0, .ref (r + 9), .ref (r + 10), .ref (r + 11)])) := by rw [eM_20]; exact mw_up_self
  have f_20_1 : M_20 (r + 1) = some (.inl (cs 2, 8, .inr (.inr (.inr (.inr (fun _ => none)))))) := by rw [eM_20, mw_up_ne (by omega)]; exact f_19_1
  have f_20_2 : M_20 (r + 2) = some (.inl (cs 3, 3, .inr (.inr (.inr (.inr (fun _ => none)))))) := by rw [eM_20, mw_up_ne (by omega)]; exact f_19_2
  have f_20_3 : M_20 (r + 3) = some (.inl (cs 3, 3, .inr (.inr (.inr (.inr (fun _ => none)))))) := by rw [eM_20, mw_up_ne (by omega)]; exact f_19_3
  have f_20_8 : M_20 (r + 8) = some (.inl (cs 0, 4, .inl (fun _ => 0))) := by rw [eM_20, mw_up_ne (by omega)]; exact f_19_8
  have f_20_9 : M_20 (r + 9) = some (.inl (cs 1, 3, .inr (.inl (fun _ => 0)))) := by rw [eM_20, mw_up_ne (by omega)]; exact f_19_9
  have f_20_10 : M_20 (r + 10) = some (.inl (cs 1, 3, .inr (.inl (fun _ => 0)))) := by rw [eM_20, mw_up_ne (by omega)]; exact f_19_10
  have f_20_11 : M_20 (r + 11) = some (.inl (cs 1, 3, .inr (.inl (fun _ => 0)))) := by rw [eM_20, mw_up_ne (by omega)]; exact f_19_11
  have b_20_4 : blkPf M_20 cs (r + 4) := b_19_4.keep (fun q h1 h2 => by rw [eM_20, mw_up_ne (by omega)])
  have b_20_6 : blkPf M_20 cs (r + 6) := b_19_6.keep (fun q h1 h2 => by rw [eM_20, mw_up_ne (by omega)])
  refine lv_iconst (v := nI 0) hx hb d_FT_init_79 rfl ?_
  refine lv_istore_n (lv' := [(1, .int (nI 0)), (0, .ref r)]) hx hb d_FT_init_80 rfl hl (by decide) rfl (fun ls hl => ?_)
  refine lv_iload_n hx hb d_FT_init_81 rfl (lv_at hl 0 rfl) ?_
  refine lv_bipush (v := nI 8) hx hb d_FT_init_82 rfl ?_
  refine lv_icmp_ge (tgt := 106) hx hb d_FT_init_84 (by decide) (fun c_ => absurd c_ (by decide)) (fun c_ => ?_)
  refine lv_aload_n hx hb d_FT_init_87 rfl (lv_at hl 1 rfl) ?_
  refine mw_get (D := D) (C := R_FT) (T := F_FT) (N := 11) hx hb hts in_FT hown hK hP_20 f_20_0 rfl 0 (by decide) (hts _ tw_210) (fun _ h9 => h9) rfl d_FT_init_88 ?_
  refine lv_iload_n hx hb d_FT_init_91 rfl (lv_at hl 0 rfl) ?_
  refine mw_new (D := D) (C := R_Lp) (T := F_Lp) (N := 6) (ci := 1) (fs := [.int 0, .null, .null, .int 0, .null, .null]) hx hb hts in_Lp t_Lp t_Lp_ok hown (hts _ tw_73) (hts _ tw_97) (hts _ tw_59) hK hP_20 hS rfl (fun j hj => by rcases (show j = 0 ∨ j = 1 ∨ j = 2 ∨ j = 3 ∨ j = 4 ∨ j = 5 by omega) with rfl | rfl | rfl | rfl | rfl | rfl <;> rfl) (Nat.le_of_ble_eq_true rfl) (Nat.le_of_ble_eq_true rfl) hz d_FT_init_92 (fun H hPa hS hz => ?_)
  obtain ⟨M_21, eM_21⟩ : ∃ z : mw_M, z = mw_up M_20 (r + 12) (.inr (1, [.int 0, .null, .null, .int 0, .null, .null])) := ⟨_, rfl⟩
  have hP_21 : mw_P D vwC M_21 H := by rw [eM_21]; exact hPa
  have ok_21 : okW cs M_21 := by rw [eM_21]; exact ok_20.up trivial
  have lo_21 : ∀ q, q < r → M_21 q = M q := fun q hq => by rw [eM_21, mw_up_ne (by omega)]; exact lo_20 q hq
  have f_21_0 : M_21 (r) = some (.inr (6, [.ref (r + 1), .int 0, .ref (r + 2), .ref (r + 3), .ref (r + 4), .ref (r + 6), .ref (r + 8), .int 0, .ref (r + 9), .ref (r + 10), .ref (r + 11)])) := by rw [eM_21, mw_up_ne (by omega)]; exact f_20_0
  have f_21_1 : M_21 (r + 1) = some (.inl (cs 2, 8, .inr (.inr (.inr (.inr (fun _ => none)))))) := by rw [eM_21, mw_up_ne (by omega)]; exact f_20_1
  have f_21_2 : M_21 (r + 2) = some (.inl (cs 3, 3, .inr (.inr (.inr (.inr (fun _ => none)))))) := by rw [eM_21, mw_up_ne (by omega)]; exact f_20_2
  have f_21_3 : M_21 (r + 3) = some (.inl (cs 3, 3, .inr (.inr (.inr (.inr (fun _ => none)))))) := by rw [eM_21, mw_up_ne (by omega)]; exact f_20_3
  have f_21_8 : M_21 (r + 8) = some (.inl (cs 0, 4, .inl (fun _ => 0))) := by rw [eM_21, mw_up_ne (by omega)]; exact f_20_8
  have f_21_9 : M_21 (r + 9) = some (.inl (cs 1, 3, .inr (.inl (fun _ => 0)))) := by rw [eM_21, mw_up_ne (by omega)]; exact f_20_9
  have f_21_10 : M_21 (r + 10) = some (.inl (cs 1, 3, .inr (.inl (fun _ => 0)))) := by rw [eM_21, mw_up_ne (by omega)]; exact f_20_10
  have f_21_11 : M_21 (r + 11) = some (.inl (cs 1, 3, .inr (.inl (fun _ => 0)))) := by rw [eM_21, mw_up_ne (by omega)]; exact f_20_11
  have f_21_12 : M_21 (r + 12) = some (.inr (1, [.int 0, .null, .null, .int 0, .null, .null])) := by rw [eM_21]; exact mw_up_self
  have b_21_4 : blkPf M_21 cs (r + 4) := b_20_4.keep (fun q h1 h2 => by rw [eM_21, mw_up_ne (by omega)])
  have b_21_6 : blkPf M_21 cs (r + 6) := b_20_6.keep (fun q h1 h2 => by rw [eM_21, mw_up_ne (by omega)])
  have hz : H.size = r + 13 := hz
  refine lv_dup hx hb d_FT_init_95 rfl ?_
  refine mi_callI (As := []) (rest := [.ref (r + 12), .int (nI 0), .ref (r + 1)]) (n := 0) hx hb hml hown hts hK hN hA (c_Lp_init l D cs M_21 (r + 12) f_21_12 ok_21) tw_98 tw_99 tw_59 tw_100 (by decide +kernel) ⟨rfl, rfl, by decide, by decide, by decide, by decide⟩ hP_21 hS hz (fun q hq => by omega) rfl hl.1 rfl (Nat.le_of_ble_eq_true rfl) d_FT_init_96 (fun M_22 H locs hb_ hPa hS hz => ?_)
  have hP_22 := hPa
  have hk_22 := hb_.1
  have ok_22 : okW cs M_22 := hb_.2.1
  have lo_22 : ∀ q, q < r → M_22 q = M q := fun q hq => (hk_22 q (by omega)).trans (lo_21 q hq)
  have f_22_0 : M_22 (r) = some (.inr (6, [.ref (r + 1), .int 0, .ref (r + 2), .ref (r + 3), .ref (r + 4), .ref (r + 6), .ref (r + 8), .int 0, .ref (r + 9), .ref (r + 10), .ref (r + 11)])) := (hk_22 _ (by omega)).trans f_21_0
  have f_22_1 : M_22 (r + 1) = some (.inl (cs 2, 8, .inr (.inr (.inr (.inr (fun _ => none)))))) := (hk_22 _ (by omega)).trans f_21_1
  have f_22_2 : M_22 (r + 2) = some (.inl (cs 3, 3, .inr (.inr (.inr (.inr (fun _ => none)))))) := (hk_22 _ (by omega)).trans f_21_2
  have f_22_3 : M_22 (r + 3) = some (.inl (cs 3, 3, .inr (.inr (.inr (.inr (fun _ => none)))))) := (hk_22 _ (by omega)).trans f_21_3
  have f_22_8 : M_22 (r + 8) = some (.inl (cs 0, 4, .inl (fun _ => 0))) := (hk_22 _ (by omega)).trans f_21_8
  have f_22_9 : M_22 (r + 9) = some (.inl (cs 1, 3, .inr (.inl (fun _ => 0)))) := (hk_22 _ (by omega)).trans f_21_9
  have f_22_10 : M_22 (r + 10) = some (.inl (cs 1, 3, .inr (.inl (fun _ => 0)))) := (hk_22 _ (by omega)).trans f_21_10
  have f_22_11 : M_22 (r + 11) = some (.inl (cs 1, 3, .inr (.inl (fun _ => 0)))) := (hk_22 _ (by omega)).trans f_21_11
  have b_22_4 : blkPf M_22 cs (r + 4) := b_21_4.keep (fun q h1 h2 => hk_22 q (by omega))
  have b_22_6 : blkPf M_22 cs (r + 6) := b_21_6.keep (fun q h1 h2 => hk_22 q (by omega))
  have b_22_12 : blkLp M_22 cs (r + 12) := hb_.2.2
  have hz : H.size = r + 33 := hz
  refine mw_astq hx hb hK hP_22 hS 2 1 f_22_1 (by omega) rfl b_22_12.1 rfl (vp_in_nI (by omega) (by omega)) d_FT_init_99 (fun H locs hPa hS hzb => ?_)
  have hz : H.size = r + 33 := hzb.trans hz
  rw [show (nI 0).toNatClampNeg = 0 from rfl] at hPa
  obtain ⟨M_23, eM_23⟩ : ∃ z : mw_M, z = mw_up M_22 (r + 1) (.inl (cs 2, 8, .inr (.inr (.inr (.inr (va_up (fun _ => none) 0 (some (r + 12)))))))) := ⟨_, rfl⟩
  have hP_23 : mw_P D vwC M_23 H := by rw [eM_23]; exact hPa
  have ok_23 : okW cs M_23 := by rw [eM_23]; exact ok_22.up trivial
  have lo_23 : ∀ q, q < r → M_23 q = M q := fun q hq => by rw [eM_23, mw_up_ne (by omega)]; exact lo_22 q hq
  have f_23_0 : M_23 (r) = some (.inr (6, [.ref (r + 1), .int 0, .ref (r + 2), .ref (r + 3), .ref (r + 4), .ref (r + 6), .ref (r + 8), .int 0, .ref (r + 9), .ref (r + 10), .ref (r + 11)])) := by rw [eM_23, mw_up_ne (by omega)]; exact f_22_0
  have f_23_1 : M_23 (r + 1) = some (.inl (cs 2, 8, .inr (.inr (.inr (.inr (va_up (fun _ => none) 0 (some (r + 12)))))))) := by rw [eM_23]; exact mw_up_self
  have f_23_2 : M_23 (r + 2) = some (.inl (cs 3, 3, .inr (.inr (.inr (.inr (fun _ => none)))))) := by rw [eM_23, mw_up_ne (by omega)]; exact f_22_2
  have f_23_3 : M_23 (r + 3) = some (.inl (cs 3, 3, .inr (.inr (.inr (.inr (fun _ => none)))))) := by rw [eM_23, mw_up_ne (by omega)]; exact f_22_3
  have f_23_8 : M_23 (r + 8) = some (.inl (cs 0, 4, .inl (fun _ => 0))) := by rw [eM_23, mw_up_ne (by omega)]; exact f_22_8
  have f_23_9 : M_23 (r + 9) = some (.inl (cs 1, 3, .inr (.inl (fun _ => 0)))) := by rw [eM_23, mw_up_ne (by omega)]; exact f_22_9
  have f_23_10 : M_23 (r + 10) = some (.inl (cs 1, 3, .inr (.inl (fun _ => 0)))) := by rw [eM_23, mw_up_ne (by omega)]; exact f_22_10
  have f_23_11 : M_23 (r + 11) = some (.inl (cs 1, 3, .inr (.inl (fun _ => 0)))) := by rw [eM_23, mw_up_ne (by omega)]; exact f_22_11
  have b_23_4 : blkPf M_23 cs (r + 4) := b_22_4.keep (fun q h1 h2 => by rw [eM_23, mw_up_ne (by omega)])
  have b_23_6 : blkPf M_23 cs (r + 6) := b_22_6.keep (fun q h1 h2 => by rw [eM_23, mw_up_ne (by omega)])
  have b_23_12 : blkLp M_23 cs (r + 12) := b_22_12.keep (fun q h1 h2 => by rw [eM_23, mw_up_ne (by omega)])
  refine lv_iinc (v := nI 1) (lv' := [(1, .int (nI 1)), (0, .ref r)]) hx hb d_FT_init_100 hl (k := 0) rfl (gm_inc 0 1) (by decide) rfl (fun ls hl => ?_)
  refine lv_goto (tgt := 81) hx hb d_FT_init_103 (by decide) ?_
  refine lv_iload_n hx hb d_FT_init_81 rfl (lv_at hl 0 rfl) ?_
  refine lv_bipush (v := nI 8) hx hb d_FT_init_82 rfl ?_
  refine lv_icmp_ge (tgt := 106) hx hb d_FT_init_84 (by decide) (fun c_ => absurd c_ (by decide)) (fun c_ => ?_)
  refine lv_aload_n hx hb d_FT_init_87 rfl (lv_at hl 1 rfl) ?_
  refine mw_get (D := D) (C := R_FT) (T := F_FT) (N := 11) hx hb hts in_FT hown hK hP_23 f_23_0 rfl 0 (by decide) (hts _ tw_210) (fun _ h9 => h9) rfl d_FT_init_88 ?_
  refine lv_iload_n hx hb d_FT_init_91 rfl (lv_at hl 0 rfl) ?_
  refine mw_new (D := D) (C := R_Lp) (T := F_Lp) (N := 6) (ci := 1) (fs := [.int 0, .null, .null, .int 0, .null, .null]) hx hb hts in_Lp t_Lp t_Lp_ok hown (hts _ tw_73) (hts _ tw_97) (hts _ tw_59) hK hP_23 hS rfl (fun j hj => by rcases (show j = 0 ∨ j = 1 ∨ j = 2 ∨ j = 3 ∨ j = 4 ∨ j = 5 by omega) with rfl | rfl | rfl | rfl | rfl | rfl <;> rfl) (Nat.le_of_ble_eq_true rfl) (Nat.le_of_ble_eq_true rfl) hz d_FT_init_92 (fun H hPa hS hz => ?_)
  obtain ⟨M_24, eM_24⟩ : ∃ z : mw_M, z = mw_up M_23 (r + 33) (.inr (1, [.int 0, .null, .null, .int 0, .null, .null])) := ⟨_, rfl⟩
  have hP_24 : mw_P D vwC M_24 H := by rw [eM_24]; exact hPa
  have ok_24 : okW cs M_24 := by rw [eM_24]; exact ok_23.up trivial
  have lo_24 : ∀ q, q < r → M_24 q = M q := fun q hq => by rw [eM_24, mw_up_ne (by omega)]; exact lo_23 q hq
  have f_24_0 : M_24 (r) = some (.inr (6, [.ref (r + 1), .int 0, .ref (r + 2), .ref (r + 3), .ref (r + 4), .ref (r + 6), .ref (r + 8), .int 0, .ref (r + 9), .ref (r + 10), .ref (r + 11)])) := by rw [eM_24, mw_up_ne (by omega)]; exact f_23_0
  have f_24_1 : M_24 (r + 1) = some (.inl (cs 2, 8, .inr (.inr (.inr (.inr (va_up (fun _ => none) 0 (some (r + 12)))))))) := by rw [eM_24, mw_up_ne (by omega)]; exact f_23_1
  have f_24_2 : M_24 (r + 2) = some (.inl (cs 3, 3, .inr (.inr (.inr (.inr (fun _ => none)))))) := by rw [eM_24, mw_up_ne (by omega)]; exact f_23_2
  have f_24_3 : M_24 (r + 3) = some (.inl (cs 3, 3, .inr (.inr (.inr (.inr (fun _ => none)))))) := by rw [eM_24, mw_up_ne (by omega)]; exact f_23_3
  have f_24_8 : M_24 (r + 8) = some (.inl (cs 0, 4, .inl (fun _ => 0))) := by rw [eM_24, mw_up_ne (by omega)]; exact f_23_8
  have f_24_9 : M_24 (r + 9) = some (.inl (cs 1, 3, .inr (.inl (fun _ => 0)))) := by rw [eM_24, mw_up_ne (by omega)]; exact f_23_9
  have f_24_10 : M_24 (r + 10) = some (.inl (cs 1, 3, .inr (.inl (fun _ => 0)))) := by rw [eM_24, mw_up_ne (by omega)]; exact f_23_10
  have f_24_11 : M_24 (r + 11) = some (.inl (cs 1, 3, .inr (.inl (fun _ => 0)))) := by rw [eM_24, mw_up_ne (by omega)]; exact f_23_11
  have f_24_33 : M_24 (r + 33) = some (.inr (1, [.int 0, .null, .null, .int 0, .null, .null])) := by rw [eM_24]; exact mw_up_self
  have b_24_4 : blkPf M_24 cs (r + 4) := b_23_4.keep (fun q h1 h2 => by rw [eM_24, mw_up_ne (by omega)])
  have b_24_6 : blkPf M_24 cs (r + 6) := b_23_6.keep (fun q h1 h2 => by rw [eM_24, mw_up_ne (by omega)])
  have b_24_12 : blkLp M_24 cs (r + 12) := b_23_12.keep (fun q h1 h2 => by rw [eM_24, mw_up_ne (by omega)])
  have hz : H.size = r + 34 := hz
  refine lv_dup hx hb d_FT_init_95 rfl ?_
  refine mi_callI (As := []) (rest := [.ref (r + 33), .int (nI 1), .ref (r + 1)]) (n := 0) hx hb hml hown hts hK hN hA (c_Lp_init l D cs M_24 (r + 33) f_24_33 ok_24) tw_98 tw_99 tw_59 tw_100 (by decide +kernel) ⟨rfl, rfl, by decide, by decide, by decide, by decide⟩ hP_24 hS hz (fun q hq => by omega) rfl hl.1 rfl (Nat.le_of_ble_eq_true rfl) d_FT_init_96 (fun M_25 H locs hb_ hPa hS hz => ?_)
  have hP_25 := hPa
  have hk_25 := hb_.1
  have ok_25 : okW cs M_25 := hb_.2.1
  have lo_25 : ∀ q, q < r → M_25 q = M q := fun q hq => (hk_25 q (by omega)).trans (lo_24 q hq)
  have f_25_0 : M_25 (r) = some (.inr (6, [.ref (r + 1), .int 0, .ref (r + 2), .ref (r + 3), .ref (r + 4), .ref (r + 6), .ref (r + 8), .int 0, .ref (r + 9), .ref (r + 10), .ref (r + 11)])) := (hk_25 _ (by omega)).trans f_24_0
  have f_25_1 : M_25 (r + 1) = some (.inl (cs 2, 8, .inr (.inr (.inr (.inr (va_up (fun _ => none) 0 (some (r + 12)))))))) := (hk_25 _ (by omega)).trans f_24_1
  have f_25_2 : M_25 (r + 2) = some (.inl (cs 3, 3, .inr (.inr (.inr (.inr (fun _ => none)))))) := (hk_25 _ (by omega)).trans f_24_2
  have f_25_3 : M_25 (r + 3) = some (.inl (cs 3, 3, .inr (.inr (.inr (.inr (fun _ => none)))))) := (hk_25 _ (by omega)).trans f_24_3
  have f_25_8 : M_25 (r + 8) = some (.inl (cs 0, 4, .inl (fun _ => 0))) := (hk_25 _ (by omega)).trans f_24_8
  have f_25_9 : M_25 (r + 9) = some (.inl (cs 1, 3, .inr (.inl (fun _ => 0)))) := (hk_25 _ (by omega)).trans f_24_9
  have f_25_10 : M_25 (r + 10) = some (.inl (cs 1, 3, .inr (.inl (fun _ => 0)))) := (hk_25 _ (by omega)).trans f_24_10
  have f_25_11 : M_25 (r + 11) = some (.inl (cs 1, 3, .inr (.inl (fun _ => 0)))) := (hk_25 _ (by omega)).trans f_24_11
  have b_25_4 : blkPf M_25 cs (r + 4) := b_24_4.keep (fun q h1 h2 => hk_25 q (by omega))
  have b_25_6 : blkPf M_25 cs (r + 6) := b_24_6.keep (fun q h1 h2 => hk_25 q (by omega))
  have b_25_12 : blkLp M_25 cs (r + 12) := b_24_12.keep (fun q h1 h2 => hk_25 q (by omega))
  have b_25_33 : blkLp M_25 cs (r + 33) := hb_.2.2
  have hz : H.size = r + 54 := hz
  refine mw_astq hx hb hK hP_25 hS 2 1 f_25_1 (by omega) rfl b_25_33.1 rfl (vp_in_nI (by omega) (by omega)) d_FT_init_99 (fun H locs hPa hS hzb => ?_)
  have hz : H.size = r + 54 := hzb.trans hz
  rw [show (nI 1).toNatClampNeg = 1 from rfl] at hPa
  obtain ⟨M_26, eM_26⟩ : ∃ z : mw_M, z = mw_up M_25 (r + 1) (.inl (cs 2, 8, .inr (.inr (.inr (.inr (va_up (va_up (fun _ => none) 0 (some (r + 12))) 1 (some (r + 33)))))))) := ⟨_, rfl⟩
  have hP_26 : mw_P D vwC M_26 H := by rw [eM_26]; exact hPa
  have ok_26 : okW cs M_26 := by rw [eM_26]; exact ok_25.up trivial
  have lo_26 : ∀ q, q < r → M_26 q = M q := fun q hq => by rw [eM_26, mw_up_ne (by omega)]; exact lo_25 q hq
  have f_26_0 : M_26 (r) = some (.inr (6, [.ref (r + 1), .int 0, .ref (r + 2), .ref (r + 3), .ref (r + 4), .ref (r + 6), .ref (r + 8), .int 0, .ref (r + 9), .ref (r + 10), .ref (r + 11)])) := by rw [eM_26, mw_up_ne (by omega)]; exact f_25_0
  have f_26_1 : M_26 (r + 1) = some (.inl (cs 2, 8, .inr (.inr (.inr (.inr (va_up (va_up (fun _ => none) 0 (some (r + 12))) 1 (some (r + 33)))))))) := by rw [eM_26]; exact mw_up_self
  have f_26_2 : M_26 (r + 2) = some (.inl (cs 3, 3, .inr (.inr (.inr (.inr (fun _ => none)))))) := by rw [eM_26, mw_up_ne (by omega)]; exact f_25_2
  have f_26_3 : M_26 (r + 3) = some (.inl (cs 3, 3, .inr (.inr (.inr (.inr (fun _ => none)))))) := by rw [eM_26, mw_up_ne (by omega)]; exact f_25_3
  have f_26_8 : M_26 (r + 8) = some (.inl (cs 0, 4, .inl (fun _ => 0))) := by rw [eM_26, mw_up_ne (by omega)]; exact f_25_8
  have f_26_9 : M_26 (r + 9) = some (.inl (cs 1, 3, .inr (.inl (fun _ => 0)))) := by rw [eM_26, mw_up_ne (by omega)]; exact f_25_9
  have f_26_10 : M_26 (r + 10) = some (.inl (cs 1, 3, .inr (.inl (fun _ => 0)))) := by rw [eM_26, mw_up_ne (by omega)]; exact f_25_10
  have f_26_11 : M_26 (r + 11) = some (.inl (cs 1, 3, .inr (.inl (fun _ => 0)))) := by rw [eM_26, mw_up_ne (by omega)]; exact f_25_11
  have b_26_4 : blkPf M_26 cs (r + 4) := b_25_4.keep (fun q h1 h2 => by rw [eM_26, mw_up_ne (by omega)])
  have b_26_6 : blkPf M_26 cs (r + 6) := b_25_6.keep (fun q h1 h2 => by rw [eM_26, mw_up_ne (by omega)])
  have b_26_12 : blkLp M_26 cs (r + 12) := b_25_12.keep (fun q h1 h2 => by rw [eM_26, mw_up_ne (by omega)])
  have b_26_33 : blkLp M_26 cs (r + 33) := b_25_33.keep (fun q h1 h2 => by rw [eM_26, mw_up_ne (by omega)])
  refine lv_iinc (v := nI 2) (lv' := [(1, .int (nI 2)), (0, .ref r)]) hx hb d_FT_init_100 hl (k := 0) rfl (gm_inc 1 1) (by decide) rfl (fun ls hl => ?_)
  refine lv_goto (tgt := 81) hx hb d_FT_init_103 (by decide) ?_
  refine lv_iload_n hx hb d_FT_init_81 rfl (lv_at hl 0 rfl) ?_
  refine lv_bipush (v := nI 8) hx hb d_FT_init_82 rfl ?_
  refine lv_icmp_ge (tgt := 106) hx hb d_FT_init_84 (by decide) (fun c_ => absurd c_ (by decide)) (fun c_ => ?_)
  refine lv_aload_n hx hb d_FT_init_87 rfl (lv_at hl 1 rfl) ?_
  refine mw_get (D := D) (C := R_FT) (T := F_FT) (N := 11) hx hb hts in_FT hown hK hP_26 f_26_0 rfl 0 (by decide) (hts _ tw_210) (fun _ h9 => h9) rfl d_FT_init_88 ?_
  refine lv_iload_n hx hb d_FT_init_91 rfl (lv_at hl 0 rfl) ?_
  refine mw_new (D := D) (C := R_Lp) (T := F_Lp) (N := 6) (ci := 1) (fs := [.int 0, .null, .null, .int 0, .null, .null]) hx hb hts in_Lp t_Lp t_Lp_ok hown (hts _ tw_73) (hts _ tw_97) (hts _ tw_59) hK hP_26 hS rfl (fun j hj => by rcases (show j = 0 ∨ j = 1 ∨ j = 2 ∨ j = 3 ∨ j = 4 ∨ j = 5 by omega) with rfl | rfl | rfl | rfl | rfl | rfl <;> rfl) (Nat.le_of_ble_eq_true rfl) (Nat.le_of_ble_eq_true rfl) hz d_FT_init_92 (fun H hPa hS hz => ?_)
  obtain ⟨M_27, eM_27⟩ : ∃ z : mw_M, z = mw_up M_26 (r + 54) (.inr (1, [.int 0, .null, .null, .int 0, .null, .null])) := ⟨_, rfl⟩
  have hP_27 : mw_P D vwC M_27 H := by rw [eM_27]; exact hPa
  have ok_27 : okW cs M_27 := by rw [eM_27]; exact ok_26.up trivial
  have lo_27 : ∀ q, q < r → M_27 q = M q := fun q hq => by rw [eM_27, mw_up_ne (by omega)]; exact lo_26 q hq
  have f_27_0 : M_27 (r) = some (.inr (6, [.ref (r + 1), .int 0, .ref (r + 2), .ref (r + 3), .ref (r + 4), .ref (r + 6), .ref (r + 8), .int 0, .ref (r + 9), .ref (r + 10), .ref (r + 11)])) := by rw [eM_27, mw_up_ne (by omega)]; exact f_26_0
  have f_27_1 : M_27 (r + 1) = some (.inl (cs 2, 8, .inr (.inr (.inr (.inr (va_up (va_up (fun _ => none) 0 (some (r + 12))) 1 (some (r + 33)))))))) := by rw [eM_27, mw_up_ne (by omega)]; exact f_26_1
  have f_27_2 : M_27 (r + 2) = some (.inl (cs 3, 3, .inr (.inr (.inr (.inr (fun _ => none)))))) := by rw [eM_27, mw_up_ne (by omega)]; exact f_26_2
  have f_27_3 : M_27 (r + 3) = some (.inl (cs 3, 3, .inr (.inr (.inr (.inr (fun _ => none)))))) := by rw [eM_27, mw_up_ne (by omega)]; exact f_26_3
  have f_27_8 : M_27 (r + 8) = some (.inl (cs 0, 4, .inl (fun _ => 0))) := by rw [eM_27, mw_up_ne (by omega)]; exact f_26_8
  have f_27_9 : M_27 (r + 9) = some (.inl (cs 1, 3, .inr (.inl (fun _ => 0)))) := by rw [eM_27, mw_up_ne (by omega)]; exact f_26_9
  have f_27_10 : M_27 (r + 10) = some (.inl (cs 1, 3, .inr (.inl (fun _ => 0)))) := by rw [eM_27, mw_up_ne (by omega)]; exact f_26_10
  have f_27_11 : M_27 (r + 11) = some (.inl (cs 1, 3, .inr (.inl (fun _ => 0)))) := by rw [eM_27, mw_up_ne (by omega)]; exact f_26_11
  have f_27_54 : M_27 (r + 54) = some (.inr (1, [.int 0, .null, .null, .int 0, .null, .null])) := by rw [eM_27]; exact mw_up_self
  have b_27_4 : blkPf M_27 cs (r + 4) := b_26_4.keep (fun q h1 h2 => by rw [eM_27, mw_up_ne (by omega)])
  have b_27_6 : blkPf M_27 cs (r + 6) := b_26_6.keep (fun q h1 h2 => by rw [eM_27, mw_up_ne (by omega)])
  have b_27_12 : blkLp M_27 cs (r + 12) := b_26_12.keep (fun q h1 h2 => by rw [eM_27, mw_up_ne (by omega)])
  have b_27_33 : blkLp M_27 cs (r + 33) := b_26_33.keep (fun q h1 h2 => by rw [eM_27, mw_up_ne (by omega)])
  have hz : H.size = r + 55 := hz
  refine lv_dup hx hb d_FT_init_95 rfl ?_
  refine mi_callI (As := []) (rest := [.ref (r + 54), .int (nI 2), .ref (r + 1)]) (n := 0) hx hb hml hown hts hK hN hA (c_Lp_init l D cs M_27 (r + 54) f_27_54 ok_27) tw_98 tw_99 tw_59 tw_100 (by decide +kernel) ⟨rfl, rfl, by decide, by decide, by decide, by decide⟩ hP_27 hS hz (fun q hq => by omega) rfl hl.1 rfl (Nat.le_of_ble_eq_true rfl) d_FT_init_96 (fun M_28 H locs hb_ hPa hS hz => ?_)
  have hP_28 := hPa
  have hk_28 := hb_.1
  have ok_28 : okW cs M_28 := hb_.2.1
  have lo_28 : ∀ q, q < r → M_28 q = M q := fun q hq => (hk_28 q (by omega)).trans (lo_27 q hq)
  have f_28_0 : M_28 (r) = some (.inr (6, [.ref (r + 1), .int 0, .ref (r + 2), .ref (r + 3), .ref (r + 4), .ref (r + 6), .ref (r + 8), .int 0, .ref (r + 9), .ref (r + 10), .ref (r + 11)])) := (hk_28 _ (by omega)).trans f_27_0
  have f_28_1 : M_28 (r + 1) = some (.inl (cs 2, 8, .inr (.inr (.inr (.inr (va_up (va_up (fun _ => none) 0 (some (r + 12))) 1 (some (r + 33)))))))) := (hk_28 _ (by omega)).trans f_27_1
  have f_28_2 : M_28 (r + 2) = some (.inl (cs 3, 3, .inr (.inr (.inr (.inr (fun _ => none)))))) := (hk_28 _ (by omega)).trans f_27_2
  have f_28_3 : M_28 (r + 3) = some (.inl (cs 3, 3, .inr (.inr (.inr (.inr (fun _ => none)))))) := (hk_28 _ (by omega)).trans f_27_3
  have f_28_8 : M_28 (r + 8) = some (.inl (cs 0, 4, .inl (fun _ => 0))) := (hk_28 _ (by omega)).trans f_27_8
  have f_28_9 : M_28 (r + 9) = some (.inl (cs 1, 3, .inr (.inl (fun _ => 0)))) := (hk_28 _ (by omega)).trans f_27_9
  have f_28_10 : M_28 (r + 10) = some (.inl (cs 1, 3, .inr (.inl (fun _ => 0)))) := (hk_28 _ (by omega)).trans f_27_10
  have f_28_11 : M_28 (r + 11) = some (.inl (cs 1, 3, .inr (.inl (fun _ => 0)))) := (hk_28 _ (by omega)).trans f_27_11
  have b_28_4 : blkPf M_28 cs (r + 4) := b_27_4.keep (fun q h1 h2 => hk_28 q (by omega))
  have b_28_6 : blkPf M_28 cs (r + 6) := b_27_6.keep (fun q h1 h2 => hk_28 q (by omega))
  have b_28_12 : blkLp M_28 cs (r + 12) := b_27_12.keep (fun q h1 h2 => hk_28 q (by omega))
  have b_28_33 : blkLp M_28 cs (r + 33) := b_27_33.keep (fun q h1 h2 => hk_28 q (by omega))
  have b_28_54 : blkLp M_28 cs (r + 54) := hb_.2.2
  have hz : H.size = r + 75 := hz
  refine mw_astq hx hb hK hP_28 hS 2 1 f_28_1 (by omega) rfl b_28_54.1 rfl (vp_in_nI (by omega) (by omega)) d_FT_init_99 (fun H locs hPa hS hzb => ?_)
  have hz : H.size = r + 75 := hzb.trans hz
  rw [show (nI 2).toNatClampNeg = 2 from rfl] at hPa
  obtain ⟨M_29, eM_29⟩ : ∃ z : mw_M, z = mw_up M_28 (r + 1) (.inl (cs 2, 8, .inr (.inr (.inr (.inr (va_up (va_up (va_up (fun _ => none) 0 (some (r + 12))) 1 (some (r + 33))) 2 (some (r + 54)))))))) := ⟨_, rfl⟩
  have hP_29 : mw_P D vwC M_29 H := by rw [eM_29]; exact hPa
  have ok_29 : okW cs M_29 := by rw [eM_29]; exact ok_28.up trivial
  have lo_29 : ∀ q, q < r → M_29 q = M q := fun q hq => by rw [eM_29, mw_up_ne (by omega)]; exact lo_28 q hq
  have f_29_0 : M_29 (r) = some (.inr (6, [.ref (r + 1), .int 0, .ref (r + 2), .ref (r + 3), .ref (r + 4), .ref (r + 6), .ref (r + 8), .int 0, .ref (r + 9), .ref (r + 10), .ref (r + 11)])) := by rw [eM_29, mw_up_ne (by omega)]; exact f_28_0
  have f_29_1 : M_29 (r + 1) = some (.inl (cs 2, 8, .inr (.inr (.inr (.inr (va_up (va_up (va_up (fun _ => none) 0 (some (r + 12))) 1 (some (r + 33))) 2 (some (r + 54)))))))) := by rw [eM_29]; exact mw_up_self
  have f_29_2 : M_29 (r + 2) = some (.inl (cs 3, 3, .inr (.inr (.inr (.inr (fun _ => none)))))) := by rw [eM_29, mw_up_ne (by omega)]; exact f_28_2
  have f_29_3 : M_29 (r + 3) = some (.inl (cs 3, 3, .inr (.inr (.inr (.inr (fun _ => none)))))) := by rw [eM_29, mw_up_ne (by omega)]; exact f_28_3
  have f_29_8 : M_29 (r + 8) = some (.inl (cs 0, 4, .inl (fun _ => 0))) := by rw [eM_29, mw_up_ne (by omega)]; exact f_28_8
  have f_29_9 : M_29 (r + 9) = some (.inl (cs 1, 3, .inr (.inl (fun _ => 0)))) := by rw [eM_29, mw_up_ne (by omega)]; exact f_28_9
  have f_29_10 : M_29 (r + 10) = some (.inl (cs 1, 3, .inr (.inl (fun _ => 0)))) := by rw [eM_29, mw_up_ne (by omega)]; exact f_28_10
  have f_29_11 : M_29 (r + 11) = some (.inl (cs 1, 3, .inr (.inl (fun _ => 0)))) := by rw [eM_29, mw_up_ne (by omega)]; exact f_28_11
  have b_29_4 : blkPf M_29 cs (r + 4) := b_28_4.keep (fun q h1 h2 => by rw [eM_29, mw_up_ne (by omega)])
  have b_29_6 : blkPf M_29 cs (r + 6) := b_28_6.keep (fun q h1 h2 => by rw [eM_29, mw_up_ne (by omega)])
  have b_29_12 : blkLp M_29 cs (r + 12) := b_28_12.keep (fun q h1 h2 => by rw [eM_29, mw_up_ne (by omega)])
  have b_29_33 : blkLp M_29 cs (r + 33) := b_28_33.keep (fun q h1 h2 => by rw [eM_29, mw_up_ne (by omega)])
  have b_29_54 : blkLp M_29 cs (r + 54) := b_28_54.keep (fun q h1 h2 => by rw [eM_29, mw_up_ne (by omega)])
  refine lv_iinc (v := nI 3) (lv' := [(1, .int (nI 3)), (0, .ref r)]) hx hb d_FT_init_100 hl (k := 0) rfl (gm_inc 2 1) (by decide) rfl (fun ls hl => ?_)
  refine lv_goto (tgt := 81) hx hb d_FT_init_103 (by decide) ?_
  refine lv_iload_n hx hb d_FT_init_81 rfl (lv_at hl 0 rfl) ?_
  refine lv_bipush (v := nI 8) hx hb d_FT_init_82 rfl ?_
  refine lv_icmp_ge (tgt := 106) hx hb d_FT_init_84 (by decide) (fun c_ => absurd c_ (by decide)) (fun c_ => ?_)
  refine lv_aload_n hx hb d_FT_init_87 rfl (lv_at hl 1 rfl) ?_
  refine mw_get (D := D) (C := R_FT) (T := F_FT) (N := 11) hx hb hts in_FT hown hK hP_29 f_29_0 rfl 0 (by decide) (hts _ tw_210) (fun _ h9 => h9) rfl d_FT_init_88 ?_
  refine lv_iload_n hx hb d_FT_init_91 rfl (lv_at hl 0 rfl) ?_
  refine mw_new (D := D) (C := R_Lp) (T := F_Lp) (N := 6) (ci := 1) (fs := [.int 0, .null, .null, .int 0, .null, .null]) hx hb hts in_Lp t_Lp t_Lp_ok hown (hts _ tw_73) (hts _ tw_97) (hts _ tw_59) hK hP_29 hS rfl (fun j hj => by rcases (show j = 0 ∨ j = 1 ∨ j = 2 ∨ j = 3 ∨ j = 4 ∨ j = 5 by omega) with rfl | rfl | rfl | rfl | rfl | rfl <;> rfl) (Nat.le_of_ble_eq_true rfl) (Nat.le_of_ble_eq_true rfl) hz d_FT_init_92 (fun H hPa hS hz => ?_)
  obtain ⟨M_30, eM_30⟩ : ∃ z : mw_M, z = mw_up M_29 (r + 75) (.inr (1, [.int 0, .null, .null, .int 0, .null, .null])) := ⟨_, rfl⟩
  have hP_30 : mw_P D vwC M_30 H := by rw [eM_30]; exact hPa
  have ok_30 : okW cs M_30 := by rw [eM_30]; exact ok_29.up trivial
  have lo_30 : ∀ q, q < r → M_30 q = M q := fun q hq => by rw [eM_30, mw_up_ne (by omega)]; exact lo_29 q hq
  have f_30_0 : M_30 (r) = some (.inr (6, [.ref (r + 1), .int 0, .ref (r + 2), .ref (r + 3), .ref (r + 4), .ref (r + 6), .ref (r + 8), .int 0, .ref (r + 9), .ref (r + 10), .ref (r + 11)])) := by rw [eM_30, mw_up_ne (by omega)]; exact f_29_0
  have f_30_1 : M_30 (r + 1) = some (.inl (cs 2, 8, .inr (.inr (.inr (.inr (va_up (va_up (va_up (fun _ => none) 0 (some (r + 12))) 1 (some (r + 33))) 2 (some (r + 54)))))))) := by rw [eM_30, mw_up_ne (by omega)]; exact f_29_1
  have f_30_2 : M_30 (r + 2) = some (.inl (cs 3, 3, .inr (.inr (.inr (.inr (fun _ => none)))))) := by rw [eM_30, mw_up_ne (by omega)]; exact f_29_2
  have f_30_3 : M_30 (r + 3) = some (.inl (cs 3, 3, .inr (.inr (.inr (.inr (fun _ => none)))))) := by rw [eM_30, mw_up_ne (by omega)]; exact f_29_3
  have f_30_8 : M_30 (r + 8) = some (.inl (cs 0, 4, .inl (fun _ => 0))) := by rw [eM_30, mw_up_ne (by omega)]; exact f_29_8
  have f_30_9 : M_30 (r + 9) = some (.inl (cs 1, 3, .inr (.inl (fun _ => 0)))) := by rw [eM_30, mw_up_ne (by omega)]; exact f_29_9
  have f_30_10 : M_30 (r + 10) = some (.inl (cs 1, 3, .inr (.inl (fun _ => 0)))) := by rw [eM_30, mw_up_ne (by omega)]; exact f_29_10
  have f_30_11 : M_30 (r + 11) = some (.inl (cs 1, 3, .inr (.inl (fun _ => 0)))) := by rw [eM_30, mw_up_ne (by omega)]; exact f_29_11
  have f_30_75 : M_30 (r + 75) = some (.inr (1, [.int 0, .null, .null, .int 0, .null, .null])) := by rw [eM_30]; exact mw_up_self
  have b_30_4 : blkPf M_30 cs (r + 4) := b_29_4.keep (fun q h1 h2 => by rw [eM_30, mw_up_ne (by omega)])
  have b_30_6 : blkPf M_30 cs (r + 6) := b_29_6.keep (fun q h1 h2 => by rw [eM_30, mw_up_ne (by omega)])
  have b_30_12 : blkLp M_30 cs (r + 12) := b_29_12.keep (fun q h1 h2 => by rw [eM_30, mw_up_ne (by omega)])
  have b_30_33 : blkLp M_30 cs (r + 33) := b_29_33.keep (fun q h1 h2 => by rw [eM_30, mw_up_ne (by omega)])
  have b_30_54 : blkLp M_30 cs (r + 54) := b_29_54.keep (fun q h1 h2 => by rw [eM_30, mw_up_ne (by omega)])
  have hz : H.size = r + 76 := hz
  refine lv_dup hx hb d_FT_init_95 rfl ?_
  refine mi_callI (As := []) (rest := [.ref (r + 75), .int (nI 3), .ref (r + 1)]) (n := 0) hx hb hml hown hts hK hN hA (c_Lp_init l D cs M_30 (r + 75) f_30_75 ok_30) tw_98 tw_99 tw_59 tw_100 (by decide +kernel) ⟨rfl, rfl, by decide, by decide, by decide, by decide⟩ hP_30 hS hz (fun q hq => by omega) rfl hl.1 rfl (Nat.le_of_ble_eq_true rfl) d_FT_init_96 (fun M_31 H locs hb_ hPa hS hz => ?_)
  have hP_31 := hPa
  have hk_31 := hb_.1
  have ok_31 : okW cs M_31 := hb_.2.1
  have lo_31 : ∀ q, q < r → M_31 q = M q := fun q hq => (hk_31 q (by omega)).trans (lo_30 q hq)
  have f_31_0 : M_31 (r) = some (.inr (6, [.ref (r + 1), .int 0, .ref (r + 2), .ref (r + 3), .ref (r + 4), .ref (r + 6), .ref (r + 8), .int 0, .ref (r + 9), .ref (r + 10), .ref (r + 11)])) := (hk_31 _ (by omega)).trans f_30_0
  have f_31_1 : M_31 (r + 1) = some (.inl (cs 2, 8, .inr (.inr (.inr (.inr (va_up (va_up (va_up (fun _ => none) 0 (some (r + 12))) 1 (some (r + 33))) 2 (some (r + 54)))))))) := (hk_31 _ (by omega)).trans f_30_1
  have f_31_2 : M_31 (r + 2) = some (.inl (cs 3, 3, .inr (.inr (.inr (.inr (fun _ => none)))))) := (hk_31 _ (by omega)).trans f_30_2
  have f_31_3 : M_31 (r + 3) = some (.inl (cs 3, 3, .inr (.inr (.inr (.inr (fun _ => none)))))) := (hk_31 _ (by omega)).trans f_30_3
  have f_31_8 : M_31 (r + 8) = some (.inl (cs 0, 4, .inl (fun _ => 0))) := (hk_31 _ (by omega)).trans f_30_8
  have f_31_9 : M_31 (r + 9) = some (.inl (cs 1, 3, .inr (.inl (fun _ => 0)))) := (hk_31 _ (by omega)).trans f_30_9
  have f_31_10 : M_31 (r + 10) = some (.inl (cs 1, 3, .inr (.inl (fun _ => 0)))) := (hk_31 _ (by omega)).trans f_30_10
  have f_31_11 : M_31 (r + 11) = some (.inl (cs 1, 3, .inr (.inl (fun _ => 0)))) := (hk_31 _ (by omega)).trans f_30_11
  have b_31_4 : blkPf M_31 cs (r + 4) := b_30_4.keep (fun q h1 h2 => hk_31 q (by omega))
  have b_31_6 : blkPf M_31 cs (r + 6) := b_30_6.keep (fun q h1 h2 => hk_31 q (by omega))
  have b_31_12 : blkLp M_31 cs (r + 12) := b_30_12.keep (fun q h1 h2 => hk_31 q (by omega))
  have b_31_33 : blkLp M_31 cs (r + 33) := b_30_33.keep (fun q h1 h2 => hk_31 q (by omega))
  have b_31_54 : blkLp M_31 cs (r + 54) := b_30_54.keep (fun q h1 h2 => hk_31 q (by omega))
  have b_31_75 : blkLp M_31 cs (r + 75) := hb_.2.2
  have hz : H.size = r + 96 := hz
  refine mw_astq hx hb hK hP_31 hS 2 1 f_31_1 (by omega) rfl b_31_75.1 rfl (vp_in_nI (by omega) (by omega)) d_FT_init_99 (fun H locs hPa hS hzb => ?_)
  have hz : H.size = r + 96 := hzb.trans hz
  rw [show (nI 3).toNatClampNeg = 3 from rfl] at hPa
  obtain ⟨M_32, eM_32⟩ : ∃ z : mw_M, z = mw_up M_31 (r + 1) (.inl (cs 2, 8, .inr (.inr (.inr (.inr (va_up (va_up (va_up (va_up (fun _ => none) 0 (some (r + 12))) 1 (some (r + 33))) 2 (some (r + 54))) 3 (some (r + 75)))))))) := ⟨_, rfl⟩
  have hP_32 : mw_P D vwC M_32 H := by rw [eM_32]; exact hPa
  have ok_32 : okW cs M_32 := by rw [eM_32]; exact ok_31.up trivial
  have lo_32 : ∀ q, q < r → M_32 q = M q := fun q hq => by rw [eM_32, mw_up_ne (by omega)]; exact lo_31 q hq
  have f_32_0 : M_32 (r) = some (.inr (6, [.ref (r + 1), .int 0, .ref (r + 2), .ref (r + 3), .ref (r + 4), .ref (r + 6), .ref (r + 8), .int 0, .ref (r + 9), .ref (r + 10), .ref (r + 11)])) := by rw [eM_32, mw_up_ne (by omega)]; exact f_31_0
  have f_32_1 : M_32 (r + 1) = some (.inl (cs 2, 8, .inr (.inr (.inr (.inr (va_up (va_up (va_up (va_up (fun _ => none) 0 (some (r + 12))) 1 (some (r + 33))) 2 (some (r + 54))) 3 (some (r + 75)))))))) := by rw [eM_32]; exact mw_up_self
  have f_32_2 : M_32 (r + 2) = some (.inl (cs 3, 3, .inr (.inr (.inr (.inr (fun _ => none)))))) := by rw [eM_32, mw_up_ne (by omega)]; exact f_31_2
  have f_32_3 : M_32 (r + 3) = some (.inl (cs 3, 3, .inr (.inr (.inr (.inr (fun _ => none)))))) := by rw [eM_32, mw_up_ne (by omega)]; exact f_31_3
  have f_32_8 : M_32 (r + 8) = some (.inl (cs 0, 4, .inl (fun _ => 0))) := by rw [eM_32, mw_up_ne (by omega)]; exact f_31_8
  have f_32_9 : M_32 (r + 9) = some (.inl (cs 1, 3, .inr (.inl (fun _ => 0)))) := by rw [eM_32, mw_up_ne (by omega)]; exact f_31_9
  have f_32_10 : M_32 (r + 10) = some (.inl (cs 1, 3, .inr (.inl (fun _ => 0)))) := by rw [eM_32, mw_up_ne (by omega)]; exact f_31_10
  have f_32_11 : M_32 (r + 11) = some (.inl (cs 1, 3, .inr (.inl (fun _ => 0)))) := by rw [eM_32, mw_up_ne (by omega)]; exact f_31_11
  have b_32_4 : blkPf M_32 cs (r + 4) := b_31_4.keep (fun q h1 h2 => by rw [eM_32, mw_up_ne (by omega)])
  have b_32_6 : blkPf M_32 cs (r + 6) := b_31_6.keep (fun q h1 h2 => by rw [eM_32, mw_up_ne (by omega)])
  have b_32_12 : blkLp M_32 cs (r + 12) := b_31_12.keep (fun q h1 h2 => by rw [eM_32, mw_up_ne (by omega)])
  have b_32_33 : blkLp M_32 cs (r + 33) := b_31_33.keep (fun q h1 h2 => by rw [eM_32, mw_up_ne (by omega)])
  have b_32_54 : blkLp M_32 cs (r + 54) := b_31_54.keep (fun q h1 h2 => by rw [eM_32, mw_up_ne (by omega)])
  have b_32_75 : blkLp M_32 cs (r + 75) := b_31_75.keep (fun q h1 h2 => by rw [eM_32, mw_up_ne (by omega)])
  refine lv_iinc (v := nI 4) (lv' := [(1, .int (nI 4)), (0, .ref r)]) hx hb d_FT_init_100 hl (k := 0) rfl (gm_inc 3 1) (by decide) rfl (fun ls hl => ?_)
  refine lv_goto (tgt := 81) hx hb d_FT_init_103 (by decide) ?_
  refine lv_iload_n hx hb d_FT_init_81 rfl (lv_at hl 0 rfl) ?_
  refine lv_bipush (v := nI 8) hx hb d_FT_init_82 rfl ?_
  refine lv_icmp_ge (tgt := 106) hx hb d_FT_init_84 (by decide) (fun c_ => absurd c_ (by decide)) (fun c_ => ?_)
  refine lv_aload_n hx hb d_FT_init_87 rfl (lv_at hl 1 rfl) ?_
  refine mw_get (D := D) (C := R_FT) (T := F_FT) (N := 11) hx hb hts in_FT hown hK hP_32 f_32_0 rfl 0 (by decide) (hts _ tw_210) (fun _ h9 => h9) rfl d_FT_init_88 ?_
  refine lv_iload_n hx hb d_FT_init_91 rfl (lv_at hl 0 rfl) ?_
  refine mw_new (D := D) (C := R_Lp) (T := F_Lp) (N := 6) (ci := 1) (fs := [.int 0, .null, .null, .int 0, .null, .null]) hx hb hts in_Lp t_Lp t_Lp_ok hown (hts _ tw_73) (hts _ tw_97) (hts _ tw_59) hK hP_32 hS rfl (fun j hj => by rcases (show j = 0 ∨ j = 1 ∨ j = 2 ∨ j = 3 ∨ j = 4 ∨ j = 5 by omega) with rfl | rfl | rfl | rfl | rfl | rfl <;> rfl) (Nat.le_of_ble_eq_true rfl) (Nat.le_of_ble_eq_true rfl) hz d_FT_init_92 (fun H hPa hS hz => ?_)
  obtain ⟨M_33, eM_33⟩ : ∃ z : mw_M, z = mw_up M_32 (r + 96) (.inr (1, [.int 0, .null, .null, .int 0, .null, .null])) := ⟨_, rfl⟩
  have hP_33 : mw_P D vwC M_33 H := by rw [eM_33]; exact hPa
  have ok_33 : okW cs M_33 := by rw [eM_33]; exact ok_32.up trivial
  have lo_33 : ∀ q, q < r → M_33 q = M q := fun q hq => by rw [eM_33, mw_up_ne (by omega)]; exact lo_32 q hq
  have f_33_0 : M_33 (r) = some (.inr (6, [.ref (r + 1), .int 0, .ref (r + 2), .ref (r + 3), .ref (r + 4), .ref (r + 6), .ref (r + 8), .int 0, .ref (r + 9), .ref (r + 10), .ref (r + 11)])) := by rw [eM_33, mw_up_ne (by omega)]; exact f_32_0
  have f_33_1 : M_33 (r + 1) = some (.inl (cs 2, 8, .inr (.inr (.inr (.inr (va_up (va_up (va_up (va_up (fun _ => none) 0 (some (r + 12))) 1 (some (r + 33))) 2 (some (r + 54))) 3 (some (r + 75)))))))) := by rw [eM_33, mw_up_ne (by omega)]; exact f_32_1
  have f_33_2 : M_33 (r + 2) = some (.inl (cs 3, 3, .inr (.inr (.inr (.inr (fun _ => none)))))) := by rw [eM_33, mw_up_ne (by omega)]; exact f_32_2
  have f_33_3 : M_33 (r + 3) = some (.inl (cs 3, 3, .inr (.inr (.inr (.inr (fun _ => none)))))) := by rw [eM_33, mw_up_ne (by omega)]; exact f_32_3
  have f_33_8 : M_33 (r + 8) = some (.inl (cs 0, 4, .inl (fun _ => 0))) := by rw [eM_33, mw_up_ne (by omega)]; exact f_32_8
  have f_33_9 : M_33 (r + 9) = some (.inl (cs 1, 3, .inr (.inl (fun _ => 0)))) := by rw [eM_33, mw_up_ne (by omega)]; exact f_32_9
  have f_33_10 : M_33 (r + 10) = some (.inl (cs 1, 3, .inr (.inl (fun _ => 0)))) := by rw [eM_33, mw_up_ne (by omega)]; exact f_32_10
  have f_33_11 : M_33 (r + 11) = some (.inl (cs 1, 3, .inr (.inl (fun _ => 0)))) := by rw [eM_33, mw_up_ne (by omega)]; exact f_32_11
  have f_33_96 : M_33 (r + 96) = some (.inr (1, [.int 0, .null, .null, .int 0, .null, .null])) := by rw [eM_33]; exact mw_up_self
  have b_33_4 : blkPf M_33 cs (r + 4) := b_32_4.keep (fun q h1 h2 => by rw [eM_33, mw_up_ne (by omega)])
  have b_33_6 : blkPf M_33 cs (r + 6) := b_32_6.keep (fun q h1 h2 => by rw [eM_33, mw_up_ne (by omega)])
  have b_33_12 : blkLp M_33 cs (r + 12) := b_32_12.keep (fun q h1 h2 => by rw [eM_33, mw_up_ne (by omega)])
  have b_33_33 : blkLp M_33 cs (r + 33) := b_32_33.keep (fun q h1 h2 => by rw [eM_33, mw_up_ne (by omega)])
  have b_33_54 : blkLp M_33 cs (r + 54) := b_32_54.keep (fun q h1 h2 => by rw [eM_33, mw_up_ne (by omega)])
  have b_33_75 : blkLp M_33 cs (r + 75) := b_32_75.keep (fun q h1 h2 => by rw [eM_33, mw_up_ne (by omega)])
  have hz : H.size = r + 97 := hz
  refine lv_dup hx hb d_FT_init_95 rfl ?_
  refine mi_callI (As := []) (rest := [.ref (r + 96), .int (nI 4), .ref (r + 1)]) (n := 0) hx hb hml hown hts hK hN hA (c_Lp_init l D cs M_33 (r + 96) f_33_96 ok_33) tw_98 tw_99 tw_59 tw_100 (by decide +kernel) ⟨rfl, rfl, by decide, by decide, by decide, by decide⟩ hP_33 hS hz (fun q hq => by omega) rfl hl.1 rfl (Nat.le_of_ble_eq_true rfl) d_FT_init_96 (fun M_34 H locs hb_ hPa hS hz => ?_)
  have hP_34 := hPa
  have hk_34 := hb_.1
  have ok_34 : okW cs M_34 := hb_.2.1
  have lo_34 : ∀ q, q < r → M_34 q = M q := fun q hq => (hk_34 q (by omega)).trans (lo_33 q hq)
  have f_34_0 : M_34 (r) = some (.inr (6, [.ref (r + 1), .int 0, .ref (r + 2), .ref (r + 3), .ref (r + 4), .ref (r + 6), .ref (r + 8), .int 0, .ref (r + 9), .ref (r + 10), .ref (r + 11)])) := (hk_34 _ (by omega)).trans f_33_0
  have f_34_1 : M_34 (r + 1) = some (.inl (cs 2, 8, .inr (.inr (.inr (.inr (va_up (va_up (va_up (va_up (fun _ => none) 0 (some (r + 12))) 1 (some (r + 33))) 2 (some (r + 54))) 3 (some (r + 75)))))))) := (hk_34 _ (by omega)).trans f_33_1
  have f_34_2 : M_34 (r + 2) = some (.inl (cs 3, 3, .inr (.inr (.inr (.inr (fun _ => none)))))) := (hk_34 _ (by omega)).trans f_33_2
  have f_34_3 : M_34 (r + 3) = some (.inl (cs 3, 3, .inr (.inr (.inr (.inr (fun _ => none)))))) := (hk_34 _ (by omega)).trans f_33_3
  have f_34_8 : M_34 (r + 8) = some (.inl (cs 0, 4, .inl (fun _ => 0))) := (hk_34 _ (by omega)).trans f_33_8
  have f_34_9 : M_34 (r + 9) = some (.inl (cs 1, 3, .inr (.inl (fun _ => 0)))) := (hk_34 _ (by omega)).trans f_33_9
  have f_34_10 : M_34 (r + 10) = some (.inl (cs 1, 3, .inr (.inl (fun _ => 0)))) := (hk_34 _ (by omega)).trans f_33_10
  have f_34_11 : M_34 (r + 11) = some (.inl (cs 1, 3, .inr (.inl (fun _ => 0)))) := (hk_34 _ (by omega)).trans f_33_11
  have b_34_4 : blkPf M_34 cs (r + 4) := b_33_4.keep (fun q h1 h2 => hk_34 q (by omega))
  have b_34_6 : blkPf M_34 cs (r + 6) := b_33_6.keep (fun q h1 h2 => hk_34 q (by omega))
  have b_34_12 : blkLp M_34 cs (r + 12) := b_33_12.keep (fun q h1 h2 => hk_34 q (by omega))
  have b_34_33 : blkLp M_34 cs (r + 33) := b_33_33.keep (fun q h1 h2 => hk_34 q (by omega))
  have b_34_54 : blkLp M_34 cs (r + 54) := b_33_54.keep (fun q h1 h2 => hk_34 q (by omega))
  have b_34_75 : blkLp M_34 cs (r + 75) := b_33_75.keep (fun q h1 h2 => hk_34 q (by omega))
  have b_34_96 : blkLp M_34 cs (r + 96) := hb_.2.2
  have hz : H.size = r + 117 := hz
  refine mw_astq hx hb hK hP_34 hS 2 1 f_34_1 (by omega) rfl b_34_96.1 rfl (vp_in_nI (by omega) (by omega)) d_FT_init_99 (fun H locs hPa hS hzb => ?_)
  have hz : H.size = r + 117 := hzb.trans hz
  rw [show (nI 4).toNatClampNeg = 4 from rfl] at hPa
  obtain ⟨M_35, eM_35⟩ : ∃ z : mw_M, z = mw_up M_34 (r + 1) (.inl (cs 2, 8, .inr (.inr (.inr (.inr (va_up (va_up (va_up (va_up (va_up (fun _ => none) 0 (some (r + 12))) 1 (some (r + 33))) 2 (some (r + 54))) 3 (some (r + 75))) 4 (some (r + 96)))))))) := ⟨_, rfl⟩
  have hP_35 : mw_P D vwC M_35 H := by rw [eM_35]; exact hPa
  have ok_35 : okW cs M_35 := by rw [eM_35]; exact ok_34.up trivial
  have lo_35 : ∀ q, q < r → M_35 q = M q := fun q hq => by rw [eM_35, mw_up_ne (by omega)]; exact lo_34 q hq
  have f_35_0 : M_35 (r) = some (.inr (6, [.ref (r + 1), .int 0, .ref (r + 2), .ref (r + 3), .ref (r + 4), .ref (r + 6), .ref (r + 8), .int 0, .ref (r + 9), .ref (r + 10), .ref (r + 11)])) := by rw [eM_35, mw_up_ne (by omega)]; exact f_34_0
  have f_35_1 : M_35 (r + 1) = some (.inl (cs 2, 8, .inr (.inr (.inr (.inr (va_up (va_up (va_up (va_up (va_up (fun _ => none) 0 (some (r + 12))) 1 (some (r + 33))) 2 (some (r + 54))) 3 (some (r + 75))) 4 (some (r + 96)))))))) := by rw [eM_35]; exact mw_up_self
  have f_35_2 : M_35 (r + 2) = some (.inl (cs 3, 3, .inr (.inr (.inr (.inr (fun _ => none)))))) := by rw [eM_35, mw_up_ne (by omega)]; exact f_34_2
  have f_35_3 : M_35 (r + 3) = some (.inl (cs 3, 3, .inr (.inr (.inr (.inr (fun _ => none)))))) := by rw [eM_35, mw_up_ne (by omega)]; exact f_34_3
  have f_35_8 : M_35 (r + 8) = some (.inl (cs 0, 4, .inl (fun _ => 0))) := by rw [eM_35, mw_up_ne (by omega)]; exact f_34_8
  have f_35_9 : M_35 (r + 9) = some (.inl (cs 1, 3, .inr (.inl (fun _ => 0)))) := by rw [eM_35, mw_up_ne (by omega)]; exact f_34_9
  have f_35_10 : M_35 (r + 10) = some (.inl (cs 1, 3, .inr (.inl (fun _ => 0)))) := by rw [eM_35, mw_up_ne (by omega)]; exact f_34_10
  have f_35_11 : M_35 (r + 11) = some (.inl (cs 1, 3, .inr (.inl (fun _ => 0)))) := by rw [eM_35, mw_up_ne (by omega)]; exact f_34_11
  have b_35_4 : blkPf M_35 cs (r + 4) := b_34_4.keep (fun q h1 h2 => by rw [eM_35, mw_up_ne (by omega)])
  have b_35_6 : blkPf M_35 cs (r + 6) := b_34_6.keep (fun q h1 h2 => by rw [eM_35, mw_up_ne (by omega)])
  have b_35_12 : blkLp M_35 cs (r + 12) := b_34_12.keep (fun q h1 h2 => by rw [eM_35, mw_up_ne (by omega)])
  have b_35_33 : blkLp M_35 cs (r + 33) := b_34_33.keep (fun q h1 h2 => by rw [eM_35, mw_up_ne (by omega)])
  have b_35_54 : blkLp M_35 cs (r + 54) := b_34_54.keep (fun q h1 h2 => by rw [eM_35, mw_up_ne (by omega)])
  have b_35_75 : blkLp M_35 cs (r + 75) := b_34_75.keep (fun q h1 h2 => by rw [eM_35, mw_up_ne (by omega)])
  have b_35_96 : blkLp M_35 cs (r + 96) := b_34_96.keep (fun q h1 h2 => by rw [eM_35, mw_up_ne (by omega)])
  refine lv_iinc (v := nI 5) (lv' := [(1, .int (nI 5)), (0, .ref r)]) hx hb d_FT_init_100 hl (k := 0) rfl (gm_inc 4 1) (by decide) rfl (fun ls hl => ?_)
  refine lv_goto (tgt := 81) hx hb d_FT_init_103 (by decide) ?_
  refine lv_iload_n hx hb d_FT_init_81 rfl (lv_at hl 0 rfl) ?_
  refine lv_bipush (v := nI 8) hx hb d_FT_init_82 rfl ?_
  refine lv_icmp_ge (tgt := 106) hx hb d_FT_init_84 (by decide) (fun c_ => absurd c_ (by decide)) (fun c_ => ?_)
  refine lv_aload_n hx hb d_FT_init_87 rfl (lv_at hl 1 rfl) ?_
  refine mw_get (D := D) (C := R_FT) (T := F_FT) (N := 11) hx hb hts in_FT hown hK hP_35 f_35_0 rfl 0 (by decide) (hts _ tw_210) (fun _ h9 => h9) rfl d_FT_init_88 ?_
  refine lv_iload_n hx hb d_FT_init_91 rfl (lv_at hl 0 rfl) ?_
  refine mw_new (D := D) (C := R_Lp) (T := F_Lp) (N := 6) (ci := 1) (fs := [.int 0, .null, .null, .int 0, .null, .null]) hx hb hts in_Lp t_Lp t_Lp_ok hown (hts _ tw_73) (hts _ tw_97) (hts _ tw_59) hK hP_35 hS rfl (fun j hj => by rcases (show j = 0 ∨ j = 1 ∨ j = 2 ∨ j = 3 ∨ j = 4 ∨ j = 5 by omega) with rfl | rfl | rfl | rfl | rfl | rfl <;> rfl) (Nat.le_of_ble_eq_true rfl) (Nat.le_of_ble_eq_true rfl) hz d_FT_init_92 (fun H hPa hS hz => ?_)
  obtain ⟨M_36, eM_36⟩ : ∃ z : mw_M, z = mw_up M_35 (r + 117) (.inr (1, [.int 0, .null, .null, .int 0, .null, .null])) := ⟨_, rfl⟩
  have hP_36 : mw_P D vwC M_36 H := by rw [eM_36]; exact hPa
  have ok_36 : okW cs M_36 := by rw [eM_36]; exact ok_35.up trivial
  have lo_36 : ∀ q, q < r → M_36 q = M q := fun q hq => by rw [eM_36, mw_up_ne (by omega)]; exact lo_35 q hq
  have f_36_0 : M_36 (r) = some (.inr (6, [.ref (r + 1), .int 0, .ref (r + 2), .ref (r + 3), .ref (r + 4), .ref (r + 6), .ref (r + 8), .int 0, .ref (r + 9), .ref (r + 10), .ref (r + 11)])) := by rw [eM_36, mw_up_ne (by omega)]; exact f_35_0
  have f_36_1 : M_36 (r + 1) = some (.inl (cs 2, 8, .inr (.inr (.inr (.inr (va_up (va_up (va_up (va_up (va_up (fun _ => none) 0 (some (r + 12))) 1 (some (r + 33))) 2 (some (r + 54))) 3 (some (r + 75))) 4 (some (r + 96)))))))) := by rw [eM_36, mw_up_ne (by omega)]; exact f_35_1
  have f_36_2 : M_36 (r + 2) = some (.inl (cs 3, 3, .inr (.inr (.inr (.inr (fun _ => none)))))) := by rw [eM_36, mw_up_ne (by omega)]; exact f_35_2
  have f_36_3 : M_36 (r + 3) = some (.inl (cs 3, 3, .inr (.inr (.inr (.inr (fun _ => none)))))) := by rw [eM_36, mw_up_ne (by omega)]; exact f_35_3
  have f_36_8 : M_36 (r + 8) = some (.inl (cs 0, 4, .inl (fun _ => 0))) := by rw [eM_36, mw_up_ne (by omega)]; exact f_35_8
  have f_36_9 : M_36 (r + 9) = some (.inl (cs 1, 3, .inr (.inl (fun _ => 0)))) := by rw [eM_36, mw_up_ne (by omega)]; exact f_35_9
  have f_36_10 : M_36 (r + 10) = some (.inl (cs 1, 3, .inr (.inl (fun _ => 0)))) := by rw [eM_36, mw_up_ne (by omega)]; exact f_35_10
  have f_36_11 : M_36 (r + 11) = some (.inl (cs 1, 3, .inr (.inl (fun _ => 0)))) := by rw [eM_36, mw_up_ne (by omega)]; exact f_35_11
  have f_36_117 : M_36 (r + 117) = some (.inr (1, [.int 0, .null, .null, .int 0, .null, .null])) := by rw [eM_36]; exact mw_up_self
  have b_36_4 : blkPf M_36 cs (r + 4) := b_35_4.keep (fun q h1 h2 => by rw [eM_36, mw_up_ne (by omega)])
  have b_36_6 : blkPf M_36 cs (r + 6) := b_35_6.keep (fun q h1 h2 => by rw [eM_36, mw_up_ne (by omega)])
  have b_36_12 : blkLp M_36 cs (r + 12) := b_35_12.keep (fun q h1 h2 => by rw [eM_36, mw_up_ne (by omega)])
  have b_36_33 : blkLp M_36 cs (r + 33) := b_35_33.keep (fun q h1 h2 => by rw [eM_36, mw_up_ne (by omega)])
  have b_36_54 : blkLp M_36 cs (r + 54) := b_35_54.keep (fun q h1 h2 => by rw [eM_36, mw_up_ne (by omega)])
  have b_36_75 : blkLp M_36 cs (r + 75) := b_35_75.keep (fun q h1 h2 => by rw [eM_36, mw_up_ne (by omega)])
  have b_36_96 : blkLp M_36 cs (r + 96) := b_35_96.keep (fun q h1 h2 => by rw [eM_36, mw_up_ne (by omega)])
  have hz : H.size = r + 118 := hz
  refine lv_dup hx hb d_FT_init_95 rfl ?_
  refine mi_callI (As := []) (rest := [.ref (r + 117), .int (nI 5), .ref (r + 1)]) (n := 0) hx hb hml hown hts hK hN hA (c_Lp_init l D cs M_36 (r + 117) f_36_117 ok_36) tw_98 tw_99 tw_59 tw_100 (by decide +kernel) ⟨rfl, rfl, by decide, by decide, by decide, by decide⟩ hP_36 hS hz (fun q hq => by omega) rfl hl.1 rfl (Nat.le_of_ble_eq_true rfl) d_FT_init_96 (fun M_37 H locs hb_ hPa hS hz => ?_)
  have hP_37 := hPa
  have hk_37 := hb_.1
  have ok_37 : okW cs M_37 := hb_.2.1
  have lo_37 : ∀ q, q < r → M_37 q = M q := fun q hq => (hk_37 q (by omega)).trans (lo_36 q hq)
  have f_37_0 : M_37 (r) = some (.inr (6, [.ref (r + 1), .int 0, .ref (r + 2), .ref (r + 3), .ref (r + 4), .ref (r + 6), .ref (r + 8), .int 0, .ref (r + 9), .ref (r + 10), .ref (r + 11)])) := (hk_37 _ (by omega)).trans f_36_0
  have f_37_1 : M_37 (r + 1) = some (.inl (cs 2, 8, .inr (.inr (.inr (.inr (va_up (va_up (va_up (va_up (va_up (fun _ => none) 0 (some (r + 12))) 1 (some (r + 33))) 2 (some (r + 54))) 3 (some (r + 75))) 4 (some (r + 96)))))))) := (hk_37 _ (by omega)).trans f_36_1
  have f_37_2 : M_37 (r + 2) = some (.inl (cs 3, 3, .inr (.inr (.inr (.inr (fun _ => none)))))) := (hk_37 _ (by omega)).trans f_36_2
  have f_37_3 : M_37 (r + 3) = some (.inl (cs 3, 3, .inr (.inr (.inr (.inr (fun _ => none)))))) := (hk_37 _ (by omega)).trans f_36_3
  have f_37_8 : M_37 (r + 8) = some (.inl (cs 0, 4, .inl (fun _ => 0))) := (hk_37 _ (by omega)).trans f_36_8
  have f_37_9 : M_37 (r + 9) = some (.inl (cs 1, 3, .inr (.inl (fun _ => 0)))) := (hk_37 _ (by omega)).trans f_36_9
  have f_37_10 : M_37 (r + 10) = some (.inl (cs 1, 3, .inr (.inl (fun _ => 0)))) := (hk_37 _ (by omega)).trans f_36_10
  have f_37_11 : M_37 (r + 11) = some (.inl (cs 1, 3, .inr (.inl (fun _ => 0)))) := (hk_37 _ (by omega)).trans f_36_11
  have b_37_4 : blkPf M_37 cs (r + 4) := b_36_4.keep (fun q h1 h2 => hk_37 q (by omega))
  have b_37_6 : blkPf M_37 cs (r + 6) := b_36_6.keep (fun q h1 h2 => hk_37 q (by omega))
  have b_37_12 : blkLp M_37 cs (r + 12) := b_36_12.keep (fun q h1 h2 => hk_37 q (by omega))
  have b_37_33 : blkLp M_37 cs (r + 33) := b_36_33.keep (fun q h1 h2 => hk_37 q (by omega))
  have b_37_54 : blkLp M_37 cs (r + 54) := b_36_54.keep (fun q h1 h2 => hk_37 q (by omega))
  have b_37_75 : blkLp M_37 cs (r + 75) := b_36_75.keep (fun q h1 h2 => hk_37 q (by omega))
  have b_37_96 : blkLp M_37 cs (r + 96) := b_36_96.keep (fun q h1 h2 => hk_37 q (by omega))
  have b_37_117 : blkLp M_37 cs (r + 117) := hb_.2.2
  have hz : H.size = r + 138 := hz
  refine mw_astq hx hb hK hP_37 hS 2 1 f_37_1 (by omega) rfl b_37_117.1 rfl (vp_in_nI (by omega) (by omega)) d_FT_init_99 (fun H locs hPa hS hzb => ?_)
  have hz : H.size = r + 138 := hzb.trans hz
  rw [show (nI 5).toNatClampNeg = 5 from rfl] at hPa
  obtain ⟨M_38, eM_38⟩ : ∃ z : mw_M, z = mw_up M_37 (r + 1) (.inl (cs 2, 8, .inr (.inr (.inr (.inr (va_up (va_up (va_up (va_up (va_up (va_up (fun _ => none) 0 (some (r + 12))) 1 (some (r + 33))) 2 (some (r + 54))) 3 (some (r + 75))) 4 (some (r + 96))) 5 (some (r + 117)))))))) := ⟨_, rfl⟩
  have hP_38 : mw_P D vwC M_38 H := by rw [eM_38]; exact hPa
  have ok_38 : okW cs M_38 := by rw [eM_38]; exact ok_37.up trivial
  have lo_38 : ∀ q, q < r → M_38 q = M q := fun q hq => by rw [eM_38, mw_up_ne (by omega)]; exact lo_37 q hq
  have f_38_0 : M_38 (r) = some (.inr (6, [.ref (r + 1), .int 0, .ref (r + 2), .ref (r + 3), .ref (r + 4), .ref (r + 6), .ref (r + 8), .int 0, .ref (r + 9), .ref (r + 10), .ref (r + 11)])) := by rw [eM_38, mw_up_ne (by omega)]; exact f_37_0
  have f_38_1 : M_38 (r + 1) = some (.inl (cs 2, 8, .inr (.inr (.inr (.inr (va_up (va_up (va_up (va_up (va_up (va_up (fun _ => none) 0 (some (r + 12))) 1 (some (r + 33))) 2 (some (r + 54))) 3 (some (r + 75))) 4 (some (r + 96))) 5 (some (r + 117)))))))) := by rw [eM_38]; exact mw_up_self
  have f_38_2 : M_38 (r + 2) = some (.inl (cs 3, 3, .inr (.inr (.inr (.inr (fun _ => none)))))) := by rw [eM_38, mw_up_ne (by omega)]; exact f_37_2
  have f_38_3 : M_38 (r + 3) = some (.inl (cs 3, 3, .inr (.inr (.inr (.inr (fun _ => none)))))) := by rw [eM_38, mw_up_ne (by omega)]; exact f_37_3
  have f_38_8 : M_38 (r + 8) = some (.inl (cs 0, 4, .inl (fun _ => 0))) := by rw [eM_38, mw_up_ne (by omega)]; exact f_37_8
  have f_38_9 : M_38 (r + 9) = some (.inl (cs 1, 3, .inr (.inl (fun _ => 0)))) := by rw [eM_38, mw_up_ne (by omega)]; exact f_37_9
  have f_38_10 : M_38 (r + 10) = some (.inl (cs 1, 3, .inr (.inl (fun _ => 0)))) := by rw [eM_38, mw_up_ne (by omega)]; exact f_37_10
  have f_38_11 : M_38 (r + 11) = some (.inl (cs 1, 3, .inr (.inl (fun _ => 0)))) := by rw [eM_38, mw_up_ne (by omega)]; exact f_37_11
  have b_38_4 : blkPf M_38 cs (r + 4) := b_37_4.keep (fun q h1 h2 => by rw [eM_38, mw_up_ne (by omega)])
  have b_38_6 : blkPf M_38 cs (r + 6) := b_37_6.keep (fun q h1 h2 => by rw [eM_38, mw_up_ne (by omega)])
  have b_38_12 : blkLp M_38 cs (r + 12) := b_37_12.keep (fun q h1 h2 => by rw [eM_38, mw_up_ne (by omega)])
  have b_38_33 : blkLp M_38 cs (r + 33) := b_37_33.keep (fun q h1 h2 => by rw [eM_38, mw_up_ne (by omega)])
  have b_38_54 : blkLp M_38 cs (r + 54) := b_37_54.keep (fun q h1 h2 => by rw [eM_38, mw_up_ne (by omega)])
  have b_38_75 : blkLp M_38 cs (r + 75) := b_37_75.keep (fun q h1 h2 => by rw [eM_38, mw_up_ne (by omega)])
  have b_38_96 : blkLp M_38 cs (r + 96) := b_37_96.keep (fun q h1 h2 => by rw [eM_38, mw_up_ne (by omega)])
  have b_38_117 : blkLp M_38 cs (r + 117) := b_37_117.keep (fun q h1 h2 => by rw [eM_38, mw_up_ne (by omega)])
  refine lv_iinc (v := nI 6) (lv' := [(1, .int (nI 6)), (0, .ref r)]) hx hb d_FT_init_100 hl (k := 0) rfl (gm_inc 5 1) (by decide) rfl (fun ls hl => ?_)
  refine lv_goto (tgt := 81) hx hb d_FT_init_103 (by decide) ?_
  refine lv_iload_n hx hb d_FT_init_81 rfl (lv_at hl 0 rfl) ?_
  refine lv_bipush (v := nI 8) hx hb d_FT_init_82 rfl ?_
  refine lv_icmp_ge (tgt := 106) hx hb d_FT_init_84 (by decide) (fun c_ => absurd c_ (by decide)) (fun c_ => ?_)
  refine lv_aload_n hx hb d_FT_init_87 rfl (lv_at hl 1 rfl) ?_
  refine mw_get (D := D) (C := R_FT) (T := F_FT) (N := 11) hx hb hts in_FT hown hK hP_38 f_38_0 rfl 0 (by decide) (hts _ tw_210) (fun _ h9 => h9) rfl d_FT_init_88 ?_
  refine lv_iload_n hx hb d_FT_init_91 rfl (lv_at hl 0 rfl) ?_
  refine mw_new (D := D) (C := R_Lp) (T := F_Lp) (N := 6) (ci := 1) (fs := [.int 0, .null, .null, .int 0, .null, .null]) hx hb hts in_Lp t_Lp t_Lp_ok hown (hts _ tw_73) (hts _ tw_97) (hts _ tw_59) hK hP_38 hS rfl (fun j hj => by rcases (show j = 0 ∨ j = 1 ∨ j = 2 ∨ j = 3 ∨ j = 4 ∨ j = 5 by omega) with rfl | rfl | rfl | rfl | rfl | rfl <;> rfl) (Nat.le_of_ble_eq_true rfl) (Nat.le_of_ble_eq_true rfl) hz d_FT_init_92 (fun H hPa hS hz => ?_)
  obtain ⟨M_39, eM_39⟩ : ∃ z : mw_M, z = mw_up M_38 (r + 138) (.inr (1, [.int 0, .null, .null, .int 0, .null, .null])) := ⟨_, rfl⟩
  have hP_39 : mw_P D vwC M_39 H := by rw [eM_39]; exact hPa
  have ok_39 : okW cs M_39 := by rw [eM_39]; exact ok_38.up trivial
  have lo_39 : ∀ q, q < r → M_39 q = M q := fun q hq => by rw [eM_39, mw_up_ne (by omega)]; exact lo_38 q hq
  have f_39_0 : M_39 (r) = some (.inr (6, [.ref (r + 1), .int 0, .ref (r + 2), .ref (r + 3), .ref (r + 4), .ref (r + 6), .ref (r + 8), .int 0, .ref (r + 9), .ref (r + 10), .ref (r + 11)])) := by rw [eM_39, mw_up_ne (by omega)]; exact f_38_0
  have f_39_1 : M_39 (r + 1) = some (.inl (cs 2, 8, .inr (.inr (.inr (.inr (va_up (va_up (va_up (va_up (va_up (va_up (fun _ => none) 0 (some (r + 12))) 1 (some (r + 33))) 2 (some (r + 54))) 3 (some (r + 75))) 4 (some (r + 96))) 5 (some (r + 117)))))))) := by rw [eM_39, mw_up_ne (by omega)]; exact f_38_1
  have f_39_2 : M_39 (r + 2) = some (.inl (cs 3, 3, .inr (.inr (.inr (.inr (fun _ => none)))))) := by rw [eM_39, mw_up_ne (by omega)]; exact f_38_2
  have f_39_3 : M_39 (r + 3) = some (.inl (cs 3, 3, .inr (.inr (.inr (.inr (fun _ => none)))))) := by rw [eM_39, mw_up_ne (by omega)]; exact f_38_3
  have f_39_8 : M_39 (r + 8) = some (.inl (cs 0, 4, .inl (fun _ => 0))) := by rw [eM_39, mw_up_ne (by omega)]; exact f_38_8
  have f_39_9 : M_39 (r + 9) = some (.inl (cs 1, 3, .inr (.inl (fun _ => 0)))) := by rw [eM_39, mw_up_ne (by omega)]; exact f_38_9
  have f_39_10 : M_39 (r + 10) = some (.inl (cs 1, 3, .inr (.inl (fun _ => 0)))) := by rw [eM_39, mw_up_ne (by omega)]; exact f_38_10
  have f_39_11 : M_39 (r + 11) = some (.inl (cs 1, 3, .inr (.inl (fun _ => 0)))) := by rw [eM_39, mw_up_ne (by omega)]; exact f_38_11
  have f_39_138 : M_39 (r + 138) = some (.inr (1, [.int 0, .null, .null, .int 0, .null, .null])) := by rw [eM_39]; exact mw_up_self
  have b_39_4 : blkPf M_39 cs (r + 4) := b_38_4.keep (fun q h1 h2 => by rw [eM_39, mw_up_ne (by omega)])
  have b_39_6 : blkPf M_39 cs (r + 6) := b_38_6.keep (fun q h1 h2 => by rw [eM_39, mw_up_ne (by omega)])
  have b_39_12 : blkLp M_39 cs (r + 12) := b_38_12.keep (fun q h1 h2 => by rw [eM_39, mw_up_ne (by omega)])
  have b_39_33 : blkLp M_39 cs (r + 33) := b_38_33.keep (fun q h1 h2 => by rw [eM_39, mw_up_ne (by omega)])
  have b_39_54 : blkLp M_39 cs (r + 54) := b_38_54.keep (fun q h1 h2 => by rw [eM_39, mw_up_ne (by omega)])
  have b_39_75 : blkLp M_39 cs (r + 75) := b_38_75.keep (fun q h1 h2 => by rw [eM_39, mw_up_ne (by omega)])
  have b_39_96 : blkLp M_39 cs (r + 96) := b_38_96.keep (fun q h1 h2 => by rw [eM_39, mw_up_ne (by omega)])
  have b_39_117 : blkLp M_39 cs (r + 117) := b_38_117.keep (fun q h1 h2 => by rw [eM_39, mw_up_ne (by omega)])
  have hz : H.size = r + 139 := hz
  refine lv_dup hx hb d_FT_init_95 rfl ?_
  refine mi_callI (As := []) (rest := [.ref (r + 138), .int (nI 6), .ref (r + 1)]) (n := 0) hx hb hml hown hts hK hN hA (c_Lp_init l D cs M_39 (r + 138) f_39_138 ok_39) tw_98 tw_99 tw_59 tw_100 (by decide +kernel) ⟨rfl, rfl, by decide, by decide, by decide, by decide⟩ hP_39 hS hz (fun q hq => by omega) rfl hl.1 rfl (Nat.le_of_ble_eq_true rfl) d_FT_init_96 (fun M_40 H locs hb_ hPa hS hz => ?_)
  have hP_40 := hPa
  have hk_40 := hb_.1
  have ok_40 : okW cs M_40 := hb_.2.1
  have lo_40 : ∀ q, q < r → M_40 q = M q := fun q hq => (hk_40 q (by omega)).trans (lo_39 q hq)
  have f_40_0 : M_40 (r) = some (.inr (6, [.ref (r + 1), .int 0, .ref (r + 2), .ref (r + 3), .ref (r + 4), .ref (r + 6), .ref (r + 8), .int 0, .ref (r + 9), .ref (r + 10), .ref (r + 11)])) := (hk_40 _ (by omega)).trans f_39_0
  have f_40_1 : M_40 (r + 1) = some (.inl (cs 2, 8, .inr (.inr (.inr (.inr (va_up (va_up (va_up (va_up (va_up (va_up (fun _ => none) 0 (some (r + 12))) 1 (some (r + 33))) 2 (some (r + 54))) 3 (some (r + 75))) 4 (some (r + 96))) 5 (some (r + 117)))))))) := (hk_40 _ (by omega)).trans f_39_1
  have f_40_2 : M_40 (r + 2) = some (.inl (cs 3, 3, .inr (.inr (.inr (.inr (fun _ => none)))))) := (hk_40 _ (by omega)).trans f_39_2
  have f_40_3 : M_40 (r + 3) = some (.inl (cs 3, 3, .inr (.inr (.inr (.inr (fun _ => none)))))) := (hk_40 _ (by omega)).trans f_39_3
  have f_40_8 : M_40 (r + 8) = some (.inl (cs 0, 4, .inl (fun _ => 0))) := (hk_40 _ (by omega)).trans f_39_8
  have f_40_9 : M_40 (r + 9) = some (.inl (cs 1, 3, .inr (.inl (fun _ => 0)))) := (hk_40 _ (by omega)).trans f_39_9
  have f_40_10 : M_40 (r + 10) = some (.inl (cs 1, 3, .inr (.inl (fun _ => 0)))) := (hk_40 _ (by omega)).trans f_39_10
  have f_40_11 : M_40 (r + 11) = some (.inl (cs 1, 3, .inr (.inl (fun _ => 0)))) := (hk_40 _ (by omega)).trans f_39_11
  have b_40_4 : blkPf M_40 cs (r + 4) := b_39_4.keep (fun q h1 h2 => hk_40 q (by omega))
  have b_40_6 : blkPf M_40 cs (r + 6) := b_39_6.keep (fun q h1 h2 => hk_40 q (by omega))
  have b_40_12 : blkLp M_40 cs (r + 12) := b_39_12.keep (fun q h1 h2 => hk_40 q (by omega))
  have b_40_33 : blkLp M_40 cs (r + 33) := b_39_33.keep (fun q h1 h2 => hk_40 q (by omega))
  have b_40_54 : blkLp M_40 cs (r + 54) := b_39_54.keep (fun q h1 h2 => hk_40 q (by omega))
  have b_40_75 : blkLp M_40 cs (r + 75) := b_39_75.keep (fun q h1 h2 => hk_40 q (by omega))
  have b_40_96 : blkLp M_40 cs (r + 96) := b_39_96.keep (fun q h1 h2 => hk_40 q (by omega))
  have b_40_117 : blkLp M_40 cs (r + 117) := b_39_117.keep (fun q h1 h2 => hk_40 q (by omega))
  have b_40_138 : blkLp M_40 cs (r + 138) := hb_.2.2
  have hz : H.size = r + 159 := hz
  refine mw_astq hx hb hK hP_40 hS 2 1 f_40_1 (by omega) rfl b_40_138.1 rfl (vp_in_nI (by omega) (by omega)) d_FT_init_99 (fun H locs hPa hS hzb => ?_)
  have hz : H.size = r + 159 := hzb.trans hz
  rw [show (nI 6).toNatClampNeg = 6 from rfl] at hPa
  obtain ⟨M_41, eM_41⟩ : ∃ z : mw_M, z = mw_up M_40 (r + 1) (.inl (cs 2, 8, .inr (.inr (.inr (.inr (va_up (va_up (va_up (va_up (va_up (va_up (va_up (fun _ => none) 0 (some (r + 12))) 1 (some (r + 33))) 2 (some (r + 54))) 3 (some (r + 75))) 4 (some (r + 96))) 5 (some (r + 117))) 6 (some (r + 138)))))))) := ⟨_, rfl⟩
  have hP_41 : mw_P D vwC M_41 H := by rw [eM_41]; exact hPa
  have ok_41 : okW cs M_41 := by rw [eM_41]; exact ok_40.up trivial
  have lo_41 : ∀ q, q < r → M_41 q = M q := fun q hq => by rw [eM_41, mw_up_ne (by omega)]; exact lo_40 q hq
  have f_41_0 : M_41 (r) = some (.inr (6, [.ref (r + 1), .int 0, .ref (r + 2), .ref (r + 3), .ref (r + 4), .ref (r + 6), .ref (r + 8), .int 0, .ref (r + 9), .ref (r + 10), .ref (r + 11)])) := by rw [eM_41, mw_up_ne (by omega)]; exact f_40_0
  have f_41_1 : M_41 (r + 1) = some (.inl (cs 2, 8, .inr (.inr (.inr (.inr (va_up (va_up (va_up (va_up (va_up (va_up (va_up (fun _ => none) 0 (some (r + 12))) 1 (some (r + 33))) 2 (some (r + 54))) 3 (some (r + 75))) 4 (some (r + 96))) 5 (some (r + 117))) 6 (some (r + 138)))))))) := by rw [eM_41]; exact mw_up_self
  have f_41_2 : M_41 (r + 2) = some (.inl (cs 3, 3, .inr (.inr (.inr (.inr (fun _ => none)))))) := by rw [eM_41, mw_up_ne (by omega)]; exact f_40_2
  have f_41_3 : M_41 (r + 3) = some (.inl (cs 3, 3, .inr (.inr (.inr (.inr (fun _ => none)))))) := by rw [eM_41, mw_up_ne (by omega)]; exact f_40_3
  have f_41_8 : M_41 (r + 8) = some (.inl (cs 0, 4, .inl (fun _ => 0))) := by rw [eM_41, mw_up_ne (by omega)]; exact f_40_8
  have f_41_9 : M_41 (r + 9) = some (.inl (cs 1, 3, .inr (.inl (fun _ => 0)))) := by rw [eM_41, mw_up_ne (by omega)]; exact f_40_9
  have f_41_10 : M_41 (r + 10) = some (.inl (cs 1, 3, .inr (.inl (fun _ => 0)))) := by rw [eM_41, mw_up_ne (by omega)]; exact f_40_10
  have f_41_11 : M_41 (r + 11) = some (.inl (cs 1, 3, .inr (.inl (fun _ => 0)))) := by rw [eM_41, mw_up_ne (by omega)]; exact f_40_11
  have b_41_4 : blkPf M_41 cs (r + 4) := b_40_4.keep (fun q h1 h2 => by rw [eM_41, mw_up_ne (by omega)])
  have b_41_6 : blkPf M_41 cs (r + 6) := b_40_6.keep (fun q h1 h2 => by rw [eM_41, mw_up_ne (by omega)])
  have b_41_12 : blkLp M_41 cs (r + 12) := b_40_12.keep (fun q h1 h2 => by rw [eM_41, mw_up_ne (by omega)])
  have b_41_33 : blkLp M_41 cs (r + 33) := b_40_33.keep (fun q h1 h2 => by rw [eM_41, mw_up_ne (by omega)])
  have b_41_54 : blkLp M_41 cs (r + 54) := b_40_54.keep (fun q h1 h2 => by rw [eM_41, mw_up_ne (by omega)])
  have b_41_75 : blkLp M_41 cs (r + 75) := b_40_75.keep (fun q h1 h2 => by rw [eM_41, mw_up_ne (by omega)])
  have b_41_96 : blkLp M_41 cs (r + 96) := b_40_96.keep (fun q h1 h2 => by rw [eM_41, mw_up_ne (by omega)])
  have b_41_117 : blkLp M_41 cs (r + 117) := b_40_117.keep (fun q h1 h2 => by rw [eM_41, mw_up_ne (by omega)])
  have b_41_138 : blkLp M_41 cs (r + 138) := b_40_138.keep (fun q h1 h2 => by rw [eM_41, mw_up_ne (by omega)])
  refine lv_iinc (v := nI 7) (lv' := [(1, .int (nI 7)), (0, .ref r)]) hx hb d_FT_init_100 hl (k := 0) rfl (gm_inc 6 1) (by decide) rfl (fun ls hl => ?_)
  refine lv_goto (tgt := 81) hx hb d_FT_init_103 (by decide) ?_
  refine lv_iload_n hx hb d_FT_init_81 rfl (lv_at hl 0 rfl) ?_
  refine lv_bipush (v := nI 8) hx hb d_FT_init_82 rfl ?_
  refine lv_icmp_ge (tgt := 106) hx hb d_FT_init_84 (by decide) (fun c_ => absurd c_ (by decide)) (fun c_ => ?_)
  refine lv_aload_n hx hb d_FT_init_87 rfl (lv_at hl 1 rfl) ?_
  refine mw_get (D := D) (C := R_FT) (T := F_FT) (N := 11) hx hb hts in_FT hown hK hP_41 f_41_0 rfl 0 (by decide) (hts _ tw_210) (fun _ h9 => h9) rfl d_FT_init_88 ?_
  refine lv_iload_n hx hb d_FT_init_91 rfl (lv_at hl 0 rfl) ?_
  refine mw_new (D := D) (C := R_Lp) (T := F_Lp) (N := 6) (ci := 1) (fs := [.int 0, .null, .null, .int 0, .null, .null]) hx hb hts in_Lp t_Lp t_Lp_ok hown (hts _ tw_73) (hts _ tw_97) (hts _ tw_59) hK hP_41 hS rfl (fun j hj => by rcases (show j = 0 ∨ j = 1 ∨ j = 2 ∨ j = 3 ∨ j = 4 ∨ j = 5 by omega) with rfl | rfl | rfl | rfl | rfl | rfl <;> rfl) (Nat.le_of_ble_eq_true rfl) (Nat.le_of_ble_eq_true rfl) hz d_FT_init_92 (fun H hPa hS hz => ?_)
  obtain ⟨M_42, eM_42⟩ : ∃ z : mw_M, z = mw_up M_41 (r + 159) (.inr (1, [.int 0, .null, .null, .int 0, .null, .null])) := ⟨_, rfl⟩
  have hP_42 : mw_P D vwC M_42 H := by rw [eM_42]; exact hPa
  have ok_42 : okW cs M_42 := by rw [eM_42]; exact ok_41.up trivial
  have lo_42 : ∀ q, q < r → M_42 q = M q := fun q hq => by rw [eM_42, mw_up_ne (by omega)]; exact lo_41 q hq
  have f_42_0 : M_42 (r) = some (.inr (6, [.ref (r + 1), .int 0, .ref (r + 2), .ref (r + 3), .ref (r + 4), .ref (r + 6), .ref (r + 8), .int 0, .ref (r + 9), .ref (r + 10), .ref (r + 11)])) := by rw [eM_42, mw_up_ne (by omega)]; exact f_41_0
  have f_42_1 : M_42 (r + 1) = some (.inl (cs 2, 8, .inr (.inr (.inr (.inr (va_up (va_up (va_up (va_up (va_up (va_up (va_up (fun _ => none) 0 (some (r + 12))) 1 (some (r + 33))) 2 (some (r + 54))) 3 (some (r + 75))) 4 (some (r + 96))) 5 (some (r + 117))) 6 (some (r + 138)))))))) := by rw [eM_42, mw_up_ne (by omega)]; exact f_41_1
  have f_42_2 : M_42 (r + 2) = some (.inl (cs 3, 3, .inr (.inr (.inr (.inr (fun _ => none)))))) := by rw [eM_42, mw_up_ne (by omega)]; exact f_41_2
  have f_42_3 : M_42 (r + 3) = some (.inl (cs 3, 3, .inr (.inr (.inr (.inr (fun _ => none)))))) := by rw [eM_42, mw_up_ne (by omega)]; exact f_41_3
  have f_42_8 : M_42 (r + 8) = some (.inl (cs 0, 4, .inl (fun _ => 0))) := by rw [eM_42, mw_up_ne (by omega)]; exact f_41_8
  have f_42_9 : M_42 (r + 9) = some (.inl (cs 1, 3, .inr (.inl (fun _ => 0)))) := by rw [eM_42, mw_up_ne (by omega)]; exact f_41_9
  have f_42_10 : M_42 (r + 10) = some (.inl (cs 1, 3, .inr (.inl (fun _ => 0)))) := by rw [eM_42, mw_up_ne (by omega)]; exact f_41_10
  have f_42_11 : M_42 (r + 11) = some (.inl (cs 1, 3, .inr (.inl (fun _ => 0)))) := by rw [eM_42, mw_up_ne (by omega)]; exact f_41_11
  have f_42_159 : M_42 (r + 159) = some (.inr (1, [.int 0, .null, .null, .int 0, .null, .null])) := by rw [eM_42]; exact mw_up_self
  have b_42_4 : blkPf M_42 cs (r + 4) := b_41_4.keep (fun q h1 h2 => by rw [eM_42, mw_up_ne (by omega)])
  have b_42_6 : blkPf M_42 cs (r + 6) := b_41_6.keep (fun q h1 h2 => by rw [eM_42, mw_up_ne (by omega)])
  have b_42_12 : blkLp M_42 cs (r + 12) := b_41_12.keep (fun q h1 h2 => by rw [eM_42, mw_up_ne (by omega)])
  have b_42_33 : blkLp M_42 cs (r + 33) := b_41_33.keep (fun q h1 h2 => by rw [eM_42, mw_up_ne (by omega)])
  have b_42_54 : blkLp M_42 cs (r + 54) := b_41_54.keep (fun q h1 h2 => by rw [eM_42, mw_up_ne (by omega)])
  have b_42_75 : blkLp M_42 cs (r + 75) := b_41_75.keep (fun q h1 h2 => by rw [eM_42, mw_up_ne (by omega)])
  have b_42_96 : blkLp M_42 cs (r + 96) := b_41_96.keep (fun q h1 h2 => by rw [eM_42, mw_up_ne (by omega)])
  have b_42_117 : blkLp M_42 cs (r + 117) := b_41_117.keep (fun q h1 h2 => by rw [eM_42, mw_up_ne (by omega)])
  have b_42_138 : blkLp M_42 cs (r + 138) := b_41_138.keep (fun q h1 h2 => by rw [eM_42, mw_up_ne (by omega)])
  have hz : H.size = r + 160 := hz
  refine lv_dup hx hb d_FT_init_95 rfl ?_
  refine mi_callI (As := []) (rest := [.ref (r + 159), .int (nI 7), .ref (r + 1)]) (n := 0) hx hb hml hown hts hK hN hA (c_Lp_init l D cs M_42 (r + 159) f_42_159 ok_42) tw_98 tw_99 tw_59 tw_100 (by decide +kernel) ⟨rfl, rfl, by decide, by decide, by decide, by decide⟩ hP_42 hS hz (fun q hq => by omega) rfl hl.1 rfl (Nat.le_of_ble_eq_true rfl) d_FT_init_96 (fun M_43 H locs hb_ hPa hS hz => ?_)
  have hP_43 := hPa
  have hk_43 := hb_.1
  have ok_43 : okW cs M_43 := hb_.2.1
  have lo_43 : ∀ q, q < r → M_43 q = M q := fun q hq => (hk_43 q (by omega)).trans (lo_42 q hq)
  have f_43_0 : M_43 (r) = some (.inr (6, [.ref (r + 1), .int 0, .ref (r + 2), .ref (r + 3), .ref (r + 4), .ref (r + 6), .ref (r + 8), .int 0, .ref (r + 9), .ref (r + 10), .ref (r + 11)])) := (hk_43 _ (by omega)).trans f_42_0
  have f_43_1 : M_43 (r + 1) = some (.inl (cs 2, 8, .inr (.inr (.inr (.inr (va_up (va_up (va_up (va_up (va_up (va_up (va_up (fun _ => none) 0 (some (r + 12))) 1 (some (r + 33))) 2 (some (r + 54))) 3 (some (r + 75))) 4 (some (r + 96))) 5 (some (r + 117))) 6 (some (r + 138)))))))) := (hk_43 _ (by omega)).trans f_42_1
  have f_43_2 : M_43 (r + 2) = some (.inl (cs 3, 3, .inr (.inr (.inr (.inr (fun _ => none)))))) := (hk_43 _ (by omega)).trans f_42_2
  have f_43_3 : M_43 (r + 3) = some (.inl (cs 3, 3, .inr (.inr (.inr (.inr (fun _ => none)))))) := (hk_43 _ (by omega)).trans f_42_3
  have f_43_8 : M_43 (r + 8) = some (.inl (cs 0, 4, .inl (fun _ => 0))) := (hk_43 _ (by omega)).trans f_42_8
  have f_43_9 : M_43 (r + 9) = some (.inl (cs 1, 3, .inr (.inl (fun _ => 0)))) := (hk_43 _ (by omega)).trans f_42_9
  have f_43_10 : M_43 (r + 10) = some (.inl (cs 1, 3, .inr (.inl (fun _ => 0)))) := (hk_43 _ (by omega)).trans f_42_10
  have f_43_11 : M_43 (r + 11) = some (.inl (cs 1, 3, .inr (.inl (fun _ => 0)))) := (hk_43 _ (by omega)).trans f_42_11
  have b_43_4 : blkPf M_43 cs (r + 4) := b_42_4.keep (fun q h1 h2 => hk_43 q (by omega))
  have b_43_6 : blkPf M_43 cs (r + 6) := b_42_6.keep (fun q h1 h2 => hk_43 q (by omega))
  have b_43_12 : blkLp M_43 cs (r + 12) := b_42_12.keep (fun q h1 h2 => hk_43 q (by omega))
  have b_43_33 : blkLp M_43 cs (r + 33) := b_42_33.keep (fun q h1 h2 => hk_43 q (by omega))
  have b_43_54 : blkLp M_43 cs (r + 54) := b_42_54.keep (fun q h1 h2 => hk_43 q (by omega))
  have b_43_75 : blkLp M_43 cs (r + 75) := b_42_75.keep (fun q h1 h2 => hk_43 q (by omega))
  have b_43_96 : blkLp M_43 cs (r + 96) := b_42_96.keep (fun q h1 h2 => hk_43 q (by omega))
  have b_43_117 : blkLp M_43 cs (r + 117) := b_42_117.keep (fun q h1 h2 => hk_43 q (by omega))
  have b_43_138 : blkLp M_43 cs (r + 138) := b_42_138.keep (fun q h1 h2 => hk_43 q (by omega))
  have b_43_159 : blkLp M_43 cs (r + 159) := hb_.2.2
  have hz : H.size = r + 180 := hz
  refine mw_astq hx hb hK hP_43 hS 2 1 f_43_1 (by omega) rfl b_43_159.1 rfl (vp_in_nI (by omega) (by omega)) d_FT_init_99 (fun H locs hPa hS hzb => ?_)
  have hz : H.size = r + 180 := hzb.trans hz
  rw [show (nI 7).toNatClampNeg = 7 from rfl] at hPa
  obtain ⟨M_44, eM_44⟩ : ∃ z : mw_M, z = mw_up M_43 (r + 1) (.inl (cs 2, 8, .inr (.inr (.inr (.inr (va_up (va_up (va_up (va_up (va_up (va_up (va_up (va_up (fun _ => none) 0 (some (r + 12))) 1 (some (r + 33))) 2 (some (r + 54))) 3 (some (r + 75))) 4 (some (r + 96))) 5 (some (r + 117))) 6 (some (r + 138))) 7 (some (r + 159)))))))) := ⟨_, rfl⟩
  have hP_44 : mw_P D vwC M_44 H := by rw [eM_44]; exact hPa
  have ok_44 : okW cs M_44 := by rw [eM_44]; exact ok_43.up trivial
  have lo_44 : ∀ q, q < r → M_44 q = M q := fun q hq => by rw [eM_44, mw_up_ne (by omega)]; exact lo_43 q hq
  have f_44_0 : M_44 (r) = some (.inr (6, [.ref (r + 1), .int 0, .ref (r + 2), .ref (r + 3), .ref (r + 4), .ref (r + 6), .ref (r + 8), .int 0, .ref (r + 9), .ref (r + 10), .ref (r + 11)])) := by rw [eM_44, mw_up_ne (by omega)]; exact f_43_0
  have f_44_1 : M_44 (r + 1) = some (.inl (cs 2, 8, .inr (.inr (.inr (.inr (va_up (va_up (va_up (va_up (va_up (va_up (va_up (va_up (fun _ => none) 0 (some (r + 12))) 1 (some (r + 33))) 2 (some (r + 54))) 3 (some (r + 75))) 4 (some (r + 96))) 5 (some (r + 117))) 6 (some (r + 138))) 7 (some (r + 159)))))))) := by rw [eM_44]; exact mw_up_self
  have f_44_2 : M_44 (r + 2) = some (.inl (cs 3, 3, .inr (.inr (.inr (.inr (fun _ => none)))))) := by rw [eM_44, mw_up_ne (by omega)]; exact f_43_2
  have f_44_3 : M_44 (r + 3) = some (.inl (cs 3, 3, .inr (.inr (.inr (.inr (fun _ => none)))))) := by rw [eM_44, mw_up_ne (by omega)]; exact f_43_3
  have f_44_8 : M_44 (r + 8) = some (.inl (cs 0, 4, .inl (fun _ => 0))) := by rw [eM_44, mw_up_ne (by omega)]; exact f_43_8
  have f_44_9 : M_44 (r + 9) = some (.inl (cs 1, 3, .inr (.inl (fun _ => 0)))) := by rw [eM_44, mw_up_ne (by omega)]; exact f_43_9
  have f_44_10 : M_44 (r + 10) = some (.inl (cs 1, 3, .inr (.inl (fun _ => 0)))) := by rw [eM_44, mw_up_ne (by omega)]; exact f_43_10
  have f_44_11 : M_44 (r + 11) = some (.inl (cs 1, 3, .inr (.inl (fun _ => 0)))) := by rw [eM_44, mw_up_ne (by omega)]; exact f_43_11
  have b_44_4 : blkPf M_44 cs (r + 4) := b_43_4.keep (fun q h1 h2 => by rw [eM_44, mw_up_ne (by omega)])
  have b_44_6 : blkPf M_44 cs (r + 6) := b_43_6.keep (fun q h1 h2 => by rw [eM_44, mw_up_ne (by omega)])
  have b_44_12 : blkLp M_44 cs (r + 12) := b_43_12.keep (fun q h1 h2 => by rw [eM_44, mw_up_ne (by omega)])
  have b_44_33 : blkLp M_44 cs (r + 33) := b_43_33.keep (fun q h1 h2 => by rw [eM_44, mw_up_ne (by omega)])
  have b_44_54 : blkLp M_44 cs (r + 54) := b_43_54.keep (fun q h1 h2 => by rw [eM_44, mw_up_ne (by omega)])
  have b_44_75 : blkLp M_44 cs (r + 75) := b_43_75.keep (fun q h1 h2 => by rw [eM_44, mw_up_ne (by omega)])
  have b_44_96 : blkLp M_44 cs (r + 96) := b_43_96.keep (fun q h1 h2 => by rw [eM_44, mw_up_ne (by omega)])
  have b_44_117 : blkLp M_44 cs (r + 117) := b_43_117.keep (fun q h1 h2 => by rw [eM_44, mw_up_ne (by omega)])
  have b_44_138 : blkLp M_44 cs (r + 138) := b_43_138.keep (fun q h1 h2 => by rw [eM_44, mw_up_ne (by omega)])
  have b_44_159 : blkLp M_44 cs (r + 159) := b_43_159.keep (fun q h1 h2 => by rw [eM_44, mw_up_ne (by omega)])
  refine lv_iinc (v := nI 8) (lv' := [(1, .int (nI 8)), (0, .ref r)]) hx hb d_FT_init_100 hl (k := 0) rfl (gm_inc 7 1) (by decide) rfl (fun ls hl => ?_)
  refine lv_goto (tgt := 81) hx hb d_FT_init_103 (by decide) ?_
  refine lv_iload_n hx hb d_FT_init_81 rfl (lv_at hl 0 rfl) ?_
  refine lv_bipush (v := nI 8) hx hb d_FT_init_82 rfl ?_
  refine lv_icmp_ge (tgt := 106) hx hb d_FT_init_84 (by decide) (fun c_ => ?_) (fun c_ => absurd (by decide) c_)
  refine lv_iconst (v := nI 0) hx hb d_FT_init_106 rfl ?_
  refine lv_istore_n (lv' := [(1, .int (nI 0)), (0, .ref r)]) hx hb d_FT_init_107 rfl hl (by decide) rfl (fun ls hl => ?_)
  refine lv_iload_n hx hb d_FT_init_108 rfl (lv_at hl 0 rfl) ?_
  refine lv_iconst (v := nI 3) hx hb d_FT_init_109 rfl ?_
  refine lv_icmp_ge (tgt := 145) hx hb d_FT_init_110 (by decide) (fun c_ => absurd c_ (by decide)) (fun c_ => ?_)
  refine lv_aload_n hx hb d_FT_init_113 rfl (lv_at hl 1 rfl) ?_
  refine mw_get (D := D) (C := R_FT) (T := F_FT) (N := 11) hx hb hts in_FT hown hK hP_44 f_44_0 rfl 2 (by decide) (hts _ tw_212) (fun _ h9 => h9) rfl d_FT_init_114 ?_
  refine lv_iload_n hx hb d_FT_init_117 rfl (lv_at hl 0 rfl) ?_
  refine mw_new (D := D) (C := R_Sp) (T := F_Sp) (N := 8) (ci := 4) (fs := [.null, .int 0, .null, .int 0, .null, .null, .null, .int 0]) hx hb hts in_Sp t_Sp t_Sp_ok hown (hts _ tw_75) (hts _ tw_180) (hts _ tw_63) hK hP_44 hS rfl (fun j hj => by rcases (show j = 0 ∨ j = 1 ∨ j = 2 ∨ j = 3 ∨ j = 4 ∨ j = 5 ∨ j = 6 ∨ j = 7 by omega) with rfl | rfl | rfl | rfl | rfl | rfl | rfl | rfl <;> rfl) (Nat.le_of_ble_eq_true rfl) (Nat.le_of_ble_eq_true rfl) hz d_FT_init_118 (fun H hPa hS hz => ?_)
  obtain ⟨M_45, eM_45⟩ : ∃ z : mw_M, z = mw_up M_44 (r + 180) (.inr (4, [.null, .int 0, .null, .int 0, .null, .null, .null, .int 0])) := ⟨_, rfl⟩
  have hP_45 : mw_P D vwC M_45 H := by rw [eM_45]; exact hPa
  have ok_45 : okW cs M_45 := by rw [eM_45]; exact ok_44.up trivial
  have lo_45 : ∀ q, q < r → M_45 q = M q := fun q hq => by rw [eM_45, mw_up_ne (by omega)]; exact lo_44 q hq
  have f_45_0 : M_45 (r) = some (.inr (6, [.ref (r + 1), .int 0, .ref (r + 2), .ref (r + 3), .ref (r + 4), .ref (r + 6), .ref (r + 8), .int 0, .ref (r + 9), .ref (r + 10), .ref (r + 11)])) := by rw [eM_45, mw_up_ne (by omega)]; exact f_44_0
  have f_45_1 : M_45 (r + 1) = some (.inl (cs 2, 8, .inr (.inr (.inr (.inr (va_up (va_up (va_up (va_up (va_up (va_up (va_up (va_up (fun _ => none) 0 (some (r + 12))) 1 (some (r + 33))) 2 (some (r + 54))) 3 (some (r + 75))) 4 (some (r + 96))) 5 (some (r + 117))) 6 (some (r + 138))) 7 (some (r + 159)))))))) := by rw [eM_45, mw_up_ne (by omega)]; exact f_44_1
  have f_45_2 : M_45 (r + 2) = some (.inl (cs 3, 3, .inr (.inr (.inr (.inr (fun _ => none)))))) := by rw [eM_45, mw_up_ne (by omega)]; exact f_44_2
  have f_45_3 : M_45 (r + 3) = some (.inl (cs 3, 3, .inr (.inr (.inr (.inr (fun _ => none)))))) := by rw [eM_45, mw_up_ne (by omega)]; exact f_44_3
  have f_45_8 : M_45 (r + 8) = some (.inl (cs 0, 4, .inl (fun _ => 0))) := by rw [eM_45, mw_up_ne (by omega)]; exact f_44_8
  have f_45_9 : M_45 (r + 9) = some (.inl (cs 1, 3, .inr (.inl (fun _ => 0)))) := by rw [eM_45, mw_up_ne (by omega)]; exact f_44_9
  have f_45_10 : M_45 (r + 10) = some (.inl (cs 1, 3, .inr (.inl (fun _ => 0)))) := by rw [eM_45, mw_up_ne (by omega)]; exact f_44_10
  have f_45_11 : M_45 (r + 11) = some (.inl (cs 1, 3, .inr (.inl (fun _ => 0)))) := by rw [eM_45, mw_up_ne (by omega)]; exact f_44_11
  have f_45_180 : M_45 (r + 180) = some (.inr (4, [.null, .int 0, .null, .int 0, .null, .null, .null, .int 0])) := by rw [eM_45]; exact mw_up_self
  have b_45_4 : blkPf M_45 cs (r + 4) := b_44_4.keep (fun q h1 h2 => by rw [eM_45, mw_up_ne (by omega)])
  have b_45_6 : blkPf M_45 cs (r + 6) := b_44_6.keep (fun q h1 h2 => by rw [eM_45, mw_up_ne (by omega)])
  have b_45_12 : blkLp M_45 cs (r + 12) := b_44_12.keep (fun q h1 h2 => by rw [eM_45, mw_up_ne (by omega)])
  have b_45_33 : blkLp M_45 cs (r + 33) := b_44_33.keep (fun q h1 h2 => by rw [eM_45, mw_up_ne (by omega)])
  have b_45_54 : blkLp M_45 cs (r + 54) := b_44_54.keep (fun q h1 h2 => by rw [eM_45, mw_up_ne (by omega)])
  have b_45_75 : blkLp M_45 cs (r + 75) := b_44_75.keep (fun q h1 h2 => by rw [eM_45, mw_up_ne (by omega)])
  have b_45_96 : blkLp M_45 cs (r + 96) := b_44_96.keep (fun q h1 h2 => by rw [eM_45, mw_up_ne (by omega)])
  have b_45_117 : blkLp M_45 cs (r + 117) := b_44_117.keep (fun q h1 h2 => by rw [eM_45, mw_up_ne (by omega)])
  have b_45_138 : blkLp M_45 cs (r + 138) := b_44_138.keep (fun q h1 h2 => by rw [eM_45, mw_up_ne (by omega)])
  have b_45_159 : blkLp M_45 cs (r + 159) := b_44_159.keep (fun q h1 h2 => by rw [eM_45, mw_up_ne (by omega)])
  have hz : H.size = r + 181 := hz
  refine lv_dup hx hb d_FT_init_121 rfl ?_
  refine mi_callN (As := []) (rest := [.ref (r + 180), .int (nI 0), .ref (r + 2)]) (n := 0) hx hb hml hown hts hK hN hA (c_Sp_init l D cs M_45 (r + 180) f_45_180 ok_45) tw_181 tw_182 tw_63 tw_183 (by decide +kernel) ⟨rfl, rfl, by decide, by decide, by decide, by decide⟩ hP_45 hS hz (fun q hq => by omega) rfl hl.1 rfl (Nat.le_of_ble_eq_true rfl) d_FT_init_122 (fun M_46 H locs hb_ hPa hS hz => ?_)
  have hP_46 := hPa
  have hk_46 := hb_.1
  have ok_46 : okW cs M_46 := hb_.2.1
  have lo_46 : ∀ q, q < r → M_46 q = M q := fun q hq => (hk_46 q (by omega)).trans (lo_45 q hq)
  have f_46_0 : M_46 (r) = some (.inr (6, [.ref (r + 1), .int 0, .ref (r + 2), .ref (r + 3), .ref (r + 4), .ref (r + 6), .ref (r + 8), .int 0, .ref (r + 9), .ref (r + 10), .ref (r + 11)])) := (hk_46 _ (by omega)).trans f_45_0
  have f_46_1 : M_46 (r + 1) = some (.inl (cs 2, 8, .inr (.inr (.inr (.inr (va_up (va_up (va_up (va_up (va_up (va_up (va_up (va_up (fun _ => none) 0 (some (r + 12))) 1 (some (r + 33))) 2 (some (r + 54))) 3 (some (r + 75))) 4 (some (r + 96))) 5 (some (r + 117))) 6 (some (r + 138))) 7 (some (r + 159)))))))) := (hk_46 _ (by omega)).trans f_45_1
  have f_46_2 : M_46 (r + 2) = some (.inl (cs 3, 3, .inr (.inr (.inr (.inr (fun _ => none)))))) := (hk_46 _ (by omega)).trans f_45_2
  have f_46_3 : M_46 (r + 3) = some (.inl (cs 3, 3, .inr (.inr (.inr (.inr (fun _ => none)))))) := (hk_46 _ (by omega)).trans f_45_3
  have f_46_8 : M_46 (r + 8) = some (.inl (cs 0, 4, .inl (fun _ => 0))) := (hk_46 _ (by omega)).trans f_45_8
  have f_46_9 : M_46 (r + 9) = some (.inl (cs 1, 3, .inr (.inl (fun _ => 0)))) := (hk_46 _ (by omega)).trans f_45_9
  have f_46_10 : M_46 (r + 10) = some (.inl (cs 1, 3, .inr (.inl (fun _ => 0)))) := (hk_46 _ (by omega)).trans f_45_10
  have f_46_11 : M_46 (r + 11) = some (.inl (cs 1, 3, .inr (.inl (fun _ => 0)))) := (hk_46 _ (by omega)).trans f_45_11
  have b_46_4 : blkPf M_46 cs (r + 4) := b_45_4.keep (fun q h1 h2 => hk_46 q (by omega))
  have b_46_6 : blkPf M_46 cs (r + 6) := b_45_6.keep (fun q h1 h2 => hk_46 q (by omega))
  have b_46_12 : blkLp M_46 cs (r + 12) := b_45_12.keep (fun q h1 h2 => hk_46 q (by omega))
  have b_46_33 : blkLp M_46 cs (r + 33) := b_45_33.keep (fun q h1 h2 => hk_46 q (by omega))
  have b_46_54 : blkLp M_46 cs (r + 54) := b_45_54.keep (fun q h1 h2 => hk_46 q (by omega))
  have b_46_75 : blkLp M_46 cs (r + 75) := b_45_75.keep (fun q h1 h2 => hk_46 q (by omega))
  have b_46_96 : blkLp M_46 cs (r + 96) := b_45_96.keep (fun q h1 h2 => hk_46 q (by omega))
  have b_46_117 : blkLp M_46 cs (r + 117) := b_45_117.keep (fun q h1 h2 => hk_46 q (by omega))
  have b_46_138 : blkLp M_46 cs (r + 138) := b_45_138.keep (fun q h1 h2 => hk_46 q (by omega))
  have b_46_159 : blkLp M_46 cs (r + 159) := b_45_159.keep (fun q h1 h2 => hk_46 q (by omega))
  have b_46_180 : blkSp M_46 cs (r + 180) := hb_.2.2
  have hz : H.size = r + 186 := hz
  refine mw_astq hx hb hK hP_46 hS 3 4 f_46_2 (by omega) rfl b_46_180.1 rfl (vp_in_nI (by omega) (by omega)) d_FT_init_125 (fun H locs hPa hS hzb => ?_)
  have hz : H.size = r + 186 := hzb.trans hz
  rw [show (nI 0).toNatClampNeg = 0 from rfl] at hPa
  obtain ⟨M_47, eM_47⟩ : ∃ z : mw_M, z = mw_up M_46 (r + 2) (.inl (cs 3, 3, .inr (.inr (.inr (.inr (va_up (fun _ => none) 0 (some (r + 180)))))))) := ⟨_, rfl⟩
  have hP_47 : mw_P D vwC M_47 H := by rw [eM_47]; exact hPa
  have ok_47 : okW cs M_47 := by rw [eM_47]; exact ok_46.up trivial
  have lo_47 : ∀ q, q < r → M_47 q = M q := fun q hq => by rw [eM_47, mw_up_ne (by omega)]; exact lo_46 q hq
  have f_47_0 : M_47 (r) = some (.inr (6, [.ref (r + 1), .int 0, .ref (r + 2), .ref (r + 3), .ref (r + 4), .ref (r + 6), .ref (r + 8), .int 0, .ref (r + 9), .ref (r + 10), .ref (r + 11)])) := by rw [eM_47, mw_up_ne (by omega)]; exact f_46_0
  have f_47_1 : M_47 (r + 1) = some (.inl (cs 2, 8, .inr (.inr (.inr (.inr (va_up (va_up (va_up (va_up (va_up (va_up (va_up (va_up (fun _ => none) 0 (some (r + 12))) 1 (some (r + 33))) 2 (some (r + 54))) 3 (some (r + 75))) 4 (some (r + 96))) 5 (some (r + 117))) 6 (some (r + 138))) 7 (some (r + 159)))))))) := by rw [eM_47, mw_up_ne (by omega)]; exact f_46_1
  have f_47_2 : M_47 (r + 2) = some (.inl (cs 3, 3, .inr (.inr (.inr (.inr (va_up (fun _ => none) 0 (some (r + 180)))))))) := by rw [eM_47]; exact mw_up_self
  have f_47_3 : M_47 (r + 3) = some (.inl (cs 3, 3, .inr (.inr (.inr (.inr (fun _ => none)))))) := by rw [eM_47, mw_up_ne (by omega)]; exact f_46_3
  have f_47_8 : M_47 (r + 8) = some (.inl (cs 0, 4, .inl (fun _ => 0))) := by rw [eM_47, mw_up_ne (by omega)]; exact f_46_8
  have f_47_9 : M_47 (r + 9) = some (.inl (cs 1, 3, .inr (.inl (fun _ => 0)))) := by rw [eM_47, mw_up_ne (by omega)]; exact f_46_9
  have f_47_10 : M_47 (r + 10) = some (.inl (cs 1, 3, .inr (.inl (fun _ => 0)))) := by rw [eM_47, mw_up_ne (by omega)]; exact f_46_10
  have f_47_11 : M_47 (r + 11) = some (.inl (cs 1, 3, .inr (.inl (fun _ => 0)))) := by rw [eM_47, mw_up_ne (by omega)]; exact f_46_11
  have b_47_4 : blkPf M_47 cs (r + 4) := b_46_4.keep (fun q h1 h2 => by rw [eM_47, mw_up_ne (by omega)])
  have b_47_6 : blkPf M_47 cs (r + 6) := b_46_6.keep (fun q h1 h2 => by rw [eM_47, mw_up_ne (by omega)])
  have b_47_12 : blkLp M_47 cs (r + 12) := b_46_12.keep (fun q h1 h2 => by rw [eM_47, mw_up_ne (by omega)])
  have b_47_33 : blkLp M_47 cs (r + 33) := b_46_33.keep (fun q h1 h2 => by rw [eM_47, mw_up_ne (by omega)])
  have b_47_54 : blkLp M_47 cs (r + 54) := b_46_54.keep (fun q h1 h2 => by rw [eM_47, mw_up_ne (by omega)])
  have b_47_75 : blkLp M_47 cs (r + 75) := b_46_75.keep (fun q h1 h2 => by rw [eM_47, mw_up_ne (by omega)])
  have b_47_96 : blkLp M_47 cs (r + 96) := b_46_96.keep (fun q h1 h2 => by rw [eM_47, mw_up_ne (by omega)])
  have b_47_117 : blkLp M_47 cs (r + 117) := b_46_117.keep (fun q h1 h2 => by rw [eM_47, mw_up_ne (by omega)])
  have b_47_138 : blkLp M_47 cs (r + 138) := b_46_138.keep (fun q h1 h2 => by rw [eM_47, mw_up_ne (by omega)])
  have b_47_159 : blkLp M_47 cs (r + 159) := b_46_159.keep (fun q h1 h2 => by rw [eM_47, mw_up_ne (by omega)])
  have b_47_180 : blkSp M_47 cs (r + 180) := b_46_180.keep (fun q h1 h2 => by rw [eM_47, mw_up_ne (by omega)])
  refine lv_aload_n hx hb d_FT_init_126 rfl (lv_at hl 1 rfl) ?_
  refine mw_get (D := D) (C := R_FT) (T := F_FT) (N := 11) hx hb hts in_FT hown hK hP_47 f_47_0 rfl 3 (by decide) (hts _ tw_213) (fun _ h9 => h9) rfl d_FT_init_127 ?_
  refine lv_iload_n hx hb d_FT_init_130 rfl (lv_at hl 0 rfl) ?_
  refine mw_new (D := D) (C := R_Sp) (T := F_Sp) (N := 8) (ci := 4) (fs := [.null, .int 0, .null, .int 0, .null, .null, .null, .int 0]) hx hb hts in_Sp t_Sp t_Sp_ok hown (hts _ tw_75) (hts _ tw_180) (hts _ tw_63) hK hP_47 hS rfl (fun j hj => by rcases (show j = 0 ∨ j = 1 ∨ j = 2 ∨ j = 3 ∨ j = 4 ∨ j = 5 ∨ j = 6 ∨ j = 7 by omega) with rfl | rfl | rfl | rfl | rfl | rfl | rfl | rfl <;> rfl) (Nat.le_of_ble_eq_true rfl) (Nat.le_of_ble_eq_true rfl) hz d_FT_init_131 (fun H hPa hS hz => ?_)
  obtain ⟨M_48, eM_48⟩ : ∃ z : mw_M, z = mw_up M_47 (r + 186) (.inr (4, [.null, .int 0, .null, .int 0, .null, .null, .null, .int 0])) := ⟨_, rfl⟩
  have hP_48 : mw_P D vwC M_48 H := by rw [eM_48]; exact hPa
  have ok_48 : okW cs M_48 := by rw [eM_48]; exact ok_47.up trivial
  have lo_48 : ∀ q, q < r → M_48 q = M q := fun q hq => by rw [eM_48, mw_up_ne (by omega)]; exact lo_47 q hq
  have f_48_0 : M_48 (r) = some (.inr (6, [.ref (r + 1), .int 0, .ref (r + 2), .ref (r + 3), .ref (r + 4), .ref (r + 6), .ref (r + 8), .int 0, .ref (r + 9), .ref (r + 10), .ref (r + 11)])) := by rw [eM_48, mw_up_ne (by omega)]; exact f_47_0
  have f_48_1 : M_48 (r + 1) = some (.inl (cs 2, 8, .inr (.inr (.inr (.inr (va_up (va_up (va_up (va_up (va_up (va_up (va_up (va_up (fun _ => none) 0 (some (r + 12))) 1 (some (r + 33))) 2 (some (r + 54))) 3 (some (r + 75))) 4 (some (r + 96))) 5 (some (r + 117))) 6 (some (r + 138))) 7 (some (r + 159)))))))) := by rw [eM_48, mw_up_ne (by omega)]; exact f_47_1
  have f_48_2 : M_48 (r + 2) = some (.inl (cs 3, 3, .inr (.inr (.inr (.inr (va_up (fun _ => none) 0 (some (r + 180)))))))) := by rw [eM_48, mw_up_ne (by omega)]; exact f_47_2
  have f_48_3 : M_48 (r + 3) = some (.inl (cs 3, 3, .inr (.inr (.inr (.inr (fun _ => none)))))) := by rw [eM_48, mw_up_ne (by omega)]; exact f_47_3
  have f_48_8 : M_48 (r + 8) = some (.inl (cs 0, 4, .inl (fun _ => 0))) := by rw [eM_48, mw_up_ne (by omega)]; exact f_47_8
  have f_48_9 : M_48 (r + 9) = some (.inl (cs 1, 3, .inr (.inl (fun _ => 0)))) := by rw [eM_48, mw_up_ne (by omega)]; exact f_47_9
  have f_48_10 : M_48 (r + 10) = some (.inl (cs 1, 3, .inr (.inl (fun _ => 0)))) := by rw [eM_48, mw_up_ne (by omega)]; exact f_47_10
  have f_48_11 : M_48 (r + 11) = some (.inl (cs 1, 3, .inr (.inl (fun _ => 0)))) := by rw [eM_48, mw_up_ne (by omega)]; exact f_47_11
  have f_48_186 : M_48 (r + 186) = some (.inr (4, [.null, .int 0, .null, .int 0, .null, .null, .null, .int 0])) := by rw [eM_48]; exact mw_up_self
  have b_48_4 : blkPf M_48 cs (r + 4) := b_47_4.keep (fun q h1 h2 => by rw [eM_48, mw_up_ne (by omega)])
  have b_48_6 : blkPf M_48 cs (r + 6) := b_47_6.keep (fun q h1 h2 => by rw [eM_48, mw_up_ne (by omega)])
  have b_48_12 : blkLp M_48 cs (r + 12) := b_47_12.keep (fun q h1 h2 => by rw [eM_48, mw_up_ne (by omega)])
  have b_48_33 : blkLp M_48 cs (r + 33) := b_47_33.keep (fun q h1 h2 => by rw [eM_48, mw_up_ne (by omega)])
  have b_48_54 : blkLp M_48 cs (r + 54) := b_47_54.keep (fun q h1 h2 => by rw [eM_48, mw_up_ne (by omega)])
  have b_48_75 : blkLp M_48 cs (r + 75) := b_47_75.keep (fun q h1 h2 => by rw [eM_48, mw_up_ne (by omega)])
  have b_48_96 : blkLp M_48 cs (r + 96) := b_47_96.keep (fun q h1 h2 => by rw [eM_48, mw_up_ne (by omega)])
  have b_48_117 : blkLp M_48 cs (r + 117) := b_47_117.keep (fun q h1 h2 => by rw [eM_48, mw_up_ne (by omega)])
  have b_48_138 : blkLp M_48 cs (r + 138) := b_47_138.keep (fun q h1 h2 => by rw [eM_48, mw_up_ne (by omega)])
  have b_48_159 : blkLp M_48 cs (r + 159) := b_47_159.keep (fun q h1 h2 => by rw [eM_48, mw_up_ne (by omega)])
  have b_48_180 : blkSp M_48 cs (r + 180) := b_47_180.keep (fun q h1 h2 => by rw [eM_48, mw_up_ne (by omega)])
  have hz : H.size = r + 187 := hz
  refine lv_dup hx hb d_FT_init_134 rfl ?_
  refine mi_callN (As := []) (rest := [.ref (r + 186), .int (nI 0), .ref (r + 3)]) (n := 0) hx hb hml hown hts hK hN hA (c_Sp_init l D cs M_48 (r + 186) f_48_186 ok_48) tw_181 tw_182 tw_63 tw_183 (by decide +kernel) ⟨rfl, rfl, by decide, by decide, by decide, by decide⟩ hP_48 hS hz (fun q hq => by omega) rfl hl.1 rfl (Nat.le_of_ble_eq_true rfl) d_FT_init_135 (fun M_49 H locs hb_ hPa hS hz => ?_)
  have hP_49 := hPa
  have hk_49 := hb_.1
  have ok_49 : okW cs M_49 := hb_.2.1
  have lo_49 : ∀ q, q < r → M_49 q = M q := fun q hq => (hk_49 q (by omega)).trans (lo_48 q hq)
  have f_49_0 : M_49 (r) = some (.inr (6, [.ref (r + 1), .int 0, .ref (r + 2), .ref (r + 3), .ref (r + 4), .ref (r + 6), .ref (r + 8), .int 0, .ref (r + 9), .ref (r + 10), .ref (r + 11)])) := (hk_49 _ (by omega)).trans f_48_0
  have f_49_1 : M_49 (r + 1) = some (.inl (cs 2, 8, .inr (.inr (.inr (.inr (va_up (va_up (va_up (va_up (va_up (va_up (va_up (va_up (fun _ => none) 0 (some (r + 12))) 1 (some (r + 33))) 2 (some (r + 54))) 3 (some (r + 75))) 4 (some (r + 96))) 5 (some (r + 117))) 6 (some (r + 138))) 7 (some (r + 159)))))))) := (hk_49 _ (by omega)).trans f_48_1
  have f_49_2 : M_49 (r + 2) = some (.inl (cs 3, 3, .inr (.inr (.inr (.inr (va_up (fun _ => none) 0 (some (r + 180)))))))) := (hk_49 _ (by omega)).trans f_48_2
  have f_49_3 : M_49 (r + 3) = some (.inl (cs 3, 3, .inr (.inr (.inr (.inr (fun _ => none)))))) := (hk_49 _ (by omega)).trans f_48_3
  have f_49_8 : M_49 (r + 8) = some (.inl (cs 0, 4, .inl (fun _ => 0))) := (hk_49 _ (by omega)).trans f_48_8
  have f_49_9 : M_49 (r + 9) = some (.inl (cs 1, 3, .inr (.inl (fun _ => 0)))) := (hk_49 _ (by omega)).trans f_48_9
  have f_49_10 : M_49 (r + 10) = some (.inl (cs 1, 3, .inr (.inl (fun _ => 0)))) := (hk_49 _ (by omega)).trans f_48_10
  have f_49_11 : M_49 (r + 11) = some (.inl (cs 1, 3, .inr (.inl (fun _ => 0)))) := (hk_49 _ (by omega)).trans f_48_11
  have b_49_4 : blkPf M_49 cs (r + 4) := b_48_4.keep (fun q h1 h2 => hk_49 q (by omega))
  have b_49_6 : blkPf M_49 cs (r + 6) := b_48_6.keep (fun q h1 h2 => hk_49 q (by omega))
  have b_49_12 : blkLp M_49 cs (r + 12) := b_48_12.keep (fun q h1 h2 => hk_49 q (by omega))
  have b_49_33 : blkLp M_49 cs (r + 33) := b_48_33.keep (fun q h1 h2 => hk_49 q (by omega))
  have b_49_54 : blkLp M_49 cs (r + 54) := b_48_54.keep (fun q h1 h2 => hk_49 q (by omega))
  have b_49_75 : blkLp M_49 cs (r + 75) := b_48_75.keep (fun q h1 h2 => hk_49 q (by omega))
  have b_49_96 : blkLp M_49 cs (r + 96) := b_48_96.keep (fun q h1 h2 => hk_49 q (by omega))
  have b_49_117 : blkLp M_49 cs (r + 117) := b_48_117.keep (fun q h1 h2 => hk_49 q (by omega))
  have b_49_138 : blkLp M_49 cs (r + 138) := b_48_138.keep (fun q h1 h2 => hk_49 q (by omega))
  have b_49_159 : blkLp M_49 cs (r + 159) := b_48_159.keep (fun q h1 h2 => hk_49 q (by omega))
  have b_49_180 : blkSp M_49 cs (r + 180) := b_48_180.keep (fun q h1 h2 => hk_49 q (by omega))
  have b_49_186 : blkSp M_49 cs (r + 186) := hb_.2.2
  have hz : H.size = r + 192 := hz
  refine mw_astq hx hb hK hP_49 hS 3 4 f_49_3 (by omega) rfl b_49_186.1 rfl (vp_in_nI (by omega) (by omega)) d_FT_init_138 (fun H locs hPa hS hzb => ?_)
  have hz : H.size = r + 192 := hzb.trans hz
  rw [show (nI 0).toNatClampNeg = 0 from rfl] at hPa
  obtain ⟨M_50, eM_50⟩ : ∃ z : mw_M, z = mw_up M_49 (r + 3) (.inl (cs 3, 3, .inr (.inr (.inr (.inr (va_up (fun _ => none) 0 (some (r + 186)))))))) := ⟨_, rfl⟩
  have hP_50 : mw_P D vwC M_50 H := by rw [eM_50]; exact hPa
  have ok_50 : okW cs M_50 := by rw [eM_50]; exact ok_49.up trivial
  have lo_50 : ∀ q, q < r → M_50 q = M q := fun q hq => by rw [eM_50, mw_up_ne (by omega)]; exact lo_49 q hq
  have f_50_0 : M_50 (r) = some (.inr (6, [.ref (r + 1), .int 0, .ref (r + 2), .ref (r + 3), .ref (r + 4), .ref (r + 6), .ref (r + 8), .int 0, .ref (r + 9), .ref (r + 10), .ref (r + 11)])) := by rw [eM_50, mw_up_ne (by omega)]; exact f_49_0
  have f_50_1 : M_50 (r + 1) = some (.inl (cs 2, 8, .inr (.inr (.inr (.inr (va_up (va_up (va_up (va_up (va_up (va_up (va_up (va_up (fun _ => none) 0 (some (r + 12))) 1 (some (r + 33))) 2 (some (r + 54))) 3 (some (r + 75))) 4 (some (r + 96))) 5 (some (r + 117))) 6 (some (r + 138))) 7 (some (r + 159)))))))) := by rw [eM_50, mw_up_ne (by omega)]; exact f_49_1
  have f_50_2 : M_50 (r + 2) = some (.inl (cs 3, 3, .inr (.inr (.inr (.inr (va_up (fun _ => none) 0 (some (r + 180)))))))) := by rw [eM_50, mw_up_ne (by omega)]; exact f_49_2
  have f_50_3 : M_50 (r + 3) = some (.inl (cs 3, 3, .inr (.inr (.inr (.inr (va_up (fun _ => none) 0 (some (r + 186)))))))) := by rw [eM_50]; exact mw_up_self
  have f_50_8 : M_50 (r + 8) = some (.inl (cs 0, 4, .inl (fun _ => 0))) := by rw [eM_50, mw_up_ne (by omega)]; exact f_49_8
  have f_50_9 : M_50 (r + 9) = some (.inl (cs 1, 3, .inr (.inl (fun _ => 0)))) := by rw [eM_50, mw_up_ne (by omega)]; exact f_49_9
  have f_50_10 : M_50 (r + 10) = some (.inl (cs 1, 3, .inr (.inl (fun _ => 0)))) := by rw [eM_50, mw_up_ne (by omega)]; exact f_49_10
  have f_50_11 : M_50 (r + 11) = some (.inl (cs 1, 3, .inr (.inl (fun _ => 0)))) := by rw [eM_50, mw_up_ne (by omega)]; exact f_49_11
  have b_50_4 : blkPf M_50 cs (r + 4) := b_49_4.keep (fun q h1 h2 => by rw [eM_50, mw_up_ne (by omega)])
  have b_50_6 : blkPf M_50 cs (r + 6) := b_49_6.keep (fun q h1 h2 => by rw [eM_50, mw_up_ne (by omega)])
  have b_50_12 : blkLp M_50 cs (r + 12) := b_49_12.keep (fun q h1 h2 => by rw [eM_50, mw_up_ne (by omega)])
  have b_50_33 : blkLp M_50 cs (r + 33) := b_49_33.keep (fun q h1 h2 => by rw [eM_50, mw_up_ne (by omega)])
  have b_50_54 : blkLp M_50 cs (r + 54) := b_49_54.keep (fun q h1 h2 => by rw [eM_50, mw_up_ne (by omega)])
  have b_50_75 : blkLp M_50 cs (r + 75) := b_49_75.keep (fun q h1 h2 => by rw [eM_50, mw_up_ne (by omega)])
  have b_50_96 : blkLp M_50 cs (r + 96) := b_49_96.keep (fun q h1 h2 => by rw [eM_50, mw_up_ne (by omega)])
  have b_50_117 : blkLp M_50 cs (r + 117) := b_49_117.keep (fun q h1 h2 => by rw [eM_50, mw_up_ne (by omega)])
  have b_50_138 : blkLp M_50 cs (r + 138) := b_49_138.keep (fun q h1 h2 => by rw [eM_50, mw_up_ne (by omega)])
  have b_50_159 : blkLp M_50 cs (r + 159) := b_49_159.keep (fun q h1 h2 => by rw [eM_50, mw_up_ne (by omega)])
  have b_50_180 : blkSp M_50 cs (r + 180) := b_49_180.keep (fun q h1 h2 => by rw [eM_50, mw_up_ne (by omega)])
  have b_50_186 : blkSp M_50 cs (r + 186) := b_49_186.keep (fun q h1 h2 => by rw [eM_50, mw_up_ne (by omega)])
  refine lv_iinc (v := nI 1) (lv' := [(1, .int (nI 1)), (0, .ref r)]) hx hb d_FT_init_139 hl (k := 0) rfl (gm_inc 0 1) (by decide) rfl (fun ls hl => ?_)
  refine lv_goto (tgt := 108) hx hb d_FT_init_142 (by decide) ?_
  refine lv_iload_n hx hb d_FT_init_108 rfl (lv_at hl 0 rfl) ?_
  refine lv_iconst (v := nI 3) hx hb d_FT_init_109 rfl ?_
  refine lv_icmp_ge (tgt := 145) hx hb d_FT_init_110 (by decide) (fun c_ => absurd c_ (by decide)) (fun c_ => ?_)
  refine lv_aload_n hx hb d_FT_init_113 rfl (lv_at hl 1 rfl) ?_
  refine mw_get (D := D) (C := R_FT) (T := F_FT) (N := 11) hx hb hts in_FT hown hK hP_50 f_50_0 rfl 2 (by decide) (hts _ tw_212) (fun _ h9 => h9) rfl d_FT_init_114 ?_
  refine lv_iload_n hx hb d_FT_init_117 rfl (lv_at hl 0 rfl) ?_
  refine mw_new (D := D) (C := R_Sp) (T := F_Sp) (N := 8) (ci := 4) (fs := [.null, .int 0, .null, .int 0, .null, .null, .null, .int 0]) hx hb hts in_Sp t_Sp t_Sp_ok hown (hts _ tw_75) (hts _ tw_180) (hts _ tw_63) hK hP_50 hS rfl (fun j hj => by rcases (show j = 0 ∨ j = 1 ∨ j = 2 ∨ j = 3 ∨ j = 4 ∨ j = 5 ∨ j = 6 ∨ j = 7 by omega) with rfl | rfl | rfl | rfl | rfl | rfl | rfl | rfl <;> rfl) (Nat.le_of_ble_eq_true rfl) (Nat.le_of_ble_eq_true rfl) hz d_FT_init_118 (fun H hPa hS hz => ?_)
  obtain ⟨M_51, eM_51⟩ : ∃ z : mw_M, z = mw_up M_50 (r + 192) (.inr (4, [.null, .int 0, .null, .int 0, .null, .null, .null, .int 0])) := ⟨_, rfl⟩
  have hP_51 : mw_P D vwC M_51 H := by rw [eM_51]; exact hPa
  have ok_51 : okW cs M_51 := by rw [eM_51]; exact ok_50.up trivial
  have lo_51 : ∀ q, q < r → M_51 q = M q := fun q hq => by rw [eM_51, mw_up_ne (by omega)]; exact lo_50 q hq
  have f_51_0 : M_51 (r) = some (.inr (6, [.ref (r + 1), .int 0, .ref (r + 2), .ref (r + 3), .ref (r + 4), .ref (r + 6), .ref (r + 8), .int 0, .ref (r + 9), .ref (r + 10), .ref (r + 11)])) := by rw [eM_51, mw_up_ne (by omega)]; exact f_50_0
  have f_51_1 : M_51 (r + 1) = some (.inl (cs 2, 8, .inr (.inr (.inr (.inr (va_up (va_up (va_up (va_up (va_up (va_up (va_up (va_up (fun _ => none) 0 (some (r + 12))) 1 (some (r + 33))) 2 (some (r + 54))) 3 (some (r + 75))) 4 (some (r + 96))) 5 (some (r + 117))) 6 (some (r + 138))) 7 (some (r + 159)))))))) := by rw [eM_51, mw_up_ne (by omega)]; exact f_50_1
  have f_51_2 : M_51 (r + 2) = some (.inl (cs 3, 3, .inr (.inr (.inr (.inr (va_up (fun _ => none) 0 (some (r + 180)))))))) := by rw [eM_51, mw_up_ne (by omega)]; exact f_50_2
  have f_51_3 : M_51 (r + 3) = some (.inl (cs 3, 3, .inr (.inr (.inr (.inr (va_up (fun _ => none) 0 (some (r + 186)))))))) := by rw [eM_51, mw_up_ne (by omega)]; exact f_50_3
  have f_51_8 : M_51 (r + 8) = some (.inl (cs 0, 4, .inl (fun _ => 0))) := by rw [eM_51, mw_up_ne (by omega)]; exact f_50_8
  have f_51_9 : M_51 (r + 9) = some (.inl (cs 1, 3, .inr (.inl (fun _ => 0)))) := by rw [eM_51, mw_up_ne (by omega)]; exact f_50_9
  have f_51_10 : M_51 (r + 10) = some (.inl (cs 1, 3, .inr (.inl (fun _ => 0)))) := by rw [eM_51, mw_up_ne (by omega)]; exact f_50_10
  have f_51_11 : M_51 (r + 11) = some (.inl (cs 1, 3, .inr (.inl (fun _ => 0)))) := by rw [eM_51, mw_up_ne (by omega)]; exact f_50_11
  have f_51_192 : M_51 (r + 192) = some (.inr (4, [.null, .int 0, .null, .int 0, .null, .null, .null, .int 0])) := by rw [eM_51]; exact mw_up_self
  have b_51_4 : blkPf M_51 cs (r + 4) := b_50_4.keep (fun q h1 h2 => by rw [eM_51, mw_up_ne (by omega)])
  have b_51_6 : blkPf M_51 cs (r + 6) := b_50_6.keep (fun q h1 h2 => by rw [eM_51, mw_up_ne (by omega)])
  have b_51_12 : blkLp M_51 cs (r + 12) := b_50_12.keep (fun q h1 h2 => by rw [eM_51, mw_up_ne (by omega)])
  have b_51_33 : blkLp M_51 cs (r + 33) := b_50_33.keep (fun q h1 h2 => by rw [eM_51, mw_up_ne (by omega)])
  have b_51_54 : blkLp M_51 cs (r + 54) := b_50_54.keep (fun q h1 h2 => by rw [eM_51, mw_up_ne (by omega)])
  have b_51_75 : blkLp M_51 cs (r + 75) := b_50_75.keep (fun q h1 h2 => by rw [eM_51, mw_up_ne (by omega)])
  have b_51_96 : blkLp M_51 cs (r + 96) := b_50_96.keep (fun q h1 h2 => by rw [eM_51, mw_up_ne (by omega)])
  have b_51_117 : blkLp M_51 cs (r + 117) := b_50_117.keep (fun q h1 h2 => by rw [eM_51, mw_up_ne (by omega)])
  have b_51_138 : blkLp M_51 cs (r + 138) := b_50_138.keep (fun q h1 h2 => by rw [eM_51, mw_up_ne (by omega)])
  have b_51_159 : blkLp M_51 cs (r + 159) := b_50_159.keep (fun q h1 h2 => by rw [eM_51, mw_up_ne (by omega)])
  have b_51_180 : blkSp M_51 cs (r + 180) := b_50_180.keep (fun q h1 h2 => by rw [eM_51, mw_up_ne (by omega)])
  have b_51_186 : blkSp M_51 cs (r + 186) := b_50_186.keep (fun q h1 h2 => by rw [eM_51, mw_up_ne (by omega)])
  have hz : H.size = r + 193 := hz
  refine lv_dup hx hb d_FT_init_121 rfl ?_
  refine mi_callN (As := []) (rest := [.ref (r + 192), .int (nI 1), .ref (r + 2)]) (n := 0) hx hb hml hown hts hK hN hA (c_Sp_init l D cs M_51 (r + 192) f_51_192 ok_51) tw_181 tw_182 tw_63 tw_183 (by decide +kernel) ⟨rfl, rfl, by decide, by decide, by decide, by decide⟩ hP_51 hS hz (fun q hq => by omega) rfl hl.1 rfl (Nat.le_of_ble_eq_true rfl) d_FT_init_122 (fun M_52 H locs hb_ hPa hS hz => ?_)
  have hP_52 := hPa
  have hk_52 := hb_.1
  have ok_52 : okW cs M_52 := hb_.2.1
  have lo_52 : ∀ q, q < r → M_52 q = M q := fun q hq => (hk_52 q (by omega)).trans (lo_51 q hq)
  have f_52_0 : M_52 (r) = some (.inr (6, [.ref (r + 1), .int 0, .ref (r + 2), .ref (r + 3), .ref (r + 4), .ref (r + 6), .ref (r + 8), .int 0, .ref (r + 9), .ref (r + 10), .ref (r + 11)])) := (hk_52 _ (by omega)).trans f_51_0
  have f_52_1 : M_52 (r + 1) = some (.inl (cs 2, 8, .inr (.inr (.inr (.inr (va_up (va_up (va_up (va_up (va_up (va_up (va_up (va_up (fun _ => none) 0 (some (r + 12))) 1 (some (r + 33))) 2 (some (r + 54))) 3 (some (r + 75))) 4 (some (r + 96))) 5 (some (r + 117))) 6 (some (r + 138))) 7 (some (r + 159)))))))) := (hk_52 _ (by omega)).trans f_51_1
  have f_52_2 : M_52 (r + 2) = some (.inl (cs 3, 3, .inr (.inr (.inr (.inr (va_up (fun _ => none) 0 (some (r + 180)))))))) := (hk_52 _ (by omega)).trans f_51_2
  have f_52_3 : M_52 (r + 3) = some (.inl (cs 3, 3, .inr (.inr (.inr (.inr (va_up (fun _ => none) 0 (some (r + 186)))))))) := (hk_52 _ (by omega)).trans f_51_3
  have f_52_8 : M_52 (r + 8) = some (.inl (cs 0, 4, .inl (fun _ => 0))) := (hk_52 _ (by omega)).trans f_51_8
  have f_52_9 : M_52 (r + 9) = some (.inl (cs 1, 3, .inr (.inl (fun _ => 0)))) := (hk_52 _ (by omega)).trans f_51_9
  have f_52_10 : M_52 (r + 10) = some (.inl (cs 1, 3, .inr (.inl (fun _ => 0)))) := (hk_52 _ (by omega)).trans f_51_10
  have f_52_11 : M_52 (r + 11) = some (.inl (cs 1, 3, .inr (.inl (fun _ => 0)))) := (hk_52 _ (by omega)).trans f_51_11
  have b_52_4 : blkPf M_52 cs (r + 4) := b_51_4.keep (fun q h1 h2 => hk_52 q (by omega))
  have b_52_6 : blkPf M_52 cs (r + 6) := b_51_6.keep (fun q h1 h2 => hk_52 q (by omega))
  have b_52_12 : blkLp M_52 cs (r + 12) := b_51_12.keep (fun q h1 h2 => hk_52 q (by omega))
  have b_52_33 : blkLp M_52 cs (r + 33) := b_51_33.keep (fun q h1 h2 => hk_52 q (by omega))
  have b_52_54 : blkLp M_52 cs (r + 54) := b_51_54.keep (fun q h1 h2 => hk_52 q (by omega))
  have b_52_75 : blkLp M_52 cs (r + 75) := b_51_75.keep (fun q h1 h2 => hk_52 q (by omega))
  have b_52_96 : blkLp M_52 cs (r + 96) := b_51_96.keep (fun q h1 h2 => hk_52 q (by omega))
  have b_52_117 : blkLp M_52 cs (r + 117) := b_51_117.keep (fun q h1 h2 => hk_52 q (by omega))
  have b_52_138 : blkLp M_52 cs (r + 138) := b_51_138.keep (fun q h1 h2 => hk_52 q (by omega))
  have b_52_159 : blkLp M_52 cs (r + 159) := b_51_159.keep (fun q h1 h2 => hk_52 q (by omega))
  have b_52_180 : blkSp M_52 cs (r + 180) := b_51_180.keep (fun q h1 h2 => hk_52 q (by omega))
  have b_52_186 : blkSp M_52 cs (r + 186) := b_51_186.keep (fun q h1 h2 => hk_52 q (by omega))
  have b_52_192 : blkSp M_52 cs (r + 192) := hb_.2.2
  have hz : H.size = r + 198 := hz
  refine mw_astq hx hb hK hP_52 hS 3 4 f_52_2 (by omega) rfl b_52_192.1 rfl (vp_in_nI (by omega) (by omega)) d_FT_init_125 (fun H locs hPa hS hzb => ?_)
  have hz : H.size = r + 198 := hzb.trans hz
  rw [show (nI 1).toNatClampNeg = 1 from rfl] at hPa
  obtain ⟨M_53, eM_53⟩ : ∃ z : mw_M, z = mw_up M_52 (r + 2) (.inl (cs 3, 3, .inr (.inr (.inr (.inr (va_up (va_up (fun _ => none) 0 (some (r + 180))) 1 (some (r + 192)))))))) := ⟨_, rfl⟩
  have hP_53 : mw_P D vwC M_53 H := by rw [eM_53]; exact hPa
  have ok_53 : okW cs M_53 := by rw [eM_53]; exact ok_52.up trivial
  have lo_53 : ∀ q, q < r → M_53 q = M q := fun q hq => by rw [eM_53, mw_up_ne (by omega)]; exact lo_52 q hq
  have f_53_0 : M_53 (r) = some (.inr (6, [.ref (r + 1), .int 0, .ref (r + 2), .ref (r + 3), .ref (r + 4), .ref (r + 6), .ref (r + 8), .int 0, .ref (r + 9), .ref (r + 10), .ref (r + 11)])) := by rw [eM_53, mw_up_ne (by omega)]; exact f_52_0
  have f_53_1 : M_53 (r + 1) = some (.inl (cs 2, 8, .inr (.inr (.inr (.inr (va_up (va_up (va_up (va_up (va_up (va_up (va_up (va_up (fun _ => none) 0 (some (r + 12))) 1 (some (r + 33))) 2 (some (r + 54))) 3 (some (r + 75))) 4 (some (r + 96))) 5 (some (r + 117))) 6 (some (r + 138))) 7 (some (r + 159)))))))) := by rw [eM_53, mw_up_ne (by omega)]; exact f_52_1
  have f_53_2 : M_53 (r + 2) = some (.inl (cs 3, 3, .inr (.inr (.inr (.inr (va_up (va_up (fun _ => none) 0 (some (r + 180))) 1 (some (r + 192)))))))) := by rw [eM_53]; exact mw_up_self
  have f_53_3 : M_53 (r + 3) = some (.inl (cs 3, 3, .inr (.inr (.inr (.inr (va_up (fun _ => none) 0 (some (r + 186)))))))) := by rw [eM_53, mw_up_ne (by omega)]; exact f_52_3
  have f_53_8 : M_53 (r + 8) = some (.inl (cs 0, 4, .inl (fun _ => 0))) := by rw [eM_53, mw_up_ne (by omega)]; exact f_52_8
  have f_53_9 : M_53 (r + 9) = some (.inl (cs 1, 3, .inr (.inl (fun _ => 0)))) := by rw [eM_53, mw_up_ne (by omega)]; exact f_52_9
  have f_53_10 : M_53 (r + 10) = some (.inl (cs 1, 3, .inr (.inl (fun _ => 0)))) := by rw [eM_53, mw_up_ne (by omega)]; exact f_52_10
  have f_53_11 : M_53 (r + 11) = some (.inl (cs 1, 3, .inr (.inl (fun _ => 0)))) := by rw [eM_53, mw_up_ne (by omega)]; exact f_52_11
  have b_53_4 : blkPf M_53 cs (r + 4) := b_52_4.keep (fun q h1 h2 => by rw [eM_53, mw_up_ne (by omega)])
  have b_53_6 : blkPf M_53 cs (r + 6) := b_52_6.keep (fun q h1 h2 => by rw [eM_53, mw_up_ne (by omega)])
  have b_53_12 : blkLp M_53 cs (r + 12) := b_52_12.keep (fun q h1 h2 => by rw [eM_53, mw_up_ne (by omega)])
  have b_53_33 : blkLp M_53 cs (r + 33) := b_52_33.keep (fun q h1 h2 => by rw [eM_53, mw_up_ne (by omega)])
  have b_53_54 : blkLp M_53 cs (r + 54) := b_52_54.keep (fun q h1 h2 => by rw [eM_53, mw_up_ne (by omega)])
  have b_53_75 : blkLp M_53 cs (r + 75) := b_52_75.keep (fun q h1 h2 => by rw [eM_53, mw_up_ne (by omega)])
  have b_53_96 : blkLp M_53 cs (r + 96) := b_52_96.keep (fun q h1 h2 => by rw [eM_53, mw_up_ne (by omega)])
  have b_53_117 : blkLp M_53 cs (r + 117) := b_52_117.keep (fun q h1 h2 => by rw [eM_53, mw_up_ne (by omega)])
  have b_53_138 : blkLp M_53 cs (r + 138) := b_52_138.keep (fun q h1 h2 => by rw [eM_53, mw_up_ne (by omega)])
  have b_53_159 : blkLp M_53 cs (r + 159) := b_52_159.keep (fun q h1 h2 => by rw [eM_53, mw_up_ne (by omega)])
  have b_53_180 : blkSp M_53 cs (r + 180) := b_52_180.keep (fun q h1 h2 => by rw [eM_53, mw_up_ne (by omega)])
  have b_53_186 : blkSp M_53 cs (r + 186) := b_52_186.keep (fun q h1 h2 => by rw [eM_53, mw_up_ne (by omega)])
  have b_53_192 : blkSp M_53 cs (r + 192) := b_52_192.keep (fun q h1 h2 => by rw [eM_53, mw_up_ne (by omega)])
  refine lv_aload_n hx hb d_FT_init_126 rfl (lv_at hl 1 rfl) ?_
  refine mw_get (D := D) (C := R_FT) (T := F_FT) (N := 11) hx hb hts in_FT hown hK hP_53 f_53_0 rfl 3 (by decide) (hts _ tw_213) (fun _ h9 => h9) rfl d_FT_init_127 ?_
  refine lv_iload_n hx hb d_FT_init_130 rfl (lv_at hl 0 rfl) ?_
  refine mw_new (D := D) (C := R_Sp) (T := F_Sp) (N := 8) (ci := 4) (fs := [.null, .int 0, .null, .int 0, .null, .null, .null, .int 0]) hx hb hts in_Sp t_Sp t_Sp_ok hown (hts _ tw_75) (hts _ tw_180) (hts _ tw_63) hK hP_53 hS rfl (fun j hj => by rcases (show j = 0 ∨ j = 1 ∨ j = 2 ∨ j = 3 ∨ j = 4 ∨ j = 5 ∨ j = 6 ∨ j = 7 by omega) with rfl | rfl | rfl | rfl | rfl | rfl | rfl | rfl <;> rfl) (Nat.le_of_ble_eq_true rfl) (Nat.le_of_ble_eq_true rfl) hz d_FT_init_131 (fun H hPa hS hz => ?_)
  obtain ⟨M_54, eM_54⟩ : ∃ z : mw_M, z = mw_up M_53 (r + 198) (.inr (4, [.null, .int 0, .null, .int 0, .null, .null, .null, .int 0])) := ⟨_, rfl⟩
  have hP_54 : mw_P D vwC M_54 H := by rw [eM_54]; exact hPa
  have ok_54 : okW cs M_54 := by rw [eM_54]; exact ok_53.up trivial
  have lo_54 : ∀ q, q < r → M_54 q = M q := fun q hq => by rw [eM_54, mw_up_ne (by omega)]; exact lo_53 q hq
  have f_54_0 : M_54 (r) = some (.inr (6, [.ref (r + 1), .int 0, .ref (r + 2), .ref (r + 3), .ref (r + 4), .ref (r + 6), .ref (r + 8), .int 0, .ref (r + 9), .ref (r + 10), .ref (r + 11)])) := by rw [eM_54, mw_up_ne (by omega)]; exact f_53_0
  have f_54_1 : M_54 (r + 1) = some (.inl (cs 2, 8, .inr (.inr (.inr (.inr (va_up (va_up (va_up (va_up (va_up (va_up (va_up (va_up (fun _ => none) 0 (some (r + 12))) 1 (some (r + 33))) 2 (some (r + 54))) 3 (some (r + 75))) 4 (some (r + 96))) 5 (some (r + 117))) 6 (some (r + 138))) 7 (some (r + 159)))))))) := by rw [eM_54, mw_up_ne (by omega)]; exact f_53_1
  have f_54_2 : M_54 (r + 2) = some (.inl (cs 3, 3, .inr (.inr (.inr (.inr (va_up (va_up (fun _ => none) 0 (some (r + 180))) 1 (some (r + 192)))))))) := by rw [eM_54, mw_up_ne (by omega)]; exact f_53_2
  have f_54_3 : M_54 (r + 3) = some (.inl (cs 3, 3, .inr (.inr (.inr (.inr (va_up (fun _ => none) 0 (some (r + 186)))))))) := by rw [eM_54, mw_up_ne (by omega)]; exact f_53_3
  have f_54_8 : M_54 (r + 8) = some (.inl (cs 0, 4, .inl (fun _ => 0))) := by rw [eM_54, mw_up_ne (by omega)]; exact f_53_8
  have f_54_9 : M_54 (r + 9) = some (.inl (cs 1, 3, .inr (.inl (fun _ => 0)))) := by rw [eM_54, mw_up_ne (by omega)]; exact f_53_9
  have f_54_10 : M_54 (r + 10) = some (.inl (cs 1, 3, .inr (.inl (fun _ => 0)))) := by rw [eM_54, mw_up_ne (by omega)]; exact f_53_10
  have f_54_11 : M_54 (r + 11) = some (.inl (cs 1, 3, .inr (.inl (fun _ => 0)))) := by rw [eM_54, mw_up_ne (by omega)]; exact f_53_11
  have f_54_198 : M_54 (r + 198) = some (.inr (4, [.null, .int 0, .null, .int 0, .null, .null, .null, .int 0])) := by rw [eM_54]; exact mw_up_self
  have b_54_4 : blkPf M_54 cs (r + 4) := b_53_4.keep (fun q h1 h2 => by rw [eM_54, mw_up_ne (by omega)])
  have b_54_6 : blkPf M_54 cs (r + 6) := b_53_6.keep (fun q h1 h2 => by rw [eM_54, mw_up_ne (by omega)])
  have b_54_12 : blkLp M_54 cs (r + 12) := b_53_12.keep (fun q h1 h2 => by rw [eM_54, mw_up_ne (by omega)])
  have b_54_33 : blkLp M_54 cs (r + 33) := b_53_33.keep (fun q h1 h2 => by rw [eM_54, mw_up_ne (by omega)])
  have b_54_54 : blkLp M_54 cs (r + 54) := b_53_54.keep (fun q h1 h2 => by rw [eM_54, mw_up_ne (by omega)])
  have b_54_75 : blkLp M_54 cs (r + 75) := b_53_75.keep (fun q h1 h2 => by rw [eM_54, mw_up_ne (by omega)])
  have b_54_96 : blkLp M_54 cs (r + 96) := b_53_96.keep (fun q h1 h2 => by rw [eM_54, mw_up_ne (by omega)])
  have b_54_117 : blkLp M_54 cs (r + 117) := b_53_117.keep (fun q h1 h2 => by rw [eM_54, mw_up_ne (by omega)])
  have b_54_138 : blkLp M_54 cs (r + 138) := b_53_138.keep (fun q h1 h2 => by rw [eM_54, mw_up_ne (by omega)])
  have b_54_159 : blkLp M_54 cs (r + 159) := b_53_159.keep (fun q h1 h2 => by rw [eM_54, mw_up_ne (by omega)])
  have b_54_180 : blkSp M_54 cs (r + 180) := b_53_180.keep (fun q h1 h2 => by rw [eM_54, mw_up_ne (by omega)])
  have b_54_186 : blkSp M_54 cs (r + 186) := b_53_186.keep (fun q h1 h2 => by rw [eM_54, mw_up_ne (by omega)])
  have b_54_192 : blkSp M_54 cs (r + 192) := b_53_192.keep (fun q h1 h2 => by rw [eM_54, mw_up_ne (by omega)])
  have hz : H.size = r + 199 := hz
  refine lv_dup hx hb d_FT_init_134 rfl ?_
  refine mi_callN (As := []) (rest := [.ref (r + 198), .int (nI 1), .ref (r + 3)]) (n := 0) hx hb hml hown hts hK hN hA (c_Sp_init l D cs M_54 (r + 198) f_54_198 ok_54) tw_181 tw_182 tw_63 tw_183 (by decide +kernel) ⟨rfl, rfl, by decide, by decide, by decide, by decide⟩ hP_54 hS hz (fun q hq => by omega) rfl hl.1 rfl (Nat.le_of_ble_eq_true rfl) d_FT_init_135 (fun M_55 H locs hb_ hPa hS hz => ?_)
  have hP_55 := hPa
  have hk_55 := hb_.1
  have ok_55 : okW cs M_55 := hb_.2.1
  have lo_55 : ∀ q, q < r → M_55 q = M q := fun q hq => (hk_55 q (by omega)).trans (lo_54 q hq)
  have f_55_0 : M_55 (r) = some (.inr (6, [.ref (r + 1), .int 0, .ref (r + 2), .ref (r + 3), .ref (r + 4), .ref (r + 6), .ref (r + 8), .int 0, .ref (r + 9), .ref (r + 10), .ref (r + 11)])) := (hk_55 _ (by omega)).trans f_54_0
  have f_55_1 : M_55 (r + 1) = some (.inl (cs 2, 8, .inr (.inr (.inr (.inr (va_up (va_up (va_up (va_up (va_up (va_up (va_up (va_up (fun _ => none) 0 (some (r + 12))) 1 (some (r + 33))) 2 (some (r + 54))) 3 (some (r + 75))) 4 (some (r + 96))) 5 (some (r + 117))) 6 (some (r + 138))) 7 (some (r + 159)))))))) := (hk_55 _ (by omega)).trans f_54_1
  have f_55_2 : M_55 (r + 2) = some (.inl (cs 3, 3, .inr (.inr (.inr (.inr (va_up (va_up (fun _ => none) 0 (some (r + 180))) 1 (some (r + 192)))))))) := (hk_55 _ (by omega)).trans f_54_2
  have f_55_3 : M_55 (r + 3) = some (.inl (cs 3, 3, .inr (.inr (.inr (.inr (va_up (fun _ => none) 0 (some (r + 186)))))))) := (hk_55 _ (by omega)).trans f_54_3
  have f_55_8 : M_55 (r + 8) = some (.inl (cs 0, 4, .inl (fun _ => 0))) := (hk_55 _ (by omega)).trans f_54_8
  have f_55_9 : M_55 (r + 9) = some (.inl (cs 1, 3, .inr (.inl (fun _ => 0)))) := (hk_55 _ (by omega)).trans f_54_9
  have f_55_10 : M_55 (r + 10) = some (.inl (cs 1, 3, .inr (.inl (fun _ => 0)))) := (hk_55 _ (by omega)).trans f_54_10
  have f_55_11 : M_55 (r + 11) = some (.inl (cs 1, 3, .inr (.inl (fun _ => 0)))) := (hk_55 _ (by omega)).trans f_54_11
  have b_55_4 : blkPf M_55 cs (r + 4) := b_54_4.keep (fun q h1 h2 => hk_55 q (by omega))
  have b_55_6 : blkPf M_55 cs (r + 6) := b_54_6.keep (fun q h1 h2 => hk_55 q (by omega))
  have b_55_12 : blkLp M_55 cs (r + 12) := b_54_12.keep (fun q h1 h2 => hk_55 q (by omega))
  have b_55_33 : blkLp M_55 cs (r + 33) := b_54_33.keep (fun q h1 h2 => hk_55 q (by omega))
  have b_55_54 : blkLp M_55 cs (r + 54) := b_54_54.keep (fun q h1 h2 => hk_55 q (by omega))
  have b_55_75 : blkLp M_55 cs (r + 75) := b_54_75.keep (fun q h1 h2 => hk_55 q (by omega))
  have b_55_96 : blkLp M_55 cs (r + 96) := b_54_96.keep (fun q h1 h2 => hk_55 q (by omega))
  have b_55_117 : blkLp M_55 cs (r + 117) := b_54_117.keep (fun q h1 h2 => hk_55 q (by omega))
  have b_55_138 : blkLp M_55 cs (r + 138) := b_54_138.keep (fun q h1 h2 => hk_55 q (by omega))
  have b_55_159 : blkLp M_55 cs (r + 159) := b_54_159.keep (fun q h1 h2 => hk_55 q (by omega))
  have b_55_180 : blkSp M_55 cs (r + 180) := b_54_180.keep (fun q h1 h2 => hk_55 q (by omega))
  have b_55_186 : blkSp M_55 cs (r + 186) := b_54_186.keep (fun q h1 h2 => hk_55 q (by omega))
  have b_55_192 : blkSp M_55 cs (r + 192) := b_54_192.keep (fun q h1 h2 => hk_55 q (by omega))
  have b_55_198 : blkSp M_55 cs (r + 198) := hb_.2.2
  have hz : H.size = r + 204 := hz
  refine mw_astq hx hb hK hP_55 hS 3 4 f_55_3 (by omega) rfl b_55_198.1 rfl (vp_in_nI (by omega) (by omega)) d_FT_init_138 (fun H locs hPa hS hzb => ?_)
  have hz : H.size = r + 204 := hzb.trans hz
  rw [show (nI 1).toNatClampNeg = 1 from rfl] at hPa
  obtain ⟨M_56, eM_56⟩ : ∃ z : mw_M, z = mw_up M_55 (r + 3) (.inl (cs 3, 3, .inr (.inr (.inr (.inr (va_up (va_up (fun _ => none) 0 (some (r + 186))) 1 (some (r + 198)))))))) := ⟨_, rfl⟩
  have hP_56 : mw_P D vwC M_56 H := by rw [eM_56]; exact hPa
  have ok_56 : okW cs M_56 := by rw [eM_56]; exact ok_55.up trivial
  have lo_56 : ∀ q, q < r → M_56 q = M q := fun q hq => by rw [eM_56, mw_up_ne (by omega)]; exact lo_55 q hq
  have f_56_0 : M_56 (r) = some (.inr (6, [.ref (r + 1), .int 0, .ref (r + 2), .ref (r + 3), .ref (r + 4), .ref (r + 6), .ref (r + 8), .int 0, .ref (r + 9), .ref (r + 10), .ref (r + 11)])) := by rw [eM_56, mw_up_ne (by omega)]; exact f_55_0
  have f_56_1 : M_56 (r + 1) = some (.inl (cs 2, 8, .inr (.inr (.inr (.inr (va_up (va_up (va_up (va_up (va_up (va_up (va_up (va_up (fun _ => none) 0 (some (r + 12))) 1 (some (r + 33))) 2 (some (r + 54))) 3 (some (r + 75))) 4 (some (r + 96))) 5 (some (r + 117))) 6 (some (r + 138))) 7 (some (r + 159)))))))) := by rw [eM_56, mw_up_ne (by omega)]; exact f_55_1
  have f_56_2 : M_56 (r + 2) = some (.inl (cs 3, 3, .inr (.inr (.inr (.inr (va_up (va_up (fun _ => none) 0 (some (r + 180))) 1 (some (r + 192)))))))) := by rw [eM_56, mw_up_ne (by omega)]; exact f_55_2
  have f_56_3 : M_56 (r + 3) = some (.inl (cs 3, 3, .inr (.inr (.inr (.inr (va_up (va_up (fun _ => none) 0 (some (r + 186))) 1 (some (r + 198)))))))) := by rw [eM_56]; exact mw_up_self
  have f_56_8 : M_56 (r + 8) = some (.inl (cs 0, 4, .inl (fun _ => 0))) := by rw [eM_56, mw_up_ne (by omega)]; exact f_55_8
  have f_56_9 : M_56 (r + 9) = some (.inl (cs 1, 3, .inr (.inl (fun _ => 0)))) := by rw [eM_56, mw_up_ne (by omega)]; exact f_55_9
  have f_56_10 : M_56 (r + 10) = some (.inl (cs 1, 3, .inr (.inl (fun _ => 0)))) := by rw [eM_56, mw_up_ne (by omega)]; exact f_55_10
  have f_56_11 : M_56 (r + 11) = some (.inl (cs 1, 3, .inr (.inl (fun _ => 0)))) := by rw [eM_56, mw_up_ne (by omega)]; exact f_55_11
  have b_56_4 : blkPf M_56 cs (r + 4) := b_55_4.keep (fun q h1 h2 => by rw [eM_56, mw_up_ne (by omega)])
  have b_56_6 : blkPf M_56 cs (r + 6) := b_55_6.keep (fun q h1 h2 => by rw [eM_56, mw_up_ne (by omega)])
  have b_56_12 : blkLp M_56 cs (r + 12) := b_55_12.keep (fun q h1 h2 => by rw [eM_56, mw_up_ne (by omega)])
  have b_56_33 : blkLp M_56 cs (r + 33) := b_55_33.keep (fun q h1 h2 => by rw [eM_56, mw_up_ne (by omega)])
  have b_56_54 : blkLp M_56 cs (r + 54) := b_55_54.keep (fun q h1 h2 => by rw [eM_56, mw_up_ne (by omega)])
  have b_56_75 : blkLp M_56 cs (r + 75) := b_55_75.keep (fun q h1 h2 => by rw [eM_56, mw_up_ne (by omega)])
  have b_56_96 : blkLp M_56 cs (r + 96) := b_55_96.keep (fun q h1 h2 => by rw [eM_56, mw_up_ne (by omega)])
  have b_56_117 : blkLp M_56 cs (r + 117) := b_55_117.keep (fun q h1 h2 => by rw [eM_56, mw_up_ne (by omega)])
  have b_56_138 : blkLp M_56 cs (r + 138) := b_55_138.keep (fun q h1 h2 => by rw [eM_56, mw_up_ne (by omega)])
  have b_56_159 : blkLp M_56 cs (r + 159) := b_55_159.keep (fun q h1 h2 => by rw [eM_56, mw_up_ne (by omega)])
  have b_56_180 : blkSp M_56 cs (r + 180) := b_55_180.keep (fun q h1 h2 => by rw [eM_56, mw_up_ne (by omega)])
  have b_56_186 : blkSp M_56 cs (r + 186) := b_55_186.keep (fun q h1 h2 => by rw [eM_56, mw_up_ne (by omega)])
  have b_56_192 : blkSp M_56 cs (r + 192) := b_55_192.keep (fun q h1 h2 => by rw [eM_56, mw_up_ne (by omega)])
  have b_56_198 : blkSp M_56 cs (r + 198) := b_55_198.keep (fun q h1 h2 => by rw [eM_56, mw_up_ne (by omega)])
  refine lv_iinc (v := nI 2) (lv' := [(1, .int (nI 2)), (0, .ref r)]) hx hb d_FT_init_139 hl (k := 0) rfl (gm_inc 1 1) (by decide) rfl (fun ls hl => ?_)
  refine lv_goto (tgt := 108) hx hb d_FT_init_142 (by decide) ?_
  refine lv_iload_n hx hb d_FT_init_108 rfl (lv_at hl 0 rfl) ?_
  refine lv_iconst (v := nI 3) hx hb d_FT_init_109 rfl ?_
  refine lv_icmp_ge (tgt := 145) hx hb d_FT_init_110 (by decide) (fun c_ => absurd c_ (by decide)) (fun c_ => ?_)
  refine lv_aload_n hx hb d_FT_init_113 rfl (lv_at hl 1 rfl) ?_
  refine mw_get (D := D) (C := R_FT) (T := F_FT) (N := 11) hx hb hts in_FT hown hK hP_56 f_56_0 rfl 2 (by decide) (hts _ tw_212) (fun _ h9 => h9) rfl d_FT_init_114 ?_
  refine lv_iload_n hx hb d_FT_init_117 rfl (lv_at hl 0 rfl) ?_
  refine mw_new (D := D) (C := R_Sp) (T := F_Sp) (N := 8) (ci := 4) (fs := [.null, .int 0, .null, .int 0, .null, .null, .null, .int 0]) hx hb hts in_Sp t_Sp t_Sp_ok hown (hts _ tw_75) (hts _ tw_180) (hts _ tw_63) hK hP_56 hS rfl (fun j hj => by rcases (show j = 0 ∨ j = 1 ∨ j = 2 ∨ j = 3 ∨ j = 4 ∨ j = 5 ∨ j = 6 ∨ j = 7 by omega) with rfl | rfl | rfl | rfl | rfl | rfl | rfl | rfl <;> rfl) (Nat.le_of_ble_eq_true rfl) (Nat.le_of_ble_eq_true rfl) hz d_FT_init_118 (fun H hPa hS hz => ?_)
  obtain ⟨M_57, eM_57⟩ : ∃ z : mw_M, z = mw_up M_56 (r + 204) (.inr (4, [.null, .int 0, .null, .int 0, .null, .null, .null, .int 0])) := ⟨_, rfl⟩
  have hP_57 : mw_P D vwC M_57 H := by rw [eM_57]; exact hPa
  have ok_57 : okW cs M_57 := by rw [eM_57]; exact ok_56.up trivial
  have lo_57 : ∀ q, q < r → M_57 q = M q := fun q hq => by rw [eM_57, mw_up_ne (by omega)]; exact lo_56 q hq
  have f_57_0 : M_57 (r) = some (.inr (6, [.ref (r + 1), .int 0, .ref (r + 2), .ref (r + 3), .ref (r + 4), .ref (r + 6), .ref (r + 8), .int 0, .ref (r + 9), .ref (r + 10), .ref (r + 11)])) := by rw [eM_57, mw_up_ne (by omega)]; exact f_56_0
  have f_57_1 : M_57 (r + 1) = some (.inl (cs 2, 8, .inr (.inr (.inr (.inr (va_up (va_up (va_up (va_up (va_up (va_up (va_up (va_up (fun _ => none) 0 (some (r + 12))) 1 (some (r + 33))) 2 (some (r + 54))) 3 (some (r + 75))) 4 (some (r + 96))) 5 (some (r + 117))) 6 (some (r + 138))) 7 (some (r + 159)))))))) := by rw [eM_57, mw_up_ne (by omega)]; exact f_56_1
  have f_57_2 : M_57 (r + 2) = some (.inl (cs 3, 3, .inr (.inr (.inr (.inr (va_up (va_up (fun _ => none) 0 (some (r + 180))) 1 (some (r + 192)))))))) := by rw [eM_57, mw_up_ne (by omega)]; exact f_56_2
  have f_57_3 : M_57 (r + 3) = some (.inl (cs 3, 3, .inr (.inr (.inr (.inr (va_up (va_up (fun _ => none) 0 (some (r + 186))) 1 (some (r + 198)))))))) := by rw [eM_57, mw_up_ne (by omega)]; exact f_56_3
  have f_57_8 : M_57 (r + 8) = some (.inl (cs 0, 4, .inl (fun _ => 0))) := by rw [eM_57, mw_up_ne (by omega)]; exact f_56_8
  have f_57_9 : M_57 (r + 9) = some (.inl (cs 1, 3, .inr (.inl (fun _ => 0)))) := by rw [eM_57, mw_up_ne (by omega)]; exact f_56_9
  have f_57_10 : M_57 (r + 10) = some (.inl (cs 1, 3, .inr (.inl (fun _ => 0)))) := by rw [eM_57, mw_up_ne (by omega)]; exact f_56_10
  have f_57_11 : M_57 (r + 11) = some (.inl (cs 1, 3, .inr (.inl (fun _ => 0)))) := by rw [eM_57, mw_up_ne (by omega)]; exact f_56_11
  have f_57_204 : M_57 (r + 204) = some (.inr (4, [.null, .int 0, .null, .int 0, .null, .null, .null, .int 0])) := by rw [eM_57]; exact mw_up_self
  have b_57_4 : blkPf M_57 cs (r + 4) := b_56_4.keep (fun q h1 h2 => by rw [eM_57, mw_up_ne (by omega)])
  have b_57_6 : blkPf M_57 cs (r + 6) := b_56_6.keep (fun q h1 h2 => by rw [eM_57, mw_up_ne (by omega)])
  have b_57_12 : blkLp M_57 cs (r + 12) := b_56_12.keep (fun q h1 h2 => by rw [eM_57, mw_up_ne (by omega)])
  have b_57_33 : blkLp M_57 cs (r + 33) := b_56_33.keep (fun q h1 h2 => by rw [eM_57, mw_up_ne (by omega)])
  have b_57_54 : blkLp M_57 cs (r + 54) := b_56_54.keep (fun q h1 h2 => by rw [eM_57, mw_up_ne (by omega)])
  have b_57_75 : blkLp M_57 cs (r + 75) := b_56_75.keep (fun q h1 h2 => by rw [eM_57, mw_up_ne (by omega)])
  have b_57_96 : blkLp M_57 cs (r + 96) := b_56_96.keep (fun q h1 h2 => by rw [eM_57, mw_up_ne (by omega)])
  have b_57_117 : blkLp M_57 cs (r + 117) := b_56_117.keep (fun q h1 h2 => by rw [eM_57, mw_up_ne (by omega)])
  have b_57_138 : blkLp M_57 cs (r + 138) := b_56_138.keep (fun q h1 h2 => by rw [eM_57, mw_up_ne (by omega)])
  have b_57_159 : blkLp M_57 cs (r + 159) := b_56_159.keep (fun q h1 h2 => by rw [eM_57, mw_up_ne (by omega)])
  have b_57_180 : blkSp M_57 cs (r + 180) := b_56_180.keep (fun q h1 h2 => by rw [eM_57, mw_up_ne (by omega)])
  have b_57_186 : blkSp M_57 cs (r + 186) := b_56_186.keep (fun q h1 h2 => by rw [eM_57, mw_up_ne (by omega)])
  have b_57_192 : blkSp M_57 cs (r + 192) := b_56_192.keep (fun q h1 h2 => by rw [eM_57, mw_up_ne (by omega)])
  have b_57_198 : blkSp M_57 cs (r + 198) := b_56_198.keep (fun q h1 h2 => by rw [eM_57, mw_up_ne (by omega)])
  have hz : H.size = r + 205 := hz
  refine lv_dup hx hb d_FT_init_121 rfl ?_
  refine mi_callN (As := []) (rest := [.ref (r + 204), .int (nI 2), .ref (r + 2)]) (n := 0) hx hb hml hown hts hK hN hA (c_Sp_init l D cs M_57 (r + 204) f_57_204 ok_57) tw_181 tw_182 tw_63 tw_183 (by decide +kernel) ⟨rfl, rfl, by decide, by decide, by decide, by decide⟩ hP_57 hS hz (fun q hq => by omega) rfl hl.1 rfl (Nat.le_of_ble_eq_true rfl) d_FT_init_122 (fun M_58 H locs hb_ hPa hS hz => ?_)
  have hP_58 := hPa
  have hk_58 := hb_.1
  have ok_58 : okW cs M_58 := hb_.2.1
  have lo_58 : ∀ q, q < r → M_58 q = M q := fun q hq => (hk_58 q (by omega)).trans (lo_57 q hq)
  have f_58_0 : M_58 (r) = some (.inr (6, [.ref (r + 1), .int 0, .ref (r + 2), .ref (r + 3), .ref (r + 4), .ref (r + 6), .ref (r + 8), .int 0, .ref (r + 9), .ref (r + 10), .ref (r + 11)])) := (hk_58 _ (by omega)).trans f_57_0
  have f_58_1 : M_58 (r + 1) = some (.inl (cs 2, 8, .inr (.inr (.inr (.inr (va_up (va_up (va_up (va_up (va_up (va_up (va_up (va_up (fun _ => none) 0 (some (r + 12))) 1 (some (r + 33))) 2 (some (r + 54))) 3 (some (r + 75))) 4 (some (r + 96))) 5 (some (r + 117))) 6 (some (r + 138))) 7 (some (r + 159)))))))) := (hk_58 _ (by omega)).trans f_57_1
  have f_58_2 : M_58 (r + 2) = some (.inl (cs 3, 3, .inr (.inr (.inr (.inr (va_up (va_up (fun _ => none) 0 (some (r + 180))) 1 (some (r + 192)))))))) := (hk_58 _ (by omega)).trans f_57_2
  have f_58_3 : M_58 (r + 3) = some (.inl (cs 3, 3, .inr (.inr (.inr (.inr (va_up (va_up (fun _ => none) 0 (some (r + 186))) 1 (some (r + 198)))))))) := (hk_58 _ (by omega)).trans f_57_3
  have f_58_8 : M_58 (r + 8) = some (.inl (cs 0, 4, .inl (fun _ => 0))) := (hk_58 _ (by omega)).trans f_57_8
  have f_58_9 : M_58 (r + 9) = some (.inl (cs 1, 3, .inr (.inl (fun _ => 0)))) := (hk_58 _ (by omega)).trans f_57_9
  have f_58_10 : M_58 (r + 10) = some (.inl (cs 1, 3, .inr (.inl (fun _ => 0)))) := (hk_58 _ (by omega)).trans f_57_10
  have f_58_11 : M_58 (r + 11) = some (.inl (cs 1, 3, .inr (.inl (fun _ => 0)))) := (hk_58 _ (by omega)).trans f_57_11
  have b_58_4 : blkPf M_58 cs (r + 4) := b_57_4.keep (fun q h1 h2 => hk_58 q (by omega))
  have b_58_6 : blkPf M_58 cs (r + 6) := b_57_6.keep (fun q h1 h2 => hk_58 q (by omega))
  have b_58_12 : blkLp M_58 cs (r + 12) := b_57_12.keep (fun q h1 h2 => hk_58 q (by omega))
  have b_58_33 : blkLp M_58 cs (r + 33) := b_57_33.keep (fun q h1 h2 => hk_58 q (by omega))
  have b_58_54 : blkLp M_58 cs (r + 54) := b_57_54.keep (fun q h1 h2 => hk_58 q (by omega))
  have b_58_75 : blkLp M_58 cs (r + 75) := b_57_75.keep (fun q h1 h2 => hk_58 q (by omega))
  have b_58_96 : blkLp M_58 cs (r + 96) := b_57_96.keep (fun q h1 h2 => hk_58 q (by omega))
  have b_58_117 : blkLp M_58 cs (r + 117) := b_57_117.keep (fun q h1 h2 => hk_58 q (by omega))
  have b_58_138 : blkLp M_58 cs (r + 138) := b_57_138.keep (fun q h1 h2 => hk_58 q (by omega))
  have b_58_159 : blkLp M_58 cs (r + 159) := b_57_159.keep (fun q h1 h2 => hk_58 q (by omega))
  have b_58_180 : blkSp M_58 cs (r + 180) := b_57_180.keep (fun q h1 h2 => hk_58 q (by omega))
  have b_58_186 : blkSp M_58 cs (r + 186) := b_57_186.keep (fun q h1 h2 => hk_58 q (by omega))
  have b_58_192 : blkSp M_58 cs (r + 192) := b_57_192.keep (fun q h1 h2 => hk_58 q (by omega))
  have b_58_198 : blkSp M_58 cs (r + 198) := b_57_198.keep (fun q h1 h2 => hk_58 q (by omega))
  have b_58_204 : blkSp M_58 cs (r + 204) := hb_.2.2
  have hz : H.size = r + 210 := hz
  refine mw_astq hx hb hK hP_58 hS 3 4 f_58_2 (by omega) rfl b_58_204.1 rfl (vp_in_nI (by omega) (by omega)) d_FT_init_125 (fun H locs hPa hS hzb => ?_)
  have hz : H.size = r + 210 := hzb.trans hz
  rw [show (nI 2).toNatClampNeg = 2 from rfl] at hPa
  obtain ⟨M_59, eM_59⟩ : ∃ z : mw_M, z = mw_up M_58 (r + 2) (.inl (cs 3, 3, .inr (.inr (.inr (.inr (va_up (va_up (va_up (fun _ => none) 0 (some (r + 180))) 1 (some (r + 192))) 2 (some (r + 204)))))))) := ⟨_, rfl⟩
  have hP_59 : mw_P D vwC M_59 H := by rw [eM_59]; exact hPa
  have ok_59 : okW cs M_59 := by rw [eM_59]; exact ok_58.up trivial
  have lo_59 : ∀ q, q < r → M_59 q = M q := fun q hq => by rw [eM_59, mw_up_ne (by omega)]; exact lo_58 q hq
  have f_59_0 : M_59 (r) = some (.inr (6, [.ref (r + 1), .int 0, .ref (r + 2), .ref (r + 3), .ref (r + 4), .ref (r + 6), .ref (r + 8), .int 0, .ref (r + 9), .ref (r + 10), .ref (r + 11)])) := by rw [eM_59, mw_up_ne (by omega)]; exact f_58_0
  have f_59_1 : M_59 (r + 1) = some (.inl (cs 2, 8, .inr (.inr (.inr (.inr (va_up (va_up (va_up (va_up (va_up (va_up (va_up (va_up (fun _ => none) 0 (some (r + 12))) 1 (some (r + 33))) 2 (some (r + 54))) 3 (some (r + 75))) 4 (some (r + 96))) 5 (some (r + 117))) 6 (some (r + 138))) 7 (some (r + 159)))))))) := by rw [eM_59, mw_up_ne (by omega)]; exact f_58_1
  have f_59_2 : M_59 (r + 2) = some (.inl (cs 3, 3, .inr (.inr (.inr (.inr (va_up (va_up (va_up (fun _ => none) 0 (some (r + 180))) 1 (some (r + 192))) 2 (some (r + 204)))))))) := by rw [eM_59]; exact mw_up_self
  have f_59_3 : M_59 (r + 3) = some (.inl (cs 3, 3, .inr (.inr (.inr (.inr (va_up (va_up (fun _ => none) 0 (some (r + 186))) 1 (some (r + 198)))))))) := by rw [eM_59, mw_up_ne (by omega)]; exact f_58_3
  have f_59_8 : M_59 (r + 8) = some (.inl (cs 0, 4, .inl (fun _ => 0))) := by rw [eM_59, mw_up_ne (by omega)]; exact f_58_8
  have f_59_9 : M_59 (r + 9) = some (.inl (cs 1, 3, .inr (.inl (fun _ => 0)))) := by rw [eM_59, mw_up_ne (by omega)]; exact f_58_9
  have f_59_10 : M_59 (r + 10) = some (.inl (cs 1, 3, .inr (.inl (fun _ => 0)))) := by rw [eM_59, mw_up_ne (by omega)]; exact f_58_10
  have f_59_11 : M_59 (r + 11) = some (.inl (cs 1, 3, .inr (.inl (fun _ => 0)))) := by rw [eM_59, mw_up_ne (by omega)]; exact f_58_11
  have b_59_4 : blkPf M_59 cs (r + 4) := b_58_4.keep (fun q h1 h2 => by rw [eM_59, mw_up_ne (by omega)])
  have b_59_6 : blkPf M_59 cs (r + 6) := b_58_6.keep (fun q h1 h2 => by rw [eM_59, mw_up_ne (by omega)])
  have b_59_12 : blkLp M_59 cs (r + 12) := b_58_12.keep (fun q h1 h2 => by rw [eM_59, mw_up_ne (by omega)])
  have b_59_33 : blkLp M_59 cs (r + 33) := b_58_33.keep (fun q h1 h2 => by rw [eM_59, mw_up_ne (by omega)])
  have b_59_54 : blkLp M_59 cs (r + 54) := b_58_54.keep (fun q h1 h2 => by rw [eM_59, mw_up_ne (by omega)])
  have b_59_75 : blkLp M_59 cs (r + 75) := b_58_75.keep (fun q h1 h2 => by rw [eM_59, mw_up_ne (by omega)])
  have b_59_96 : blkLp M_59 cs (r + 96) := b_58_96.keep (fun q h1 h2 => by rw [eM_59, mw_up_ne (by omega)])
  have b_59_117 : blkLp M_59 cs (r + 117) := b_58_117.keep (fun q h1 h2 => by rw [eM_59, mw_up_ne (by omega)])
  have b_59_138 : blkLp M_59 cs (r + 138) := b_58_138.keep (fun q h1 h2 => by rw [eM_59, mw_up_ne (by omega)])
  have b_59_159 : blkLp M_59 cs (r + 159) := b_58_159.keep (fun q h1 h2 => by rw [eM_59, mw_up_ne (by omega)])
  have b_59_180 : blkSp M_59 cs (r + 180) := b_58_180.keep (fun q h1 h2 => by rw [eM_59, mw_up_ne (by omega)])
  have b_59_186 : blkSp M_59 cs (r + 186) := b_58_186.keep (fun q h1 h2 => by rw [eM_59, mw_up_ne (by omega)])
  have b_59_192 : blkSp M_59 cs (r + 192) := b_58_192.keep (fun q h1 h2 => by rw [eM_59, mw_up_ne (by omega)])
  have b_59_198 : blkSp M_59 cs (r + 198) := b_58_198.keep (fun q h1 h2 => by rw [eM_59, mw_up_ne (by omega)])
  have b_59_204 : blkSp M_59 cs (r + 204) := b_58_204.keep (fun q h1 h2 => by rw [eM_59, mw_up_ne (by omega)])
  refine lv_aload_n hx hb d_FT_init_126 rfl (lv_at hl 1 rfl) ?_
  refine mw_get (D := D) (C := R_FT) (T := F_FT) (N := 11) hx hb hts in_FT hown hK hP_59 f_59_0 rfl 3 (by decide) (hts _ tw_213) (fun _ h9 => h9) rfl d_FT_init_127 ?_
  refine lv_iload_n hx hb d_FT_init_130 rfl (lv_at hl 0 rfl) ?_
  refine mw_new (D := D) (C := R_Sp) (T := F_Sp) (N := 8) (ci := 4) (fs := [.null, .int 0, .null, .int 0, .null, .null, .null, .int 0]) hx hb hts in_Sp t_Sp t_Sp_ok hown (hts _ tw_75) (hts _ tw_180) (hts _ tw_63) hK hP_59 hS rfl (fun j hj => by rcases (show j = 0 ∨ j = 1 ∨ j = 2 ∨ j = 3 ∨ j = 4 ∨ j = 5 ∨ j = 6 ∨ j = 7 by omega) with rfl | rfl | rfl | rfl | rfl | rfl | rfl | rfl <;> rfl) (Nat.le_of_ble_eq_true rfl) (Nat.le_of_ble_eq_true rfl) hz d_FT_init_131 (fun H hPa hS hz => ?_)
  obtain ⟨M_60, eM_60⟩ : ∃ z : mw_M, z = mw_up M_59 (r + 210) (.inr (4, [.null, .int 0, .null, .int 0, .null, .null, .null, .int 0])) := ⟨_, rfl⟩
  have hP_60 : mw_P D vwC M_60 H := by rw [eM_60]; exact hPa
  have ok_60 : okW cs M_60 := by rw [eM_60]; exact ok_59.up trivial
  have lo_60 : ∀ q, q < r → M_60 q = M q := fun q hq => by rw [eM_60, mw_up_ne (by omega)]; exact lo_59 q hq
  have f_60_0 : M_60 (r) = some (.inr (6, [.ref (r + 1), .int 0, .ref (r + 2), .ref (r + 3), .ref (r + 4), .ref (r + 6), .ref (r + 8), .int 0, .ref (r + 9), .ref (r + 10), .ref (r + 11)])) := by rw [eM_60, mw_up_ne (by omega)]; exact f_59_0
  have f_60_1 : M_60 (r + 1) = some (.inl (cs 2, 8, .inr (.inr (.inr (.inr (va_up (va_up (va_up (va_up (va_up (va_up (va_up (va_up (fun _ => none) 0 (some (r + 12))) 1 (some (r + 33))) 2 (some (r + 54))) 3 (some (r + 75))) 4 (some (r + 96))) 5 (some (r + 117))) 6 (some (r + 138))) 7 (some (r + 159)))))))) := by rw [eM_60, mw_up_ne (by omega)]; exact f_59_1
  have f_60_2 : M_60 (r + 2) = some (.inl (cs 3, 3, .inr (.inr (.inr (.inr (va_up (va_up (va_up (fun _ => none) 0 (some (r + 180))) 1 (some (r + 192))) 2 (some (r + 204)))))))) := by rw [eM_60, mw_up_ne (by omega)]; exact f_59_2
  have f_60_3 : M_60 (r + 3) = some (.inl (cs 3, 3, .inr (.inr (.inr (.inr (va_up (va_up (fun _ => none) 0 (some (r + 186))) 1 (some (r + 198)))))))) := by rw [eM_60, mw_up_ne (by omega)]; exact f_59_3
  have f_60_8 : M_60 (r + 8) = some (.inl (cs 0, 4, .inl (fun _ => 0))) := by rw [eM_60, mw_up_ne (by omega)]; exact f_59_8
  have f_60_9 : M_60 (r + 9) = some (.inl (cs 1, 3, .inr (.inl (fun _ => 0)))) := by rw [eM_60, mw_up_ne (by omega)]; exact f_59_9
  have f_60_10 : M_60 (r + 10) = some (.inl (cs 1, 3, .inr (.inl (fun _ => 0)))) := by rw [eM_60, mw_up_ne (by omega)]; exact f_59_10
  have f_60_11 : M_60 (r + 11) = some (.inl (cs 1, 3, .inr (.inl (fun _ => 0)))) := by rw [eM_60, mw_up_ne (by omega)]; exact f_59_11
  have f_60_210 : M_60 (r + 210) = some (.inr (4, [.null, .int 0, .null, .int 0, .null, .null, .null, .int 0])) := by rw [eM_60]; exact mw_up_self
  have b_60_4 : blkPf M_60 cs (r + 4) := b_59_4.keep (fun q h1 h2 => by rw [eM_60, mw_up_ne (by omega)])
  have b_60_6 : blkPf M_60 cs (r + 6) := b_59_6.keep (fun q h1 h2 => by rw [eM_60, mw_up_ne (by omega)])
  have b_60_12 : blkLp M_60 cs (r + 12) := b_59_12.keep (fun q h1 h2 => by rw [eM_60, mw_up_ne (by omega)])
  have b_60_33 : blkLp M_60 cs (r + 33) := b_59_33.keep (fun q h1 h2 => by rw [eM_60, mw_up_ne (by omega)])
  have b_60_54 : blkLp M_60 cs (r + 54) := b_59_54.keep (fun q h1 h2 => by rw [eM_60, mw_up_ne (by omega)])
  have b_60_75 : blkLp M_60 cs (r + 75) := b_59_75.keep (fun q h1 h2 => by rw [eM_60, mw_up_ne (by omega)])
  have b_60_96 : blkLp M_60 cs (r + 96) := b_59_96.keep (fun q h1 h2 => by rw [eM_60, mw_up_ne (by omega)])
  have b_60_117 : blkLp M_60 cs (r + 117) := b_59_117.keep (fun q h1 h2 => by rw [eM_60, mw_up_ne (by omega)])
  have b_60_138 : blkLp M_60 cs (r + 138) := b_59_138.keep (fun q h1 h2 => by rw [eM_60, mw_up_ne (by omega)])
  have b_60_159 : blkLp M_60 cs (r + 159) := b_59_159.keep (fun q h1 h2 => by rw [eM_60, mw_up_ne (by omega)])
  have b_60_180 : blkSp M_60 cs (r + 180) := b_59_180.keep (fun q h1 h2 => by rw [eM_60, mw_up_ne (by omega)])
  have b_60_186 : blkSp M_60 cs (r + 186) := b_59_186.keep (fun q h1 h2 => by rw [eM_60, mw_up_ne (by omega)])
  have b_60_192 : blkSp M_60 cs (r + 192) := b_59_192.keep (fun q h1 h2 => by rw [eM_60, mw_up_ne (by omega)])
  have b_60_198 : blkSp M_60 cs (r + 198) := b_59_198.keep (fun q h1 h2 => by rw [eM_60, mw_up_ne (by omega)])
  have b_60_204 : blkSp M_60 cs (r + 204) := b_59_204.keep (fun q h1 h2 => by rw [eM_60, mw_up_ne (by omega)])
  have hz : H.size = r + 211 := hz
  refine lv_dup hx hb d_FT_init_134 rfl ?_
  refine mi_callN (As := []) (rest := [.ref (r + 210), .int (nI 2), .ref (r + 3)]) (n := 0) hx hb hml hown hts hK hN hA (c_Sp_init l D cs M_60 (r + 210) f_60_210 ok_60) tw_181 tw_182 tw_63 tw_183 (by decide +kernel) ⟨rfl, rfl, by decide, by decide, by decide, by decide⟩ hP_60 hS hz (fun q hq => by omega) rfl hl.1 rfl (Nat.le_of_ble_eq_true rfl) d_FT_init_135 (fun M_61 H locs hb_ hPa hS hz => ?_)
  have hP_61 := hPa
  have hk_61 := hb_.1
  have ok_61 : okW cs M_61 := hb_.2.1
  have lo_61 : ∀ q, q < r → M_61 q = M q := fun q hq => (hk_61 q (by omega)).trans (lo_60 q hq)
  have f_61_0 : M_61 (r) = some (.inr (6, [.ref (r + 1), .int 0, .ref (r + 2), .ref (r + 3), .ref (r + 4), .ref (r + 6), .ref (r + 8), .int 0, .ref (r + 9), .ref (r + 10), .ref (r + 11)])) := (hk_61 _ (by omega)).trans f_60_0
  have f_61_1 : M_61 (r + 1) = some (.inl (cs 2, 8, .inr (.inr (.inr (.inr (va_up (va_up (va_up (va_up (va_up (va_up (va_up (va_up (fun _ => none) 0 (some (r + 12))) 1 (some (r + 33))) 2 (some (r + 54))) 3 (some (r + 75))) 4 (some (r + 96))) 5 (some (r + 117))) 6 (some (r + 138))) 7 (some (r + 159)))))))) := (hk_61 _ (by omega)).trans f_60_1
  have f_61_2 : M_61 (r + 2) = some (.inl (cs 3, 3, .inr (.inr (.inr (.inr (va_up (va_up (va_up (fun _ => none) 0 (some (r + 180))) 1 (some (r + 192))) 2 (some (r + 204)))))))) := (hk_61 _ (by omega)).trans f_60_2
  have f_61_3 : M_61 (r + 3) = some (.inl (cs 3, 3, .inr (.inr (.inr (.inr (va_up (va_up (fun _ => none) 0 (some (r + 186))) 1 (some (r + 198)))))))) := (hk_61 _ (by omega)).trans f_60_3
  have f_61_8 : M_61 (r + 8) = some (.inl (cs 0, 4, .inl (fun _ => 0))) := (hk_61 _ (by omega)).trans f_60_8
  have f_61_9 : M_61 (r + 9) = some (.inl (cs 1, 3, .inr (.inl (fun _ => 0)))) := (hk_61 _ (by omega)).trans f_60_9
  have f_61_10 : M_61 (r + 10) = some (.inl (cs 1, 3, .inr (.inl (fun _ => 0)))) := (hk_61 _ (by omega)).trans f_60_10
  have f_61_11 : M_61 (r + 11) = some (.inl (cs 1, 3, .inr (.inl (fun _ => 0)))) := (hk_61 _ (by omega)).trans f_60_11
  have b_61_4 : blkPf M_61 cs (r + 4) := b_60_4.keep (fun q h1 h2 => hk_61 q (by omega))
  have b_61_6 : blkPf M_61 cs (r + 6) := b_60_6.keep (fun q h1 h2 => hk_61 q (by omega))
  have b_61_12 : blkLp M_61 cs (r + 12) := b_60_12.keep (fun q h1 h2 => hk_61 q (by omega))
  have b_61_33 : blkLp M_61 cs (r + 33) := b_60_33.keep (fun q h1 h2 => hk_61 q (by omega))
  have b_61_54 : blkLp M_61 cs (r + 54) := b_60_54.keep (fun q h1 h2 => hk_61 q (by omega))
  have b_61_75 : blkLp M_61 cs (r + 75) := b_60_75.keep (fun q h1 h2 => hk_61 q (by omega))
  have b_61_96 : blkLp M_61 cs (r + 96) := b_60_96.keep (fun q h1 h2 => hk_61 q (by omega))
  have b_61_117 : blkLp M_61 cs (r + 117) := b_60_117.keep (fun q h1 h2 => hk_61 q (by omega))
  have b_61_138 : blkLp M_61 cs (r + 138) := b_60_138.keep (fun q h1 h2 => hk_61 q (by omega))
  have b_61_159 : blkLp M_61 cs (r + 159) := b_60_159.keep (fun q h1 h2 => hk_61 q (by omega))
  have b_61_180 : blkSp M_61 cs (r + 180) := b_60_180.keep (fun q h1 h2 => hk_61 q (by omega))
  have b_61_186 : blkSp M_61 cs (r + 186) := b_60_186.keep (fun q h1 h2 => hk_61 q (by omega))
  have b_61_192 : blkSp M_61 cs (r + 192) := b_60_192.keep (fun q h1 h2 => hk_61 q (by omega))
  have b_61_198 : blkSp M_61 cs (r + 198) := b_60_198.keep (fun q h1 h2 => hk_61 q (by omega))
  have b_61_204 : blkSp M_61 cs (r + 204) := b_60_204.keep (fun q h1 h2 => hk_61 q (by omega))
  have b_61_210 : blkSp M_61 cs (r + 210) := hb_.2.2
  have hz : H.size = r + 216 := hz
  refine mw_astq hx hb hK hP_61 hS 3 4 f_61_3 (by omega) rfl b_61_210.1 rfl (vp_in_nI (by omega) (by omega)) d_FT_init_138 (fun H locs hPa hS hzb => ?_)
  have hz : H.size = r + 216 := hzb.trans hz
  rw [show (nI 2).toNatClampNeg = 2 from rfl] at hPa
  obtain ⟨M_62, eM_62⟩ : ∃ z : mw_M, z = mw_up M_61 (r + 3) (.inl (cs 3, 3, .inr (.inr (.inr (.inr (va_up (va_up (va_up (fun _ => none) 0 (some (r + 186))) 1 (some (r + 198))) 2 (some (r + 210)))))))) := ⟨_, rfl⟩
  have hP_62 : mw_P D vwC M_62 H := by rw [eM_62]; exact hPa
  have ok_62 : okW cs M_62 := by rw [eM_62]; exact ok_61.up trivial
  have lo_62 : ∀ q, q < r → M_62 q = M q := fun q hq => by rw [eM_62, mw_up_ne (by omega)]; exact lo_61 q hq
  have f_62_0 : M_62 (r) = some (.inr (6, [.ref (r + 1), .int 0, .ref (r + 2), .ref (r + 3), .ref (r + 4), .ref (r + 6), .ref (r + 8), .int 0, .ref (r + 9), .ref (r + 10), .ref (r + 11)])) := by rw [eM_62, mw_up_ne (by omega)]; exact f_61_0
  have f_62_1 : M_62 (r + 1) = some (.inl (cs 2, 8, .inr (.inr (.inr (.inr (va_up (va_up (va_up (va_up (va_up (va_up (va_up (va_up (fun _ => none) 0 (some (r + 12))) 1 (some (r + 33))) 2 (some (r + 54))) 3 (some (r + 75))) 4 (some (r + 96))) 5 (some (r + 117))) 6 (some (r + 138))) 7 (some (r + 159)))))))) := by rw [eM_62, mw_up_ne (by omega)]; exact f_61_1
  have f_62_2 : M_62 (r + 2) = some (.inl (cs 3, 3, .inr (.inr (.inr (.inr (va_up (va_up (va_up (fun _ => none) 0 (some (r + 180))) 1 (some (r + 192))) 2 (some (r + 204)))))))) := by rw [eM_62, mw_up_ne (by omega)]; exact f_61_2
  have f_62_3 : M_62 (r + 3) = some (.inl (cs 3, 3, .inr (.inr (.inr (.inr (va_up (va_up (va_up (fun _ => none) 0 (some (r + 186))) 1 (some (r + 198))) 2 (some (r + 210)))))))) := by rw [eM_62]; exact mw_up_self
  have f_62_8 : M_62 (r + 8) = some (.inl (cs 0, 4, .inl (fun _ => 0))) := by rw [eM_62, mw_up_ne (by omega)]; exact f_61_8
  have f_62_9 : M_62 (r + 9) = some (.inl (cs 1, 3, .inr (.inl (fun _ => 0)))) := by rw [eM_62, mw_up_ne (by omega)]; exact f_61_9
  have f_62_10 : M_62 (r + 10) = some (.inl (cs 1, 3, .inr (.inl (fun _ => 0)))) := by rw [eM_62, mw_up_ne (by omega)]; exact f_61_10
  have f_62_11 : M_62 (r + 11) = some (.inl (cs 1, 3, .inr (.inl (fun _ => 0)))) := by rw [eM_62, mw_up_ne (by omega)]; exact f_61_11
  have b_62_4 : blkPf M_62 cs (r + 4) := b_61_4.keep (fun q h1 h2 => by rw [eM_62, mw_up_ne (by omega)])
  have b_62_6 : blkPf M_62 cs (r + 6) := b_61_6.keep (fun q h1 h2 => by rw [eM_62, mw_up_ne (by omega)])
  have b_62_12 : blkLp M_62 cs (r + 12) := b_61_12.keep (fun q h1 h2 => by rw [eM_62, mw_up_ne (by omega)])
  have b_62_33 : blkLp M_62 cs (r + 33) := b_61_33.keep (fun q h1 h2 => by rw [eM_62, mw_up_ne (by omega)])
  have b_62_54 : blkLp M_62 cs (r + 54) := b_61_54.keep (fun q h1 h2 => by rw [eM_62, mw_up_ne (by omega)])
  have b_62_75 : blkLp M_62 cs (r + 75) := b_61_75.keep (fun q h1 h2 => by rw [eM_62, mw_up_ne (by omega)])
  have b_62_96 : blkLp M_62 cs (r + 96) := b_61_96.keep (fun q h1 h2 => by rw [eM_62, mw_up_ne (by omega)])
  have b_62_117 : blkLp M_62 cs (r + 117) := b_61_117.keep (fun q h1 h2 => by rw [eM_62, mw_up_ne (by omega)])
  have b_62_138 : blkLp M_62 cs (r + 138) := b_61_138.keep (fun q h1 h2 => by rw [eM_62, mw_up_ne (by omega)])
  have b_62_159 : blkLp M_62 cs (r + 159) := b_61_159.keep (fun q h1 h2 => by rw [eM_62, mw_up_ne (by omega)])
  have b_62_180 : blkSp M_62 cs (r + 180) := b_61_180.keep (fun q h1 h2 => by rw [eM_62, mw_up_ne (by omega)])
  have b_62_186 : blkSp M_62 cs (r + 186) := b_61_186.keep (fun q h1 h2 => by rw [eM_62, mw_up_ne (by omega)])
  have b_62_192 : blkSp M_62 cs (r + 192) := b_61_192.keep (fun q h1 h2 => by rw [eM_62, mw_up_ne (by omega)])
  have b_62_198 : blkSp M_62 cs (r + 198) := b_61_198.keep (fun q h1 h2 => by rw [eM_62, mw_up_ne (by omega)])
  have b_62_204 : blkSp M_62 cs (r + 204) := b_61_204.keep (fun q h1 h2 => by rw [eM_62, mw_up_ne (by omega)])
  have b_62_210 : blkSp M_62 cs (r + 210) := b_61_210.keep (fun q h1 h2 => by rw [eM_62, mw_up_ne (by omega)])
  refine lv_iinc (v := nI 3) (lv' := [(1, .int (nI 3)), (0, .ref r)]) hx hb d_FT_init_139 hl (k := 0) rfl (gm_inc 2 1) (by decide) rfl (fun ls hl => ?_)
  refine lv_goto (tgt := 108) hx hb d_FT_init_142 (by decide) ?_
  refine lv_iload_n hx hb d_FT_init_108 rfl (lv_at hl 0 rfl) ?_
  refine lv_iconst (v := nI 3) hx hb d_FT_init_109 rfl ?_
  refine lv_icmp_ge (tgt := 145) hx hb d_FT_init_110 (by decide) (fun c_ => ?_) (fun c_ => absurd (by decide) c_)
  have hfin : blkFT M_62 cs r := ⟨f_62_0, by have h := f_62_1; rw [up_FT_init_1] at h; exact h, by have h := f_62_2; rw [up_FT_init_2] at h; exact h, by have h := f_62_3; rw [up_FT_init_3] at h; exact h, b_62_4, b_62_6, f_62_8, f_62_9, f_62_10, f_62_11, fun k hk => by (match k, hk with | 0, _ => exact b_62_12 | 1, _ => exact b_62_33 | 2, _ => exact b_62_54 | 3, _ => exact b_62_75 | 4, _ => exact b_62_96 | 5, _ => exact b_62_117 | 6, _ => exact b_62_138 | 7, _ => exact b_62_159 | k + 8, hk => exact absurd hk (by omega)), fun k hk => by (match k, hk with | 0, _ => exact b_62_180 | 1, _ => exact b_62_186 | 2, _ => exact b_62_192 | 3, _ => exact b_62_198 | 4, _ => exact b_62_204 | 5, _ => exact b_62_210 | k + 6, hk => exact absurd hk (by omega))⟩
  exact W.vret hx hb hr (fun t ht hW => ⟨⟨M_62, rfl, ⟨lo_62, ok_62, hfin⟩, by rw [ht]; exact hz, by rw [ht]; exact hP_62⟩, by rw [← hHe] at hS; exact hS.F ht⟩) hS.2.2 d_FT_init_145
