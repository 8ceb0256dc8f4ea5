abbrev rmFT : Room := { frames := 4, cells := 215, slots := 2249, locals := 83 }
def FA (M : mw_M) (cs : Nat → ClassId) (r i : Nat) : Prop := M r = some (.inr (6, [.ref (r + 1), .int 0, .ref (r + 2), .ref (r + 3), .ref (r + 4), .ref (r + 6), .ref (r + 8), .int 0, .ref (r + 9), .ref (r + 10), .ref (r + 11)])) ∧ M (r + 1) = some (.inl (cs 2, 8, .inr (.inr (.inr (.inr (fun k => if k < i then some (r + 12 + 21 * k) else none)))))) ∧ M (r + 2) = some (.inl (cs 3, 3, .inr (.inr (.inr (.inr (fun _ => none)))))) ∧ M (r + 3) = some (.inl (cs 3, 3, .inr (.inr (.inr (.inr (fun _ => none)))))) ∧ blkPf M cs (r + 4) ∧ blkPf M cs (r + 6) ∧ M (r + 8) = some (.inl (cs 0, 4, .inl (fun _ => 0))) ∧ M (r + 9) = some (.inl (cs 1, 3, .inr (.inl (fun _ => 0)))) ∧ M (r + 10) = some (.inl (cs 1, 3, .inr (.inl (fun _ => 0)))) ∧ M (r + 11) = some (.inl (cs 1, 3, .inr (.inl (fun _ => 0)))) ∧ ∀ j, j < i → blkLp M cs (r + 12 + 21 * j)
def FB (M : mw_M) (cs : Nat → ClassId) (r i : Nat) : Prop := M r = some (.inr (6, [.ref (r + 1), .int 0, .ref (r + 2), .ref (r + 3), .ref (r + 4), .ref (r + 6), .ref (r + 8), .int 0, .ref (r + 9), .ref (r + 10), .ref (r + 11)])) ∧ M (r + 1) = some (.inl (cs 2, 8, .inr (.inr (.inr (.inr (fun k => if k < 8 then some (r + 12 + 21 * k) else none)))))) ∧ M (r + 2) = some (.inl (cs 3, 3, .inr (.inr (.inr (.inr (fun k => if k < i then some (r + 180 + 12 * k) else none)))))) ∧ M (r + 3) = some (.inl (cs 3, 3, .inr (.inr (.inr (.inr (fun k => if k < i then some (r + 186 + 12 * k) else none)))))) ∧ blkPf M cs (r + 4) ∧ blkPf M cs (r + 6) ∧ M (r + 8) = some (.inl (cs 0, 4, .inl (fun _ => 0))) ∧ M (r + 9) = some (.inl (cs 1, 3, .inr (.inl (fun _ => 0)))) ∧ M (r + 10) = some (.inl (cs 1, 3, .inr (.inl (fun _ => 0)))) ∧ M (r + 11) = some (.inl (cs 1, 3, .inr (.inl (fun _ => 0)))) ∧ (∀ j, j < 8 → blkLp M cs (r + 12 + 21 * j)) ∧ ∀ k, k < 2 * i → blkSp M cs (r + 180 + 6 * k)
theorem up_one (i x d r : Nat) : va_up (fun k => if k < i then some (r + x + d * k) else none) i (some (r + x + d * i)) = fun k => if k < i + 1 then some (r + x + d * k) else none := by
  funext k
  unfold va_up
  by_cases h : k = i
  · subst h; rw [if_pos rfl, if_pos (by omega)]
  · rw [if_neg h]
    show (if k < i then some (r + x + d * k) else none) = _
    by_cases h2 : k < i
    · rw [if_pos h2, if_pos (by omega)]
    · rw [if_neg h2, if_neg (by omega)]
theorem up_zero (x d r : Nat) : (fun _ => none : Nat → Option Nat) = fun k => if k < 0 then some (r + x + d * k) else none := by
  funext k
  rw [if_neg (by omega)]
section FAB
variable {M u : mw_M} {cs : Nat → ClassId} {r i : Nat}
theorem FA.keep (h : FA M cs r i) (hk : ∀ q, r ≤ q → q < r + 12 + 21 * i → q ≠ r + 1 → u q = M q) (h1 : u (r + 1) = some (.inl (cs 2, 8, .inr (.inr (.inr (.inr (fun k => if k < i + 1 then some (r + 12 + 21 * k) else none))))))) (hL : blkLp u cs (r + 12 + 21 * i)) : FA u cs r (i + 1) := by
  obtain ⟨a0, a1, a2, a3, a4, a6, a8, a9, a10, a11, aL⟩ := h
  refine ⟨(hk _ (by omega) (by omega) (by omega)).trans a0, h1, (hk _ (by omega) (by omega) (by omega)).trans a2, (hk _ (by omega) (by omega) (by omega)).trans a3, a4.keep (fun q q1 q2 => hk q (by omega) (by omega) (by omega)), a6.keep (fun q q1 q2 => hk q (by omega) (by omega) (by omega)), (hk _ (by omega) (by omega) (by omega)).trans a8, (hk _ (by omega) (by omega) (by omega)).trans a9, (hk _ (by omega) (by omega) (by omega)).trans a10, (hk _ (by omega) (by omega) (by omega)).trans a11, fun j hj => ?_⟩
  by_cases e : j = i
  · rw [e]; exact hL
  · exact (aL j (by omega)).keep (fun q q1 q2 => hk q (by omega) (by omega) (by omega))
theorem FB.keep (h : FB M cs r i) (hk : ∀ q, r ≤ q → q < r + 180 + 12 * i → q ≠ r + 2 → q ≠ r + 3 → u q = M q) (h2 : u (r + 2) = some (.inl (cs 3, 3, .inr (.inr (.inr (.inr (fun k => if k < i + 1 then some (r + 180 + 12 * k) else none))))))) (h3 : u (r + 3) = some (.inl (cs 3, 3, .inr (.inr (.inr (.inr (fun k => if k < i + 1 then some (r + 186 + 12 * k) else none))))))) (hS : blkSp u cs (r + 180 + 12 * i)) (hS2 : blkSp u cs (r + 186 + 12 * i)) : FB u cs r (i + 1) := by
  obtain ⟨a0, a1, a2, a3, a4, a6, a8, a9, a10, a11, aL, aS⟩ := h
  refine ⟨(hk _ (by omega) (by omega) (by omega) (by omega)).trans a0, (hk _ (by omega) (by omega) (by omega) (by omega)).trans a1, h2, h3, a4.keep (fun q q1 q2 => hk q (by omega) (by omega) (by omega) (by omega)), a6.keep (fun q q1 q2 => hk q (by omega) (by omega) (by omega) (by omega)), (hk _ (by omega) (by omega) (by omega) (by omega)).trans a8, (hk _ (by omega) (by omega) (by omega) (by omega)).trans a9, (hk _ (by omega) (by omega) (by omega) (by omega)).trans a10, (hk _ (by omega) (by omega) (by omega) (by omega)).trans a11, fun j hj => (aL j hj).keep (fun q q1 q2 => hk q (by omega) (by omega) (by omega) (by omega)), fun k hk2 => ?_⟩
  by_cases e : k = 2 * i
  · rw [e, show r + 180 + 6 * (2 * i) = r + 180 + 12 * i by omega]; exact hS
  · by_cases e2 : k = 2 * i + 1
    · rw [e2, show r + 180 + 6 * (2 * i + 1) = r + 186 + 12 * i by omega]; exact hS2
    · exact (aS k (by omega)).keep (fun q q1 q2 => hk q (by omega) (by omega) (by omega) (by omega))
theorem FB.zero (h : FA M cs r 8) : FB M cs r 0 := by
  obtain ⟨a0, a1, a2, a3, a4, a6, a8, a9, a10, a11, aL⟩ := h
  refine ⟨a0, a1, ?_, ?_, a4, a6, a8, a9, a10, a11, aL, fun k hk => absurd hk (by omega)⟩
  · rw [← up_zero]; exact a2
  · rw [← up_zero]; exact a3
theorem FB.fin (h : FB M cs r 3) : blkFT M cs r := by
  obtain ⟨a0, a1, a2, a3, a4, a6, a8, a9, a10, a11, aL, aS⟩ := h
  exact ⟨a0, a1, a2, a3, a4, a6, a8, a9, a10, a11, aL, fun k hk => aS k (by omega)⟩
end FAB

set_option maxHeartbeats 4000000 in
set_option maxRecDepth 100000 in
theorem ini_FT_B {p : Program} {l : Launch} {e : Env} {s : State} {m : MethodId} {below : List Frame} {meth : Method} {c : Code} {D : va_G} {cs : Nat → ClassId} {M0 : mw_M} {r : Nat} (hx : p.tables.exec = Jvm.exec) (hb : c.code = b_FT_init) (hml : c.maxLocals = 2) (hr : meth.sig.returnType = none) (hlocks : meth.locks = false) (hown : s.vm.findClass R_FT = some m.cls) (hts : ∀ w ∈ tg, w.before ([.ref r] : List Value).toArray s = true) (hK : va_K D vwC (gt cs) s) (hN : tN s) (hA : tA s) : ∀ (n i : Nat) (M : mw_M), i ≤ 3 → 3 - i < n → (∀ q, q < r → M q = M0 q) → okW cs M → FB M cs r i → ∀ (H : Heap) (locs : List Loc) (ls : Array Slot), mw_P D vwC M H → va_S (fun q => r ≤ q) s.heap H locs → H.size = r + 180 + 12 * i → lv_has ls 2 [(0, .ref r), (1, .int (nI i))] → W p l e rmFT s m ([.ref r] : List Value).toArray below meth c H locs (179 + 12 * i) (953 + 432 * i) (MQ below (va_Qv (fun u : mw_M => (∀ q, q < r → u q = M0 q) ∧ okW cs u ∧ blkFT u cs r) (mi_B D (r + 216)) (fun q => r ≤ q)) ([.ref r] : List Value).toArray s 215 2249 (fun q => r ≤ q)) (F0 m 108 ls []) := by
  intro n
  induction n with
  | zero => intro i M h1 h2; exact absurd h2 (Nat.not_lt_zero _)
  | succ n ih =>
    intro i M hi hm lo ok hF H locs ls hP hS hz hl
    refine lv_iload_n hx hb d_FT_init_108 rfl (lv_at hl 1 rfl) ?_
    refine lv_iconst (v := nI 3) hx hb d_FT_init_109 rfl ?_
    refine lv_icmp_ge (tgt := 145) hx hb d_FT_init_110 (by decide) (fun c_1 => ?_) (fun c_1 => ?_)
    · have c_1 := gm_get (by omega) (by omega) c_1
      obtain rfl : i = 3 := by omega
      exact W.vret hx hb hr (fun t ht hW => ⟨⟨M, rfl, ⟨lo, ok, hF.fin⟩, by rw [ht]; exact hz, by rw [ht]; exact hP⟩, hS.F ht⟩) hS.2.2 d_FT_init_145
    · have c_1 := gm_gef (by omega) (by omega) c_1
      refine lv_aload_n hx hb d_FT_init_113 rfl (lv_at hl 0 rfl) ?_
      refine mw_get (D := D) (C := R_FT) (T := F_FT) (N := 11) hx hb hts in_FT hown hK hP hF.1 rfl 2 (by decide) (hts _ tw_212) (fun _ h9 => h9) rfl d_FT_init_114 ?_
      refine lv_iload_n hx hb d_FT_init_117 rfl (lv_at hl 1 rfl) ?_
      refine mw_new (D := D) (C := R_Sp) (T := F_Sp) (N := 8) (ci := 4) (fs := [.null, .int 0, .null, .int 0, .null, .null, .null, .int 0]) hx hb hts in_Sp t_Sp t_Sp_ok hown (hts _ tw_75) (hts _ tw_180) (hts _ tw_63) hK hP hS rfl (fun j hj => by rcases (show j = 0 ∨ j = 1 ∨ j = 2 ∨ j = 3 ∨ j = 4 ∨ j = 5 ∨ j = 6 ∨ j = 7 by omega) with rfl | rfl | rfl | rfl | rfl | rfl | rfl | rfl <;> rfl) (by show 179 + 12 * i + 1 ≤ 215; omega) (by show 953 + 432 * i + 8 ≤ 2249; omega) hz d_FT_init_118 (fun H hPa hS hz => ?_)
      obtain ⟨Ma0, ea0⟩ : ∃ z : mw_M, z = mw_up M (r + 180 + 12 * i) (.inr (4, [.null, .int 0, .null, .int 0, .null, .null, .null, .int 0])) := ⟨_, rfl⟩
      rw [← ea0] at hPa
      have fa0 : Ma0 (r + 180 + 12 * i) = some (.inr (4, [.null, .int 0, .null, .int 0, .null, .null, .null, .int 0])) := by rw [ea0]; exact mw_up_self
      have oka0 : okW cs Ma0 := by rw [ea0]; exact ok.up trivial
      refine lv_dup hx hb d_FT_init_121 rfl ?_
      refine mi_callN (As := []) (rest := [.ref (r + 180 + 12 * i), .int (nI i), .ref (r + 2)]) (n := 0) hx hb hml hown hts hK hN hA (c_Sp_init l D cs Ma0 (r + 180 + 12 * i) fa0 oka0) tw_181 tw_182 tw_63 tw_183 (by decide +kernel) ⟨rfl, rfl, by decide, by decide, by show 179 + 12 * i + 1 + 5 ≤ 215; omega, by show 953 + 432 * i + 8 + 208 ≤ 2249; omega⟩ hPa hS hz (fun q hq => by omega) rfl hl.1 rfl (Nat.le_of_ble_eq_true rfl) d_FT_init_122 (fun Mb0 H locs hb0 hP0 hS hz => ?_)
      have k0 : ∀ q, q < r + 180 + 12 * i → Mb0 q = M q := fun q hq => (hb0.1 q hq).trans (by rw [ea0, mw_up_ne (by omega)])
      have okb0 := hb0.2.1
      have s0 := hb0.2.2
      refine mw_astq hx hb hK hP0 hS 3 4 ((k0 _ (by omega)).trans hF.2.2.1) (by omega) rfl s0.1 rfl (vp_in_nI (by omega) (by omega)) d_FT_init_125 (fun H locs hPc hS hzb => ?_)
      rw [show (nI i).toNatClampNeg = i from nI_clamp (by omega), up_one] at hPc
      obtain ⟨Mc0, ec0⟩ : ∃ z : mw_M, z = mw_up Mb0 (r + 2) (.inl (cs 3, 3, .inr (.inr (.inr (.inr (fun k => if k < i + 1 then some (r + 180 + 12 * k) else none)))))) := ⟨_, rfl⟩
      rw [← ec0] at hPc
      have hz : H.size = r + 180 + 12 * i + 6 := hzb.trans hz
      have okc0 : okW cs Mc0 := by rw [ec0]; exact okb0.up trivial
      have g0 : Mc0 r = some (.inr (6, [.ref (r + 1), .int 0, .ref (r + 2), .ref (r + 3), .ref (r + 4), .ref (r + 6), .ref (r + 8), .int 0, .ref (r + 9), .ref (r + 10), .ref (r + 11)])) := by rw [ec0, mw_up_ne (by omega)]; exact (k0 _ (by omega)).trans hF.1
      have g3 : Mc0 (r + 3) = some (.inl (cs 3, 3, .inr (.inr (.inr (.inr (fun k => if k < i then some (r + 186 + 12 * k) else none)))))) := by rw [ec0, mw_up_ne (by omega)]; exact (k0 _ (by omega)).trans hF.2.2.2.1
      have hPc0 := hPc
      refine lv_aload_n hx hb d_FT_init_126 rfl (lv_at hl 0 rfl) ?_
      refine mw_get (D := D) (C := R_FT) (T := F_FT) (N := 11) hx hb hts in_FT hown hK hPc0 g0 rfl 3 (by decide) (hts _ tw_213) (fun _ h9 => h9) rfl d_FT_init_127 ?_
      refine lv_iload_n hx hb d_FT_init_130 rfl (lv_at hl 1 rfl) ?_
      have hz : H.size = r + 186 + 12 * i := by rw [hz]; omega
      refine mw_new (D := D) (C := R_Sp) (T := F_Sp) (N := 8) (ci := 4) (fs := [.null, .int 0, .null, .int 0, .null, .null, .null, .int 0]) hx hb hts in_Sp t_Sp t_Sp_ok hown (hts _ tw_75) (hts _ tw_180) (hts _ tw_63) hK hPc0 hS rfl (fun j hj => by rcases (show j = 0 ∨ j = 1 ∨ j = 2 ∨ j = 3 ∨ j = 4 ∨ j = 5 ∨ j = 6 ∨ j = 7 by omega) with rfl | rfl | rfl | rfl | rfl | rfl | rfl | rfl <;> rfl) (by show 179 + 12 * i + 1 + 5 + 1 ≤ 215; omega) (by show 953 + 432 * i + 8 + 208 + 8 ≤ 2249; omega) hz d_FT_init_131 (fun H hPa hS hz => ?_)
      obtain ⟨Ma1, ea1⟩ : ∃ z : mw_M, z = mw_up Mc0 (r + 186 + 12 * i) (.inr (4, [.null, .int 0, .null, .int 0, .null, .null, .null, .int 0])) := ⟨_, rfl⟩
      rw [← ea1] at hPa
      have fa1 : Ma1 (r + 186 + 12 * i) = some (.inr (4, [.null, .int 0, .null, .int 0, .null, .null, .null, .int 0])) := by rw [ea1]; exact mw_up_self
      have oka1 : okW cs Ma1 := by rw [ea1]; exact okc0.up trivial
      refine lv_dup hx hb d_FT_init_134 rfl ?_
      refine mi_callN (As := []) (rest := [.ref (r + 186 + 12 * i), .int (nI i), .ref (r + 3)]) (n := 0) hx hb hml hown hts hK hN hA (c_Sp_init l D cs Ma1 (r + 186 + 12 * i) fa1 oka1) tw_181 tw_182 tw_63 tw_183 (by decide +kernel) ⟨rfl, rfl, by decide, by decide, by show 179 + 12 * i + 1 + 5 + 1 + 5 ≤ 215; omega, by show 953 + 432 * i + 8 + 208 + 8 + 208 ≤ 2249; omega⟩ hPa hS hz (fun q hq => by omega) rfl hl.1 rfl (Nat.le_of_ble_eq_true rfl) d_FT_init_135 (fun Mb1 H locs hb1 hP1 hS hz => ?_)
      have k1 : ∀ q, q < r + 186 + 12 * i → Mb1 q = Mc0 q := fun q hq => (hb1.1 q hq).trans (by rw [ea1, mw_up_ne (by omega)])
      have okb1 := hb1.2.1
      have s1 := hb1.2.2
      refine mw_astq hx hb hK hP1 hS 3 4 ((k1 _ (by omega)).trans g3) (by omega) rfl s1.1 rfl (vp_in_nI (by omega) (by omega)) d_FT_init_138 (fun H locs hPc hS hzb => ?_)
      rw [show (nI i).toNatClampNeg = i from nI_clamp (by omega), up_one] at hPc
      obtain ⟨Mc1, ec1⟩ : ∃ z : mw_M, z = mw_up Mb1 (r + 3) (.inl (cs 3, 3, .inr (.inr (.inr (.inr (fun k => if k < i + 1 then some (r + 186 + 12 * k) else none)))))) := ⟨_, rfl⟩
      rw [← ec1] at hPc
      have hz : H.size = r + 186 + 12 * i + 6 := hzb.trans hz
      have okc1 : okW cs Mc1 := by rw [ec1]; exact okb1.up trivial
      have kk : ∀ q, r ≤ q → q < r + 180 + 12 * i → q ≠ r + 2 → q ≠ r + 3 → Mc1 q = M q := fun q q1 q2 q3 q4 => by rw [ec1, mw_up_ne (by omega), k1 q (by omega), ec0, mw_up_ne (by omega)]; exact k0 q (by omega)
      have n2 : Mc1 (r + 2) = some (.inl (cs 3, 3, .inr (.inr (.inr (.inr (fun k => if k < i + 1 then some (r + 180 + 12 * k) else none)))))) := by rw [ec1, mw_up_ne (by omega), k1 _ (by omega), ec0]; exact mw_up_self
      have n3 : Mc1 (r + 3) = some (.inl (cs 3, 3, .inr (.inr (.inr (.inr (fun k => if k < i + 1 then some (r + 186 + 12 * k) else none)))))) := by rw [ec1]; exact mw_up_self
      have b0 : blkSp Mc1 cs (r + 180 + 12 * i) := s0.keep (fun q q1 q2 => by rw [ec1, mw_up_ne (by omega), k1 q (by omega), ec0, mw_up_ne (by omega)])
      have b1 : blkSp Mc1 cs (r + 186 + 12 * i) := s1.keep (fun q q1 q2 => by rw [ec1, mw_up_ne (by omega)])
      refine lv_iinc (v := nI (i + 1)) (lv' := [(1, .int (nI (i + 1))), (0, .ref r)]) hx hb d_FT_init_139 hl (k := 1) rfl (gm_inc i 1) (by decide) rfl (fun ls hl => ?_)
      refine lv_goto (tgt := 108) hx hb d_FT_init_142 (by decide) ?_
      refine W.widen (k := 179 + 12 * (i + 1)) (n := 953 + 432 * (i + 1)) (by omega) (by omega) ?_
      exact ih (i + 1) Mc1 (by omega) (by omega) (fun q hq => by rw [ec1, mw_up_ne (by omega), k1 q (by omega), ec0, mw_up_ne (by omega), k0 q (by omega)]; exact lo q hq) okc1 (hF.keep kk n2 n3 b0 b1) H locs ls hPc hS (by rw [hz]; omega) (lv_sub hl [1, 0] rfl)

set_option maxHeartbeats 4000000 in
set_option maxRecDepth 100000 in
theorem ini_FT_A {p : Program} {l : Launch} {e : Env} {s : State} {m : MethodId} {below : List Frame} {meth : Method} {c : Code} {D : va_G} {cs : Nat → ClassId} {M0 : mw_M} {r : Nat} (hx : p.tables.exec = Jvm.exec) (hb : c.code = b_FT_init) (hml : c.maxLocals = 2) (hr : meth.sig.returnType = none) (hlocks : meth.locks = false) (hown : s.vm.findClass R_FT = some m.cls) (hts : ∀ w ∈ tg, w.before ([.ref r] : List Value).toArray s = true) (hK : va_K D vwC (gt cs) s) (hN : tN s) (hA : tA s) : ∀ (n i : Nat) (M : mw_M), i ≤ 8 → 8 - i < n → (∀ q, q < r → M q = M0 q) → okW cs M → FA M cs r i → ∀ (H : Heap) (locs : List Loc) (ls : Array Slot), mw_P D vwC M H → va_S (fun q => r ≤ q) s.heap H locs → H.size = r + 12 + 21 * i → lv_has ls 2 [(0, .ref r), (1, .int (nI i))] → W p l e rmFT s m ([.ref r] : List Value).toArray below meth c H locs (11 + 21 * i) (57 + 112 * i) (MQ below (va_Qv (fun u : mw_M => (∀ q, q < r → u q = M0 q) ∧ okW cs u ∧ blkFT u cs r) (mi_B D (r + 216)) (fun q => r ≤ q)) ([.ref r] : List Value).toArray s 215 2249 (fun q => r ≤ q)) (F0 m 81 ls []) := by
  intro n
  induction n with
  | zero => intro i M h1 h2; exact absurd h2 (Nat.not_lt_zero _)
  | succ n ih =>
    intro i M hi hm lo ok hF H locs ls hP hS hz hl
    refine lv_iload_n hx hb d_FT_init_81 rfl (lv_at hl 1 rfl) ?_
    refine lv_bipush (v := nI 8) hx hb d_FT_init_82 rfl ?_
    refine lv_icmp_ge (tgt := 106) hx hb d_FT_init_84 (by decide) (fun c_1 => ?_) (fun c_1 => ?_)
    · have c_1 := gm_get (by omega) (by omega) c_1
      obtain rfl : i = 8 := by omega
      refine lv_iconst (v := nI 0) hx hb d_FT_init_106 rfl ?_
      refine lv_istore_n (lv' := [(1, .int (nI 0)), (0, .ref r)]) hx hb d_FT_init_107 rfl hl (by decide) rfl (fun ls hl => ?_)
      refine W.widen (k := 179 + 12 * 0) (n := 953 + 432 * 0) (by omega) (by omega) ?_
      exact ini_FT_B hx hb hml hr hlocks hown hts hK hN hA 4 0 M (by omega) (by omega) lo ok (FB.zero hF) H locs ls hP hS (by rw [hz]) (lv_sub hl [1, 0] rfl)
    · have c_1 := gm_gef (by omega) (by omega) c_1
      refine lv_aload_n hx hb d_FT_init_87 rfl (lv_at hl 0 rfl) ?_
      refine mw_get (D := D) (C := R_FT) (T := F_FT) (N := 11) hx hb hts in_FT hown hK hP hF.1 rfl 0 (by decide) (hts _ tw_210) (fun _ h9 => h9) rfl d_FT_init_88 ?_
      refine lv_iload_n hx hb d_FT_init_91 rfl (lv_at hl 1 rfl) ?_
      refine mw_new (D := D) (C := R_Lp) (T := F_Lp) (N := 6) (ci := 1) (fs := [.int 0, .null, .null, .int 0, .null, .null]) hx hb hts in_Lp t_Lp t_Lp_ok hown (hts _ tw_73) (hts _ tw_97) (hts _ tw_59) hK hP hS rfl (fun j hj => by rcases (show j = 0 ∨ j = 1 ∨ j = 2 ∨ j = 3 ∨ j = 4 ∨ j = 5 by omega) with rfl | rfl | rfl | rfl | rfl | rfl <;> rfl) (by show 11 + 21 * i + 1 ≤ 215; omega) (by show 57 + 112 * i + 6 ≤ 2249; omega) hz d_FT_init_92 (fun H hPa hS hz => ?_)
      obtain ⟨Ma0, ea0⟩ : ∃ z : mw_M, z = mw_up M (r + 12 + 21 * i) (.inr (1, [.int 0, .null, .null, .int 0, .null, .null])) := ⟨_, rfl⟩
      rw [← ea0] at hPa
      have fa0 : Ma0 (r + 12 + 21 * i) = some (.inr (1, [.int 0, .null, .null, .int 0, .null, .null])) := by rw [ea0]; exact mw_up_self
      have oka0 : okW cs Ma0 := by rw [ea0]; exact ok.up trivial
      refine lv_dup hx hb d_FT_init_95 rfl ?_
      refine mi_callI (As := []) (rest := [.ref (r + 12 + 21 * i), .int (nI i), .ref (r + 1)]) (n := 0) hx hb hml hown hts hK hN hA (c_Lp_init l D cs Ma0 (r + 12 + 21 * i) fa0 oka0) tw_98 tw_99 tw_59 tw_100 (by decide +kernel) ⟨rfl, rfl, by decide, by decide, by show 11 + 21 * i + 1 + 20 ≤ 215; omega, by show 57 + 112 * i + 6 + 106 ≤ 2249; omega⟩ hPa hS hz (fun q hq => by omega) rfl hl.1 rfl (Nat.le_of_ble_eq_true rfl) d_FT_init_96 (fun Mb0 H locs hb0 hP0 hS hz => ?_)
      have k0 : ∀ q, q < r + 12 + 21 * i → Mb0 q = M q := fun q hq => (hb0.1 q hq).trans (by rw [ea0, mw_up_ne (by omega)])
      have okb0 := hb0.2.1
      have s0 := hb0.2.2
      refine mw_astq hx hb hK hP0 hS 2 1 ((k0 _ (by omega)).trans hF.2.1) (by omega) rfl s0.1 rfl (vp_in_nI (by omega) (by omega)) d_FT_init_99 (fun H locs hPc hS hzb => ?_)
      rw [show (nI i).toNatClampNeg = i from nI_clamp (by omega), up_one] at hPc
      obtain ⟨Mc0, ec0⟩ : ∃ z : mw_M, z = mw_up Mb0 (r + 1) (.inl (cs 2, 8, .inr (.inr (.inr (.inr (fun k => if k < i + 1 then some (r + 12 + 21 * k) else none)))))) := ⟨_, rfl⟩
      rw [← ec0] at hPc
      have hz : H.size = r + 12 + 21 * i + 21 := hzb.trans hz
      have okc0 : okW cs Mc0 := by rw [ec0]; exact okb0.up trivial
      refine lv_iinc (v := nI (i + 1)) (lv' := [(1, .int (nI (i + 1))), (0, .ref r)]) hx hb d_FT_init_100 hl (k := 1) rfl (gm_inc i 1) (by decide) rfl (fun ls hl => ?_)
      refine lv_goto (tgt := 81) hx hb d_FT_init_103 (by decide) ?_
      refine W.widen (k := 11 + 21 * (i + 1)) (n := 57 + 112 * (i + 1)) (by omega) (by omega) ?_
      exact ih (i + 1) Mc0 (by omega) (by omega) (fun q hq => by rw [ec0, mw_up_ne (by omega), k0 q (by omega)]; exact lo q hq) okc0 (hF.keep (fun q q1 q2 q3 => by rw [ec0, mw_up_ne q3]; exact k0 q (by omega)) (by rw [ec0]; exact mw_up_self) (s0.keep (fun q q1 q2 => by rw [ec0, mw_up_ne (by omega)]))) H locs ls hPc hS (by rw [hz]; omega) (lv_sub hl [1, 0] rfl)

set_option maxHeartbeats 4000000 in
set_option maxRecDepth 100000 in
theorem c_FT_init (l : Launch) (D : va_G) (cs : Nat → ClassId) (M : mw_M) (r : Nat) (h0 : M r = some (.inr (6, [.null, .int 0, .null, .null, .null, .null, .null, .int 0, .null, .null, .null]))) (hok : okW cs M) : Met l y_FT_init w_FT_init rmFT (mi_Pre D cs M (r + 1) [.ref r]) (va_Qv (fun u : mw_M => (∀ q, q < r → u q = M q) ∧ okW cs u ∧ blkFT u cs r) (mi_B D (r + 216)) (fun q => r ≤ q)) 215 2249 (fun q => r ≤ q) := by
  refine Met.ofW (cc := b_FT_init) (maxL := 2) (ret := none) (by decide) rfl ?_
  intro p' e' s' m' args be' me' co' s₁ B hml hv
  obtain ⟨rfl, hsz, hPs, hK, hN, hA⟩ := hv
  have hx := B.exec
  have hb := B.bytes
  have hr := B.returns
  have hts0 := atoms_spec (ws := w_FT_init) B.pre
  have hts : ∀ w ∈ tg, w.before _ s' = true := fun w h => hts0 w (List.mem_cons_of_mem _ h)
  have hown : s'.vm.findClass R_FT = some m'.cls := findClass_of_methodNamed B.named
  have hlocks := B.notSynchronized
  have hin : me'.name = "<init>" := (name_of_methodNamed B.named B.method).1
  have hS9 : va_S (fun q => r ≤ q) s'.heap s'.heap [] := va_S.rf
  have hl := lv_entry ([.ref r]) (n := 2) (Nat.le_of_ble_eq_true rfl)
  rw [lg_entry_eq]
  generalize (lg_sl ([.ref r]) ++ List.replicate (2 - (lg_sl ([.ref r])).length) Slot.unset).toArray = ls at hl ⊢
  generalize hHe : s'.heap = H0 at hPs hS9 hsz ⊢
  obtain ⟨M_0, eM_0⟩ : ∃ z : mw_M, z = M := ⟨_, rfl⟩
  have f_0_0 : M_0 r = some (.inr (6, [.null, .int 0, .null, .null, .null, .null, .null, .int 0, .null, .null, .null])) := by rw [eM_0]; exact h0
  have ok_0 : okW cs M_0 := by rw [eM_0]; exact hok
  have lo_0 : ∀ q, q < r → M_0 q = M q := fun q _ => by rw [eM_0]
  obtain ⟨H, eH⟩ : ∃ z : Heap, z = H0 := ⟨_, rfl⟩
  have hz : H.size = r + 1 := by rw [eH]; exact hsz
  have hP_0 : mw_P D vwC M_0 H := by rw [eH, eM_0]; exact hPs
  have hS : va_S (fun q => r ≤ q) H0 H [] := by rw [eH]; exact hS9
  suffices hgo : W p' l e' rmFT s' m' ([.ref r] : List Value).toArray be' me' co' H [] 0 0 (MQ be' (va_Qv (fun u : mw_M => (∀ q, q < r → u q = M q) ∧ okW cs u ∧ blkFT u cs r) (mi_B D (r + 216)) (fun q => r ≤ q)) ([.ref r] : List Value).toArray s' 215 2249 (fun q => r ≤ q)) (F0 m' 0 ls []) by rw [eH] at hgo; exact hgo
  have hl : lv_has ls 2 [(0, .ref r)] := hl
  refine lv_aload_n hx hb d_FT_init_0 rfl (lv_at hl 0 rfl) ?_
  refine W.objInit hx hb hown (hts _ tw_70) (hts _ tw_71) (hts _ tw_72) rfl (by rw [hml]; exact hl.1) rfl d_FT_init_1 (Nat.le_of_ble_eq_true rfl) (Nat.le_of_ble_eq_true rfl) ?_
  refine W.eq (g2 := F0 m' 4 ls []) rfl ?_
  refine lv_aload_n hx hb d_FT_init_4 rfl (lv_at hl 0 rfl) ?_
  refine lv_bipush (v := nI 8) hx hb d_FT_init_5 rfl ?_
  refine mw_newq hx hb hown (hts _ tw_73) hA.1 hK 2 rfl hP_0 hS (by omega) (Nat.le_of_ble_eq_true rfl) (Nat.le_of_ble_eq_true rfl) hz d_FT_init_7 (fun H hPa hS hz => ?_)
  obtain ⟨M_1, eM_1⟩ : ∃ z : mw_M, z = mw_up M_0 (r + 1) (.inl (cs 2, 8, .inr (.inr (.inr (.inr (fun _ => none)))))) := ⟨_, rfl⟩
  have hP_1 : mw_P D vwC M_1 H := by rw [eM_1]; exact hPa
  have ok_1 : okW cs M_1 := by rw [eM_1]; exact ok_0.up trivial
  have lo_1 : ∀ q, q < r → M_1 q = M q := fun q hq => by rw [eM_1, mw_up_ne (by omega)]; exact lo_0 q hq
  have f_1_0 : M_1 (r) = some (.inr (6, [.null, .int 0, .null, .null, .null, .null, .null, .int 0, .null, .null, .null])) := by rw [eM_1, mw_up_ne (by omega)]; exact f_0_0
  have f_1_1 : M_1 (r + 1) = some (.inl (cs 2, 8, .inr (.inr (.inr (.inr (fun _ => none)))))) := by rw [eM_1]; exact mw_up_self
  have hz : H.size = r + 2 := hz
  refine mw_putF (D := D) (ci := 6) (v := .ref (r + 1)) (ty := .array (.object "FallingTerms$Loop")) (C := R_FT) (T := F_FT) (N := 11) hx hb hts in_FT t_FT t_FT_ok n_FT hown hK hP_1 hS f_1_0 (Nat.le_refl r) rfl 0 (by decide) (hts _ tw_210) (fun _ h9 => h9) rfl hin rfl (by decide +kernel) rfl rfl (Nat.le_of_ble_eq_true rfl) d_FT_init_10 (fun H locs hPa hS hzb => ?_)
  have hz : H.size = r + 2 := hzb.trans hz
  obtain ⟨M_2, eM_2⟩ : ∃ z : mw_M, z = mw_up M_1 (r) (.inr (6, [.ref (r + 1), .int 0, .null, .null, .null, .null, .null, .int 0, .null, .null, .null])) := ⟨_, rfl⟩
  have hP_2 : mw_P D vwC M_2 H := by rw [eM_2]; exact hPa
  have ok_2 : okW cs M_2 := by rw [eM_2]; exact ok_1.up trivial
  have lo_2 : ∀ q, q < r → M_2 q = M q := fun q hq => by rw [eM_2, mw_up_ne (by omega)]; exact lo_1 q hq
  have f_2_0 : M_2 (r) = some (.inr (6, [.ref (r + 1), .int 0, .null, .null, .null, .null, .null, .int 0, .null, .null, .null])) := by rw [eM_2]; exact mw_up_self
  have f_2_1 : M_2 (r + 1) = some (.inl (cs 2, 8, .inr (.inr (.inr (.inr (fun _ => none)))))) := by rw [eM_2, mw_up_ne (by omega)]; exact f_1_1
  refine lv_aload_n hx hb d_FT_init_13 rfl (lv_at hl 0 rfl) ?_
  refine lv_iconst (v := nI 3) hx hb d_FT_init_14 rfl ?_
  refine mw_newq hx hb hown (hts _ tw_75) hA.2.1 hK 3 rfl hP_2 hS (by omega) (Nat.le_of_ble_eq_true rfl) (Nat.le_of_ble_eq_true rfl) hz d_FT_init_15 (fun H hPa hS hz => ?_)
  obtain ⟨M_3, eM_3⟩ : ∃ z : mw_M, z = mw_up M_2 (r + 2) (.inl (cs 3, 3, .inr (.inr (.inr (.inr (fun _ => none)))))) := ⟨_, rfl⟩
  have hP_3 : mw_P D vwC M_3 H := by rw [eM_3]; exact hPa
  have ok_3 : okW cs M_3 := by rw [eM_3]; exact ok_2.up trivial
  have lo_3 : ∀ q, q < r → M_3 q = M q := fun q hq => by rw [eM_3, mw_up_ne (by omega)]; exact lo_2 q hq
  have f_3_0 : M_3 (r) = some (.inr (6, [.ref (r + 1), .int 0, .null, .null, .null, .null, .null, .int 0, .null, .null, .null])) := by rw [eM_3, mw_up_ne (by omega)]; exact f_2_0
  have f_3_1 : M_3 (r + 1) = some (.inl (cs 2, 8, .inr (.inr (.inr (.inr (fun _ => none)))))) := by rw [eM_3, mw_up_ne (by omega)]; exact f_2_1
  have f_3_2 : M_3 (r + 2) = some (.inl (cs 3, 3, .inr (.inr (.inr (.inr (fun _ => none)))))) := by rw [eM_3]; exact mw_up_self
  have hz : H.size = r + 3 := hz
  refine mw_putF (D := D) (ci := 6) (v := .ref (r + 2)) (ty := .array (.object "FallingTerms$Space")) (C := R_FT) (T := F_FT) (N := 11) hx hb hts in_FT t_FT t_FT_ok n_FT hown hK hP_3 hS f_3_0 (Nat.le_refl r) rfl 2 (by decide) (hts _ tw_212) (fun _ h9 => h9) rfl hin rfl (by decide +kernel) rfl rfl (Nat.le_of_ble_eq_true rfl) d_FT_init_18 (fun H locs hPa hS hzb => ?_)
  have hz : H.size = r + 3 := hzb.trans hz
  obtain ⟨M_4, eM_4⟩ : ∃ z : mw_M, z = mw_up M_3 (r) (.inr (6, [.ref (r + 1), .int 0, .ref (r + 2), .null, .null, .null, .null, .int 0, .null, .null, .null])) := ⟨_, rfl⟩
  have hP_4 : mw_P D vwC M_4 H := by rw [eM_4]; exact hPa
  have ok_4 : okW cs M_4 := by rw [eM_4]; exact ok_3.up trivial
  have lo_4 : ∀ q, q < r → M_4 q = M q := fun q hq => by rw [eM_4, mw_up_ne (by omega)]; exact lo_3 q hq
  have f_4_0 : M_4 (r) = some (.inr (6, [.ref (r + 1), .int 0, .ref (r + 2), .null, .null, .null, .null, .int 0, .null, .null, .null])) := by rw [eM_4]; exact mw_up_self
  have f_4_1 : M_4 (r + 1) = some (.inl (cs 2, 8, .inr (.inr (.inr (.inr (fun _ => none)))))) := by rw [eM_4, mw_up_ne (by omega)]; exact f_3_1
  have f_4_2 : M_4 (r + 2) = some (.inl (cs 3, 3, .inr (.inr (.inr (.inr (fun _ => none)))))) := by rw [eM_4, mw_up_ne (by omega)]; exact f_3_2
  refine lv_aload_n hx hb d_FT_init_21 rfl (lv_at hl 0 rfl) ?_
  refine lv_iconst (v := nI 3) hx hb d_FT_init_22 rfl ?_
  refine mw_newq hx hb hown (hts _ tw_75) hA.2.1 hK 3 rfl hP_4 hS (by omega) (Nat.le_of_ble_eq_true rfl) (Nat.le_of_ble_eq_true rfl) hz d_FT_init_23 (fun H hPa hS hz => ?_)
  obtain ⟨M_5, eM_5⟩ : ∃ z : mw_M, z = mw_up M_4 (r + 3) (.inl (cs 3, 3, .inr (.inr (.inr (.inr (fun _ => none)))))) := ⟨_, rfl⟩
  have hP_5 : mw_P D vwC M_5 H := by rw [eM_5]; exact hPa
  have ok_5 : okW cs M_5 := by rw [eM_5]; exact ok_4.up trivial
  have lo_5 : ∀ q, q < r → M_5 q = M q := fun q hq => by rw [eM_5, mw_up_ne (by omega)]; exact lo_4 q hq
  have f_5_0 : M_5 (r) = some (.inr (6, [.ref (r + 1), .int 0, .ref (r + 2), .null, .null, .null, .null, .int 0, .null, .null, .null])) := by rw [eM_5, mw_up_ne (by omega)]; exact f_4_0
  have f_5_1 : M_5 (r + 1) = some (.inl (cs 2, 8, .inr (.inr (.inr (.inr (fun _ => none)))))) := by rw [eM_5, mw_up_ne (by omega)]; exact f_4_1
  have f_5_2 : M_5 (r + 2) = some (.inl (cs 3, 3, .inr (.inr (.inr (.inr (fun _ => none)))))) := by rw [eM_5, mw_up_ne (by omega)]; exact f_4_2
  have f_5_3 : M_5 (r + 3) = some (.inl (cs 3, 3, .inr (.inr (.inr (.inr (fun _ => none)))))) := by rw [eM_5]; exact mw_up_self
  have hz : H.size = r + 4 := hz
  refine mw_putF (D := D) (ci := 6) (v := .ref (r + 3)) (ty := .array (.object "FallingTerms$Space")) (C := R_FT) (T := F_FT) (N := 11) hx hb hts in_FT t_FT t_FT_ok n_FT hown hK hP_5 hS f_5_0 (Nat.le_refl r) rfl 3 (by decide) (hts _ tw_213) (fun _ h9 => h9) rfl hin rfl (by decide +kernel) rfl rfl (Nat.le_of_ble_eq_true rfl) d_FT_init_26 (fun H locs hPa hS hzb => ?_)
  have hz : H.size = r + 4 := hzb.trans hz
  obtain ⟨M_6, eM_6⟩ : ∃ z : mw_M, z = mw_up M_5 (r) (.inr (6, [.ref (r + 1), .int 0, .ref (r + 2), .ref (r + 3), .null, .null, .null, .int 0, .null, .null, .null])) := ⟨_, rfl⟩
  have hP_6 : mw_P D vwC M_6 H := by rw [eM_6]; exact hPa
  have ok_6 : okW cs M_6 := by rw [eM_6]; exact ok_5.up trivial
  have lo_6 : ∀ q, q < r → M_6 q = M q := fun q hq => by rw [eM_6, mw_up_ne (by omega)]; exact lo_5 q hq
  have f_6_0 : M_6 (r) = some (.inr (6, [.ref (r + 1), .int 0, .ref (r + 2), .ref (r + 3), .null, .null, .null, .int 0, .null, .null, .null])) := by rw [eM_6]; exact mw_up_self
  have f_6_1 : M_6 (r + 1) = some (.inl (cs 2, 8, .inr (.inr (.inr (.inr (fun _ => none)))))) := by rw [eM_6, mw_up_ne (by omega)]; exact f_5_1
  have f_6_2 : M_6 (r + 2) = some (.inl (cs 3, 3, .inr (.inr (.inr (.inr (fun _ => none)))))) := by rw [eM_6, mw_up_ne (by omega)]; exact f_5_2
  have f_6_3 : M_6 (r + 3) = some (.inl (cs 3, 3, .inr (.inr (.inr (.inr (fun _ => none)))))) := by rw [eM_6, mw_up_ne (by omega)]; exact f_5_3
  refine lv_aload_n hx hb d_FT_init_29 rfl (lv_at hl 0 rfl) ?_
  refine mw_new (D := D) (C := R_Pf) (T := F_Pf) (N := 3) (ci := 2) (fs := [.null, .int 0, .int 0]) hx hb hts in_Pf t_Pf t_Pf_ok hown (hts _ tw_77) (hts _ tw_78) (hts _ tw_58) hK hP_6 hS rfl (fun j hj => by rcases (show j = 0 ∨ j = 1 ∨ j = 2 by omega) with rfl | rfl | rfl <;> rfl) (Nat.le_of_ble_eq_true rfl) (Nat.le_of_ble_eq_true rfl) hz d_FT_init_30 (fun H hPa hS hz => ?_)
  obtain ⟨M_7, eM_7⟩ : ∃ z : mw_M, z = mw_up M_6 (r + 4) (.inr (2, [.null, .int 0, .int 0])) := ⟨_, rfl⟩
  have hP_7 : mw_P D vwC M_7 H := by rw [eM_7]; exact hPa
  have ok_7 : okW cs M_7 := by rw [eM_7]; exact ok_6.up trivial
  have lo_7 : ∀ q, q < r → M_7 q = M q := fun q hq => by rw [eM_7, mw_up_ne (by omega)]; exact lo_6 q hq
  have f_7_0 : M_7 (r) = some (.inr (6, [.ref (r + 1), .int 0, .ref (r + 2), .ref (r + 3), .null, .null, .null, .int 0, .null, .null, .null])) := by rw [eM_7, mw_up_ne (by omega)]; exact f_6_0
  have f_7_1 : M_7 (r + 1) = some (.inl (cs 2, 8, .inr (.inr (.inr (.inr (fun _ => none)))))) := by rw [eM_7, mw_up_ne (by omega)]; exact f_6_1
  have f_7_2 : M_7 (r + 2) = some (.inl (cs 3, 3, .inr (.inr (.inr (.inr (fun _ => none)))))) := by rw [eM_7, mw_up_ne (by omega)]; exact f_6_2
  have f_7_3 : M_7 (r + 3) = some (.inl (cs 3, 3, .inr (.inr (.inr (.inr (fun _ => none)))))) := by rw [eM_7, mw_up_ne (by omega)]; exact f_6_3
  have f_7_4 : M_7 (r + 4) = some (.inr (2, [.null, .int 0, .int 0])) := by rw [eM_7]; exact mw_up_self
  have hz : H.size = r + 5 := hz
  refine lv_dup hx hb d_FT_init_33 rfl ?_
  refine mi_callN (As := []) (rest := [.ref (r + 4), .ref r]) (n := 0) hx hb hml hown hts hK hN hA (c_Pf_init l D cs M_7 (r + 4) f_7_4 ok_7) tw_79 tw_80 tw_58 tw_81 (by decide +kernel) ⟨rfl, rfl, by decide, by decide, by decide, by decide⟩ hP_7 hS hz (fun q hq => by omega) rfl hl.1 rfl (Nat.le_of_ble_eq_true rfl) d_FT_init_34 (fun M_8 H locs hb_ hPa hS hz => ?_)
  have hP_8 := hPa
  have hk_8 := hb_.1
  have ok_8 : okW cs M_8 := hb_.2.1
  have lo_8 : ∀ q, q < r → M_8 q = M q := fun q hq => (hk_8 q (by omega)).trans (lo_7 q hq)
  have f_8_0 : M_8 (r) = some (.inr (6, [.ref (r + 1), .int 0, .ref (r + 2), .ref (r + 3), .null, .null, .null, .int 0, .null, .null, .null])) := (hk_8 _ (by omega)).trans f_7_0
  have f_8_1 : M_8 (r + 1) = some (.inl (cs 2, 8, .inr (.inr (.inr (.inr (fun _ => none)))))) := (hk_8 _ (by omega)).trans f_7_1
  have f_8_2 : M_8 (r + 2) = some (.inl (cs 3, 3, .inr (.inr (.inr (.inr (fun _ => none)))))) := (hk_8 _ (by omega)).trans f_7_2
  have f_8_3 : M_8 (r + 3) = some (.inl (cs 3, 3, .inr (.inr (.inr (.inr (fun _ => none)))))) := (hk_8 _ (by omega)).trans f_7_3
  have b_8_4 : blkPf M_8 cs (r + 4) := hb_.2.2
  have hz : H.size = r + 6 := hz
  refine mw_putF (D := D) (ci := 6) (v := .ref (r + 4)) (ty := .object "FallingTerms$Proof") (C := R_FT) (T := F_FT) (N := 11) hx hb hts in_FT t_FT t_FT_ok n_FT hown hK hP_8 hS f_8_0 (Nat.le_refl r) rfl 4 (by decide) (hts _ tw_214) (fun _ h9 => h9) rfl hin rfl (by decide +kernel) rfl rfl (Nat.le_of_ble_eq_true rfl) d_FT_init_37 (fun H locs hPa hS hzb => ?_)
  have hz : H.size = r + 6 := hzb.trans hz
  obtain ⟨M_9, eM_9⟩ : ∃ z : mw_M, z = mw_up M_8 (r) (.inr (6, [.ref (r + 1), .int 0, .ref (r + 2), .ref (r + 3), .ref (r + 4), .null, .null, .int 0, .null, .null, .null])) := ⟨_, rfl⟩
  have hP_9 : mw_P D vwC M_9 H := by rw [eM_9]; exact hPa
  have ok_9 : okW cs M_9 := by rw [eM_9]; exact ok_8.up trivial
  have lo_9 : ∀ q, q < r → M_9 q = M q := fun q hq => by rw [eM_9, mw_up_ne (by omega)]; exact lo_8 q hq
  have f_9_0 : M_9 (r) = some (.inr (6, [.ref (r + 1), .int 0, .ref (r + 2), .ref (r + 3), .ref (r + 4), .null, .null, .int 0, .null, .null, .null])) := by rw [eM_9]; exact mw_up_self
  have f_9_1 : M_9 (r + 1) = some (.inl (cs 2, 8, .inr (.inr (.inr (.inr (fun _ => none)))))) := by rw [eM_9, mw_up_ne (by omega)]; exact f_8_1
  have f_9_2 : M_9 (r + 2) = some (.inl (cs 3, 3, .inr (.inr (.inr (.inr (fun _ => none)))))) := by rw [eM_9, mw_up_ne (by omega)]; exact f_8_2
  have f_9_3 : M_9 (r + 3) = some (.inl (cs 3, 3, .inr (.inr (.inr (.inr (fun _ => none)))))) := by rw [eM_9, mw_up_ne (by omega)]; exact f_8_3
  have b_9_4 : blkPf M_9 cs (r + 4) := b_8_4.keep (fun q h1 h2 => by rw [eM_9, mw_up_ne (by omega)])
  refine lv_aload_n hx hb d_FT_init_40 rfl (lv_at hl 0 rfl) ?_
  refine mw_new (D := D) (C := R_Pf) (T := F_Pf) (N := 3) (ci := 2) (fs := [.null, .int 0, .int 0]) hx hb hts in_Pf t_Pf t_Pf_ok hown (hts _ tw_77) (hts _ tw_78) (hts _ tw_58) hK hP_9 hS rfl (fun j hj => by rcases (show j = 0 ∨ j = 1 ∨ j = 2 by omega) with rfl | rfl | rfl <;> rfl) (Nat.le_of_ble_eq_true rfl) (Nat.le_of_ble_eq_true rfl) hz d_FT_init_41 (fun H hPa hS hz => ?_)
  obtain ⟨M_10, eM_10⟩ : ∃ z : mw_M, z = mw_up M_9 (r + 6) (.inr (2, [.null, .int 0, .int 0])) := ⟨_, rfl⟩
  have hP_10 : mw_P D vwC M_10 H := by rw [eM_10]; exact hPa
  have ok_10 : okW cs M_10 := by rw [eM_10]; exact ok_9.up trivial
  have lo_10 : ∀ q, q < r → M_10 q = M q := fun q hq => by rw [eM_10, mw_up_ne (by omega)]; exact lo_9 q hq
  have f_10_0 : M_10 (r) = some (.inr (6, [.ref (r + 1), .int 0, .ref (r + 2), .ref (r + 3), .ref (r + 4), .null, .null, .int 0, .null, .null, .null])) := by rw [eM_10, mw_up_ne (by omega)]; exact f_9_0
  have f_10_1 : M_10 (r + 1) = some (.inl (cs 2, 8, .inr (.inr (.inr (.inr (fun _ => none)))))) := by rw [eM_10, mw_up_ne (by omega)]; exact f_9_1
  have f_10_2 : M_10 (r + 2) = some (.inl (cs 3, 3, .inr (.inr (.inr (.inr (fun _ => none)))))) := by rw [eM_10, mw_up_ne (by omega)]; exact f_9_2
  have f_10_3 : M_10 (r + 3) = some (.inl (cs 3, 3, .inr (.inr (.inr (.inr (fun _ => none)))))) := by rw [eM_10, mw_up_ne (by omega)]; exact f_9_3
  have f_10_6 : M_10 (r + 6) = some (.inr (2, [.null, .int 0, .int 0])) := by rw [eM_10]; exact mw_up_self
  have b_10_4 : blkPf M_10 cs (r + 4) := b_9_4.keep (fun q h1 h2 => by rw [eM_10, mw_up_ne (by omega)])
  have hz : H.size = r + 7 := hz
  refine lv_dup hx hb d_FT_init_44 rfl ?_
  refine mi_callN (As := []) (rest := [.ref (r + 6), .ref r]) (n := 0) hx hb hml hown hts hK hN hA (c_Pf_init l D cs M_10 (r + 6) f_10_6 ok_10) tw_79 tw_80 tw_58 tw_81 (by decide +kernel) ⟨rfl, rfl, by decide, by decide, by decide, by decide⟩ hP_10 hS hz (fun q hq => by omega) rfl hl.1 rfl (Nat.le_of_ble_eq_true rfl) d_FT_init_45 (fun M_11 H locs hb_ hPa hS hz => ?_)
  have hP_11 := hPa
  have hk_11 := hb_.1
  have ok_11 : okW cs M_11 := hb_.2.1
  have lo_11 : ∀ q, q < r → M_11 q = M q := fun q hq => (hk_11 q (by omega)).trans (lo_10 q hq)
  have f_11_0 : M_11 (r) = some (.inr (6, [.ref (r + 1), .int 0, .ref (r + 2), .ref (r + 3), .ref (r + 4), .null, .null, .int 0, .null, .null, .null])) := (hk_11 _ (by omega)).trans f_10_0
  have f_11_1 : M_11 (r + 1) = some (.inl (cs 2, 8, .inr (.inr (.inr (.inr (fun _ => none)))))) := (hk_11 _ (by omega)).trans f_10_1
  have f_11_2 : M_11 (r + 2) = some (.inl (cs 3, 3, .inr (.inr (.inr (.inr (fun _ => none)))))) := (hk_11 _ (by omega)).trans f_10_2
  have f_11_3 : M_11 (r + 3) = some (.inl (cs 3, 3, .inr (.inr (.inr (.inr (fun _ => none)))))) := (hk_11 _ (by omega)).trans f_10_3
  have b_11_4 : blkPf M_11 cs (r + 4) := b_10_4.keep (fun q h1 h2 => hk_11 q (by omega))
  have b_11_6 : blkPf M_11 cs (r + 6) := hb_.2.2
  have hz : H.size = r + 8 := hz
  refine mw_putF (D := D) (ci := 6) (v := .ref (r + 6)) (ty := .object "FallingTerms$Proof") (C := R_FT) (T := F_FT) (N := 11) hx hb hts in_FT t_FT t_FT_ok n_FT hown hK hP_11 hS f_11_0 (Nat.le_refl r) rfl 5 (by decide) (hts _ tw_215) (fun _ h9 => h9) rfl hin rfl (by decide +kernel) rfl rfl (Nat.le_of_ble_eq_true rfl) d_FT_init_48 (fun H locs hPa hS hzb => ?_)
  have hz : H.size = r + 8 := hzb.trans hz
  obtain ⟨M_12, eM_12⟩ : ∃ z : mw_M, z = mw_up M_11 (r) (.inr (6, [.ref (r + 1), .int 0, .ref (r + 2), .ref (r + 3), .ref (r + 4), .ref (r + 6), .null, .int 0, .null, .null, .null])) := ⟨_, rfl⟩
  have hP_12 : mw_P D vwC M_12 H := by rw [eM_12]; exact hPa
  have ok_12 : okW cs M_12 := by rw [eM_12]; exact ok_11.up trivial
  have lo_12 : ∀ q, q < r → M_12 q = M q := fun q hq => by rw [eM_12, mw_up_ne (by omega)]; exact lo_11 q hq
  have f_12_0 : M_12 (r) = some (.inr (6, [.ref (r + 1), .int 0, .ref (r + 2), .ref (r + 3), .ref (r + 4), .ref (r + 6), .null, .int 0, .null, .null, .null])) := by rw [eM_12]; exact mw_up_self
  have f_12_1 : M_12 (r + 1) = some (.inl (cs 2, 8, .inr (.inr (.inr (.inr (fun _ => none)))))) := by rw [eM_12, mw_up_ne (by omega)]; exact f_11_1
  have f_12_2 : M_12 (r + 2) = some (.inl (cs 3, 3, .inr (.inr (.inr (.inr (fun _ => none)))))) := by rw [eM_12, mw_up_ne (by omega)]; exact f_11_2
  have f_12_3 : M_12 (r + 3) = some (.inl (cs 3, 3, .inr (.inr (.inr (.inr (fun _ => none)))))) := by rw [eM_12, mw_up_ne (by omega)]; exact f_11_3
  have b_12_4 : blkPf M_12 cs (r + 4) := b_11_4.keep (fun q h1 h2 => by rw [eM_12, mw_up_ne (by omega)])
  have b_12_6 : blkPf M_12 cs (r + 6) := b_11_6.keep (fun q h1 h2 => by rw [eM_12, mw_up_ne (by omega)])
  refine lv_aload_n hx hb d_FT_init_51 rfl (lv_at hl 0 rfl) ?_
  refine lv_iconst (v := nI 4) hx hb d_FT_init_52 rfl ?_
  refine mw_newi hx hb (hts _ tw_96) hK 0 rfl hP_12 hS (by omega) (Nat.le_of_ble_eq_true rfl) (Nat.le_of_ble_eq_true rfl) hz d_FT_init_53 (fun H hPa hS hz => ?_)
  obtain ⟨M_13, eM_13⟩ : ∃ z : mw_M, z = mw_up M_12 (r + 8) (.inl (cs 0, 4, .inl (fun _ => 0))) := ⟨_, rfl⟩
  have hP_13 : mw_P D vwC M_13 H := by rw [eM_13]; exact hPa
  have ok_13 : okW cs M_13 := by rw [eM_13]; exact ok_12.up rfl
  have lo_13 : ∀ q, q < r → M_13 q = M q := fun q hq => by rw [eM_13, mw_up_ne (by omega)]; exact lo_12 q hq
  have f_13_0 : M_13 (r) = some (.inr (6, [.ref (r + 1), .int 0, .ref (r + 2), .ref (r + 3), .ref (r + 4), .ref (r + 6), .null, .int 0, .null, .null, .null])) := by rw [eM_13, mw_up_ne (by omega)]; exact f_12_0
  have f_13_1 : M_13 (r + 1) = some (.inl (cs 2, 8, .inr (.inr (.inr (.inr (fun _ => none)))))) := by rw [eM_13, mw_up_ne (by omega)]; exact f_12_1
  have f_13_2 : M_13 (r + 2) = some (.inl (cs 3, 3, .inr (.inr (.inr (.inr (fun _ => none)))))) := by rw [eM_13, mw_up_ne (by omega)]; exact f_12_2
  have f_13_3 : M_13 (r + 3) = some (.inl (cs 3, 3, .inr (.inr (.inr (.inr (fun _ => none)))))) := by rw [eM_13, mw_up_ne (by omega)]; exact f_12_3
  have f_13_8 : M_13 (r + 8) = some (.inl (cs 0, 4, .inl (fun _ => 0))) := by rw [eM_13]; exact mw_up_self
  have b_13_4 : blkPf M_13 cs (r + 4) := b_12_4.keep (fun q h1 h2 => by rw [eM_13, mw_up_ne (by omega)])
  have b_13_6 : blkPf M_13 cs (r + 6) := b_12_6.keep (fun q h1 h2 => by rw [eM_13, mw_up_ne (by omega)])
  have hz : H.size = r + 9 := hz
  refine mw_putF (D := D) (ci := 6) (v := .ref (r + 8)) (ty := .array (.int)) (C := R_FT) (T := F_FT) (N := 11) hx hb hts in_FT t_FT t_FT_ok n_FT hown hK hP_13 hS f_13_0 (Nat.le_refl r) rfl 6 (by decide) (hts _ tw_216) (fun _ h9 => h9) rfl hin rfl (by decide +kernel) rfl rfl (Nat.le_of_ble_eq_true rfl) d_FT_init_55 (fun H locs hPa hS hzb => ?_)
  have hz : H.size = r + 9 := hzb.trans hz
  obtain ⟨M_14, eM_14⟩ : ∃ z : mw_M, z = mw_up M_13 (r) (.inr (6, [.ref (r + 1), .int 0, .ref (r + 2), .ref (r + 3), .ref (r + 4), .ref (r + 6), .ref (r + 8), .int 0, .null, .null, .null])) := ⟨_, rfl⟩
  have hP_14 : mw_P D vwC M_14 H := by rw [eM_14]; exact hPa
  have ok_14 : okW cs M_14 := by rw [eM_14]; exact ok_13.up trivial
  have lo_14 : ∀ q, q < r → M_14 q = M q := fun q hq => by rw [eM_14, mw_up_ne (by omega)]; exact lo_13 q hq
  have f_14_0 : M_14 (r) = some (.inr (6, [.ref (r + 1), .int 0, .ref (r + 2), .ref (r + 3), .ref (r + 4), .ref (r + 6), .ref (r + 8), .int 0, .null, .null, .null])) := by rw [eM_14]; exact mw_up_self
  have f_14_1 : M_14 (r + 1) = some (.inl (cs 2, 8, .inr (.inr (.inr (.inr (fun _ => none)))))) := by rw [eM_14, mw_up_ne (by omega)]; exact f_13_1
  have f_14_2 : M_14 (r + 2) = some (.inl (cs 3, 3, .inr (.inr (.inr (.inr (fun _ => none)))))) := by rw [eM_14, mw_up_ne (by omega)]; exact f_13_2
  have f_14_3 : M_14 (r + 3) = some (.inl (cs 3, 3, .inr (.inr (.inr (.inr (fun _ => none)))))) := by rw [eM_14, mw_up_ne (by omega)]; exact f_13_3
  have f_14_8 : M_14 (r + 8) = some (.inl (cs 0, 4, .inl (fun _ => 0))) := by rw [eM_14, mw_up_ne (by omega)]; exact f_13_8
  have b_14_4 : blkPf M_14 cs (r + 4) := b_13_4.keep (fun q h1 h2 => by rw [eM_14, mw_up_ne (by omega)])
  have b_14_6 : blkPf M_14 cs (r + 6) := b_13_6.keep (fun q h1 h2 => by rw [eM_14, mw_up_ne (by omega)])
  refine lv_aload_n hx hb d_FT_init_58 rfl (lv_at hl 0 rfl) ?_
  refine lv_iconst (v := nI 3) hx hb d_FT_init_59 rfl ?_
  refine mw_newj hx hb (hts _ tw_126) hK 1 rfl hP_14 hS (by omega) (Nat.le_of_ble_eq_true rfl) (Nat.le_of_ble_eq_true rfl) hz d_FT_init_60 (fun H hPa hS hz => ?_)
  obtain ⟨M_15, eM_15⟩ : ∃ z : mw_M, z = mw_up M_14 (r + 9) (.inl (cs 1, 3, .inr (.inl (fun _ => 0)))) := ⟨_, rfl⟩
  have hP_15 : mw_P D vwC M_15 H := by rw [eM_15]; exact hPa
  have ok_15 : okW cs M_15 := by rw [eM_15]; exact ok_14.up rfl
  have lo_15 : ∀ q, q < r → M_15 q = M q := fun q hq => by rw [eM_15, mw_up_ne (by omega)]; exact lo_14 q hq
  have f_15_0 : M_15 (r) = some (.inr (6, [.ref (r + 1), .int 0, .ref (r + 2), .ref (r + 3), .ref (r + 4), .ref (r + 6), .ref (r + 8), .int 0, .null, .null, .null])) := by rw [eM_15, mw_up_ne (by omega)]; exact f_14_0
  have f_15_1 : M_15 (r + 1) = some (.inl (cs 2, 8, .inr (.inr (.inr (.inr (fun _ => none)))))) := by rw [eM_15, mw_up_ne (by omega)]; exact f_14_1
  have f_15_2 : M_15 (r + 2) = some (.inl (cs 3, 3, .inr (.inr (.inr (.inr (fun _ => none)))))) := by rw [eM_15, mw_up_ne (by omega)]; exact f_14_2
  have f_15_3 : M_15 (r + 3) = some (.inl (cs 3, 3, .inr (.inr (.inr (.inr (fun _ => none)))))) := by rw [eM_15, mw_up_ne (by omega)]; exact f_14_3
  have f_15_8 : M_15 (r + 8) = some (.inl (cs 0, 4, .inl (fun _ => 0))) := by rw [eM_15, mw_up_ne (by omega)]; exact f_14_8
  have f_15_9 : M_15 (r + 9) = some (.inl (cs 1, 3, .inr (.inl (fun _ => 0)))) := by rw [eM_15]; exact mw_up_self
  have b_15_4 : blkPf M_15 cs (r + 4) := b_14_4.keep (fun q h1 h2 => by rw [eM_15, mw_up_ne (by omega)])
  have b_15_6 : blkPf M_15 cs (r + 6) := b_14_6.keep (fun q h1 h2 => by rw [eM_15, mw_up_ne (by omega)])
  have hz : H.size = r + 10 := hz
  refine mw_putF (D := D) (ci := 6) (v := .ref (r + 9)) (ty := .array (.long)) (C := R_FT) (T := F_FT) (N := 11) hx hb hts in_FT t_FT t_FT_ok n_FT hown hK hP_15 hS f_15_0 (Nat.le_refl r) rfl 8 (by decide) (hts _ tw_218) (fun _ h9 => h9) rfl hin rfl (by decide +kernel) rfl rfl (Nat.le_of_ble_eq_true rfl) d_FT_init_62 (fun H locs hPa hS hzb => ?_)
  have hz : H.size = r + 10 := hzb.trans hz
  obtain ⟨M_16, eM_16⟩ : ∃ z : mw_M, z = mw_up M_15 (r) (.inr (6, [.ref (r + 1), .int 0, .ref (r + 2), .ref (r + 3), .ref (r + 4), .ref (r + 6), .ref (r + 8), .int 0, .ref (r + 9), .null, .null])) := ⟨_, rfl⟩
  have hP_16 : mw_P D vwC M_16 H := by rw [eM_16]; exact hPa
  have ok_16 : okW cs M_16 := by rw [eM_16]; exact ok_15.up trivial
  have lo_16 : ∀ q, q < r → M_16 q = M q := fun q hq => by rw [eM_16, mw_up_ne (by omega)]; exact lo_15 q hq
  have f_16_0 : M_16 (r) = some (.inr (6, [.ref (r + 1), .int 0, .ref (r + 2), .ref (r + 3), .ref (r + 4), .ref (r + 6), .ref (r + 8), .int 0, .ref (r + 9), .null, .null])) := by rw [eM_16]; exact mw_up_self
  have f_16_1 : M_16 (r + 1) = some (.inl (cs 2, 8, .inr (.inr (.inr (.inr (fun _ => none)))))) := by rw [eM_16, mw_up_ne (by omega)]; exact f_15_1
  have f_16_2 : M_16 (r + 2) = some (.inl (cs 3, 3, .inr (.inr (.inr (.inr (fun _ => none)))))) := by rw [eM_16, mw_up_ne (by omega)]; exact f_15_2
  have f_16_3 : M_16 (r + 3) = some (.inl (cs 3, 3, .inr (.inr (.inr (.inr (fun _ => none)))))) := by rw [eM_16, mw_up_ne (by omega)]; exact f_15_3
  have f_16_8 : M_16 (r + 8) = some (.inl (cs 0, 4, .inl (fun _ => 0))) := by rw [eM_16, mw_up_ne (by omega)]; exact f_15_8
  have f_16_9 : M_16 (r + 9) = some (.inl (cs 1, 3, .inr (.inl (fun _ => 0)))) := by rw [eM_16, mw_up_ne (by omega)]; exact f_15_9
  have b_16_4 : blkPf M_16 cs (r + 4) := b_15_4.keep (fun q h1 h2 => by rw [eM_16, mw_up_ne (by omega)])
  have b_16_6 : blkPf M_16 cs (r + 6) := b_15_6.keep (fun q h1 h2 => by rw [eM_16, mw_up_ne (by omega)])
  refine lv_aload_n hx hb d_FT_init_65 rfl (lv_at hl 0 rfl) ?_
  refine lv_iconst (v := nI 3) hx hb d_FT_init_66 rfl ?_
  refine mw_newj hx hb (hts _ tw_126) hK 1 rfl hP_16 hS (by omega) (Nat.le_of_ble_eq_true rfl) (Nat.le_of_ble_eq_true rfl) hz d_FT_init_67 (fun H hPa hS hz => ?_)
  obtain ⟨M_17, eM_17⟩ : ∃ z : mw_M, z = mw_up M_16 (r + 10) (.inl (cs 1, 3, .inr (.inl (fun _ => 0)))) := ⟨_, rfl⟩
  have hP_17 : mw_P D vwC M_17 H := by rw [eM_17]; exact hPa
  have ok_17 : okW cs M_17 := by rw [eM_17]; exact ok_16.up rfl
  have lo_17 : ∀ q, q < r → M_17 q = M q := fun q hq => by rw [eM_17, mw_up_ne (by omega)]; exact lo_16 q hq
  have f_17_0 : M_17 (r) = some (.inr (6, [.ref (r + 1), .int 0, .ref (r + 2), .ref (r + 3), .ref (r + 4), .ref (r + 6), .ref (r + 8), .int 0, .ref (r + 9), .null, .null])) := by rw [eM_17, mw_up_ne (by omega)]; exact f_16_0
  have f_17_1 : M_17 (r + 1) = some (.inl (cs 2, 8, .inr (.inr (.inr (.inr (fun _ => none)))))) := by rw [eM_17, mw_up_ne (by omega)]; exact f_16_1
  have f_17_2 : M_17 (r + 2) = some (.inl (cs 3, 3, .inr (.inr (.inr (.inr (fun _ => none)))))) := by rw [eM_17, mw_up_ne (by omega)]; exact f_16_2
  have f_17_3 : M_17 (r + 3) = some (.inl (cs 3, 3, .inr (.inr (.inr (.inr (fun _ => none)))))) := by rw [eM_17, mw_up_ne (by omega)]; exact f_16_3
  have f_17_8 : M_17 (r + 8) = some (.inl (cs 0, 4, .inl (fun _ => 0))) := by rw [eM_17, mw_up_ne (by omega)]; exact f_16_8
  have f_17_9 : M_17 (r + 9) = some (.inl (cs 1, 3, .inr (.inl (fun _ => 0)))) := by rw [eM_17, mw_up_ne (by omega)]; exact f_16_9
  have f_17_10 : M_17 (r + 10) = some (.inl (cs 1, 3, .inr (.inl (fun _ => 0)))) := by rw [eM_17]; exact mw_up_self
  have b_17_4 : blkPf M_17 cs (r + 4) := b_16_4.keep (fun q h1 h2 => by rw [eM_17, mw_up_ne (by omega)])
  have b_17_6 : blkPf M_17 cs (r + 6) := b_16_6.keep (fun q h1 h2 => by rw [eM_17, mw_up_ne (by omega)])
  have hz : H.size = r + 11 := hz
  refine mw_putF (D := D) (ci := 6) (v := .ref (r + 10)) (ty := .array (.long)) (C := R_FT) (T := F_FT) (N := 11) hx hb hts in_FT t_FT t_FT_ok n_FT hown hK hP_17 hS f_17_0 (Nat.le_refl r) rfl 9 (by decide) (hts _ tw_219) (fun _ h9 => h9) rfl hin rfl (by decide +kernel) rfl rfl (Nat.le_of_ble_eq_true rfl) d_FT_init_69 (fun H locs hPa hS hzb => ?_)
  have hz : H.size = r + 11 := hzb.trans hz
  obtain ⟨M_18, eM_18⟩ : ∃ z : mw_M, z = mw_up M_17 (r) (.inr (6, [.ref (r + 1), .int 0, .ref (r + 2), .ref (r + 3), .ref (r + 4), .ref (r + 6), .ref (r + 8), .int 0, .ref (r + 9), .ref (r + 10), .null])) := ⟨_, rfl⟩
  have hP_18 : mw_P D vwC M_18 H := by rw [eM_18]; exact hPa
  have ok_18 : okW cs M_18 := by rw [eM_18]; exact ok_17.up trivial
  have lo_18 : ∀ q, q < r → M_18 q = M q := fun q hq => by rw [eM_18, mw_up_ne (by omega)]; exact lo_17 q hq
  have f_18_0 : M_18 (r) = some (.inr (6, [.ref (r + 1), .int 0, .ref (r + 2), .ref (r + 3), .ref (r + 4), .ref (r + 6), .ref (r + 8), .int 0, .ref (r + 9), .ref (r + 10), .null])) := by rw [eM_18]; exact mw_up_self
  have f_18_1 : M_18 (r + 1) = some (.inl (cs 2, 8, .inr (.inr (.inr (.inr (fun _ => none)))))) := by rw [eM_18, mw_up_ne (by omega)]; exact f_17_1
  have f_18_2 : M_18 (r + 2) = some (.inl (cs 3, 3, .inr (.inr (.inr (.inr (fun _ => none)))))) := by rw [eM_18, mw_up_ne (by omega)]; exact f_17_2
  have f_18_3 : M_18 (r + 3) = some (.inl (cs 3, 3, .inr (.inr (.inr (.inr (fun _ => none)))))) := by rw [eM_18, mw_up_ne (by omega)]; exact f_17_3
  have f_18_8 : M_18 (r + 8) = some (.inl (cs 0, 4, .inl (fun _ => 0))) := by rw [eM_18, mw_up_ne (by omega)]; exact f_17_8
  have f_18_9 : M_18 (r + 9) = some (.inl (cs 1, 3, .inr (.inl (fun _ => 0)))) := by rw [eM_18, mw_up_ne (by omega)]; exact f_17_9
  have f_18_10 : M_18 (r + 10) = some (.inl (cs 1, 3, .inr (.inl (fun _ => 0)))) := by rw [eM_18, mw_up_ne (by omega)]; exact f_17_10
  have b_18_4 : blkPf M_18 cs (r + 4) := b_17_4.keep (fun q h1 h2 => by rw [eM_18, mw_up_ne (by omega)])
  have b_18_6 : blkPf M_18 cs (r + 6) := b_17_6.keep (fun q h1 h2 => by rw [eM_18, mw_up_ne (by omega)])
  refine lv_aload_n hx hb d_FT_init_72 rfl (lv_at hl 0 rfl) ?_
  refine lv_iconst (v := nI 3) hx hb d_FT_init_73 rfl ?_
  refine mw_newj hx hb (hts _ tw_126) hK 1 rfl hP_18 hS (by omega) (Nat.le_of_ble_eq_true rfl) (Nat.le_of_ble_eq_true rfl) hz d_FT_init_74 (fun H hPa hS hz => ?_)
  obtain ⟨M_19, eM_19⟩ : ∃ z : mw_M, z = mw_up M_18 (r + 11) (.inl (cs 1, 3, .inr (.inl (fun _ => 0)))) := ⟨_, rfl⟩
  have hP_19 : mw_P D vwC M_19 H := by rw [eM_19]; exact hPa
  have ok_19 : okW cs M_19 := by rw [eM_19]; exact ok_18.up rfl
  have lo_19 : ∀ q, q < r → M_19 q = M q := fun q hq => by rw [eM_19, mw_up_ne (by omega)]; exact lo_18 q hq
  have f_19_0 : M_19 (r) = some (.inr (6, [.ref (r + 1), .int 0, .ref (r + 2), .ref (r + 3), .ref (r + 4), .ref (r + 6), .ref (r + 8), .int 0, .ref (r + 9), .ref (r + 10), .null])) := by rw [eM_19, mw_up_ne (by omega)]; exact f_18_0
  have f_19_1 : M_19 (r + 1) = some (.inl (cs 2, 8, .inr (.inr (.inr (.inr (fun _ => none)))))) := by rw [eM_19, mw_up_ne (by omega)]; exact f_18_1
  have f_19_2 : M_19 (r + 2) = some (.inl (cs 3, 3, .inr (.inr (.inr (.inr (fun _ => none)))))) := by rw [eM_19, mw_up_ne (by omega)]; exact f_18_2
  have f_19_3 : M_19 (r + 3) = some (.inl (cs 3, 3, .inr (.inr (.inr (.inr (fun _ => none)))))) := by rw [eM_19, mw_up_ne (by omega)]; exact f_18_3
  have f_19_8 : M_19 (r + 8) = some (.inl (cs 0, 4, .inl (fun _ => 0))) := by rw [eM_19, mw_up_ne (by omega)]; exact f_18_8
  have f_19_9 : M_19 (r + 9) = some (.inl (cs 1, 3, .inr (.inl (fun _ => 0)))) := by rw [eM_19, mw_up_ne (by omega)]; exact f_18_9
  have f_19_10 : M_19 (r + 10) = some (.inl (cs 1, 3, .inr (.inl (fun _ => 0)))) := by rw [eM_19, mw_up_ne (by omega)]; exact f_18_10
  have f_19_11 : M_19 (r + 11) = some (.inl (cs 1, 3, .inr (.inl (fun _ => 0)))) := by rw [eM_19]; exact mw_up_self
  have b_19_4 : blkPf M_19 cs (r + 4) := b_18_4.keep (fun q h1 h2 => by rw [eM_19, mw_up_ne (by omega)])
  have b_19_6 : blkPf M_19 cs (r + 6) := b_18_6.keep (fun q h1 h2 => by rw [eM_19, mw_up_ne (by omega)])
  have hz : H.size = r + 12 := hz
  refine mw_putF (D := D) (ci := 6) (v := .ref (r + 11)) (ty := .array (.long)) (C := R_FT) (T := F_FT) (N := 11) hx hb hts in_FT t_FT t_FT_ok n_FT hown hK hP_19 hS f_19_0 (Nat.le_refl r) rfl 10 (by decide) (hts _ tw_220) (fun _ h9 => h9) rfl hin rfl (by decide +kernel) rfl rfl (Nat.le_of_ble_eq_true rfl) d_FT_init_76 (fun H locs hPa hS hzb => ?_)
  have hz : H.size = r + 12 := hzb.trans hz
  obtain ⟨M_20, eM_20⟩ : ∃ z : mw_M, z = mw_up M_19 (r) (.inr (6, [.ref (r + 1), .int 0, .ref (r + 2), .ref (r + 3), .ref (r + 4), .ref (r + 6), .ref (r + 8), .int 0, .ref (r + 9), .ref (r + 10), .ref (r + 11)])) := ⟨_, rfl⟩
  have hP_20 : mw_P D vwC M_20 H := by rw [eM_20]; exact hPa
  have ok_20 : okW cs M_20 := by rw [eM_20]; exact ok_19.up trivial
  have lo_20 : ∀ q, q < r → M_20 q = M q := fun q hq => by rw [eM_20, mw_up_ne (by omega)]; exact lo_19 q hq
  have f_20_0 : M_20 (r) = some (.inr (6, [.ref (r + 1), .int 0, .ref (r + 2), .ref (r + 3), .ref (r + 4), .ref (r + 6), .ref (r + 8), .int 0, .ref (r + 9), .ref (r + 10), .ref (r + 11)])) := by rw [eM_20]; exact mw_up_self
  have f_20_1 : M_20 (r + 1) = some (.inl (cs 2, 8, .inr (.inr (.inr (.inr (fun _ => none)))))) := by rw [eM_20, mw_up_ne (by omega)]; exact f_19_1
  have f_20_2 : M_20 (r + 2) = some (.inl (cs 3, 3, .inr (.inr (.inr (.inr (fun _ => none)))))) := by rw [eM_20, mw_up_ne (by omega)]; exact f_19_2
  have f_20_3 : M_20 (r + 3) = some (.inl (cs 3, 3, .inr (.inr (.inr (.inr (fun _ => none)))))) := by rw [eM_20, mw_up_ne (by omega)]; exact f_19_3
  have f_20_8 : M_20 (r + 8) = some (.inl (cs 0, 4, .inl (fun _ => 0))) := by rw [eM_20, mw_up_ne (by omega)]; exact f_19_8
  have f_20_9 : M_20 (r + 9) = some (.inl (cs 1, 3, .inr (.inl (fun _ => 0)))) := by rw [eM_20, mw_up_ne (by omega)]; exact f_19_9
  have f_20_10 : M_20 (r + 10) = some (.inl (cs 1, 3, .inr (.inl (fun _ => 0)))) := by rw [eM_20, mw_up_ne (by omega)]; exact f_19_10
  have f_20_11 : M_20 (r + 11) = some (.inl (cs 1, 3, .inr (.inl (fun _ => 0)))) := by rw [eM_20, mw_up_ne (by omega)]; exact f_19_11
  have b_20_4 : blkPf M_20 cs (r + 4) := b_19_4.keep (fun q h1 h2 => by rw [eM_20, mw_up_ne (by omega)])
  have b_20_6 : blkPf M_20 cs (r + 6) := b_19_6.keep (fun q h1 h2 => by rw [eM_20, mw_up_ne (by omega)])
  refine lv_iconst (v := nI 0) hx hb d_FT_init_79 rfl ?_
  refine lv_istore_n (lv' := [(1, .int (nI 0)), (0, .ref r)]) hx hb d_FT_init_80 rfl hl (by decide) rfl (fun ls hl => ?_)
  have hFA : FA M_20 cs r 0 := ⟨f_20_0, by rw [← up_zero]; exact f_20_1, f_20_2, f_20_3, b_20_4, b_20_6, f_20_8, f_20_9, f_20_10, f_20_11, fun j hj => absurd hj (by omega)⟩
  refine W.widen (k := 11 + 21 * 0) (n := 57 + 112 * 0) (by omega) (by omega) ?_
  exact ini_FT_A hx hb hml hr hlocks hown hts hK hN hA 9 0 M_20 (by omega) (by omega) lo_20 ok_20 hFA H _ ls hP_20 (by rw [hHe]; exact hS) (by rw [hz]) (lv_sub hl [1, 0] rfl)
