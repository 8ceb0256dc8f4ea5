theorem blkFT.keep {M u : mw_M} {cs : Nat → ClassId} {B : Nat} (h : blkFT M cs B) (hk : ∀ q, B ≤ q → q < B + 216 → u q = M q) : blkFT u cs B := by
  obtain ⟨h0, h1, h2, h3, h4, h6, h8, h9, h10, h11, hL, hS⟩ := h
  exact ⟨(hk _ (by omega) (by omega)).trans h0, (hk _ (by omega) (by omega)).trans h1, (hk _ (by omega) (by omega)).trans h2, (hk _ (by omega) (by omega)).trans h3, h4.keep (fun q a1 a2 => hk q (by omega) (by omega)), h6.keep (fun q a1 a2 => hk q (by omega) (by omega)), (hk _ (by omega) (by omega)).trans h8, (hk _ (by omega) (by omega)).trans h9, (hk _ (by omega) (by omega)).trans h10, (hk _ (by omega) (by omega)).trans h11, fun j hj => (hL j hj).keep (fun q a1 a2 => hk q (by omega) (by omega)), fun k hk6 => (hS k hk6).keep (fun q a1 a2 => hk q (by omega) (by omega))⟩

set_option maxHeartbeats 4000000 in
set_option maxRecDepth 100000 in
theorem whole_start {p : Program} {e : Env} {s : State} {m : MethodId} {below : List Frame} {meth : Method} {c : Code} (l : Launch) {b L : Nat} {xs : Nat → Int32} (hL : L ≤ 3584) (C0 : lw_At p s m meth c b L xs) : W p l e room_1 s m #[Value.ref b] below meth c s.heap [] 0 0 (lw_Z below #[Value.ref b] s) (entryFrame m ([Value.ref b] : List Value).toArray 4) := by
  obtain ⟨hx, hb, hr, hml, hown, hts0, hX, hbl, hlocks, hgv⟩ := id C0
  have hts : ∀ w ∈ tg, w.before #[Value.ref b] s = true := fun w hw => hts0 w (List.mem_filter.mp hw).1
  have hN : tN s := nest_of hts0
  obtain ⟨c0, iS0, hKn0⟩ := u_known (C := R_Md) (T := F_Md) (N := 38) (n := 38) hts in_Md (hts _ tw_560)
  obtain ⟨c1, iS1, hKn1⟩ := u_known (C := R_Lp) (T := F_Lp) (N := 6) (n := 6) hts in_Lp (hts _ tw_97)
  obtain ⟨c2, iS2, hKn2⟩ := u_known (C := R_Pf) (T := F_Pf) (N := 3) (n := 3) hts in_Pf (hts _ tw_78)
  obtain ⟨c3, iS3, hKn3⟩ := u_known (C := R_Rw) (T := F_Rw) (N := 3) (n := 3) hts in_Rw (hts _ tw_103)
  obtain ⟨c4, iS4, hKn4⟩ := u_known (C := R_Sp) (T := F_Sp) (N := 8) (n := 8) hts in_Sp (hts _ tw_180)
  obtain ⟨c5, iS5, hKn5⟩ := u_known (C := R_Wy) (T := F_Wy) (N := 3) (n := 3) hts in_Wy (hts _ tw_129)
  obtain ⟨c6, iS6, hKn6⟩ := u_known (C := R_FT) (T := F_FT) (N := 11) (n := 11) hts in_FT (hts _ tw_66)
  obtain ⟨cI, kI, pI, i1, i2, i3⟩ := Cond.arrayClass_spec (hts _ tw_96)
  obtain ⟨cJ, kJ, pJ, j1, j2, j3⟩ := Cond.arrayClass_spec (hts _ tw_126)
  have oL : (Cond.arrayOver (.object "FallingTerms$Loop")).before #[Value.ref b] s = true := hts0 _ (List.mem_of_getElem? (i := 74) (by decide +kernel))
  obtain ⟨pL, cL, kL, aL1, aL2, aL3, aL4, aL5⟩ := Cond.arrayOver_spec oL
  have oS : (Cond.arrayOver (.object "FallingTerms$Space")).before #[Value.ref b] s = true := hts0 _ (List.mem_of_getElem? (i := 76) (by decide +kernel))
  obtain ⟨pS, cS, kS, aS1, aS2, aS3, aS4, aS5⟩ := Cond.arrayOver_spec oS
  have oY : (Cond.arrayOver (.object "FallingTerms$Way")).before #[Value.ref b] s = true := hts0 _ (List.mem_of_getElem? (i := 128) (by decide +kernel))
  obtain ⟨pY, cY, kY, aY1, aY2, aY3, aY4, aY5⟩ := Cond.arrayOver_spec oY
  have hA : tA s := ⟨va_AO.of oL, va_AO.of oS, va_AO.of oY⟩
  obtain ⟨cs, e0, e1, e2, e3, e4⟩ : ∃ cs : Nat → ClassId, cs 0 = cI ∧ cs 1 = cJ ∧ cs 2 = cL ∧ cs 3 = cS ∧ cs 4 = cY := ⟨fun k => if k = 0 then cI else if k = 1 then cJ else if k = 2 then cL else if k = 3 then cS else cY, rfl, rfl, rfl, rfl, rfl⟩
  obtain ⟨D, hKc⟩ : ∃ D : va_G, ∀ (k : Nat) (q : vw_C), vwC[k]? = some q → u_Kn s q.1 q.2.1 q.2.2 (D.1 k) (D.2 k) := by
    refine ⟨(fun k => if k = 0 then c0 else if k = 1 then c1 else if k = 2 then c2 else if k = 3 then c3 else if k = 4 then c4 else if k = 5 then c5 else c6, fun k => if k = 0 then iS0 else if k = 1 then iS1 else if k = 2 then iS2 else if k = 3 then iS3 else if k = 4 then iS4 else if k = 5 then iS5 else iS6), ?_⟩
    intro k q hq
    match k, hq with
    | 0, hq => cases hq; exact hKn0
    | 1, hq => cases hq; exact hKn1
    | 2, hq => cases hq; exact hKn2
    | 3, hq => cases hq; exact hKn3
    | 4, hq => cases hq; exact hKn4
    | 5, hq => cases hq; exact hKn5
    | 6, hq => cases hq; exact hKn6
    | k + 7, hq => simp at hq
  have hK : va_K D vwC (gt cs) s := by
    refine ⟨hKc, ?_⟩
    intro k q hq
    match k, hq with
    | 0, hq => cases hq; rw [e0]; exact ⟨fun n z => ⟨fun k h => (by cases h), kI, i2, pI, i3⟩, i1⟩
    | 1, hq => cases hq; rw [e1]; exact ⟨fun n z => ⟨fun k h => (by cases h), kJ, j2, pJ, j3⟩, j1⟩
    | 2, hq => cases hq; rw [e2]; exact ⟨fun n z => ⟨fun k h => (by cases h), kL, aL3, pL, aL4⟩, kL, pL, aL3, aL4, aL1, aL5⟩
    | 3, hq => cases hq; rw [e3]; exact ⟨fun n z => ⟨fun k h => (by cases h), kS, aS3, pS, aS4⟩, kS, pS, aS3, aS4, aS1, aS5⟩
    | 4, hq => cases hq; rw [e4]; exact ⟨fun n z => ⟨fun k h => (by cases h), kY, aY3, pY, aY4⟩, kY, pY, aY3, aY4, aY1, aY5⟩
    | k + 5, hq => simp at hq
  obtain ⟨B, hB⟩ : ∃ B, s.heap.size = B := ⟨_, rfl⟩
  have hS : va_S (fun q : Nat => s.heap.size ≤ q) s.heap s.heap [] := va_S.rf
  have hP0 : mw_P D vwC (fun _ => none) s.heap := fun a e h => by cases h
  have ok0 : okW cs (fun _ => none) := fun q e h => by cases h
  have hl := lv_entry ([.ref b]) (n := 4) (Nat.le_of_ble_eq_true rfl)
  rw [lg_entry_eq]
  generalize (lg_sl ([.ref b]) ++ List.replicate (4 - (lg_sl ([.ref b])).length) Slot.unset).toArray = ls at hl ⊢
  have hl : lv_has ls 4 [(0, .ref b)] := hl
  refine mw_new (D := D) (C := R_FT) (T := F_FT) (N := 11) (ci := 6) (fs := [.null, .int 0, .null, .null, .null, .null, .null, .int 0, .null, .null, .null]) hx hb hts in_FT t_FT t_FT_ok hown (hts _ tw_65) (hts _ tw_66) (hts _ tw_57) hK hP0 hS rfl (fun j hj => by rcases (show j = 0 ∨ j = 1 ∨ j = 2 ∨ j = 3 ∨ j = 4 ∨ j = 5 ∨ j = 6 ∨ j = 7 ∨ j = 8 ∨ j = 9 ∨ j = 10 by omega) with rfl | rfl | rfl | rfl | rfl | rfl | rfl | rfl | rfl | rfl | rfl <;> rfl) (Nat.le_of_ble_eq_true rfl) (Nat.le_of_ble_eq_true rfl) hB d_Lw_law_0 (fun H hPa hS hz => ?_)
  obtain ⟨M1, eM1⟩ : ∃ z : mw_M, z = mw_up (fun _ => none) B (.inr (6, [.null, .int 0, .null, .null, .null, .null, .null, .int 0, .null, .null, .null])) := ⟨_, rfl⟩
  rw [← eM1] at hPa
  have f1 : M1 B = some (.inr (6, [.null, .int 0, .null, .null, .null, .null, .null, .int 0, .null, .null, .null])) := by rw [eM1]; exact mw_up_self
  have ok1 : okW cs M1 := by rw [eM1]; exact ok0.up trivial
  have lo1 : ∀ q, q < B → M1 q = none := fun q hq => by rw [eM1, mw_up_ne (by omega)]
  refine lv_dup hx hb d_Lw_law_3 rfl ?_
  refine mi_callI (As := []) (rest := [.ref B]) (n := 0) hx hb hml hown hts hK hN hA (c_FT_init l D cs M1 B f1 ok1) tw_67 tw_68 tw_57 tw_69 (by decide +kernel) ⟨rfl, rfl, by decide, by decide, Nat.le_of_ble_eq_true rfl, Nat.le_of_ble_eq_true rfl⟩ hPa hS hz (fun q hq => by show s.heap.size ≤ q; omega) rfl hl.1 rfl (Nat.le_of_ble_eq_true rfl) d_Lw_law_4 (fun M2 H locs hb2 hP2 hS hz => ?_)
  refine lv_astore_n (lv' := [(1, .ref B), (0, .ref b)]) hx hb d_Lw_law_7 rfl hl (by decide) rfl (fun ls hl => ?_)
  refine mw_new (D := D) (C := R_Md) (T := F_Md) (N := 38) (ci := 0) (fs := [.int 0, .null, .null, .null, .null, .null, .null, .null, .null, .null, .int 0, .null, .int 0, .int 0, .null, .int 0, .null, .null, .null, .null, .int 0, .long 0, .long 0, .long 0, .long 0, .long 0, .long 0, .long 0, .long 0, .long 0, .long 0, .long 0, .long 0, .int 0, .null, .long 0, .long 0, .long 0]) hx hb hts in_Md t_Md t_Md_ok hown (hts _ tw_559) (hts _ tw_560) (hts _ tw_64) hK hP2 hS rfl (fun j hj => by rcases (show j = 0 ∨ j = 1 ∨ j = 2 ∨ j = 3 ∨ j = 4 ∨ j = 5 ∨ j = 6 ∨ j = 7 ∨ j = 8 ∨ j = 9 ∨ j = 10 ∨ j = 11 ∨ j = 12 ∨ j = 13 ∨ j = 14 ∨ j = 15 ∨ j = 16 ∨ j = 17 ∨ j = 18 ∨ j = 19 ∨ j = 20 ∨ j = 21 ∨ j = 22 ∨ j = 23 ∨ j = 24 ∨ j = 25 ∨ j = 26 ∨ j = 27 ∨ j = 28 ∨ j = 29 ∨ j = 30 ∨ j = 31 ∨ j = 32 ∨ j = 33 ∨ j = 34 ∨ j = 35 ∨ j = 36 ∨ j = 37 by omega) with rfl | rfl | rfl | rfl | rfl | rfl | rfl | rfl | rfl | rfl | rfl | rfl | rfl | rfl | rfl | rfl | rfl | rfl | rfl | rfl | rfl | rfl | rfl | rfl | rfl | rfl | rfl | rfl | rfl | rfl | rfl | rfl | rfl | rfl | rfl | rfl | rfl | rfl <;> rfl) (Nat.le_of_ble_eq_true rfl) (Nat.le_of_ble_eq_true rfl) hz d_Lw_law_8 (fun H hPa hS hz => ?_)
  obtain ⟨M3, eM3⟩ : ∃ z : mw_M, z = mw_up M2 (B + 216) (.inr (0, [.int 0, .null, .null, .null, .null, .null, .null, .null, .null, .null, .int 0, .null, .int 0, .int 0, .null, .int 0, .null, .null, .null, .null, .int 0, .long 0, .long 0, .long 0, .long 0, .long 0, .long 0, .long 0, .long 0, .long 0, .long 0, .long 0, .long 0, .int 0, .null, .long 0, .long 0, .long 0])) := ⟨_, rfl⟩
  rw [← eM3] at hPa
  have f3 : M3 (B + 216) = some (.inr (0, ini_Md)) := by rw [eM3]; exact mw_up_self
  have ok3 : okW cs M3 := by rw [eM3]; exact hb2.2.1.up trivial
  have lo3 : ∀ q, q < B → M3 q = none := fun q hq => by rw [eM3, mw_up_ne (by omega), hb2.1 q hq]; exact lo1 q hq
  have b3 : blkFT M3 cs B := hb2.2.2.keep (fun q h1 h2 => by rw [eM3, mw_up_ne (by omega)])
  refine lv_dup hx hb d_Lw_law_11 rfl ?_
  refine mi_callM (As := []) (rest := [.ref (B + 216)]) (n := 0) hx hb hml hown hts hK hN (c_Md_init l D cs M3 (B + 216) f3) tw_561 tw_562 tw_64 tw_563 (by decide +kernel) ⟨rfl, rfl, by decide, by decide, Nat.le_of_ble_eq_true rfl, Nat.le_of_ble_eq_true rfl⟩ hPa hS hz (fun q hq => by show s.heap.size ≤ q; omega) rfl hl.1 rfl (Nat.le_of_ble_eq_true rfl) d_Lw_law_12 (fun M4 H locs e4 hP4 hS hz => ?_)
  have e4 : M4 = iniM cs M3 (B + 216) := e4
  have ok4 : okW cs M4 := by rw [e4]; exact md_ok ok3
  have bM : blkMd M4 cs (B + 216) := by rw [e4]; exact md_blk
  have bF : blkFT M4 cs B := b3.keep (fun q h1 h2 => by rw [e4]; exact md_lo (by omega))
  have lo4 : ∀ q, q < B → M4 q = none := fun q hq => by rw [e4, md_lo (by omega)]; exact lo3 q hq
  have hh : gm_St D cs (tyS M4) (fun q : Nat => s.heap.size ≤ q) s.heap (B + 216 + 17) (tyI M4) (tyJ M4) H locs := by
    refine ⟨ty_P ok4 hP4, hS, hz, fun q hq => ?_⟩
    obtain ⟨e9, h9⟩ := ty_A hq
    show s.heap.size ≤ q
    rcases Nat.lt_or_ge q B with h | h
    · rw [lo4 q h] at h9; cases h9
    · omega
  refine lv_astore_n (lv' := [(2, .ref (B + 216)), (1, .ref B), (0, .ref b)]) hx hb d_Lw_law_15 rfl hl (by decide) rfl (fun ls hl => ?_)
  refine lv_iconst (v := nI 0) hx hb d_Lw_law_16 rfl ?_
  refine lv_istore_n (lv' := [(3, .int (nI 0)), (2, .ref (B + 216)), (1, .ref B), (0, .ref b)]) hx hb d_Lw_law_17 rfl hl (by decide) rfl (fun ls hl => ?_)
  refine W.widen (k := 600000) (n := 7302249) (Nat.le_of_ble_eq_true rfl) (Nat.le_of_ble_eq_true rfl) ?_
  exact law_loop hL C0 hK (ty_FT bF) (ty_Md bM) (L + 8) 0 (tyI M4) (tyJ M4) (by omega) (tv_SI bF bM rfl) (tv_SJ bF bM) (by omega) H locs ls hh (lv_sub hl [3, 2, 1, 0] rfl)
