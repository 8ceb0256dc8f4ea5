def shV (v : Value) : Nat ⊕ Value := match v with
  | .int _ => .inl 0
  | .long _ => .inl 1
  | v => .inr v
def shE (e : va_E) : Option gm_S := match e with
  | .inr (ci, fs) => some (.inl (ci, fs.map shV))
  | .inl (_, n, .inl _) => some (.inr (.inl n))
  | .inl (_, n, .inr (.inl _)) => some (.inr (.inr (.inl n)))
  | .inl (cA, n, .inr (.inr (.inr (.inr f)))) => some (.inr (.inr (.inr (cA, n, f))))
  | _ => none
def tyS (M : mw_M) : gm_H := fun q => (M q).bind shE
def tyI (M : mw_M) : gm_I := fun q k => match M q with
  | some (.inr (_, fs)) => (match fs[k]? with
    | some (.int x) => x
    | _ => 0)
  | some (.inl (_, _, .inl f)) => f k
  | _ => 0
def tyJ (M : mw_M) : gm_J := fun q k => match M q with
  | some (.inr (_, fs)) => (match fs[k]? with
    | some (.long x) => x
    | _ => 0)
  | some (.inl (_, _, .inr (.inl f))) => f k
  | _ => 0
theorem ty_fs {x : Nat → Int32} {y : Nat → Int64} {fs : List Value} (hx : ∀ k a, fs[k]? = some (.int a) → x k = a) (hy : ∀ k a, fs[k]? = some (.long a) → y k = a) : gm_fs x y (fs.map shV) = fs := by
  apply List.ext_getElem?
  intro k
  rw [gm_fs, List.getElem?_mapIdx, List.getElem?_map]
  cases h : fs[k]? with
  | none => rfl
  | some v =>
    cases v with
    | int a => simp [shV, gm_v, hx k a h]
    | long a => simp [shV, gm_v, hy k a h]
    | _ => simp [shV, gm_v]
theorem ty_at {cs : Nat → ClassId} {M : mw_M} {q : Nat} {e : va_E} (hok : okE cs e) (h : M q = some e) : gm_W cs (tyS M) (tyI M) (tyJ M) q = some e := by
  unfold gm_W tyS
  rw [h]
  match e, hok, h with
  | .inr (ci, fs), _, h =>
    show some (gm_e cs (.inl (ci, fs.map shV)) (tyI M q) (tyJ M q)) = _
    show some (Sum.inr (ci, gm_fs (tyI M q) (tyJ M q) (fs.map shV))) = _
    rw [ty_fs]
    · intro k a hk
      unfold tyI; rw [h]; simp only [hk]
    · intro k a hk
      unfold tyJ; rw [h]; simp only [hk]
  | .inl (cA, n, .inl f), hc, h =>
    have hc : cA = cs 0 := hc
    subst hc
    show some (Sum.inl (cs 0, n, Sum.inl (tyI M q))) = _
    have : tyI M q = f := by funext k; unfold tyI; rw [h]
    rw [this]
  | .inl (cA, n, .inr (.inl f)), hc, h =>
    have hc : cA = cs 1 := hc
    subst hc
    show some (Sum.inl (cs 1, n, Sum.inr (Sum.inl (tyJ M q)))) = _
    have : tyJ M q = f := by funext k; unfold tyJ; rw [h]
    rw [this]
  | .inl (cA, n, .inr (.inr (.inr (.inr f)))), _, h => rfl
theorem ty_P {D : va_G} {cs : Nat → ClassId} {M : mw_M} {H : Heap} (hok : okW cs M) (hP : mw_P D vwC M H) : mw_P D vwC (gm_W cs (tyS M) (tyI M) (tyJ M)) H := by
  intro a e h
  cases hM : M a with
  | none =>
    unfold gm_W tyS at h
    rw [hM] at h
    cases h
  | some e0 =>
    rw [ty_at (hok a e0 hM) hM] at h
    cases h
    exact hP a _ hM
theorem ty_A {M : mw_M} {q : Nat} (h : gm_A (tyS M) q) : ∃ e, M q = some e := by
  obtain ⟨s, hs⟩ := h
  cases hM : M q with
  | none => unfold tyS at hs; rw [hM] at hs; cases hs
  | some e => exact ⟨e, rfl⟩
section TY
variable {M : mw_M} {cs : Nat → ClassId} {a B r cap : Nat}
theorem tyI_o {q ci k : Nat} {fs : List Value} {x : Int32} (h : M q = some (.inr (ci, fs))) (hk : fs[k]? = some (.int x)) : tyI M q k = x := by unfold tyI; rw [h]; simp only [hk]
theorem tyI_a {q n k : Nat} {cA : ClassId} {f : Nat → Int32} (h : M q = some (.inl (cA, n, .inl f))) : tyI M q k = f k := by unfold tyI; rw [h]
theorem tyS_o {q : Nat} {e : va_E} (h : M q = some e) : tyS M q = shE e := by unfold tyS; rw [h]; rfl
theorem ty_Rw (h : blkRw M cs a cap) : is_Rw (tyS M) a cap := ⟨(tyS_o h.1).trans rfl, (tyS_o h.2).trans rfl⟩
theorem ty_Wy (h : blkWy M cs a) : is_Wy (tyS M) a := ⟨(tyS_o h.1).trans rfl, ty_Rw h.2.1, (tyS_o h.2.2.1).trans rfl, (tyS_o h.2.2.2).trans rfl⟩
theorem ty_Lp (h : blkLp M cs a) : is_Lp cs (tyS M) a := ⟨(tyS_o h.1).trans rfl, ty_Rw h.2.1, (tyS_o h.2.2.1).trans rfl, (tyS_o h.2.2.2.1).trans rfl, (tyS_o h.2.2.2.2.1).trans rfl, fun k hk => ty_Wy (h.2.2.2.2.2 k hk)⟩
theorem ty_Pf (h : blkPf M cs a) : is_Pf (tyS M) a := ⟨(tyS_o h.1).trans rfl, (tyS_o h.2).trans rfl⟩
theorem ty_Sp (h : blkSp M cs a) : is_Sp (tyS M) a := ⟨(tyS_o h.1).trans rfl, (tyS_o h.2.1).trans rfl, (tyS_o h.2.2.1).trans rfl, (tyS_o h.2.2.2.1).trans rfl, (tyS_o h.2.2.2.2.1).trans rfl, (tyS_o h.2.2.2.2.2).trans rfl⟩
theorem ty_FT (h : blkFT M cs B) : is_FT cs (tyS M) B := by
  obtain ⟨h0, h1, h2, h3, h4, h6, h8, h9, h10, h11, hL, hS⟩ := h
  refine ⟨(tyS_o h0).trans rfl, (tyS_o h1).trans rfl, ⟨(tyS_o h2).trans rfl, fun k hk => ?_⟩, ⟨(tyS_o h3).trans rfl, fun k hk => ?_⟩, ty_Pf h4, ty_Pf h6, (tyS_o h8).trans rfl, (tyS_o h9).trans rfl, (tyS_o h10).trans rfl, (tyS_o h11).trans rfl, fun j hj => ty_Lp (hL j hj)⟩
  · have g := ty_Sp (hS (2 * k) (by omega))
    rw [show B + 180 + 6 * (2 * k) = B + 180 + 12 * k by omega] at g
    exact g
  · have g := ty_Sp (hS (2 * k + 1) (by omega))
    rw [show B + 180 + 6 * (2 * k + 1) = B + 186 + 12 * k by omega] at g
    exact g
theorem tv_Rw (h : blkRw M cs a cap) : inv_Rw (tyI M) a cap := ⟨tyI_o h.1 rfl, 0, Nat.zero_le _, tyI_o h.1 rfl⟩
theorem tv_Lp (h : blkLp M cs a) : inv_Lp (tyI M) a := ⟨⟨0, by omega, tyI_o h.1 rfl⟩, tv_Rw h.2.1, ⟨0, by omega, tyI_o h.1 rfl⟩, fun k hk => tv_Rw (h.2.2.2.2.2 k hk).2.1⟩
theorem tv_FT (h : blkFT M cs B) : inv_FT (tyI M) B := by
  obtain ⟨h0, h1, h2, h3, h4, h6, h8, h9, h10, h11, hL, hS⟩ := h
  exact ⟨⟨0, by omega, tyI_o h0 rfl⟩, fun j hj => tv_Lp (hL j hj), ⟨0, by omega, tyI_o h4.1 rfl⟩, ⟨0, by omega, tyI_o h6.1 rfl⟩, fun k hk => ⟨⟨0, by omega, tyI_o (hS k hk).1 rfl⟩, ⟨0, by omega, tyI_o (hS k hk).1 rfl⟩⟩, Or.inl (tyI_o h0 rfl)⟩
def blkMd (M : mw_M) (cs : Nat → ClassId) (r : Nat) : Prop := M r = some (.inr (0, [.int 0, .ref (r + 1), .ref (r + 2), .ref (r + 3), .ref (r + 4), .ref (r + 5), .ref (r + 6), .ref (r + 7), .ref (r + 8), .ref (r + 9), .int 0, .ref (r + 10), .int 0, .int 0, .ref (r + 11), .int 0, .ref (r + 12), .ref (r + 13), .ref (r + 14), .ref (r + 15), .int 0, .long 0, .long 0, .long 0, .long 0, .long 0, .long 0, .long 0, .long 0, .long 0, .long 0, .long 0, .long 0, .int 0, .ref (r + 16), .long 0, .long 0, .long 0])) ∧ M (r + 1) = some (.inl (cs 0, 8, .inl (fun _ => 0))) ∧ M (r + 2) = some (.inl (cs 0, 8, .inl (fun _ => 0))) ∧ M (r + 3) = some (.inl (cs 0, 8, .inl (fun _ => 0))) ∧ M (r + 4) = some (.inl (cs 0, 128, .inl (fun _ => 0))) ∧ M (r + 5) = some (.inl (cs 0, 24, .inl (fun _ => 0))) ∧ M (r + 6) = some (.inl (cs 0, 192, .inl (fun _ => 0))) ∧ M (r + 7) = some (.inl (cs 0, 216, .inl (fun _ => 0))) ∧ M (r + 8) = some (.inl (cs 0, 72, .inl (fun _ => 0))) ∧ M (r + 9) = some (.inl (cs 1, 24, .inr (.inl (fun _ => 0)))) ∧ M (r + 10) = some (.inl (cs 0, 12, .inl (fun _ => 0))) ∧ M (r + 11) = some (.inl (cs 0, 4, .inl (fun _ => 0))) ∧ M (r + 12) = some (.inl (cs 1, 8, .inr (.inl (fun _ => 0)))) ∧ M (r + 13) = some (.inl (cs 1, 8, .inr (.inl (fun _ => 0)))) ∧ M (r + 14) = some (.inl (cs 1, 8, .inr (.inl (fun _ => 0)))) ∧ M (r + 15) = some (.inl (cs 1, 8, .inr (.inl (fun _ => 0)))) ∧ M (r + 16) = some (.inl (cs 0, 12, .inl (fun _ => 0)))
theorem md_blk : blkMd (iniM cs M r) cs r := by
  unfold iniM
  refine ⟨?_, ?_, ?_, ?_, ?_, ?_, ?_, ?_, ?_, ?_, ?_, ?_, ?_, ?_, ?_, ?_, ?_⟩
  all_goals repeat (first | rw [mw_up_self] | rw [mw_up_ne (by omega)])
theorem md_lo {q : Nat} (h : q < r) : iniM cs M r q = M q := by
  unfold iniM
  repeat (first | rw [mw_up_self] | rw [mw_up_ne (by omega)])
theorem md_ok (h : okW cs M) : okW cs (iniM cs M r) := by
  unfold iniM
  repeat (refine okW.up ?_ (by first | exact trivial | exact rfl))
  exact h
theorem ty_Md (h : blkMd M cs r) : is_Md (tyS M) r := ⟨(tyS_o h.1).trans rfl, (tyS_o h.2.1).trans rfl, (tyS_o h.2.2.1).trans rfl, (tyS_o h.2.2.2.1).trans rfl, (tyS_o h.2.2.2.2.1).trans rfl, (tyS_o h.2.2.2.2.2.1).trans rfl, (tyS_o h.2.2.2.2.2.2.1).trans rfl, (tyS_o h.2.2.2.2.2.2.2.1).trans rfl, (tyS_o h.2.2.2.2.2.2.2.2.1).trans rfl, (tyS_o h.2.2.2.2.2.2.2.2.2.1).trans rfl, (tyS_o h.2.2.2.2.2.2.2.2.2.2.1).trans rfl, (tyS_o h.2.2.2.2.2.2.2.2.2.2.2.1).trans rfl, (tyS_o h.2.2.2.2.2.2.2.2.2.2.2.2.1).trans rfl, (tyS_o h.2.2.2.2.2.2.2.2.2.2.2.2.2.1).trans rfl, (tyS_o h.2.2.2.2.2.2.2.2.2.2.2.2.2.2.1).trans rfl, (tyS_o h.2.2.2.2.2.2.2.2.2.2.2.2.2.2.2.1).trans rfl, (tyS_o h.2.2.2.2.2.2.2.2.2.2.2.2.2.2.2.2).trans rfl⟩
theorem tv_Md (h : blkMd M cs r) : inv_Md (tyI M) r := by
  refine ⟨⟨0, by omega, tyI_o h.1 rfl⟩, fun j hj => ⟨0, by omega, tyI_a h.2.1⟩, fun j hj => ⟨0, by omega, tyI_a h.2.2.1⟩, fun j hj => ⟨0, by omega, tyI_a h.2.2.2.1⟩, fun j hj => ⟨0, by omega, tyI_a h.2.2.2.2.2.1⟩, ⟨0, by omega, tyI_o h.1 rfl⟩⟩
theorem tv_SI (hF : blkFT M cs B) (hM : blkMd M cs r) (hr : r = B + 216) : SI (tyI M) B r := by
  refine ⟨hr, tv_FT hF, tv_Md hM, ⟨false, tyI_o hM.1 rfl⟩, ?_, fun j hj => ?_, fun j k hj hk => ?_⟩
  · rw [tyI_o hF.1 (k := 1) rfl, tyI_o hM.1 (k := 0) rfl]
  · have g := hF.2.2.2.2.2.2.2.2.2.2.1 j hj
    refine ⟨?_, ?_, ?_, fun i hi => ?_⟩
    · rw [tyI_o g.1 (k := 0) rfl, tyI_a hM.2.1]
    · rw [tyI_o g.1 (k := 3) rfl, tyI_a hM.2.2.1]
    · rw [tyI_o g.2.1.1 (k := 2) rfl, tyI_a hM.2.2.2.1]
    · rw [tyI_a g.2.1.2, tyI_a hM.2.2.2.2.1]
  · have g := (hF.2.2.2.2.2.2.2.2.2.2.1 j hj).2.2.2.2.2 k hk
    refine ⟨?_, fun i hi => ?_, fun i hi => ?_, fun i hi => ?_⟩
    · rw [tyI_o g.2.1.1 (k := 2) rfl, tyI_a hM.2.2.2.2.2.1]
    · rw [tyI_a g.2.1.2, tyI_a hM.2.2.2.2.2.2.1]
    · rw [tyI_a g.2.2.1, tyI_a hM.2.2.2.2.2.2.2.1]
    · rw [tyI_a g.2.2.2, tyI_a hM.2.2.2.2.2.2.2.2.1]
end TY
theorem nest_of {s : State} {A : Array Value} (hts : ∀ w ∈ lw_tbl, w.before A s = true) : tN s := fun w hw => by
  have hn := (List.mem_filter.mp hw).2
  have h1 := hts w (List.mem_filter.mp hw).1
  cases w <;> first | exact va_Nw.of rfl h1 | (simp [gm_nest] at hn)
theorem sw24 {x : Int32} (h : ∀ k, k < 24 → ¬ x = nI k) : x.toInt < 0 ∨ 23 < x.toInt := by
  rcases Int.lt_or_le x.toInt 0 with h0 | h0
  · exact Or.inl h0
  · right
    rcases Int.lt_or_le 23 x.toInt with g | g
    · exact g
    · exfalso
      refine h x.toInt.toNat (by omega) (Int32.toInt_inj.mp ?_)
      rw [nI_toInt (by omega)]
      omega
