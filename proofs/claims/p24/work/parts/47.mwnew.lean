-- ARRAYS MADE, in a world that is a function
section MWN
variable {p : Program} {l : Launch} {e : Env} {R : Room} {s : State} {m : MethodId} {args : Array Value} {below : List Frame} {meth : Method} {c : Code} {H : Heap} {locs : List Loc} {cells slots : Nat} {Q : State → Prop}
variable {cc : ByteArray} {pc : Nat} {ls : Array Slot} {rest : List Value} {D : va_G} {cl : List vw_C} {A : Nat → Prop} {tys : List (ClassId × FieldType)} {M : mw_M} {H0 : Heap}
theorem mw_newi (hexec : p.tables.exec = Jvm.exec) (hb : c.code = cc) (harr : (Cond.arrayClass .int).before args s = true) (hK : va_K D cl tys s) (t0 : Nat) {cA0 : ClassId} (ht : tys[t0]? = some (cA0, .int)) (hP : mw_P D cl M H) (hS : va_S A H0 H locs) {n h : Nat} (hn : n ≤ 100000) (hcells : cells + 1 ≤ R.cells) (hslots : slots + n ≤ R.slots) (hh : H.size = h) (hdg : decode cc pc = .ok (.newarray .int, 2))
    (kk : ∀ H1 : Heap, mw_P D cl (mw_up M h (.inl (cA0, n, .inl (fun _ => 0)))) H1 → va_S A H0 H1 locs → H1.size = h + 1 → W p l e R s m args below meth c H1 locs (cells + 1) (slots + n) Q (F0 m (pc + 2) ls (.ref h :: rest))) : W p l e R s m args below meth c H locs cells slots Q (F0 m pc ls (.int (nI n) :: rest)) := by
  have h1 : ¬ nI n < 0 := nI_pos (by omega)
  have h2 : (nI n).toNatClampNeg = n := nI_clamp (by omega)
  have h4 : componentBytes (newarray.typeOf .int) = 4 := by rfl
  have h3 : n * componentBytes (newarray.typeOf .int) ≤ 536870912 := by rw [h4]; omega
  clear h4
  generalize nI n = v at h1 h2 ⊢
  refine va_newaK (atype := .int) hexec hb harr rfl hdg rfl h1 h2 h3 hcells hslots hh fun H1 cA e1 z1 o1 hAr hNm => ?_
  have hc : cA = cA0 := Option.some.inj (hNm.symm.trans (hK.2 t0 _ ht).2)
  subst hc
  refine kk H1 (hP.new e1 (by rw [hh]; exact o1)) ⟨?_, fun x h1 h2 => ?_, hS.2.2⟩ z1
  · have := hS.1; omega
  · rw [o1 x (by have := hS.1; omega)]; exact hS.2.1 x h1 h2
theorem mw_newj (hexec : p.tables.exec = Jvm.exec) (hb : c.code = cc) (harr : (Cond.arrayClass .long).before args s = true) (hK : va_K D cl tys s) (t0 : Nat) {cA0 : ClassId} (ht : tys[t0]? = some (cA0, .long)) (hP : mw_P D cl M H) (hS : va_S A H0 H locs) {n h : Nat} (hn : n ≤ 100000) (hcells : cells + 1 ≤ R.cells) (hslots : slots + n ≤ R.slots) (hh : H.size = h) (hdg : decode cc pc = .ok (.newarray .long, 2))
    (kk : ∀ H1 : Heap, mw_P D cl (mw_up M h (.inl (cA0, n, .inr (.inl (fun _ => 0))))) H1 → va_S A H0 H1 locs → H1.size = h + 1 → W p l e R s m args below meth c H1 locs (cells + 1) (slots + n) Q (F0 m (pc + 2) ls (.ref h :: rest))) : W p l e R s m args below meth c H locs cells slots Q (F0 m pc ls (.int (nI n) :: rest)) := by
  have h1 : ¬ nI n < 0 := nI_pos (by omega)
  have h2 : (nI n).toNatClampNeg = n := nI_clamp (by omega)
  have h4 : componentBytes (newarray.typeOf .long) = 8 := by rfl
  have h3 : n * componentBytes (newarray.typeOf .long) ≤ 536870912 := by rw [h4]; omega
  clear h4
  generalize nI n = v at h1 h2 ⊢
  refine va_newaK (atype := .long) hexec hb harr rfl hdg rfl h1 h2 h3 hcells hslots hh fun H1 cA e1 z1 o1 hAr hNm => ?_
  have hc : cA = cA0 := Option.some.inj (hNm.symm.trans (hK.2 t0 _ ht).2)
  subst hc
  refine kk H1 (hP.new e1 (by rw [hh]; exact o1)) ⟨?_, fun x h1 h2 => ?_, hS.2.2⟩ z1
  · have := hS.1; omega
  · rw [o1 x (by have := hS.1; omega)]; exact hS.2.1 x h1 h2
end MWN
