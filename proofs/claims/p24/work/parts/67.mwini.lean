-- CONSTRUCTORS, in worlds that are functions: what is made, a call of a constructor
def tA (U : State) : Prop := va_AO "FallingTerms$Loop" U ∧ va_AO "FallingTerms$Space" U ∧ va_AO "FallingTerms$Way" U
theorem tA.moved {u U : State} (h : u.vm.Alike U.vm) (hA : tA u) : tA U := ⟨hA.1.moved h, hA.2.1.moved h, hA.2.2.moved h⟩
def mi_Pre (D : va_G) (cs : Nat → ClassId) (M : mw_M) (h : Nat) (av : List Value) : Array Value → State → Prop := va_Pc av (fun U => U.heap.size = h ∧ mw_P D vwC M U.heap ∧ va_K D vwC (gt cs) U ∧ tN U ∧ tA U)
def mi_B (D : va_G) (h : Nat) : mw_M → State → Prop := fun u t => t.heap.size = h ∧ mw_P D vwC u t.heap
theorem mi_blind {D : va_G} {cs : Nat → ClassId} {M : mw_M} {h : Nat} {av : List Value} : FrameBlind (mi_Pre D cs M h av) := by
  intro a U g mk q
  obtain ⟨q0, q1, q2, q3, q4, q5⟩ := q
  exact ⟨q0, q1, q2, va_K.moved (u := U) (U := U.calling g mk a) (Vm.Alike.refl U.vm) q3, tN.same (u := U) (U := U.calling g mk a) rfl q4, tA.moved (u := U) (U := U.calling g mk a) (Vm.Alike.refl U.vm) q5⟩
section MI
variable {p : Program} {l : Launch} {e : Env} {R : Room} {s : State} {m : MethodId} {args : Array Value} {below : List Frame} {meth : Method} {c : Code} {H : Heap} {locs : List Loc} {cells slots : Nat} {Q : State → Prop}
variable {cc : ByteArray} {pc : Nat} {ls : Array Slot} {rest : List Value} {D : va_G} {cl : List vw_C} {A : Nat → Prop} {tys : List (ClassId × FieldType)} {M : mw_M} {H0 : Heap} {cs : Nat → ClassId} {own : String}
theorem mw_new (hexec : p.tables.exec = Jvm.exec) (hb : c.code = cc) {C : String} {T : u_T} {N ci index : Nat} {Ts : List Cond} (hts : ∀ w ∈ Ts, w.before args s = true) (hin : ∀ w ∈ u_ws C T N, w ∈ Ts) (ty : Nat → FieldType) (hty : ∀ k, k < N → parseFieldDescriptor (T k).2.2.1 = some (ty k)) (hown : s.vm.findClass own = some m.cls) (hcl : (Cond.classLink own index C).before args s = true) (hinst : (Cond.instantiable C N).before args s = true) (hini : (Cond.initialized C).before args s = true)
    (hK : va_K D cl tys s) (hP : mw_P D cl M H) (hS : va_S A H0 H locs) (hc : cl[ci]? = some (C, T, N)) {fs : List Value} (hfs : ∀ j, j < N → defaultValue (ty j) = vp_V fs j) (hcells : cells + 1 ≤ R.cells) (hslots : slots + N ≤ R.slots) {h : Nat} (hh : H.size = h) (hdg : decode cc pc = .ok (.new index, 3))
    (kk : ∀ H1 : Heap, mw_P D cl (mw_up M h (.inr (ci, fs))) H1 → va_S A H0 H1 locs → H1.size = h + 1 → W p l e R s m args below meth c H1 locs (cells + 1) (slots + N) Q (F0 m (pc + 3) ls (.ref h :: rest))) : W p l e R s m args below meth c H locs cells slots Q (F0 m pc ls rest) := by
  have hKn := hK.1 ci _ hc
  refine W.newcK hexec hb hown hcl hinst hini rfl hdg hcells hslots hKn.2.1 hh fun H1 kC hkC e1 z1 o1 => ?_
  refine kk H1 (hP.new ⟨_, hc, (u_born ty hts hin hKn hkC e1 hty).to hfs⟩ (by rw [hh]; exact o1)) ⟨?_, fun x h1 h2 => ?_, hS.2.2⟩ z1
  · have := hS.1; omega
  · rw [o1 x (by have := hS.1; omega)]; exact hS.2.1 x h1 h2
theorem mw_newq (hexec : p.tables.exec = Jvm.exec) (hb : c.code = cc) {C : String} {index : Nat} (hown : s.vm.findClass own = some m.cls) (hclink : (Cond.classLink own index C).before args s = true) (hover : va_AO C s) (hK : va_K D cl tys s) (t0 : Nat) {cA0 : ClassId} (ht : tys[t0]? = some (cA0, .object C)) (hP : mw_P D cl M H) (hS : va_S A H0 H locs) {n h : Nat} (hn : n ≤ 1000) (hcells : cells + 1 ≤ R.cells) (hslots : slots + n ≤ R.slots) (hh : H.size = h) (hdg : decode cc pc = .ok (.anewarray index, 3))
    (kk : ∀ H1 : Heap, mw_P D cl (mw_up M h (.inl (cA0, n, .inr (.inr (.inr (.inr (fun _ => none))))))) H1 → va_S A H0 H1 locs → H1.size = h + 1 → W p l e R s m args below meth c H1 locs (cells + 1) (slots + n) Q (F0 m (pc + 3) ls (.ref h :: rest))) : W p l e R s m args below meth c H locs cells slots Q (F0 m pc ls (.int (nI n) :: rest)) := by
  have h1 : ¬ nI n < 0 := nI_pos (by omega)
  have h2 : (nI n).toNatClampNeg = n := nI_clamp (by omega)
  generalize nI n = v at h1 h2 ⊢
  subst h2
  subst hh
  refine W.anew hexec hb hown hclink (va_AO.use hover) rfl hdg rfl h1 (by omega) hcells hslots fun cA kA comp f1 f2 f3 f4 => ?_
  have hc : cA = cA0 := by
    obtain ⟨_, _, _, _, _, g⟩ := (hK.2 t0 _ ht).2
    exact Option.some.inj (f1.symm.trans g)
  subst hc
  generalize hH1 : H.push ({ cls := cA, slots := Array.replicate v.toNatClampNeg .null, vm := .none } : Cell) = H1
  have z1 : H1.size = H.size + 1 := by rw [← hH1, Array.size_push]
  have e1 : H1[H.size]? = some (arrV cA v.toNatClampNeg (fun _ => .null)) := by rw [← hH1, Array.getElem?_push_size, ← arrV_new]
  have o1 : ∀ q : Nat, q < H.size → H1[q]? = H[q]? := fun q hq => by rw [← hH1, Array.getElem?_push, if_neg (Nat.ne_of_lt hq)]
  refine kk H1 (hP.new ?_ o1) ⟨?_, fun x h1 h2 => ?_, hS.2.2⟩ z1
  · show H1[H.size]? = some (vp_cell _ _)
    rw [vp_cell_q]
    exact e1
  · have := hS.1; omega
  · rw [o1 x (by have := hS.1; omega)]; exact hS.2.1 x h1 h2
variable {y : MethodName} {bytes : ByteArray} {maxL nL mc ms n index h h2 b : Nat} {rm : Room} {As st0 : List Value} {host : String}
/-- what a call of a constructor asks of rooms -/
abbrev mi_R (R rm : Room) (maxL mc ms cells slots : Nat) : Prop := rm.cells = mc ∧ rm.slots = ms ∧ rm.frames + 1 ≤ R.frames ∧ 8 + (maxL + 11) + rm.locals ≤ R.locals ∧ cells + mc ≤ R.cells ∧ slots + ms ≤ R.slots
theorem mi_callI (hx : p.tables.exec = Jvm.exec) (hb : c.code = cc) (hml : c.maxLocals = nL) (hown : s.vm.findClass own = some m.cls) (hts : ∀ w ∈ tg, w.before args s = true) (hK : va_K D vwC (gt cs) s) (hN : tN s) (hA : tA s) {post : mw_M → Prop} (hM : Met l y (wU y bytes maxL none) rm (mi_Pre D cs M h (.ref b :: As)) (va_Qv post (mi_B D h2) (fun q => b ≤ q)) mc ms (fun q => b ≤ q))
    (hlink : Cond.methodLink own index y ∈ tg) (him : Cond.instanceMethod y ∈ tg) (hini : Cond.initialized y.cls ∈ tg) (hcode : Cond.code y bytes maxL none ∈ tg) (hd : y.name = "<init>" ∧ y.cls ≠ "java/lang/invoke/MethodHandle" ∧ y.cls ≠ "java/lang/invoke/VarHandle" ∧ (parseMethodDescriptor y.desc).map (fun d => d.parameters.length) = some n) (hR : mi_R R rm maxL mc ms cells slots)
    (hP : mw_P D vwC M H) (hS : va_S A H0 H locs) (hz : H.size = h) (hAb : ∀ q, b ≤ q → A q) (hn : As.length = n) (hsize : ls.size = nL) (hst : st0 = As.reverse ++ .ref b :: rest) (hW : (rest.map fun v => v.category).sum ≤ 8) (hdg : decode cc pc = .ok (.invokespecial index, 3))
    (kk : ∀ (u : mw_M) (H1 : Heap) (locs1 : List Loc), post u → mw_P D vwC u H1 → va_S A H0 H1 locs1 → H1.size = h2 → W p l e R s m args below meth c H1 locs1 (cells + mc) (slots + ms) Q (F0 m (pc + 3) ls rest)) : W p l e R s m args below meth c H locs cells slots Q (F0 m pc ls st0) := by
  subst hst
  have hr := va_runI (p := p) (l := l) (e := e) (R := R) (s := s) (m := m) (args := args) (below := below) (meth := meth) (c := c) (H := H) (locs := locs) (cells := cells) (slots := slots) (As := As) (rest := rest) (b := b) (g := F0 m pc ls (As.reverse ++ .ref b :: rest)) ⟨hx, hb, hml, hown, hts⟩ hM ⟨callB_of n hts (tg_good (tg_wU hcode)) rfl hR.1 hR.2.1 (hts _ hini) (hts _ hlink) hd.2 ⟨hR.2.2.1, hR.2.2.2.1⟩, hd.1, hts _ him⟩ ⟨mi_blind, fun U hU hW => ⟨rfl, by rw [hU]; exact hz, by rw [hU]; exact hP, va_K.moved hW.alike hK, hN.warm hW, hA.moved hW.alike⟩⟩ rfl hn hsize rfl (lv_room hW) hdg ⟨hR.2.2.2.2.1, hR.2.2.2.2.2⟩
  exact va_callv hr hS (fun q _ hq => hAb q hq) hAb (fun u t H1 locs1 ht _ hw hB _ _ hS1 => kk u H1 locs1 hw (by rw [← ht]; exact hB.2) hS1 (by rw [← ht]; exact hB.1))
theorem mi_callM (hx : p.tables.exec = Jvm.exec) (hb : c.code = cc) (hml : c.maxLocals = nL) (hown : s.vm.findClass own = some m.cls) (hts : ∀ w ∈ tg, w.before args s = true) (hK : va_K D vwC (gt cs) s) (hN : tN s) {post : mw_M → Prop} (hM : Met l y (wU y bytes maxL none) rm (va_Pc (.ref b :: As) (fun U => U.heap.size = h ∧ mw_P D vwC M U.heap ∧ va_K D vwC (gt cs) U ∧ tN U)) (va_Qv post (fun u t => t.heap.size = h2 ∧ mw_P D vwC u t.heap) (fun q => b ≤ q)) mc ms (fun q => b ≤ q))
    (hlink : Cond.methodLink own index y ∈ tg) (him : Cond.instanceMethod y ∈ tg) (hini : Cond.initialized y.cls ∈ tg) (hcode : Cond.code y bytes maxL none ∈ tg) (hd : y.name = "<init>" ∧ y.cls ≠ "java/lang/invoke/MethodHandle" ∧ y.cls ≠ "java/lang/invoke/VarHandle" ∧ (parseMethodDescriptor y.desc).map (fun d => d.parameters.length) = some n) (hR : mi_R R rm maxL mc ms cells slots)
    (hP : mw_P D vwC M H) (hS : va_S A H0 H locs) (hz : H.size = h) (hAb : ∀ q, b ≤ q → A q) (hn : As.length = n) (hsize : ls.size = nL) (hst : st0 = As.reverse ++ .ref b :: rest) (hW : (rest.map fun v => v.category).sum ≤ 8) (hdg : decode cc pc = .ok (.invokespecial index, 3))
    (kk : ∀ (u : mw_M) (H1 : Heap) (locs1 : List Loc), post u → mw_P D vwC u H1 → va_S A H0 H1 locs1 → H1.size = h2 → W p l e R s m args below meth c H1 locs1 (cells + mc) (slots + ms) Q (F0 m (pc + 3) ls rest)) : W p l e R s m args below meth c H locs cells slots Q (F0 m pc ls st0) := by
  subst hst
  have hr := va_runI (p := p) (l := l) (e := e) (R := R) (s := s) (m := m) (args := args) (below := below) (meth := meth) (c := c) (H := H) (locs := locs) (cells := cells) (slots := slots) (As := As) (rest := rest) (b := b) (g := F0 m pc ls (As.reverse ++ .ref b :: rest)) ⟨hx, hb, hml, hown, hts⟩ hM ⟨callB_of n hts (tg_good (tg_wU hcode)) rfl hR.1 hR.2.1 (hts _ hini) (hts _ hlink) hd.2 ⟨hR.2.2.1, hR.2.2.2.1⟩, hd.1, hts _ him⟩ ⟨fun a U g mk q => by obtain ⟨q0, q1, q2, q3, q4⟩ := q; exact ⟨q0, q1, q2, va_K.moved (u := U) (U := U.calling g mk a) (Vm.Alike.refl U.vm) q3, tN.same (u := U) (U := U.calling g mk a) rfl q4⟩, fun U hU hW => ⟨rfl, by rw [hU]; exact hz, by rw [hU]; exact hP, va_K.moved hW.alike hK, hN.warm hW⟩⟩ rfl hn hsize rfl (lv_room hW) hdg ⟨hR.2.2.2.2.1, hR.2.2.2.2.2⟩
  exact va_callv hr hS (fun q _ hq => hAb q hq) hAb (fun u t H1 locs1 ht _ hw hB _ _ hS1 => kk u H1 locs1 hw (by rw [← ht]; exact hB.2) hS1 (by rw [← ht]; exact hB.1))
theorem mi_callN (hx : p.tables.exec = Jvm.exec) (hb : c.code = cc) (hml : c.maxLocals = nL) (hown : s.vm.findClass own = some m.cls) (hts : ∀ w ∈ tg, w.before args s = true) (hK : va_K D vwC (gt cs) s) (hN : tN s) (hA : tA s) {post : mw_M → Prop} (hM : Met l y (wU y bytes maxL none) rm (mi_Pre D cs M h (.ref b :: As)) (va_Qv post (mi_B D h2) (fun q => b ≤ q)) mc ms (fun q => b ≤ q))
    (hlink : Cond.methodLinkNest own index y host ∈ tn) (him : Cond.instanceMethod y ∈ tg) (hini : Cond.initialized y.cls ∈ tg) (hcode : Cond.code y bytes maxL none ∈ tg) (hd : y.name = "<init>" ∧ y.cls ≠ "java/lang/invoke/MethodHandle" ∧ y.cls ≠ "java/lang/invoke/VarHandle" ∧ (parseMethodDescriptor y.desc).map (fun d => d.parameters.length) = some n) (hR : mi_R R rm maxL mc ms cells slots)
    (hP : mw_P D vwC M H) (hS : va_S A H0 H locs) (hz : H.size = h) (hAb : ∀ q, b ≤ q → A q) (hn : As.length = n) (hsize : ls.size = nL) (hst : st0 = As.reverse ++ .ref b :: rest) (hW : (rest.map fun v => v.category).sum ≤ 8) (hdg : decode cc pc = .ok (.invokespecial index, 3))
    (kk : ∀ (u : mw_M) (H1 : Heap) (locs1 : List Loc), post u → mw_P D vwC u H1 → va_S A H0 H1 locs1 → H1.size = h2 → W p l e R s m args below meth c H1 locs1 (cells + mc) (slots + ms) Q (F0 m (pc + 3) ls rest)) : W p l e R s m args below meth c H locs cells slots Q (F0 m pc ls st0) := by
  subst hst
  have hr := va_runIN (p := p) (l := l) (e := e) (R := R) (s := s) (m := m) (args := args) (below := below) (meth := meth) (c := c) (H := H) (locs := locs) (cells := cells) (slots := slots) (As := As) (rest := rest) (b := b) (g := F0 m pc ls (As.reverse ++ .ref b :: rest)) ⟨hx, hb, hml, hown, hts⟩ hM ⟨va_cnB n hts (tg_good (tg_wU hcode)) rfl hR.1 hR.2.1 (hN _ hlink) (hts _ hini) hd.2 ⟨hR.2.2.1, hR.2.2.2.1⟩, hd.1, hts _ him⟩ ⟨mi_blind, fun U hU hW => ⟨rfl, by rw [hU]; exact hz, by rw [hU]; exact hP, va_K.moved hW.alike hK, hN.warm hW, hA.moved hW.alike⟩⟩ rfl hn hsize rfl (lv_room hW) hdg ⟨hR.2.2.2.2.1, hR.2.2.2.2.2⟩
  exact va_callv hr hS (fun q _ hq => hAb q hq) hAb (fun u t H1 locs1 ht _ hw hB _ _ hS1 => kk u H1 locs1 hw (by rw [← ht]; exact hB.2) hS1 (by rw [← ht]; exact hB.1))
/-- a static method that reads no memory, called in a constructor -/
theorem mi_pure {ret : Option FieldType} {D' : va_G} (hx : p.tables.exec = Jvm.exec) (hb : c.code = cc) (hml : c.maxLocals = nL) (hown : s.vm.findClass own = some m.cls) (hts : ∀ w ∈ tg, w.before args s = true) (hK : va_K D vwC (gt cs) s) (hN : tN s) {post : Int32 → gm_M → Prop} {I : gm_I} {J : gm_J} (hM : Met l y (wU y bytes maxL ret) rm (gm_Pre D cs (fun _ => none) h I J As) (va_Qi post (gm_B D cs (fun _ => none) h) (gm_A (fun _ => none))) 0 0 (gm_A (fun _ => none)))
    (hlink : Cond.methodLink own index y ∈ tg) (hst9 : Cond.static y ∈ tg) (hini : Cond.initialized y.cls ∈ tg) (hcode : Cond.code y bytes maxL ret ∈ tg) (hd : y.cls ≠ "java/lang/invoke/MethodHandle" ∧ y.cls ≠ "java/lang/invoke/VarHandle" ∧ (parseMethodDescriptor y.desc).map (fun d => d.parameters.length) = some n) (hR : mi_R R rm maxL 0 0 cells slots)
    (hP : mw_P D vwC M H) (hS : va_S A H0 H locs) (hz : H.size = h) (hn : As.length = n) (hsize : ls.size = nL) (hst : st0 = As.reverse ++ rest) (hW : (rest.map fun v => v.category).sum ≤ 8) (hdg : decode cc pc = .ok (.invokestatic index, 3))
    (kk : ∀ (x : Int32) (u : gm_M) (H1 : Heap) (locs1 : List Loc), post x u → mw_P D vwC M H1 → va_S A H0 H1 locs1 → H1.size = h → W p l e R s m args below meth c H1 locs1 cells slots Q (F0 m (pc + 3) ls (.int x :: rest))) : W p l e R s m args below meth c H locs cells slots Q (F0 m pc ls st0) := by
  subst hst
  have hr := va_runS (p := p) (l := l) (e := e) (R := R) (s := s) (m := m) (args := args) (below := below) (meth := meth) (c := c) (H := H) (locs := locs) (cells := cells) (slots := slots) (As := As) (rest := rest) (g := F0 m pc ls (As.reverse ++ rest)) ⟨hx, hb, hml, hown, hts⟩ hM ⟨callB_of n hts (tg_good (tg_wU hcode)) rfl hR.1 hR.2.1 (hts _ hini) (hts _ hlink) hd ⟨hR.2.2.1, hR.2.2.2.1⟩, hts _ hst9⟩ ⟨gm_blind, fun U hU hW => ⟨rfl, by rw [hU]; exact hz, fun a e h => by simp [gm_W] at h, va_K.moved hW.alike hK, hN.warm hW⟩⟩ rfl hn hsize rfl (lv_room hW) hdg ⟨hR.2.2.2.2.1, hR.2.2.2.2.2⟩
  refine va_calli hr hS (fun q _ hq => ?_) (fun q hq => ?_) (fun x u t H1 locs1 ht _ hw hB _ hk hS1 => kk x u H1 locs1 hw ?_ hS1 (by rw [← ht]; exact hB.1))
  · obtain ⟨_, hq⟩ := hq; cases hq
  · obtain ⟨_, hq⟩ := hq; cases hq
  · exact fun a e h => (hP a e h).kept (hk a ((hP a e h).lt) (fun hq => by obtain ⟨_, hq⟩ := hq; cases hq))
end MI
