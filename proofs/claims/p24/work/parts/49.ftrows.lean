-- MORE ROWS OVER TYPED MEMORY: references by name, calls of a nest mate's private static method, answers that are references
section FTR
variable {p : Program} {l : Launch} {e : Env} {R : Room} {s : State} {m : MethodId} {args : Array Value} {below : List Frame} {meth : Method} {c : Code} {H : Heap} {locs : List Loc} {cells slots : Nat} {Q : State → Prop}
variable {cc : ByteArray} {pc : Nat} {ls : Array Slot} {rest : List Value} {D : va_G} {a : Nat} {cs : Nat → ClassId} {sh : gm_H} {I : gm_I} {J : gm_J} {H0 : Heap} {A : Nat → Prop} {sz : Nat} {own : String}
theorem gm_eqr {x y : Nat} (h : x = y) (kk : W p l e R s m args below meth c H locs cells slots Q (F0 m pc ls (.ref y :: rest))) : W p l e R s m args below meth c H locs cells slots Q (F0 m pc ls (.ref x :: rest)) := h ▸ kk
variable {nL n index maxL : Nat} {host : String} {y : MethodName} {bytes : ByteArray} {ret : Option FieldType} {rm : Room} {As st0 : List Value}
theorem gc_runSN (C : gm_C p s m args c D cs cc own) (hml : c.maxLocals = nL) (h : gm_St D cs sh A H0 sz I J H locs) {Qc : Array Value → State → Outcome → State → Prop} (hM : Met l y (wU y bytes maxL ret) rm (gm_Pre D cs sh sz I J As) Qc 0 0 (gm_A sh)) (hlink : Cond.methodLinkNest own index y host ∈ tn) (h2 : Cond.static y ∈ tg) (h4 : Cond.initialized y.cls ∈ tg) (h5 : Cond.code y bytes maxL ret ∈ tg)
    (hd : y.cls ≠ "java/lang/invoke/MethodHandle" ∧ y.cls ≠ "java/lang/invoke/VarHandle" ∧ (parseMethodDescriptor y.desc).map (fun d => d.parameters.length) = some n) (hR : gc_R R rm maxL cells slots) (hn : As.length = n) (hsize : ls.size = nL) (hst : st0 = As.reverse ++ rest) (hW : (rest.map fun v => v.category).sum ≤ 8) (hdg : decode cc pc = .ok (.invokestatic index, 3)) :
    va_Run p l e R s m args below meth c H locs cells slots 0 0 (F0 m pc ls st0) rest (Qc As.toArray) (gm_A sh) := by
  subst hst
  exact va_runSN (As := As) (rest := rest) ⟨C.1, C.2.1, hml, C.2.2.2.1, C.2.2.1⟩ hM ⟨va_cnB n C.2.2.1 (tg_good (tg_wU h5)) rfl hR.1 hR.2.1 (C.2.2.2.2.2 _ hlink) (C.2.2.1 _ h4) hd ⟨hR.2.2.1, hR.2.2.2.1⟩, C.2.2.1 _ h2, trivial⟩ ⟨gm_blind, gc_pre C h⟩ rfl hn hsize rfl (lv_room hW) hdg ⟨hR.2.2.2.2.1, hR.2.2.2.2.2⟩
def gm_Br (D : va_G) (cs : Nat → ClassId) (sh : gm_H) (sz : Nat) (post : Nat → gm_M → Prop) : gm_M → Nat → State → Prop := fun u a t => post a u ∧ gm_B D cs sh sz u t
/-- a contract of a method that answers a reference -/
abbrev CR (l : Launch) (y : MethodName) (ws : List Cond) (rm : Room) (D : va_G) (cs : Nat → ClassId) (sh : gm_H) (sz : Nat) (I : gm_I) (J : gm_J) (av : List Value) (post : Nat → gm_M → Prop) : Prop :=
  Met l y ws rm (gm_Pre D cs sh sz I J av) (va_Qr (fun _ => True) (gm_Br D cs sh sz post) (gm_A sh)) 0 0 (gm_A sh)
variable {av : Array Value}
theorem gc_r {post : Nat → gm_M → Prop} (h : gm_St D cs sh A H0 sz I J H locs) (hr : va_Run p l e R s m args below meth c H locs cells slots 0 0 (F0 m pc ls st0) rest (va_Qr (fun _ => True) (gm_Br D cs sh sz post) (gm_A sh) av) (gm_A sh))
    (kk : ∀ (r : Nat) (I1 : gm_I) (J1 : gm_J) (H1 : Heap) (locs1 : List Loc), post r (I1, J1) → gm_St D cs sh A H0 sz I1 J1 H1 locs1 → W p l e R s m args below meth c H1 locs1 cells slots Q (F0 m (pc + 3) ls (.ref r :: rest))) : W p l e R s m args below meth c H locs cells slots Q (F0 m pc ls st0) :=
  va_callr hr h.2.1 (fun q _ hq => h.2.2.2 q hq) (fun q hq => h.2.2.2 q hq) (fun u ra t H1 locs1 ht _ _ hB _ _ hS => kk ra u.1 u.2 H1 locs1 hB.1 (gc_back h ht hB.2 hS))
theorem gr_r {post : Nat → gm_M → Prop} (C : gm_C p s m args c D cs cc own) (hlk : meth.locks = false) {Cn : String} (hr : meth.sig.returnType = some (.object Cn)) {v : Nat} (h : gm_St D cs sh (gm_A sh) s.heap sz I J H locs) (hp : post v (I, J)) (hdg : decode cc pc = .ok (.areturn, 1)) :
    W p l e R s m args below meth c H locs cells slots (MQ below (va_Qr (fun _ => True) (gm_Br D cs sh sz post) (gm_A sh)) args s cells slots (gm_A sh)) (F0 m pc ls [.ref v]) :=
  W.aret C.1 C.2.1 hr (Or.inl ⟨_, rfl⟩) (Or.inr ⟨_, rfl⟩) (fun t ht _ => ⟨⟨(I, J), v, rfl, trivial, hp, by rw [ht]; exact h.2.2.1, by rw [ht]; exact h.1⟩, h.2.1.F ht⟩) h.2.1.2.2 hdg hlk
end FTR
theorem gm_nz1 {x : Int64} (h : 1 < x) : ¬ x = 0 := by
  intro e
  subst e
  exact absurd h (by decide)
/-- memory is as it was outside lo .. hi -/
def offR (lo hi : Nat) (I I' : gm_I) (J J' : gm_J) : Prop := ∀ q, (q < lo ∨ hi < q) → I' q = I q ∧ J' q = J q
section OFF
variable {lo hi lo' hi' b k : Nat} {I I' I1 I2 : gm_I} {J J' J1 J2 : gm_J}
theorem offR.nil : offR lo hi I I J J := fun _ _ => ⟨rfl, rfl⟩
theorem offR.tr (h : offR lo hi I I1 J J1) (h2 : offR lo hi I1 I2 J1 J2) : offR lo hi I I2 J J2 := fun q hq => ⟨(h2 q hq).1.trans (h q hq).1, (h2 q hq).2.trans (h q hq).2⟩
theorem offR.wide (h : offR lo hi I I' J J') (h1 : lo' ≤ lo) (h2 : hi ≤ hi') : offR lo' hi' I I' J J' := fun q hq => h q (by omega)
theorem offR.upI (h : offR lo hi I I' J J') {v : Int32} (hb : lo ≤ b ∧ b ≤ hi) : offR lo hi I (gm_up I' b k v) J J' := fun q hq => ⟨(gm_up_off I' k v (by omega)).trans (h q hq).1, (h q hq).2⟩
theorem offR.upJ (h : offR lo hi I I' J J') {v : Int64} (hb : lo ≤ b ∧ b ≤ hi) : offR lo hi I I' J (gm_up J' b k v) := fun q hq => ⟨(h q hq).1, (gm_up_off J' k v (by omega)).trans (h q hq).2⟩
theorem offR.one (h : offR lo hi I I' J J') (hJ : ∀ q, q ≠ b → J1 q = J' q) (hb : lo ≤ b ∧ b ≤ hi) : offR lo hi I I' J J1 := fun q hq => ⟨(h q hq).1, (hJ q (by omega)).trans (h q hq).2⟩
theorem offR.i (h : offR lo hi I I' J J') {q : Nat} (hq : q < lo ∨ hi < q) : I' q = I q := (h q hq).1
theorem offR.j (h : offR lo hi I I' J J') {q : Nat} (hq : q < lo ∨ hi < q) : J' q = J q := (h q hq).2
end OFF
section NLE
variable {I I' : gm_I} {a k b c i g : Nat}
theorem nle.up {v : Int32} (h : nle I a k b) (hne : a ≠ c ∨ k ≠ i) : nle (gm_up I c i v) a k b := by
  obtain ⟨g, hg, e⟩ := h
  exact ⟨g, hg, (gm_up_ne _ _ hne).trans e⟩
theorem nle.set (hg : g ≤ b) : nle (gm_up I a k (nI g)) a k b := ⟨g, hg, gm_up_same _ _ _ _⟩
theorem nle.off (h : nle I a k b) (e : I' a = I a) : nle I' a k b := by
  obtain ⟨g, hg, eg⟩ := h
  exact ⟨g, hg, by rw [e]; exact eg⟩
end NLE
/-- the shapes of the class's objects -/
def is_Rw (sh : gm_H) (a cap : Nat) : Prop := sh a = some (.inl (3, [.inr (.ref (a + 1)), .inl 0, .inl 0])) ∧ sh (a + 1) = some (.inr (.inl (4 * cap)))
def is_Wy (sh : gm_H) (a : Nat) : Prop := sh a = some (.inl (5, [.inr (.ref (a + 1)), .inr (.ref (a + 3)), .inr (.ref (a + 4))])) ∧ is_Rw sh (a + 1) 2 ∧ sh (a + 3) = some (.inr (.inl 9)) ∧ sh (a + 4) = some (.inr (.inl 3))
def is_Lp (cs : Nat → ClassId) (sh : gm_H) (a : Nat) : Prop := sh a = some (.inl (1, [.inl 0, .inr (.ref (a + 1)), .inr (.ref (a + 3)), .inl 0, .inr (.ref (a + 4)), .inr (.ref (a + 5))])) ∧ is_Rw sh (a + 1) 4 ∧ sh (a + 3) = some (.inr (.inr (.inr (cs 4, 3, fun k => if k < 3 then some (a + 6 + 5 * k) else none)))) ∧ sh (a + 4) = some (.inr (.inr (.inl 3))) ∧ sh (a + 5) = some (.inr (.inr (.inl 3))) ∧ ∀ k, k < 3 → is_Wy sh (a + 6 + 5 * k)
def is_Pf (sh : gm_H) (a : Nat) : Prop := sh a = some (.inl (2, [.inr (.ref (a + 1)), .inl 0, .inl 0])) ∧ sh (a + 1) = some (.inr (.inl 12))
def is_Sp (sh : gm_H) (a : Nat) : Prop := sh a = some (.inl (4, [.inr (.ref (a + 1)), .inl 0, .inr (.ref (a + 2)), .inl 0, .inr (.ref (a + 3)), .inr (.ref (a + 4)), .inr (.ref (a + 5)), .inl 0])) ∧ sh (a + 1) = some (.inr (.inr (.inl 12))) ∧ sh (a + 2) = some (.inr (.inr (.inl 128))) ∧ sh (a + 3) = some (.inr (.inl 32)) ∧ sh (a + 4) = some (.inr (.inr (.inl 32))) ∧ sh (a + 5) = some (.inr (.inr (.inl 4)))
def is_Sa (cs : Nat → ClassId) (sh : gm_H) (g h : Nat) : Prop := sh g = some (.inr (.inr (.inr (cs 3, 3, fun k => if k < 3 then some (h + 12 * k) else none)))) ∧ ∀ k, k < 3 → is_Sp sh (h + 12 * k)
def is_FT (cs : Nat → ClassId) (sh : gm_H) (B : Nat) : Prop := sh B = some (.inl (6, [.inr (.ref (B + 1)), .inl 0, .inr (.ref (B + 2)), .inr (.ref (B + 3)), .inr (.ref (B + 4)), .inr (.ref (B + 6)), .inr (.ref (B + 8)), .inl 0, .inr (.ref (B + 9)), .inr (.ref (B + 10)), .inr (.ref (B + 11))]))
  ∧ sh (B + 1) = some (.inr (.inr (.inr (cs 2, 8, fun k => if k < 8 then some (B + 12 + 21 * k) else none)))) ∧ is_Sa cs sh (B + 2) (B + 180) ∧ is_Sa cs sh (B + 3) (B + 186) ∧ is_Pf sh (B + 4) ∧ is_Pf sh (B + 6) ∧ sh (B + 8) = some (.inr (.inl 4)) ∧ sh (B + 9) = some (.inr (.inr (.inl 3))) ∧ sh (B + 10) = some (.inr (.inr (.inl 3))) ∧ sh (B + 11) = some (.inr (.inr (.inl 3))) ∧ ∀ j, j < 8 → is_Lp cs sh (B + 12 + 21 * j)
/-- what holds of their numbers -/
def inv_Rw (I : gm_I) (a cap : Nat) : Prop := I a 1 = nI cap ∧ nle I a 2 cap
def inv_Lp (I : gm_I) (a : Nat) : Prop := nle I a 0 3 ∧ inv_Rw I (a + 1) 4 ∧ nle I a 3 3 ∧ ∀ k, k < 3 → inv_Rw I (a + 6 + 5 * k + 1) 2
def inv_Sp (I : gm_I) (a : Nat) : Prop := nle I a 1 3 ∧ nle I a 3 32
def inv_Pf (I : gm_I) (a : Nat) : Prop := nle I a 1 3
def inv_FT (I : gm_I) (B : Nat) : Prop := nle I B 1 8 ∧ (∀ j, j < 8 → inv_Lp I (B + 12 + 21 * j)) ∧ inv_Pf I (B + 4) ∧ inv_Pf I (B + 6) ∧ (∀ k, k < 6 → inv_Sp I (B + 180 + 6 * k)) ∧ (I B 7 = 0 ∨ I B 7 = 1)
section INV
variable {I I' : gm_I} {J J' : gm_J} {a b lo hi cap : Nat}
theorem inv_Rw.off (h : inv_Rw I a cap) (e : I' a = I a) : inv_Rw I' a cap := ⟨by rw [e]; exact h.1, h.2.off e⟩
theorem inv_Lp.off (h : inv_Lp I a) (hO : offR lo hi I I' J J') (hd : a + 20 < lo ∨ hi < a) : inv_Lp I' a := by
  refine ⟨h.1.off (hO.i (by omega)), h.2.1.off (hO.i (by omega)), h.2.2.1.off (hO.i (by omega)), fun k hk => (h.2.2.2 k hk).off (hO.i (by omega))⟩
theorem inv_Sp.off (h : inv_Sp I a) (hO : offR lo hi I I' J J') (hd : a < lo ∨ hi < a) : inv_Sp I' a := ⟨h.1.off (hO.i hd), h.2.off (hO.i hd)⟩
theorem inv_Pf.off (h : inv_Pf I a) (hO : offR lo hi I I' J J') (hd : a < lo ∨ hi < a) : inv_Pf I' a := nle.off h (hO.i hd)
end INV
