-- ROWS OVER TYPED MEMORY
abbrev gt (cs : Nat → ClassId) : List (ClassId × FieldType) := [(cs 0, .int), (cs 1, .long), (cs 2, .object "FallingTerms$Loop"), (cs 3, .object "FallingTerms$Space"), (cs 4, .object "FallingTerms$Way")]
/-- what stays in a method: the machine, its code, the words, its class, the classes' places -/
abbrev gm_C (p : Program) (s : State) (m : MethodId) (args : Array Value) (c : Code) (D : va_G) (cs : Nat → ClassId) (cc : ByteArray) (own : String) : Prop :=
  p.tables.exec = Jvm.exec ∧ c.code = cc ∧ (∀ w ∈ tg, w.before args s = true) ∧ s.vm.findClass own = some m.cls ∧ va_K D vwC (gt cs) s ∧ tN s
/-- the memory now -/
abbrev gm_St (D : va_G) (cs : Nat → ClassId) (sh : gm_H) (A : Nat → Prop) (H0 : Heap) (sz : Nat) (I : gm_I) (J : gm_J) (H : Heap) (locs : List Loc) : Prop :=
  mw_P D vwC (gm_W cs sh I J) H ∧ va_S A H0 H locs ∧ H.size = sz ∧ ∀ q, gm_A sh q → A q
def gm_Pre (D : va_G) (cs : Nat → ClassId) (sh : gm_H) (sz : Nat) (I : gm_I) (J : gm_J) (av : List Value) : Array Value → State → Prop := va_Pc av (fun U => U.heap.size = sz ∧ mw_P D vwC (gm_W cs sh I J) U.heap ∧ va_K D vwC (gt cs) U ∧ tN U)
def gm_B (D : va_G) (cs : Nat → ClassId) (sh : gm_H) (sz : Nat) : gm_M → State → Prop := fun u t => t.heap.size = sz ∧ mw_P D vwC (gm_W cs sh u.1 u.2) t.heap
/-- a contract of a method that answers an int (a boolean), a long, nothing -/
abbrev CI (l : Launch) (y : MethodName) (ws : List Cond) (rm : Room) (D : va_G) (cs : Nat → ClassId) (sh : gm_H) (sz : Nat) (I : gm_I) (J : gm_J) (av : List Value) (post : Int32 → gm_M → Prop) : Prop :=
  Met l y ws rm (gm_Pre D cs sh sz I J av) (va_Qi post (gm_B D cs sh sz) (gm_A sh)) 0 0 (gm_A sh)
abbrev CL (l : Launch) (y : MethodName) (ws : List Cond) (rm : Room) (D : va_G) (cs : Nat → ClassId) (sh : gm_H) (sz : Nat) (I : gm_I) (J : gm_J) (av : List Value) (post : Int64 → gm_M → Prop) : Prop :=
  Met l y ws rm (gm_Pre D cs sh sz I J av) (va_Ql post (gm_B D cs sh sz) (gm_A sh)) 0 0 (gm_A sh)
abbrev CV (l : Launch) (y : MethodName) (ws : List Cond) (rm : Room) (D : va_G) (cs : Nat → ClassId) (sh : gm_H) (sz : Nat) (I : gm_I) (J : gm_J) (av : List Value) (post : gm_M → Prop) : Prop :=
  Met l y ws rm (gm_Pre D cs sh sz I J av) (va_Qv post (gm_B D cs sh sz) (gm_A sh)) 0 0 (gm_A sh)
theorem gm_blind {D : va_G} {cs : Nat → ClassId} {sh : gm_H} {sz : Nat} {I : gm_I} {J : gm_J} {av : List Value} : FrameBlind (gm_Pre D cs sh sz I J av) := by
  intro a U g mk q
  obtain ⟨q0, q1, q2, q3, q4⟩ := q
  exact ⟨q0, q1, q2, va_K.moved (u := U) (U := U.calling g mk a) (Vm.Alike.refl U.vm) q3, tN.same (u := U) (U := U.calling g mk a) rfl q4⟩
theorem gm_cvi {D : va_G} {cs : Nat → ClassId} {sh : gm_H} {I : gm_I} {J : gm_J} {a k : Nat} {v : Int32} {s : gm_S} {e : va_E} {H1 : Heap} (h : sh a = some s) (he : gm_e cs s (upd (I a) k v) (J a) = e) (hP : mw_P D vwC (mw_up (gm_W cs sh I J) a e) H1) : mw_P D vwC (gm_W cs sh (gm_up I a k v) J) H1 := (gm_W_i (k := k) (v := v) h he) ▸ hP
theorem gm_cvl {D : va_G} {cs : Nat → ClassId} {sh : gm_H} {I : gm_I} {J : gm_J} {a k : Nat} {v : Int64} {s : gm_S} {e : va_E} {H1 : Heap} (h : sh a = some s) (he : gm_e cs s (I a) (vp_updL (J a) k v) = e) (hP : mw_P D vwC (mw_up (gm_W cs sh I J) a e) H1) : mw_P D vwC (gm_W cs sh I (gm_up J a k v)) H1 := (gm_W_l (k := k) (v := v) h he) ▸ hP
section GM
variable {p : Program} {l : Launch} {e : Env} {R : Room} {s : State} {m : MethodId} {args : Array Value} {below : List Frame} {meth : Method} {c : Code} {H : Heap} {locs : List Loc} {cells slots : Nat} {Q : State → Prop}
variable {cc : ByteArray} {pc : Nat} {ls : Array Slot} {rest : List Value} {D : va_G} {a : Nat} {cs : Nat → ClassId} {sh : gm_H} {I : gm_I} {J : gm_J} {H0 : Heap} {A : Nat → Prop} {sz : Nat} {own : String}
theorem gm_eqi {x y : Int32} (h : x = y) (kk : W p l e R s m args below meth c H locs cells slots Q (F0 m pc ls (.int y :: rest))) : W p l e R s m args below meth c H locs cells slots Q (F0 m pc ls (.int x :: rest)) := h ▸ kk
theorem gm_eql {x y : Int64} (h : x = y) (kk : W p l e R s m args below meth c H locs cells slots Q (F0 m pc ls (.long y :: rest))) : W p l e R s m args below meth c H locs cells slots Q (F0 m pc ls (.long x :: rest)) := h ▸ kk
section FG
variable {ci N index : Nat} {sl : List (Nat ⊕ Value)} {Cn ref host : String} {T : u_T}
theorem gg_i (C : gm_C p s m args c D cs cc own) (h : gm_St D cs sh A H0 sz I J H locs) (hs : sh a = some (.inl (ci, sl))) (hc : vwC[ci]? = some (Cn, T, N)) (hin : ∀ w ∈ u_ws Cn T N, w ∈ tg) (k : Nat) (hk : k < N) (hl : sl[k]? = some (.inl 0)) (hlink : Cond.fieldLink own index ref (T k).2.1 (T k).2.2.1 ∈ tg) (href : (T k).1 = ref) (hdg : decode cc pc = .ok (.getfield index, 3))
    (kk : W p l e R s m args below meth c H locs cells slots Q (F0 m (pc + 3) ls (.int (I a k) :: rest))) : W p l e R s m args below meth c H locs cells slots Q (F0 m pc ls (.ref a :: rest)) :=
  mw_get C.1 C.2.1 C.2.2.1 hin C.2.2.2.1 C.2.2.2.2.1 h.1 (gm_W_at hs) hc k hk (C.2.2.1 _ hlink) (fun x hx => href ▸ hx) (gm_fs_get hl) hdg kk
theorem gg_l (C : gm_C p s m args c D cs cc own) (h : gm_St D cs sh A H0 sz I J H locs) (hs : sh a = some (.inl (ci, sl))) (hc : vwC[ci]? = some (Cn, T, N)) (hin : ∀ w ∈ u_ws Cn T N, w ∈ tg) (k : Nat) (hk : k < N) (hl : sl[k]? = some (.inl 1)) (hlink : Cond.fieldLink own index ref (T k).2.1 (T k).2.2.1 ∈ tg) (href : (T k).1 = ref) (hdg : decode cc pc = .ok (.getfield index, 3))
    (kk : W p l e R s m args below meth c H locs cells slots Q (F0 m (pc + 3) ls (.long (J a k) :: rest))) : W p l e R s m args below meth c H locs cells slots Q (F0 m pc ls (.ref a :: rest)) :=
  mw_get C.1 C.2.1 C.2.2.1 hin C.2.2.2.1 C.2.2.2.2.1 h.1 (gm_W_at hs) hc k hk (C.2.2.1 _ hlink) (fun x hx => href ▸ hx) (gm_fs_get hl) hdg kk
theorem gg_r (C : gm_C p s m args c D cs cc own) (h : gm_St D cs sh A H0 sz I J H locs) (hs : sh a = some (.inl (ci, sl))) (hc : vwC[ci]? = some (Cn, T, N)) (hin : ∀ w ∈ u_ws Cn T N, w ∈ tg) (k : Nat) (hk : k < N) {v : Value} (hl : sl[k]? = some (.inr v)) (hlink : Cond.fieldLink own index ref (T k).2.1 (T k).2.2.1 ∈ tg) (href : (T k).1 = ref) (hdg : decode cc pc = .ok (.getfield index, 3))
    (kk : W p l e R s m args below meth c H locs cells slots Q (F0 m (pc + 3) ls (v :: rest))) : W p l e R s m args below meth c H locs cells slots Q (F0 m pc ls (.ref a :: rest)) :=
  mw_get C.1 C.2.1 C.2.2.1 hin C.2.2.2.1 C.2.2.2.2.1 h.1 (gm_W_at hs) hc k hk (C.2.2.1 _ hlink) (fun x hx => href ▸ hx) (gm_fs_get hl) hdg kk
theorem gn_i (C : gm_C p s m args c D cs cc own) (h : gm_St D cs sh A H0 sz I J H locs) (hs : sh a = some (.inl (ci, sl))) (hc : vwC[ci]? = some (Cn, T, N)) (hin : ∀ w ∈ u_ws Cn T N, w ∈ tg) (k : Nat) (hk : k < N) (hl : sl[k]? = some (.inl 0)) (hlink : Cond.fieldLinkNest own index ref (T k).2.1 (T k).2.2.1 host ∈ tn) (href : (T k).1 = ref) (hdg : decode cc pc = .ok (.getfield index, 3))
    (kk : W p l e R s m args below meth c H locs cells slots Q (F0 m (pc + 3) ls (.int (I a k) :: rest))) : W p l e R s m args below meth c H locs cells slots Q (F0 m pc ls (.ref a :: rest)) :=
  mw_getN C.1 C.2.1 C.2.2.1 hin C.2.2.2.1 C.2.2.2.2.1 h.1 (gm_W_at hs) hc k hk (va_Nw.use rfl (C.2.2.2.2.2 _ hlink)) (fun x hx => href ▸ hx) (gm_fs_get hl) hdg kk
theorem gn_l (C : gm_C p s m args c D cs cc own) (h : gm_St D cs sh A H0 sz I J H locs) (hs : sh a = some (.inl (ci, sl))) (hc : vwC[ci]? = some (Cn, T, N)) (hin : ∀ w ∈ u_ws Cn T N, w ∈ tg) (k : Nat) (hk : k < N) (hl : sl[k]? = some (.inl 1)) (hlink : Cond.fieldLinkNest own index ref (T k).2.1 (T k).2.2.1 host ∈ tn) (href : (T k).1 = ref) (hdg : decode cc pc = .ok (.getfield index, 3))
    (kk : W p l e R s m args below meth c H locs cells slots Q (F0 m (pc + 3) ls (.long (J a k) :: rest))) : W p l e R s m args below meth c H locs cells slots Q (F0 m pc ls (.ref a :: rest)) :=
  mw_getN C.1 C.2.1 C.2.2.1 hin C.2.2.2.1 C.2.2.2.2.1 h.1 (gm_W_at hs) hc k hk (va_Nw.use rfl (C.2.2.2.2.2 _ hlink)) (fun x hx => href ▸ hx) (gm_fs_get hl) hdg kk
theorem gn_r (C : gm_C p s m args c D cs cc own) (h : gm_St D cs sh A H0 sz I J H locs) (hs : sh a = some (.inl (ci, sl))) (hc : vwC[ci]? = some (Cn, T, N)) (hin : ∀ w ∈ u_ws Cn T N, w ∈ tg) (k : Nat) (hk : k < N) {v : Value} (hl : sl[k]? = some (.inr v)) (hlink : Cond.fieldLinkNest own index ref (T k).2.1 (T k).2.2.1 host ∈ tn) (href : (T k).1 = ref) (hdg : decode cc pc = .ok (.getfield index, 3))
    (kk : W p l e R s m args below meth c H locs cells slots Q (F0 m (pc + 3) ls (v :: rest))) : W p l e R s m args below meth c H locs cells slots Q (F0 m pc ls (.ref a :: rest)) :=
  mw_getN C.1 C.2.1 C.2.2.1 hin C.2.2.2.1 C.2.2.2.2.1 h.1 (gm_W_at hs) hc k hk (va_Nw.use rfl (C.2.2.2.2.2 _ hlink)) (fun x hx => href ▸ hx) (gm_fs_get hl) hdg kk
theorem gp_i (C : gm_C p s m args c D cs cc own) (h : gm_St D cs sh A H0 sz I J H locs) (hs : sh a = some (.inl (ci, sl))) (hc : vwC[ci]? = some (Cn, T, N)) (hin : ∀ w ∈ u_ws Cn T N, w ∈ tg) (ty0 : Nat → FieldType) (hty : ∀ k, k < N → parseFieldDescriptor (T k).2.2.1 = some (ty0 k)) (hnm : ∀ a, a < N → ∀ b, b < N → a ≠ b → (T a).2.1 ≠ (T b).2.1) (k : Nat) (hk : k < N) (hl : sl[k]? = some (.inl 0)) (hlink : Cond.fieldLink own index ref (T k).2.1 (T k).2.2.1 ∈ tg) (href : (T k).1 = ref) (hfin : (T k).2.2.2 = false) {ty : FieldType} {v : Int32} (hd : parseFieldDescriptor (T k).2.2.1 = some ty) (hn : narrow ty (.int v) = .int v) (hfit : fits ty (.int v) = true) (hdg : decode cc pc = .ok (.putfield index, 3))
    (kk : ∀ (H1 : Heap) (locs1 : List Loc), gm_St D cs sh A H0 sz (gm_up I a k v) J H1 locs1 → W p l e R s m args below meth c H1 locs1 cells slots Q (F0 m (pc + 3) ls rest)) : W p l e R s m args below meth c H locs cells slots Q (F0 m pc ls (.int v :: .ref a :: rest)) :=
  mw_put C.1 C.2.1 C.2.2.1 hin ty0 hty hnm C.2.2.2.1 C.2.2.2.2.1 h.1 h.2.1 (gm_W_at hs) (h.2.2.2 a ⟨_, hs⟩) hc k hk (C.2.2.1 _ hlink) (fun x hx => href ▸ hx) hfin hd hn hfit (by rw [gm_fs, List.length_mapIdx]; exact (List.getElem?_eq_some_iff.mp hl).1) hdg
    (fun H1 locs1 hP hS hz => kk H1 locs1 ⟨by rw [gm_fs_seti hl v] at hP; exact gm_cvi hs rfl hP, hS, hz.trans h.2.2.1, h.2.2.2⟩)
theorem gp_l (C : gm_C p s m args c D cs cc own) (h : gm_St D cs sh A H0 sz I J H locs) (hs : sh a = some (.inl (ci, sl))) (hc : vwC[ci]? = some (Cn, T, N)) (hin : ∀ w ∈ u_ws Cn T N, w ∈ tg) (ty0 : Nat → FieldType) (hty : ∀ k, k < N → parseFieldDescriptor (T k).2.2.1 = some (ty0 k)) (hnm : ∀ a, a < N → ∀ b, b < N → a ≠ b → (T a).2.1 ≠ (T b).2.1) (k : Nat) (hk : k < N) (hl : sl[k]? = some (.inl 1)) (hlink : Cond.fieldLink own index ref (T k).2.1 (T k).2.2.1 ∈ tg) (href : (T k).1 = ref) (hfin : (T k).2.2.2 = false) {v : Int64} (hd : parseFieldDescriptor (T k).2.2.1 = some .long) (hdg : decode cc pc = .ok (.putfield index, 3))
    (kk : ∀ (H1 : Heap) (locs1 : List Loc), gm_St D cs sh A H0 sz I (gm_up J a k v) H1 locs1 → W p l e R s m args below meth c H1 locs1 cells slots Q (F0 m (pc + 3) ls rest)) : W p l e R s m args below meth c H locs cells slots Q (F0 m pc ls (.long v :: .ref a :: rest)) :=
  mw_put C.1 C.2.1 C.2.2.1 hin ty0 hty hnm C.2.2.2.1 C.2.2.2.2.1 h.1 h.2.1 (gm_W_at hs) (h.2.2.2 a ⟨_, hs⟩) hc k hk (C.2.2.1 _ hlink) (fun x hx => href ▸ hx) hfin hd rfl rfl (by rw [gm_fs, List.length_mapIdx]; exact (List.getElem?_eq_some_iff.mp hl).1) hdg
    (fun H1 locs1 hP hS hz => kk H1 locs1 ⟨by rw [gm_fs_setl hl v] at hP; exact gm_cvl hs rfl hP, hS, hz.trans h.2.2.1, h.2.2.2⟩)
theorem gq_i (C : gm_C p s m args c D cs cc own) (h : gm_St D cs sh A H0 sz I J H locs) (hs : sh a = some (.inl (ci, sl))) (hc : vwC[ci]? = some (Cn, T, N)) (hin : ∀ w ∈ u_ws Cn T N, w ∈ tg) (ty0 : Nat → FieldType) (hty : ∀ k, k < N → parseFieldDescriptor (T k).2.2.1 = some (ty0 k)) (hnm : ∀ a, a < N → ∀ b, b < N → a ≠ b → (T a).2.1 ≠ (T b).2.1) (k : Nat) (hk : k < N) (hl : sl[k]? = some (.inl 0)) (hlink : Cond.fieldLinkNest own index ref (T k).2.1 (T k).2.2.1 host ∈ tn) (href : (T k).1 = ref) (hfin : (T k).2.2.2 = false) {ty : FieldType} {v : Int32} (hd : parseFieldDescriptor (T k).2.2.1 = some ty) (hn : narrow ty (.int v) = .int v) (hfit : fits ty (.int v) = true) (hdg : decode cc pc = .ok (.putfield index, 3))
    (kk : ∀ (H1 : Heap) (locs1 : List Loc), gm_St D cs sh A H0 sz (gm_up I a k v) J H1 locs1 → W p l e R s m args below meth c H1 locs1 cells slots Q (F0 m (pc + 3) ls rest)) : W p l e R s m args below meth c H locs cells slots Q (F0 m pc ls (.int v :: .ref a :: rest)) :=
  mw_putN C.1 C.2.1 C.2.2.1 hin ty0 hty hnm C.2.2.2.1 C.2.2.2.2.1 h.1 h.2.1 (gm_W_at hs) (h.2.2.2 a ⟨_, hs⟩) hc k hk (va_Nw.use rfl (C.2.2.2.2.2 _ hlink)) (fun x hx => href ▸ hx) hfin hd hn hfit (by rw [gm_fs, List.length_mapIdx]; exact (List.getElem?_eq_some_iff.mp hl).1) hdg
    (fun H1 locs1 hP hS hz => kk H1 locs1 ⟨by rw [gm_fs_seti hl v] at hP; exact gm_cvi hs rfl hP, hS, hz.trans h.2.2.1, h.2.2.2⟩)
end FG
theorem ga_i (C : gm_C p s m args c D cs cc own) (h : gm_St D cs sh A H0 sz I J H locs) {n : Nat} (hs : sh a = some (.inr (.inl n))) {i : Int32} {k : Nat} (hi : i = nI k) (hk : k < n) (hn : n < 2 ^ 31) (hdg : decode cc pc = .ok (.iaload, 1))
    (kk : W p l e R s m args below meth c H locs cells slots Q (F0 m (pc + 1) ls (.int (I a k) :: rest))) : W p l e R s m args below meth c H locs cells slots Q (F0 m pc ls (.int i :: .ref a :: rest)) := by
  subst hi
  refine mw_iald C.1 C.2.1 C.2.2.2.2.1 h.1 0 (gm_W_at hs) rfl (vp_in_nI hk hn) hdg ?_
  rw [nI_clamp (by omega)]
  exact kk
theorem ga_l (C : gm_C p s m args c D cs cc own) (h : gm_St D cs sh A H0 sz I J H locs) {n : Nat} (hs : sh a = some (.inr (.inr (.inl n)))) {i : Int32} {k : Nat} (hi : i = nI k) (hk : k < n) (hn : n < 2 ^ 31) (hdg : decode cc pc = .ok (.laload, 1))
    (kk : W p l e R s m args below meth c H locs cells slots Q (F0 m (pc + 1) ls (.long (J a k) :: rest))) : W p l e R s m args below meth c H locs cells slots Q (F0 m pc ls (.int i :: .ref a :: rest)) := by
  subst hi
  refine mw_lald C.1 C.2.1 C.2.2.2.2.1 h.1 1 (gm_W_at hs) rfl (vp_in_nI hk hn) hdg ?_
  rw [nI_clamp (by omega)]
  exact kk
theorem ga_q (C : gm_C p s m args c D cs cc own) (h : gm_St D cs sh A H0 sz I J H locs) (t0 : Nat) {cA : ClassId} {Cn : String} {n : Nat} {f : Nat → Option Nat} (hs : sh a = some (.inr (.inr (.inr (cA, n, f))))) (ht : (gt cs)[t0]? = some (cA, .object Cn)) {i : Int32} {k v : Nat} (hi : i = nI k) (hk : k < n) (hn : n < 2 ^ 31) (hv : f k = some v) (hdg : decode cc pc = .ok (.aaload, 1))
    (kk : W p l e R s m args below meth c H locs cells slots Q (F0 m (pc + 1) ls (.ref v :: rest))) : W p l e R s m args below meth c H locs cells slots Q (F0 m pc ls (.int i :: .ref a :: rest)) := by
  subst hi
  exact mw_aldq C.1 C.2.1 C.2.2.2.2.1 h.1 t0 (gm_W_at hs) ht (vp_in_nI hk hn) hdg (by rw [nI_clamp (by omega)]; exact hv) kk
theorem gs_i (C : gm_C p s m args c D cs cc own) (h : gm_St D cs sh A H0 sz I J H locs) {n : Nat} (hs : sh a = some (.inr (.inl n))) {i x : Int32} {k : Nat} (hi : i = nI k) (hk : k < n) (hn : n < 2 ^ 31) (hdg : decode cc pc = .ok (.iastore, 1))
    (kk : ∀ (H1 : Heap) (locs1 : List Loc), gm_St D cs sh A H0 sz (gm_up I a k x) J H1 locs1 → W p l e R s m args below meth c H1 locs1 cells slots Q (F0 m (pc + 1) ls rest)) : W p l e R s m args below meth c H locs cells slots Q (F0 m pc ls (.int x :: .int i :: .ref a :: rest)) := by
  subst hi
  refine mw_iast C.1 C.2.1 C.2.2.2.2.1 h.1 h.2.1 0 (gm_W_at hs) (h.2.2.2 a ⟨_, hs⟩) rfl (vp_in_nI hk hn) hdg fun H1 locs1 hP hS hz => kk H1 locs1 ⟨?_, hS, hz.trans h.2.2.1, h.2.2.2⟩
  rw [nI_clamp (by omega)] at hP
  exact gm_cvi hs rfl hP
theorem gs_l (C : gm_C p s m args c D cs cc own) (h : gm_St D cs sh A H0 sz I J H locs) {n : Nat} (hs : sh a = some (.inr (.inr (.inl n)))) {i : Int32} {x : Int64} {k : Nat} (hi : i = nI k) (hk : k < n) (hn : n < 2 ^ 31) (hdg : decode cc pc = .ok (.lastore, 1))
    (kk : ∀ (H1 : Heap) (locs1 : List Loc), gm_St D cs sh A H0 sz I (gm_up J a k x) H1 locs1 → W p l e R s m args below meth c H1 locs1 cells slots Q (F0 m (pc + 1) ls rest)) : W p l e R s m args below meth c H locs cells slots Q (F0 m pc ls (.long x :: .int i :: .ref a :: rest)) := by
  subst hi
  refine mw_last C.1 C.2.1 C.2.2.2.2.1 h.1 h.2.1 1 (gm_W_at hs) (h.2.2.2 a ⟨_, hs⟩) rfl (vp_in_nI hk hn) hdg fun H1 locs1 hP hS hz => kk H1 locs1 ⟨?_, hS, hz.trans h.2.2.1, h.2.2.2⟩
  rw [nI_clamp (by omega)] at hP
  exact gm_cvl hs rfl hP
section FC
variable {nL n index maxL ci N b : Nat} {sl : List (Nat ⊕ Value)} {Cn host : String} {T : u_T} {y : MethodName} {bytes : ByteArray} {ret : Option FieldType} {rm : Room} {As st0 : List Value}
/-- a call's own conditions: its receiver, its room, its stack -/
abbrev gc_R (R : Room) (rm : Room) (maxL cells slots : Nat) : Prop := rm.cells = 0 ∧ rm.slots = 0 ∧ rm.frames + 1 ≤ R.frames ∧ 8 + (maxL + 11) + rm.locals ≤ R.locals ∧ cells ≤ R.cells ∧ slots ≤ R.slots
theorem gc_pre (C : gm_C p s m args c D cs cc own) (h : gm_St D cs sh A H0 sz I J H locs) : ∀ U : State, U.heap = H → s.WarmedH U.vm → gm_Pre D cs sh sz I J As As.toArray U := fun U hU hW => ⟨rfl, by rw [hU]; exact h.2.2.1, by rw [hU]; exact h.1, va_K.moved hW.alike C.2.2.2.2.1, C.2.2.2.2.2.warm hW⟩
theorem gc_back {u : gm_M} {t : State} {H1 : Heap} {locs1 : List Loc} (h : gm_St D cs sh A H0 sz I J H locs) (ht : t.heap = H1) (hB : gm_B D cs sh sz u t) (hS : va_S A H0 H1 locs1) : gm_St D cs sh A H0 sz u.1 u.2 H1 locs1 := ⟨by rw [← ht]; exact hB.2, hS, by rw [← ht]; exact hB.1, h.2.2.2⟩
theorem gc_runV (C : gm_C p s m args c D cs cc own) (hml : c.maxLocals = nL) (h : gm_St D cs sh A H0 sz I J H locs) {Qc : Array Value → State → Outcome → State → Prop} (hM : Met l y (wU y bytes maxL ret) rm (gm_Pre D cs sh sz I J (.ref b :: As)) Qc 0 0 (gm_A sh)) (hT : GoodIn tg (wsV own index Cn y (wU y bytes maxL ret)))
    (hd : y.cls = Cn ∧ y.cls ≠ "java/lang/invoke/MethodHandle" ∧ y.cls ≠ "java/lang/invoke/VarHandle" ∧ (parseMethodDescriptor y.desc).map (fun d => d.parameters.length) = some n) (hR : gc_R R rm maxL cells slots) (hs : sh b = some (.inl (ci, sl))) (hc : vwC[ci]? = some (Cn, T, N)) (hn : As.length = n) (hsize : ls.size = nL) (hst : st0 = As.reverse ++ .ref b :: rest) (hW : (rest.map fun v => v.category).sum ≤ 8) (hdg : decode cc pc = .ok (.invokevirtual index, 3)) :
    va_Run p l e R s m args below meth c H locs cells slots 0 0 (F0 m pc ls st0) rest (Qc (Value.ref b :: As).toArray) (gm_A sh) := by
  subst hst
  exact va_runV (As := As) (rest := rest) ⟨C.1, C.2.1, hml, C.2.2.2.1, C.2.2.1⟩ hM (cwV n C.2.2.1 hT rfl hR.1 hR.2.1 hd ⟨hR.2.2.1, hR.2.2.2.1⟩) ⟨gm_blind, va_recv (q := (Cn, T, N)) C.2.2.2.2.1 (h.1.one (gm_W_at hs)) hc (q0 := 0) rfl, gc_pre C h⟩ rfl hn hsize rfl (lv_room hW) hdg ⟨hR.2.2.2.2.1, hR.2.2.2.2.2⟩
theorem gc_runS (C : gm_C p s m args c D cs cc own) (hml : c.maxLocals = nL) (h : gm_St D cs sh A H0 sz I J H locs) {Qc : Array Value → State → Outcome → State → Prop} (hM : Met l y (wU y bytes maxL ret) rm (gm_Pre D cs sh sz I J As) Qc 0 0 (gm_A sh)) (hT : GoodIn tg (wsS own index y (wU y bytes maxL ret)))
    (hd : y.cls = own ∧ y.cls ≠ "java/lang/invoke/MethodHandle" ∧ y.cls ≠ "java/lang/invoke/VarHandle" ∧ (parseMethodDescriptor y.desc).map (fun d => d.parameters.length) = some n) (hR : gc_R R rm maxL cells slots) (hn : As.length = n) (hsize : ls.size = nL) (hst : st0 = As.reverse ++ rest) (hW : (rest.map fun v => v.category).sum ≤ 8) (hdg : decode cc pc = .ok (.invokestatic index, 3)) :
    va_Run p l e R s m args below meth c H locs cells slots 0 0 (F0 m pc ls st0) rest (Qc As.toArray) (gm_A sh) := by
  subst hst
  exact va_runS (As := As) (rest := rest) ⟨C.1, C.2.1, hml, C.2.2.2.1, C.2.2.1⟩ hM (cwS n C.2.2.1 hT rfl hR.1 hR.2.1 hd ⟨hR.2.2.1, hR.2.2.2.1⟩) ⟨gm_blind, gc_pre C h⟩ rfl hn hsize rfl (lv_room hW) hdg ⟨hR.2.2.2.2.1, hR.2.2.2.2.2⟩
variable {av : Array Value}
theorem gc_i {post : Int32 → gm_M → Prop} (h : gm_St D cs sh A H0 sz I J H locs) (hr : va_Run p l e R s m args below meth c H locs cells slots 0 0 (F0 m pc ls st0) rest (va_Qi post (gm_B D cs sh sz) (gm_A sh) av) (gm_A sh))
    (kk : ∀ (r : Int32) (I1 : gm_I) (J1 : gm_J) (H1 : Heap) (locs1 : List Loc), post r (I1, J1) → gm_St D cs sh A H0 sz I1 J1 H1 locs1 → W p l e R s m args below meth c H1 locs1 cells slots Q (F0 m (pc + 3) ls (.int r :: rest))) : W p l e R s m args below meth c H locs cells slots Q (F0 m pc ls st0) :=
  va_calli hr h.2.1 (fun q _ hq => h.2.2.2 q hq) (fun q hq => h.2.2.2 q hq) (fun r u t H1 locs1 ht _ hw hB _ _ hS => kk r u.1 u.2 H1 locs1 hw (gc_back h ht hB hS))
theorem gc_l {post : Int64 → gm_M → Prop} (h : gm_St D cs sh A H0 sz I J H locs) (hr : va_Run p l e R s m args below meth c H locs cells slots 0 0 (F0 m pc ls st0) rest (va_Ql post (gm_B D cs sh sz) (gm_A sh) av) (gm_A sh))
    (kk : ∀ (r : Int64) (I1 : gm_I) (J1 : gm_J) (H1 : Heap) (locs1 : List Loc), post r (I1, J1) → gm_St D cs sh A H0 sz I1 J1 H1 locs1 → W p l e R s m args below meth c H1 locs1 cells slots Q (F0 m (pc + 3) ls (.long r :: rest))) : W p l e R s m args below meth c H locs cells slots Q (F0 m pc ls st0) :=
  va_calll hr h.2.1 (fun q _ hq => h.2.2.2 q hq) (fun q hq => h.2.2.2 q hq) (fun r u t H1 locs1 ht _ hw hB _ _ hS => kk r u.1 u.2 H1 locs1 hw (gc_back h ht hB hS))
theorem gc_v {post : gm_M → Prop} (h : gm_St D cs sh A H0 sz I J H locs) (hr : va_Run p l e R s m args below meth c H locs cells slots 0 0 (F0 m pc ls st0) rest (va_Qv post (gm_B D cs sh sz) (gm_A sh) av) (gm_A sh))
    (kk : ∀ (I1 : gm_I) (J1 : gm_J) (H1 : Heap) (locs1 : List Loc), post (I1, J1) → gm_St D cs sh A H0 sz I1 J1 H1 locs1 → W p l e R s m args below meth c H1 locs1 cells slots Q (F0 m (pc + 3) ls rest)) : W p l e R s m args below meth c H locs cells slots Q (F0 m pc ls st0) :=
  va_callv hr h.2.1 (fun q _ hq => h.2.2.2 q hq) (fun q hq => h.2.2.2 q hq) (fun u t H1 locs1 ht _ hw hB _ _ hS => kk u.1 u.2 H1 locs1 hw (gc_back h ht hB hS))
end FC
section FR
variable {av : Array Value} {free : Addr → Prop}
theorem gr_i {post : Int32 → gm_M → Prop} (C : gm_C p s m args c D cs cc own) (hlk : meth.locks = false) {ty : FieldType} (hr : meth.sig.returnType = some ty) {v : Int32} (hn : narrow ty (.int v) = .int v) (h : gm_St D cs sh (gm_A sh) s.heap sz I J H locs) (hp : post v (I, J)) (hdg : decode cc pc = .ok (.ireturn, 1)) :
    W p l e R s m args below meth c H locs cells slots (MQ below (va_Qi post (gm_B D cs sh sz) (gm_A sh)) args s cells slots (gm_A sh)) (F0 m pc ls [.int v]) :=
  W.zret C.1 C.2.1 hr hn (fun t ht _ => ⟨⟨v, (I, J), rfl, hp, by rw [ht]; exact h.2.2.1, by rw [ht]; exact h.1⟩, h.2.1.F ht⟩) h.2.1.2.2 hdg hlk
theorem gr_l {post : Int64 → gm_M → Prop} (C : gm_C p s m args c D cs cc own) (hlk : meth.locks = false) (hr : meth.sig.returnType = some .long) {v : Int64} (h : gm_St D cs sh (gm_A sh) s.heap sz I J H locs) (hp : post v (I, J)) (hdg : decode cc pc = .ok (.lreturn, 1)) :
    W p l e R s m args below meth c H locs cells slots (MQ below (va_Ql post (gm_B D cs sh sz) (gm_A sh)) args s cells slots (gm_A sh)) (F0 m pc ls [.long v]) :=
  W.lret C.1 C.2.1 hr (fun t ht _ => ⟨⟨v, (I, J), rfl, hp, by rw [ht]; exact h.2.2.1, by rw [ht]; exact h.1⟩, h.2.1.F ht⟩) h.2.1.2.2 hdg hlk
theorem gr_v {post : gm_M → Prop} (C : gm_C p s m args c D cs cc own) (hlk : meth.locks = false) (hr : meth.sig.returnType = none) (h : gm_St D cs sh (gm_A sh) s.heap sz I J H locs) (hp : post (I, J)) (hdg : decode cc pc = .ok (.return_, 1)) :
    W p l e R s m args below meth c H locs cells slots (MQ below (va_Qv post (gm_B D cs sh sz) (gm_A sh)) args s cells slots (gm_A sh)) (F0 m pc ls []) :=
  W.vret C.1 C.2.1 hr (fun t ht _ => ⟨⟨(I, J), rfl, hp, by rw [ht]; exact h.2.2.1, by rw [ht]; exact h.1⟩, h.2.1.F ht⟩) h.2.1.2.2 hdg hlk
end FR
end GM
/-- from a contract's start to its walk -/
theorem gm_start {l : Launch} {y : MethodName} {cc : ByteArray} {maxL : Nat} {ret : Option FieldType} {rm : Room} {D : va_G} {cs : Nat → ClassId} {sh : gm_H} {sz : Nat} {I : gm_I} {J : gm_J} {av : List Value} {Qc : Array Value → State → Outcome → State → Prop} (hy : plainName y.cls = true) (hlen : (lg_sl av).length ≤ maxL)
    (body : ∀ (p : Program) (e : Env) (s : State) (m : MethodId) (below : List Frame) (meth : Method) (c : Code) (ls : Array Slot), gm_C p s m av.toArray c D cs cc y.cls → c.maxLocals = maxL → meth.locks = false → meth.sig.returnType = ret → gm_St D cs sh (gm_A sh) s.heap sz I J s.heap [] → lv_has ls maxL (lv_args 0 av) →
      W p l e rm s m av.toArray below meth c s.heap [] 0 0 (MQ below Qc av.toArray s 0 0 (gm_A sh)) (F0 m 0 ls [])) : Met l y (wU y cc maxL ret) rm (gm_Pre D cs sh sz I J av) Qc 0 0 (gm_A sh) := by
  refine Met.ofW (cc := cc) (maxL := maxL) (ret := ret) hy rfl ?_
  intro p e s m args below meth c s₁ B hml hv
  obtain ⟨rfl, hsz, hP, hK, hN⟩ := hv
  have hts := atoms_spec (ws := wU y cc maxL ret) B.pre
  have hown : s.vm.findClass y.cls = some m.cls := findClass_of_methodNamed B.named
  rw [lg_entry_eq]
  exact body p e s m below meth c _ ⟨B.exec, B.bytes, fun w hw => hts w (List.mem_cons_of_mem _ hw), hown, hK, hN⟩ hml B.notSynchronized B.returns ⟨hP, va_S.rf, hsz, fun _ h => h⟩ (lv_entry av hlen)
-- comparisons of numbers in the form nI
theorem gm_inc (k j : Nat) : nI k + Int32.ofInt (j : Int) = nI (k + j) := by
  show nI k + nI j = nI (k + j)
  exact nI_add k j
theorem gm_eqt {a b : Nat} (ha : a < 2 ^ 31) (hb : b < 2 ^ 31) (h : nI a = nI b) : a = b := (nI_eq ha hb).mp h
theorem gm_eqf {a b : Nat} (ha : a < 2 ^ 31) (hb : b < 2 ^ 31) (h : ¬ nI a = nI b) : ¬ a = b := fun q => h (by rw [q])
theorem gm_net {a b : Nat} (ha : a < 2 ^ 31) (hb : b < 2 ^ 31) (h : ¬ nI a = nI b) : ¬ a = b := fun q => h (by rw [q])
theorem gm_nef {a b : Nat} (ha : a < 2 ^ 31) (hb : b < 2 ^ 31) (h : nI a = nI b) : a = b := (nI_eq ha hb).mp h
theorem gm_ltt {a b : Nat} (ha : a < 2 ^ 31) (hb : b < 2 ^ 31) (h : nI a < nI b) : a < b := (nI_ltI ha hb).mp h
theorem gm_ltf {a b : Nat} (ha : a < 2 ^ 31) (hb : b < 2 ^ 31) (h : ¬ nI a < nI b) : b ≤ a := Nat.not_lt.mp fun q => h ((nI_ltI ha hb).mpr q)
theorem gm_get {a b : Nat} (ha : a < 2 ^ 31) (hb : b < 2 ^ 31) (h : nI b ≤ nI a) : b ≤ a := (nI_leI hb ha).mp h
theorem gm_gef {a b : Nat} (ha : a < 2 ^ 31) (hb : b < 2 ^ 31) (h : ¬ nI b ≤ nI a) : a < b := Nat.not_le.mp fun q => h ((nI_leI hb ha).mpr q)
theorem gm_gtt {a b : Nat} (ha : a < 2 ^ 31) (hb : b < 2 ^ 31) (h : nI b < nI a) : b < a := (nI_ltI hb ha).mp h
theorem gm_gtf {a b : Nat} (ha : a < 2 ^ 31) (hb : b < 2 ^ 31) (h : ¬ nI b < nI a) : a ≤ b := Nat.not_lt.mp fun q => h ((nI_ltI hb ha).mpr q)
theorem gm_let {a b : Nat} (ha : a < 2 ^ 31) (hb : b < 2 ^ 31) (h : nI a ≤ nI b) : a ≤ b := (nI_leI ha hb).mp h
theorem gm_lef {a b : Nat} (ha : a < 2 ^ 31) (hb : b < 2 ^ 31) (h : ¬ nI a ≤ nI b) : b < a := Nat.not_le.mp fun q => h ((nI_leI ha hb).mpr q)
theorem gm_nb {v : Int32} (h : v = 0 ∨ v = 1) : narrow .boolean (.int v) = .int v := by
  rcases h with rfl | rfl <;> decide
theorem gm_fb {v : Int32} (h : v = 0 ∨ v = 1) : fits .boolean (.int v) = true := by
  rcases h with rfl | rfl <;> decide
theorem gm_lltt {x y : Int64} (h : lg_cmp x y < 0) : x < y := by
  have := lg_cmp_ge x y
  rw [Int32.lt_iff_toInt_lt] at h
  rw [Int32.le_iff_toInt_le] at this
  rw [Int64.lt_iff_toInt_lt]
  rw [Int64.le_iff_toInt_le] at this
  have h2 : ¬ (0 : Int32).toInt ≤ (lg_cmp x y).toInt := by omega
  have := mt this.mpr h2
  omega
theorem gm_lltf {x y : Int64} (h : ¬ lg_cmp x y < 0) : y ≤ x := (lg_cmp_ge x y).mp (Int32.not_lt.mp h)
theorem gm_lget {x y : Int64} (h : 0 ≤ lg_cmp x y) : y ≤ x := (lg_cmp_ge x y).mp h
theorem gm_lgef {x y : Int64} (h : ¬ 0 ≤ lg_cmp x y) : x < y := gm_lltt (Int32.not_le.mp h)
theorem gm_leqt {x y : Int64} (h : lg_cmp x y = 0) : x = y := by
  unfold lg_cmp at h
  split at h
  · exact absurd h (by decide)
  · split at h
    · assumption
    · exact absurd h (by decide)
theorem gm_leqf {x y : Int64} (h : ¬ lg_cmp x y = 0) : ¬ x = y := by
  intro q
  subst q
  exact h (by simp [lg_cmp])
theorem gm_lnet {x y : Int64} (h : ¬ lg_cmp x y = 0) : ¬ x = y := gm_leqf h
theorem gm_lnef {x y : Int64} (h : lg_cmp x y = 0) : x = y := gm_leqt h
theorem gm_lgtt {x y : Int64} (h : 0 < lg_cmp x y) : y < x := by
  unfold lg_cmp at h
  split at h
  · assumption
  · split at h
    · exact absurd h (by decide)
    · exact absurd h (by decide)
theorem gm_lgtf {x y : Int64} (h : ¬ 0 < lg_cmp x y) : ¬ y < x := fun q => h (by unfold lg_cmp; rw [if_pos q]; decide)
theorem gm_llet {x y : Int64} (h : lg_cmp x y ≤ 0) : ¬ y < x := gm_lgtf (Int32.not_lt.mpr h)
theorem gm_llef {x y : Int64} (h : ¬ lg_cmp x y ≤ 0) : y < x := gm_lgtt (Int32.not_le.mp h)
theorem gm_sm : ∀ n, n < 32 → ((nI n &&& 31).toBitVec.smod 32).toNat = n := by decide +kernel
theorem gm_shl {a k : Nat} (hk : k < 4) (ha : a < 1024) : nI a <<< (nI k &&& 31) = nI (a * 2 ^ k) := by
  refine pk_shlN _ k (gm_sm k (by omega)) ?_
  have : (2 : Nat) ^ k ≤ 2 ^ 3 := Nat.pow_le_pow_right (by omega) (by omega)
  calc a * 2 ^ k ≤ a * 2 ^ 3 := Nat.mul_le_mul_left _ this
    _ < 2 ^ 32 := by omega
theorem gm_shr {a k : Nat} (hk : k < 32) (ha : a < 2 ^ 31) : nI a >>> (nI k &&& 31) = nI (a / 2 ^ k) := pk_shrN ha _ k (gm_sm k hk)
theorem gm_and1 {n : Nat} (h : n < 2 ^ 31) : nI n &&& nI 1 = nI (n % 2) := pk_andN (by omega) 1 rfl
theorem gm_dv {a k : Nat} (ha : a < 2 ^ 31) : a / 2 ^ k < 2 ^ 31 := Nat.lt_of_le_of_lt (Nat.div_le_self _ _) ha
