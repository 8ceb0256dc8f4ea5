-- TYPED MEMORY: a fixed shape of cells (no cell is made or lost by a method that is no constructor), whole numbers in them by address and place
def gm_nest : Cond → Bool
  | .fieldLinkNest .. => true
  | .methodLinkNest .. => true
  | _ => false
def tg : List Cond := lw_tbl.filter goodWord
def tn : List Cond := lw_tbl.filter gm_nest
theorem tg_in {w : Cond} (i : Nat) (h : lw_tbl[i]? = some w) (g : goodWord w = true) : w ∈ tg := List.mem_filter.mpr ⟨List.mem_of_getElem? h, g⟩
theorem tn_in {w : Cond} (i : Nat) (h : lw_tbl[i]? = some w) (g : gm_nest w = true) : w ∈ tn := List.mem_filter.mpr ⟨List.mem_of_getElem? h, g⟩
theorem tg_good {ws : List Cond} (h : ∀ w ∈ ws, w ∈ tg) : GoodIn tg ws := fun w hw => ⟨h w hw, good_of_word (List.mem_filter.mp (h w hw)).2⟩
def tN (U : State) : Prop := ∀ w ∈ tn, va_Nw w U
theorem tN.warm {s U : State} (hW : s.WarmedH U.vm) (h : tN s) : tN U := fun w hw => by
  have hn := (List.mem_filter.mp hw).2
  have h1 := h w hw
  cases w <;> first | exact va_Nw.warmF hW h1 | exact va_Nw.warmM hW h1 | (simp [gm_nest] at hn)
theorem tN.same {u U : State} (hvm : u.vm = U.vm) (h : tN u) : tN U := fun w hw => by
  have hn := (List.mem_filter.mp hw).2
  have h1 := h w hw
  cases w <;> first | exact va_Nw.same rfl hvm h1 | (simp [gm_nest] at hn)
/-- a method's words: its own code, and all good words of the tables -/
def wU (y : MethodName) (cc : ByteArray) (n : Nat) (ret : Option FieldType) : List Cond := .code y cc n ret :: tg
theorem tg_wU {y : MethodName} {cc : ByteArray} {n : Nat} {ret : Option FieldType} (h : Cond.code y cc n ret ∈ tg) : ∀ w ∈ wU y cc n ret, w ∈ tg := by
  intro w hw
  rcases List.mem_cons.mp hw with rfl | hw
  · exact h
  · exact hw
theorem tg_V {own C : String} {idx n : Nat} {y : MethodName} {cc : ByteArray} {ret : Option FieldType} (h1 : Cond.methodLink own idx y ∈ tg) (h2 : Cond.instanceMethod y ∈ tg) (h3 : Cond.selects C y y ∈ tg) (h4 : Cond.initialized C ∈ tg) (h5 : Cond.code y cc n ret ∈ tg) : GoodIn tg (wsV own idx C y (wU y cc n ret)) := by
  refine tg_good fun w hw => ?_
  rcases List.mem_append.mp hw with hw | hw
  · simp only [List.mem_cons, List.not_mem_nil, or_false] at hw
    rcases hw with rfl | rfl | rfl | rfl
    · exact h1
    · exact h2
    · exact h3
    · exact h4
  · exact tg_wU h5 w hw
theorem tg_S {own : String} {idx n : Nat} {y : MethodName} {cc : ByteArray} {ret : Option FieldType} (h1 : Cond.methodLink own idx y ∈ tg) (h2 : Cond.static y ∈ tg) (h4 : Cond.initialized own ∈ tg) (h5 : Cond.code y cc n ret ∈ tg) : GoodIn tg (wsS own idx y (wU y cc n ret)) := by
  refine tg_good fun w hw => ?_
  rcases List.mem_append.mp hw with hw | hw
  · simp only [List.mem_cons, List.not_mem_nil, or_false] at hw
    rcases hw with rfl | rfl | rfl
    · exact h1
    · exact h2
    · exact h4
  · exact tg_wU h5 w hw
/-- a cell's shape: an object (class number; of each field: 0 an int, 1 a long, or the value that it keeps), or an array: of n ints, n longs, n references -/
abbrev gm_S : Type := (Nat × List (Nat ⊕ Value)) ⊕ Nat ⊕ Nat ⊕ (ClassId × Nat × (Nat → Option Nat))
abbrev gm_H : Type := Nat → Option gm_S
abbrev gm_I : Type := Nat → Nat → Int32
abbrev gm_J : Type := Nat → Nat → Int64
def gm_v (x : Nat → Int32) (y : Nat → Int64) (k : Nat) (t : Nat ⊕ Value) : Value := match t with
  | .inl 0 => .int (x k)
  | .inl _ => .long (y k)
  | .inr v => v
def gm_fs (x : Nat → Int32) (y : Nat → Int64) (sl : List (Nat ⊕ Value)) : List Value := sl.mapIdx (gm_v x y)
def gm_e (cs : Nat → ClassId) (s : gm_S) (x : Nat → Int32) (y : Nat → Int64) : va_E := match s with
  | .inl o => .inr (o.1, gm_fs x y o.2)
  | .inr (.inl n) => .inl (cs 0, n, .inl x)
  | .inr (.inr (.inl n)) => .inl (cs 1, n, .inr (.inl y))
  | .inr (.inr (.inr q)) => .inl (q.1, q.2.1, .inr (.inr (.inr (.inr q.2.2))))
def gm_W (cs : Nat → ClassId) (sh : gm_H) (I : gm_I) (J : gm_J) : mw_M := fun q => (sh q).map (fun s => gm_e cs s (I q) (J q))
def gm_up {α : Type} (f : Nat → Nat → α) (a k : Nat) (v : α) : Nat → Nat → α := fun q j => if q = a ∧ j = k then v else f q j
theorem gm_up_off {α : Type} (f : Nat → Nat → α) {a q : Nat} (k : Nat) (v : α) (h : q ≠ a) : gm_up f a k v q = f q := by
  funext j; simp [gm_up, h]
theorem gm_up_i (f : gm_I) (a k : Nat) (v : Int32) : gm_up f a k v a = upd (f a) k v := by
  funext j; simp [gm_up, upd]
theorem gm_up_l (f : gm_J) (a k : Nat) (v : Int64) : gm_up f a k v a = vp_updL (f a) k v := by
  funext j; simp [gm_up, vp_updL]
theorem gm_up_same {α : Type} (f : Nat → Nat → α) (a k : Nat) (v : α) : gm_up f a k v a k = v := by simp [gm_up]
theorem gm_up_ne {α : Type} (f : Nat → Nat → α) {a k q j : Nat} (v : α) (h : q ≠ a ∨ j ≠ k) : gm_up f a k v q j = f q j := by
  rcases h with h | h <;> simp [gm_up, h]
theorem gm_fs_get {x : Nat → Int32} {y : Nat → Int64} {sl : List (Nat ⊕ Value)} {k : Nat} {t : Nat ⊕ Value} (h : sl[k]? = some t) : (gm_fs x y sl)[k]? = some (gm_v x y k t) := by
  simp [gm_fs, List.getElem?_mapIdx, h]
theorem gm_fs_seti {x : Nat → Int32} {y : Nat → Int64} {sl : List (Nat ⊕ Value)} {k : Nat} (h : sl[k]? = some (.inl 0)) (v : Int32) : (gm_fs x y sl).set k (.int v) = gm_fs (upd x k v) y sl := by
  apply List.ext_getElem?
  intro j
  have hk : k < sl.length := (List.getElem?_eq_some_iff.mp h).1
  by_cases hj : k = j
  · subst hj
    rw [List.getElem?_set_self (by simp [gm_fs, hk])]
    simp [gm_fs, List.getElem?_mapIdx, h, gm_v, upd]
  · rw [List.getElem?_set_ne hj]
    simp only [gm_fs, List.getElem?_mapIdx]
    cases hs : sl[j]? with
    | none => rfl
    | some t =>
      have hj' : j ≠ k := fun q => hj q.symm
      match t with
      | .inl 0 => simp [gm_v, upd, hj']
      | .inl (n + 1) => simp [gm_v]
      | .inr w => simp [gm_v]
theorem gm_fs_setl {x : Nat → Int32} {y : Nat → Int64} {sl : List (Nat ⊕ Value)} {k : Nat} (h : sl[k]? = some (.inl 1)) (v : Int64) : (gm_fs x y sl).set k (.long v) = gm_fs x (vp_updL y k v) sl := by
  apply List.ext_getElem?
  intro j
  have hk : k < sl.length := (List.getElem?_eq_some_iff.mp h).1
  by_cases hj : k = j
  · subst hj
    rw [List.getElem?_set_self (by simp [gm_fs, hk])]
    simp [gm_fs, List.getElem?_mapIdx, h, gm_v, vp_updL]
  · rw [List.getElem?_set_ne hj]
    simp only [gm_fs, List.getElem?_mapIdx]
    cases hs : sl[j]? with
    | none => rfl
    | some t =>
      have hj' : j ≠ k := fun q => hj q.symm
      match t with
      | .inl 0 => simp [gm_v]
      | .inl (n + 1) => simp [gm_v, vp_updL, hj']
      | .inr w => simp [gm_v]
theorem gm_W_at {cs : Nat → ClassId} {sh : gm_H} {I : gm_I} {J : gm_J} {a : Nat} {s : gm_S} (h : sh a = some s) : gm_W cs sh I J a = some (gm_e cs s (I a) (J a)) := by simp [gm_W, h]
theorem gm_W_i {cs : Nat → ClassId} {sh : gm_H} {I : gm_I} {J : gm_J} {a k : Nat} {v : Int32} {s : gm_S} {e : va_E} (h : sh a = some s) (he : gm_e cs s (upd (I a) k v) (J a) = e) : mw_up (gm_W cs sh I J) a e = gm_W cs sh (gm_up I a k v) J := by
  funext q
  by_cases hq : q = a
  · subst hq
    rw [mw_up_self, gm_W_at h, gm_up_i, he]
  · rw [mw_up_ne hq]
    simp only [gm_W, gm_up_off I k v hq]
theorem gm_W_l {cs : Nat → ClassId} {sh : gm_H} {I : gm_I} {J : gm_J} {a k : Nat} {v : Int64} {s : gm_S} {e : va_E} (h : sh a = some s) (he : gm_e cs s (I a) (vp_updL (J a) k v) = e) : mw_up (gm_W cs sh I J) a e = gm_W cs sh I (gm_up J a k v) := by
  funext q
  by_cases hq : q = a
  · subst hq
    rw [mw_up_self, gm_W_at h, gm_up_l, he]
  · rw [mw_up_ne hq]
    simp only [gm_W, gm_up_off J k v hq]
def gm_A (sh : gm_H) : Nat → Prop := fun q => ∃ s : gm_S, sh q = some s
abbrev gm_M : Type := gm_I × gm_J
