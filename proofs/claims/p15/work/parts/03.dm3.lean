-- how many
theorem dd_dc_sum {α β : Type} (S : List α) (N : List β) (Q : α → β → Bool) : (S.map (fun r => N.countP (Q r))).sum = (N.map (fun w => S.countP (fun r => Q r w))).sum := by
  induction S with
  | nil => induction N with
    | nil => rfl
    | cons b N ih => simp only [List.map_nil, List.sum_nil, List.map_cons, List.countP_nil, List.sum_cons] at *; omega
  | cons a S ih =>
    rw [List.map_cons, List.sum_cons, ih]
    clear ih
    induction N with
    | nil => rfl
    | cons b N ih =>
      simp only [List.map_cons, List.sum_cons, List.countP_cons] at *
      omega
theorem dd_dc {α β : Type} (S : List α) (N : List β) (Q : α → β → Bool) (hS : ∀ r ∈ S, 2 ≤ N.countP (Q r)) (hN : ∀ w ∈ N, S.countP (fun r => Q r w) ≤ 2) : S.length ≤ N.length := by
  have h1 : ∀ (S : List α), (∀ r ∈ S, 2 ≤ N.countP (Q r)) → 2 * S.length ≤ (S.map (fun r => N.countP (Q r))).sum := by
    intro S
    induction S with
    | nil => intro _; simp
    | cons a S ih =>
      intro h
      have := ih (fun r hr => h r (List.mem_cons_of_mem _ hr))
      have := h a List.mem_cons_self
      simp only [List.length_cons, List.map_cons, List.sum_cons] at *
      omega
  have h2 : ∀ (N : List β), (∀ w ∈ N, S.countP (fun r => Q r w) ≤ 2) → (N.map (fun w => S.countP (fun r => Q r w))).sum ≤ 2 * N.length := by
    intro N
    induction N with
    | nil => intro _; simp
    | cons a N ih =>
      intro h
      have := ih (fun r hr => h r (List.mem_cons_of_mem _ hr))
      have := h a List.mem_cons_self
      simp only [List.length_cons, List.map_cons, List.sum_cons] at *
      omega
  have := h1 S hS
  have := h2 N hN
  have := dd_dc_sum S N Q
  omega
theorem dd_two_le {α : Type} {l : List α} {p : α → Bool} {v w : α} (hv : v ∈ l) (hw : w ∈ l) (hne : v ≠ w) (pv : p v = true) (pw : p w = true) : 2 ≤ l.countP p := by
  induction l with
  | nil => cases hv
  | cons a l ih =>
    rw [List.countP_cons]
    rcases List.mem_cons.mp hv with rfl | hv'
    · rcases List.mem_cons.mp hw with e | hw'
      · exact absurd e.symm hne
      · have := List.countP_pos_iff.mpr ⟨w, hw', pw⟩
        rw [if_pos pv]; omega
    · rcases List.mem_cons.mp hw with rfl | hw'
      · have := List.countP_pos_iff.mpr ⟨v, hv', pv⟩
        rw [if_pos pw]; omega
      · have := ih hv' hw'; omega
theorem dd_le_two {α : Type} {l : List α} {p : α → Bool} (nd : l.Nodup) (h : ∀ a ∈ l, ∀ b ∈ l, ∀ c ∈ l, a ≠ b → a ≠ c → b ≠ c → p a = true → p b = true → p c = true → False) : l.countP p ≤ 2 := by
  rw [List.countP_eq_length_filter]
  have nd' : (l.filter p).Nodup := nd.filter p
  match hl : l.filter p with
  | [] => simp
  | [_] => simp
  | [_, _] => simp
  | a :: b :: c :: _ =>
    exfalso
    rw [hl] at nd'
    have ma : a ∈ l.filter p := by rw [hl]; simp
    have mb : b ∈ l.filter p := by rw [hl]; simp
    have mc : c ∈ l.filter p := by rw [hl]; simp
    obtain ⟨a1, a2⟩ := List.mem_filter.mp ma
    obtain ⟨b1, b2⟩ := List.mem_filter.mp mb
    obtain ⟨c1, c2⟩ := List.mem_filter.mp mc
    simp only [List.nodup_cons, List.mem_cons, not_or] at nd'
    exact h a a1 b b1 c c1 nd'.1.1 nd'.1.2.1 nd'.2.1.1 a2 b2 c2
theorem dd_cr_par {u v w x : dd_V} (hu : dd_ev u x = 0) (hv : dd_ev v x = 0) (hw : dd_ev w x = 0) : dd_mul (dd_ev (dd_cr u v w) (dd_cr u v w)) x = dd_mul (dd_ev (dd_cr u v w) x) (dd_cr u v w) := by
  obtain ⟨e1, e2, e3, e4, e5, e6⟩ := dd_cr_uq hu hv hw
  generalize dd_cr u v w = c at *
  obtain ⟨a, b, cc, d⟩ := c
  obtain ⟨x, y, z, t⟩ := x
  simp only [dd_mul, dd_ev, Prod.mk.injEq] at *
  refine ⟨?_, ?_, ?_, ?_⟩ <;> grind
theorem dd_cr_sw {u v w : dd_V} (h : dd_cr u v w ≠ dd_0) : dd_cr u w v ≠ dd_0 := fun e => h (dd_eq0 fun z => by
  have h1 := dd_cr_3 u v w z
  have h2 := dd_cr_4 u w v z
  have h3 := dd_cr_4 u v w z
  rw [e, dd_ev_0] at h2
  have h4 := dd_cr_3 u w v z
  have h5 : dd_ev z (dd_cr u v w) = -(dd_ev z (dd_cr u w v)) := by
    obtain ⟨a, b, c, d⟩ := u; obtain ⟨a', b', c', d'⟩ := v; obtain ⟨a'', b'', c'', d''⟩ := w; obtain ⟨x, y, z, t⟩ := z
    simp only [dd_ev, dd_cr]; grind
  rw [h5, e, dd_ev_0]; omega)
theorem dd_cr_same (u v : dd_V) : dd_cr u v v = dd_0 := dd_eq0 fun z => by
  have h5 : dd_ev z (dd_cr u v v) = -(dd_ev z (dd_cr u v v)) := by
    obtain ⟨a, b, c, d⟩ := u; obtain ⟨a', b', c', d'⟩ := v; obtain ⟨x, y, z, t⟩ := z
    simp only [dd_ev, dd_cr]; grind
  omega
theorem dd_I.uq' {A rows R : List dd_V} {LU : List (dd_V × dd_V)} (H : dd_I A rows (LU.map Prod.fst) R) (hU : dd_UL LU) {r : dd_V} (hr : r ∈ R) (hru : ∀ a ∈ LU, dd_ev a.2 r = 0) :
    dd_uq (fun w => w ∈ rows ++ (A ++ LU.map Prod.snd) ∧ dd_ev w r = 0) r := fun x hx =>
  H.uq hU hr hru x (fun w hw => by
    rcases hw with ⟨h1, h2⟩ | h1 | h1
    · exact hx w ⟨List.mem_append_left _ h1, h2⟩
    · exact hx w ⟨List.mem_append_right _ (List.mem_append_left _ h1), H.pR r hr w h1⟩
    · refine hx w ⟨List.mem_append_right _ (List.mem_append_right _ h1), ?_⟩
      obtain ⟨a, ha, rfl⟩ := List.mem_map.mp h1
      exact hru a ha)
theorem dd_I.count {A rows R : List dd_V} {LU : List (dd_V × dd_V)} (H : dd_I A rows (LU.map Prod.fst) R) (hU : dd_UL LU) (hru : ∀ r ∈ R, ∀ a ∈ LU, dd_ev a.2 r = 0) {u : dd_V} (hu : u ≠ dd_0)
    {S : List dd_V} (hS : ∀ r ∈ S, r ∈ R ∧ dd_ev u r = 0) (nd : S.Nodup) : S.length ≤ rows.length + (A.length + LU.length) := by
  have e : (rows ++ (A ++ LU.map Prod.snd)).length = rows.length + (A.length + LU.length) := by simp
  rw [← e]
  have ne0 : ∀ r ∈ R, r ≠ dd_0 := fun r hr => by
    obtain ⟨w, _, h0⟩ := H.hN r hr
    exact dd_ne_0 (w := w) (by omega)
  refine dd_dc S _ (fun r w => @decide (dd_ev w r = 0 ∧ ∃ z, dd_cr u w z ≠ dd_0) (Classical.propDecidable _)) (fun r hr => ?_) (fun w hw => ?_)
  · obtain ⟨hrR, _⟩ := hS r hr
    have q := H.uq' hU hrR (hru r hrR)
    obtain ⟨a, b, hab⟩ := dd_cr_ne hu
    obtain ⟨v, hv, z, hz⟩ := q.second hab
    obtain ⟨w, hw, h⟩ := q.third hz
    refine dd_two_le hv.1 hw.1 (fun e => h (by rw [e]; exact dd_cr_same u w)) ?_ ?_
    · exact @decide_eq_true _ (Classical.propDecidable _) ⟨hv.2, w, h⟩
    · exact @decide_eq_true _ (Classical.propDecidable _) ⟨hw.2, v, dd_cr_sw h⟩
  · refine dd_le_two nd (fun r1 h1 r2 h2 r3 h3 n12 n13 n23 p1 p2 p3 => ?_)
    obtain ⟨q1, z, hz⟩ := @of_decide_eq_true _ (Classical.propDecidable _) p1
    obtain ⟨q2, _⟩ := @of_decide_eq_true _ (Classical.propDecidable _) p2
    obtain ⟨q3, _⟩ := @of_decide_eq_true _ (Classical.propDecidable _) p3
    obtain ⟨R1, u1⟩ := hS r1 h1
    obtain ⟨R2, u2⟩ := hS r2 h2
    obtain ⟨R3, u3⟩ := hS r3 h3
    obtain ⟨v, ⟨hv, hv1⟩, hc⟩ := (H.uq' hU R1 (hru r1 R1)).third hz
    have cc : dd_ev (dd_cr u w v) (dd_cr u w v) ≠ 0 := fun h => hc ((dd_sq _).2 h)
    have par1 := dd_cr_par (w := v) u1 q1 hv1
    have j1 : dd_ev (dd_cr u w v) r1 ≠ 0 := fun h => by
      rw [h, dd_0_mul] at par1
      exact ne0 r1 R1 (dd_mul_eq0 cc par1)
    -- whatever just holds at u, w and v is a multiple of the first
    have pr : ∀ x, dd_ev u x = 0 → dd_ev w x = 0 → dd_ev v x = 0 → ∃ k j : Int, 0 < k ∧ dd_mul k x = dd_mul j r1 := fun x a1 a2 a3 => by
      have p := dd_cr_par a1 a2 a3
      have e : dd_mul (dd_ev (dd_cr u w v) r1 * dd_ev (dd_cr u w v) (dd_cr u w v)) x = dd_mul (dd_ev (dd_cr u w v) x * dd_ev (dd_cr u w v) (dd_cr u w v)) r1 := by
        rw [← dd_mul_mul, p, ← dd_mul_mul (dd_ev (dd_cr u w v) x), par1, dd_mul_mul, dd_mul_mul, Int.mul_comm]
      have hk : dd_ev (dd_cr u w v) r1 * dd_ev (dd_cr u w v) (dd_cr u w v) ≠ 0 := Int.mul_ne_zero j1 cc
      by_cases hp : 0 < dd_ev (dd_cr u w v) r1 * dd_ev (dd_cr u w v) (dd_cr u w v)
      · exact ⟨_, _, hp, e⟩
      · refine ⟨(-1) * (dd_ev (dd_cr u w v) r1 * dd_ev (dd_cr u w v) (dd_cr u w v)), (-1) * (dd_ev (dd_cr u w v) x * dd_ev (dd_cr u w v) (dd_cr u w v)), by omega, ?_⟩
        rw [← dd_mul_mul, e, dd_mul_mul]
    have vpos : ∀ s ∈ R, dd_ev u s = 0 → dd_ev w s = 0 → r1 ≠ s → v ∈ rows ∧ 0 < dd_ev v s := fun s hs a1 a2 hn => by
      have h0 : dd_ev v s ≠ 0 := fun h0 => by
        obtain ⟨k, j, hk, e⟩ := pr s a1 a2 h0
        refine hn (H.hA r1 R1 s hs (fun w' hw' e0 => ?_))
        have := congrArg (dd_ev w') e
        rw [dd_ev_mul, dd_ev_mul, e0] at this
        rcases Int.mul_eq_zero.mp (show k * dd_ev w' s = 0 by omega) with c | c <;> omega
      rcases List.mem_append.mp hv with h | h
      · have := H.hR s hs v h
        exact ⟨h, by omega⟩
      · rcases List.mem_append.mp h with h | h
        · exact absurd (H.pR s hs v h) h0
        · obtain ⟨a, ha, rfl⟩ := List.mem_map.mp h
          exact absurd (hru s hs a ha) h0
    obtain ⟨_, v2⟩ := vpos r2 R2 u2 q2 n12
    obtain ⟨_, v3⟩ := vpos r3 R3 u3 q3 n13
    obtain ⟨k, j, hk, e⟩ := pr (dd_add (dd_mul (dd_ev v r3) r2) (dd_mul (-(dd_ev v r2)) r3)) (by rw [dd_ev_add, dd_ev_mul, dd_ev_mul, u2, u3]; omega) (by rw [dd_ev_add, dd_ev_mul, dd_ev_mul, q2, q3]; omega) (by rw [dd_ev_add, dd_ev_mul, dd_ev_mul]; grind)
    rcases dd_tt_comb (rows := rows) (r := r3) (s := r1) (t := r2) (al := k * dd_ev v r2) (be := k * dd_ev v r3) (g1 := j) (Int.mul_pos hk v2) (Int.mul_pos hk v3) (fun w' hw' => by
      have := congrArg (dd_ev w') e
      rw [dd_ev_mul, dd_ev_add, dd_ev_mul, dd_ev_mul, dd_ev_mul] at this
      grind) (H.hR r3 R3) (H.hR r1 R1) (H.hR r2 R2) with h | h
    · exact n23 (H.hA r2 R2 r3 R3 h)
    · exact n23 (H.hA r3 R3 r2 R2 h).symm

-- sums of rows, and how few are enough
def dd_cs (f : Nat → dd_V) : List (Nat × Int) → dd_V
  | [] => dd_0
  | e :: t => dd_add (dd_mul e.2 (f e.1)) (dd_cs f t)
def dd_good (n : Nat) (cs : List (Nat × Int)) : Prop := (cs.Pairwise (fun a b => b.1 < a.1)) ∧ (∀ e ∈ cs, e.1 < n) ∧ (∀ e ∈ cs, 0 < e.2)
theorem dd_good.dec {n : Nat} {cs : List (Nat × Int)} (h_ : dd_good n cs) : cs.Pairwise (fun a b => b.1 < a.1) := h_.1
theorem dd_good.lt {n : Nat} {cs : List (Nat × Int)} (h_ : dd_good n cs) : ∀ e ∈ cs, e.1 < n := h_.2.1
theorem dd_good.pos {n : Nat} {cs : List (Nat × Int)} (h_ : dd_good n cs) : ∀ e ∈ cs, 0 < e.2 := h_.2.2
def dd_ls (f : Nat → dd_V) (c : Nat → Int) : Nat → dd_V
  | 0 => dd_0
  | n + 1 => dd_add (dd_mul (c n) (f n)) (dd_ls f c n)
theorem dd_ls_add (f : Nat → dd_V) (c e : Nat → Int) (n : Nat) : dd_ls f (fun i => c i + e i) n = dd_add (dd_ls f c n) (dd_ls f e n) := by
  induction n with
  | zero => rfl
  | succ n ih => simp only [dd_ls, ih, dd_add_mul]; rw [dd_add_swap]
theorem dd_ls_0 (f : Nat → dd_V) (c : Nat → Int) (n : Nat) (h : ∀ i, i < n → c i = 0) : dd_ls f c n = dd_0 := by
  induction n with
  | zero => rfl
  | succ n ih => simp only [dd_ls]; rw [h n (by omega), dd_0_mul, dd_0_add]; exact ih (fun i hi => h i (by omega))
theorem dd_ls_1 (f : Nat → dd_V) (k : Int) {n j : Nat} (hj : j < n) : dd_ls f (fun i => if i = j then k else 0) n = dd_mul k (f j) := by
  induction n with
  | zero => omega
  | succ n ih =>
    simp only [dd_ls]
    by_cases e : n = j
    · subst e; rw [if_pos rfl, dd_ls_0 f _ n (fun i hi => if_neg (by omega)), dd_add_0]
    · rw [if_neg e, dd_0_mul, dd_0_add]; exact ih (by omega)
theorem dd_good.mono {n m : Nat} {cs : List (Nat × Int)} (h : dd_good n cs) (hm : n ≤ m) : dd_good m cs := ⟨h.dec, fun e he => Nat.lt_of_lt_of_le (h.lt e he) hm, h.pos⟩
theorem dd_ls_cs (f : Nat → dd_V) (c : Nat → Int) (hc : ∀ i, 0 ≤ c i) (n : Nat) : ∃ cs, dd_good n cs ∧ dd_cs f cs = dd_ls f c n := by
  induction n with
  | zero => exact ⟨[], ⟨List.Pairwise.nil, by simp, by simp⟩, rfl⟩
  | succ n ih =>
    obtain ⟨cs, h, e⟩ := ih
    by_cases h0 : c n = 0
    · exact ⟨cs, h.mono (by omega), by rw [e, dd_ls, h0, dd_0_mul, dd_0_add]⟩
    · refine ⟨(n, c n) :: cs, ⟨List.Pairwise.cons (fun a ha => h.lt a ha) h.dec, ?_, ?_⟩, by rw [dd_cs, e, dd_ls]⟩
      · intro a ha
        rcases List.mem_cons.mp ha with rfl | ha
        · show n < n + 1; omega
        · have := h.lt a ha; omega
      · intro a ha
        rcases List.mem_cons.mp ha with rfl | ha
        · show 0 < c n; have := hc n; omega
        · exact h.pos a ha
/-- what is made of rows is a sum of rows -/
theorem dd_Q.cs {f : Nat → dd_V} {n : Nat} {w : dd_V} (h : dd_Q dd_N (fun v => ∃ i, i < n ∧ v = f i) w) : ∃ k : Int, 0 < k ∧ ∃ cs, dd_good n cs ∧ dd_cs f cs = dd_mul k w := by
  obtain ⟨k, hk, hg⟩ := h
  have : ∃ c : Nat → Int, (∀ i, 0 ≤ c i) ∧ dd_ls f c n = dd_mul k w := by
    refine hg (fun y => ∃ c : Nat → Int, (∀ i, 0 ≤ c i) ∧ dd_ls f c n = y) ⟨fun _ => 0, fun _ => Int.le_refl 0, dd_ls_0 f _ n (fun _ _ => rfl)⟩ ?_ (fun v hv => hv.elim) ?_
    · rintro x y ⟨c, h1, rfl⟩ ⟨e, h2, rfl⟩
      exact ⟨fun i => c i + e i, fun i => by have := h1 i; have := h2 i; show 0 ≤ c i + e i; omega, dd_ls_add f c e n⟩
    · rintro v ⟨i, hi, rfl⟩ j hj
      exact ⟨fun x => if x = i then j else 0, fun x => by show 0 ≤ (if x = i then j else 0); split <;> omega, dd_ls_1 f j hi⟩
  obtain ⟨c, h1, h2⟩ := this
  obtain ⟨cs, h3, h4⟩ := dd_ls_cs f c h1 n
  exact ⟨k, hk, cs, h3, h4.trans h2⟩
theorem dd_cs_nn {f : Nat → dd_V} {n : Nat} {cs : List (Nat × Int)} (h : dd_good n cs) {x : dd_V} (hx : ∀ i, i < n → 0 ≤ dd_ev (f i) x) : 0 ≤ dd_ev (dd_cs f cs) x := by
  have h1 := h.lt
  have h2 := h.pos
  clear h
  induction cs with
  | nil => simp only [dd_cs]; rw [dd_ev_comm, dd_ev_0]; omega
  | cons e t ih =>
    simp only [dd_cs]
    rw [dd_add_ev, dd_mul_ev]
    have := ih (fun a ha => h1 a (List.mem_cons_of_mem _ ha)) (fun a ha => h2 a (List.mem_cons_of_mem _ ha))
    have := Int.mul_nonneg (Int.le_of_lt (h2 e List.mem_cons_self)) (hx e.1 (h1 e List.mem_cons_self))
    omega
-- one of a sum that depends on others is taken out
abbrev dd_Z : Type := Nat × Int × Int
theorem dd_zmin {zs : List dd_Z} (hl : ∀ e ∈ zs, 0 < e.2.1) : (∃ e ∈ zs, e.2.2 < 0) → ∃ e ∈ zs, e.2.2 < 0 ∧ ∀ a ∈ zs, 0 ≤ -e.2.2 * a.2.1 + e.2.1 * a.2.2 := by
  induction zs with
  | nil => rintro ⟨e, he, _⟩; cases he
  | cons b zs ih =>
    intro hex
    have hb := hl b List.mem_cons_self
    have hl' := fun e he => hl e (List.mem_cons_of_mem b he)
    by_cases hr : ∃ e ∈ zs, e.2.2 < 0
    · obtain ⟨e, he, hneg, hmin⟩ := ih hl' hr
      have h0 := hl' e he
      by_cases hcmp : 0 ≤ -e.2.2 * b.2.1 + e.2.1 * b.2.2
      · refine ⟨e, List.mem_cons_of_mem _ he, hneg, fun a ha => ?_⟩
        rcases List.mem_cons.mp ha with rfl | ha'
        · exact hcmp
        · exact hmin a ha'
      · -- b is less
        have bneg : b.2.2 < 0 := by
          refine Classical.byContradiction fun h => hcmp ?_
          have := Int.mul_nonneg (show 0 ≤ -e.2.2 by omega) (Int.le_of_lt hb)
          have := Int.mul_nonneg (Int.le_of_lt h0) (show 0 ≤ b.2.2 by omega)
          omega
        refine ⟨b, List.mem_cons_self, bneg, fun a ha => ?_⟩
        rcases List.mem_cons.mp ha with rfl | ha'
        · have : -a.2.2 * a.2.1 + a.2.1 * a.2.2 = 0 := by grind
          omega
        · have h1 := hmin a ha'
          have h2 := hl' a ha'
          refine Classical.byContradiction fun h3 => ?_
          -- (-e2) a1 + e1 a2 ≥ 0, (-e2) b1 + e1 b2 < 0, (-b2) a1 + b1 a2 < 0
          have k1 := Int.mul_nonneg h1 (Int.le_of_lt hb)
          have k2 := Int.mul_pos (show 0 < -(-e.2.2 * b.2.1 + e.2.1 * b.2.2) by omega) h2
          have k3 := Int.mul_pos (show 0 < -(-b.2.2 * a.2.1 + b.2.1 * a.2.2) by omega) h0
          grind
    · obtain ⟨e, he, hneg⟩ := hex
      rcases List.mem_cons.mp he with rfl | he'
      · refine ⟨e, List.mem_cons_self, hneg, fun a ha => ?_⟩
        rcases List.mem_cons.mp ha with rfl | ha'
        · have : -a.2.2 * a.2.1 + a.2.1 * a.2.2 = 0 := by grind
          omega
        · have h2 := hl' a ha'
          have h3 : ¬ a.2.2 < 0 := fun h => hr ⟨a, ha', h⟩
          have := Int.mul_nonneg (show 0 ≤ -e.2.2 by omega) (Int.le_of_lt h2)
          have := Int.mul_nonneg (Int.le_of_lt hb) (show 0 ≤ a.2.2 by omega)
          omega
      · exact absurd ⟨e, he', hneg⟩ hr
def dd_zl (e : dd_Z) : Nat × Int := (e.1, e.2.1)
def dd_zm (e : dd_Z) : Nat × Int := (e.1, e.2.2)
def dd_zc (m l : Int) (e : dd_Z) : Nat × Int := (e.1, m * e.2.1 + l * e.2.2)
theorem dd_zc_sum (f : Nat → dd_V) (m l : Int) (zs : List dd_Z) : dd_cs f (zs.map (dd_zc m l)) = dd_add (dd_mul m (dd_cs f (zs.map dd_zl))) (dd_mul l (dd_cs f (zs.map dd_zm))) := by
  induction zs with
  | nil => simp only [List.map_nil, dd_cs, dd_mul_0, dd_add_0]
  | cons e zs ih =>
    simp only [List.map_cons, dd_cs, ih, dd_zc, dd_zl, dd_zm, dd_mul_add, dd_mul_mul]
    rw [dd_add_mul, dd_add_swap]
theorem dd_cs_filter (f : Nat → dd_V) (cs : List (Nat × Int)) : dd_cs f (cs.filter (fun e => decide (e.2 ≠ 0))) = dd_cs f cs := by
  induction cs with
  | nil => rfl
  | cons e cs ih =>
    by_cases h : e.2 = 0
    · rw [List.filter_cons_of_neg (by simp [h]), ih, dd_cs, h, dd_0_mul, dd_0_add]
    · rw [List.filter_cons_of_pos (by simp [h]), dd_cs, dd_cs, ih]
theorem dd_filter_lt {α : Type} {l : List α} {p : α → Bool} {a : α} (ha : a ∈ l) (hp : p a = false) : (l.filter p).length < l.length := by
  induction l with
  | nil => cases ha
  | cons b l ih =>
    rcases List.mem_cons.mp ha with rfl | ha'
    · rw [List.filter_cons_of_neg (by simp [hp])]
      have := List.length_filter_le p l
      simp only [List.length_cons]; omega
    · have := ih ha'
      by_cases h : p b = true
      · rw [List.filter_cons_of_pos h]; simp only [List.length_cons]; omega
      · rw [List.filter_cons_of_neg h]; simp only [List.length_cons]; omega
theorem dd_less0 {f : Nat → dd_V} {n : Nat} {zs : List dd_Z} (hg : dd_good n (zs.map dd_zl)) (hex : ∃ e ∈ zs, e.2.2 < 0) :
    ∃ m l : Int, 0 < m ∧ 0 < l ∧ ∃ cs, dd_good n cs ∧ cs.length < zs.length ∧ dd_cs f cs = dd_add (dd_mul m (dd_cs f (zs.map dd_zl))) (dd_mul l (dd_cs f (zs.map dd_zm))) := by
  have hl : ∀ e ∈ zs, 0 < e.2.1 := fun e he => hg.pos (dd_zl e) (List.mem_map.mpr ⟨e, he, rfl⟩)
  obtain ⟨e, he, hneg, hmin⟩ := dd_zmin hl hex
  refine ⟨-e.2.2, e.2.1, by omega, hl e he, (zs.map (dd_zc (-e.2.2) e.2.1)).filter (fun e => decide (e.2 ≠ 0)), ⟨?_, ?_, ?_⟩, ?_, ?_⟩
  · refine List.Pairwise.filter _ ?_
    have := hg.dec
    rw [List.pairwise_map] at *
    exact this
  · intro a ha
    obtain ⟨h1, _⟩ := List.mem_filter.mp ha
    obtain ⟨b, hb, rfl⟩ := List.mem_map.mp h1
    exact hg.lt (dd_zl b) (List.mem_map.mpr ⟨b, hb, rfl⟩)
  · intro a ha
    obtain ⟨h1, h2⟩ := List.mem_filter.mp ha
    obtain ⟨b, hb, rfl⟩ := List.mem_map.mp h1
    have h3 := hmin b hb
    have h4 : (dd_zc (-e.2.2) e.2.1 b).2 ≠ 0 := by simpa using h2
    simp only [dd_zc] at *
    omega
  · have := dd_filter_lt (l := zs.map (dd_zc (-e.2.2) e.2.1)) (p := fun e => decide (e.2 ≠ 0)) (a := dd_zc (-e.2.2) e.2.1 e) (List.mem_map.mpr ⟨e, he, rfl⟩) (by
      have : (dd_zc (-e.2.2) e.2.1 e).2 = 0 := by simp only [dd_zc]; grind
      simp [this])
    rwa [List.length_map] at this
  · rw [dd_cs_filter, dd_zc_sum]
def dd_ng (e : dd_Z) : dd_Z := (e.1, e.2.1, -e.2.2)
theorem dd_ng_l (zs : List dd_Z) : (zs.map dd_ng).map dd_zl = zs.map dd_zl := by
  rw [List.map_map]; rfl
theorem dd_ng_m (f : Nat → dd_V) (zs : List dd_Z) : dd_cs f ((zs.map dd_ng).map dd_zm) = dd_mul (-1) (dd_cs f (zs.map dd_zm)) := by
  induction zs with
  | nil => simp only [List.map_nil, dd_cs, dd_mul_0]
  | cons e zs ih => simp only [List.map_cons, dd_cs, ih, dd_mul_add, dd_mul_mul, dd_zm, dd_ng]; congr 2; omega
/-- one row less, and no less is borne -/
theorem dd_less {f : Nat → dd_V} {n : Nat} {zs : List dd_Z} (hg : dd_good n (zs.map dd_zl)) {x : dd_V} (hx : ∀ i, i < n → 0 ≤ dd_ev (f i) x) (hq : 0 < x.2.2.2)
    (h1 : (dd_cs f (zs.map dd_zm)).1 = 0) (h2 : (dd_cs f (zs.map dd_zm)).2.1 = 0) (h3 : (dd_cs f (zs.map dd_zm)).2.2.1 = 0) (hex : ∃ e ∈ zs, e.2.2 ≠ 0) :
    ∃ m : Int, 0 < m ∧ ∃ cs, dd_good n cs ∧ cs.length < zs.length ∧ (dd_cs f cs).1 = m * (dd_cs f (zs.map dd_zl)).1 ∧ (dd_cs f cs).2.1 = m * (dd_cs f (zs.map dd_zl)).2.1 ∧ (dd_cs f cs).2.2.1 = m * (dd_cs f (zs.map dd_zl)).2.2.1 ∧ (dd_cs f cs).2.2.2 ≤ m * (dd_cs f (zs.map dd_zl)).2.2.2 := by
  -- with the one sign or the other
  have fin : ∀ ys : List dd_Z, ys.map dd_zl = zs.map dd_zl → (dd_cs f (ys.map dd_zm)).1 = 0 → (dd_cs f (ys.map dd_zm)).2.1 = 0 → (dd_cs f (ys.map dd_zm)).2.2.1 = 0 → (dd_cs f (ys.map dd_zm)).2.2.2 ≤ 0 → (∃ e ∈ ys, e.2.2 < 0) →
      ∃ m : Int, 0 < m ∧ ∃ cs, dd_good n cs ∧ cs.length < zs.length ∧ (dd_cs f cs).1 = m * (dd_cs f (zs.map dd_zl)).1 ∧ (dd_cs f cs).2.1 = m * (dd_cs f (zs.map dd_zl)).2.1 ∧ (dd_cs f cs).2.2.1 = m * (dd_cs f (zs.map dd_zl)).2.2.1 ∧ (dd_cs f cs).2.2.2 ≤ m * (dd_cs f (zs.map dd_zl)).2.2.2 := by
    intro ys hy y1 y2 y3 y4 yex
    obtain ⟨m, l, hm, hl, cs, c1, c2, c3⟩ := dd_less0 (f := f) (n := n) (zs := ys) (by rw [hy]; exact hg) yex
    have hlen : ys.length = zs.length := by have := congrArg List.length hy; simpa using this
    refine ⟨m, hm, cs, c1, by omega, ?_⟩
    rw [c3, hy]
    simp only [dd_add, dd_mul, y1, y2, y3]
    refine ⟨by omega, by omega, by omega, ?_⟩
    have := Int.mul_nonneg (Int.le_of_lt hl) (show 0 ≤ -(dd_cs f (ys.map dd_zm)).2.2.2 by omega)
    rw [Int.mul_neg] at this
    omega
  have neg : (∃ e ∈ zs, 0 < e.2.2) → 0 ≤ (dd_cs f (zs.map dd_zm)).2.2.2 → ∃ m : Int, 0 < m ∧ ∃ cs, dd_good n cs ∧ cs.length < zs.length ∧ (dd_cs f cs).1 = m * (dd_cs f (zs.map dd_zl)).1 ∧ (dd_cs f cs).2.1 = m * (dd_cs f (zs.map dd_zl)).2.1 ∧ (dd_cs f cs).2.2.1 = m * (dd_cs f (zs.map dd_zl)).2.2.1 ∧ (dd_cs f cs).2.2.2 ≤ m * (dd_cs f (zs.map dd_zl)).2.2.2 := by
    rintro ⟨e, he, hp⟩ h4
    refine fin (zs.map dd_ng) (dd_ng_l zs) ?_ ?_ ?_ ?_ ⟨dd_ng e, List.mem_map.mpr ⟨e, he, rfl⟩, by simp only [dd_ng]; omega⟩ <;> rw [dd_ng_m] <;> simp only [dd_mul] <;> omega
  have ev : dd_ev (dd_cs f (zs.map dd_zm)) x = (dd_cs f (zs.map dd_zm)).2.2.2 * x.2.2.2 := by
    simp only [dd_ev, h1, h2, h3]; omega
  by_cases hall : ∃ e ∈ zs, e.2.2 < 0
  · by_cases h4 : (dd_cs f (zs.map dd_zm)).2.2.2 ≤ 0
    · exact fin zs rfl h1 h2 h3 h4 hall
    · refine neg ?_ (by omega)
      -- if none is above 0, the sum is at most 0 at the point
      refine Classical.byContradiction fun hno => h4 ?_
      have hz : ∀ ys : List dd_Z, (∀ e ∈ ys, e.2.2 ≤ 0) → (∀ e ∈ ys, e.1 < n) → dd_ev (dd_cs f (ys.map dd_zm)) x ≤ 0 := by
        intro ys
        induction ys with
        | nil => intro _ _; simp only [List.map_nil, dd_cs]; rw [dd_ev_comm, dd_ev_0]; omega
        | cons e ys ih =>
          intro a1 a2
          simp only [List.map_cons, dd_cs]
          rw [dd_add_ev, dd_mul_ev]
          have b1 := ih (fun a ha => a1 a (List.mem_cons_of_mem _ ha)) (fun a ha => a2 a (List.mem_cons_of_mem _ ha))
          have b2 := Int.mul_nonneg (show 0 ≤ -e.2.2 by have := a1 e List.mem_cons_self; omega) (hx e.1 (a2 e List.mem_cons_self))
          rw [Int.neg_mul] at b2
          simp only [dd_zm] at *
          omega
      have := hz zs (fun e he => by
        by_cases h : 0 < e.2.2
        · exact absurd ⟨e, he, h⟩ hno
        · omega) (fun e he => hg.lt (dd_zl e) (List.mem_map.mpr ⟨e, he, rfl⟩))
      rw [ev] at this
      refine Classical.byContradiction fun h5 => ?_
      have := Int.mul_pos (show 0 < (dd_cs f (zs.map dd_zm)).2.2.2 by omega) hq
      omega
  · have hpos : ∃ e ∈ zs, 0 < e.2.2 := by
      obtain ⟨e, he, h0⟩ := hex
      refine ⟨e, he, ?_⟩
      have : ¬ e.2.2 < 0 := fun h => hall ⟨e, he, h⟩
      omega
    refine neg hpos ?_
    have hz : ∀ ys : List dd_Z, (∀ e ∈ ys, 0 ≤ e.2.2) → (∀ e ∈ ys, e.1 < n) → 0 ≤ dd_ev (dd_cs f (ys.map dd_zm)) x := by
      intro ys
      induction ys with
      | nil => intro _ _; simp only [List.map_nil, dd_cs]; rw [dd_ev_comm, dd_ev_0]; omega
      | cons e ys ih =>
        intro a1 a2
        simp only [List.map_cons, dd_cs]
        rw [dd_add_ev, dd_mul_ev]
        have b1 := ih (fun a ha => a1 a (List.mem_cons_of_mem _ ha)) (fun a ha => a2 a (List.mem_cons_of_mem _ ha))
        have b2 := Int.mul_nonneg (a1 e List.mem_cons_self) (hx e.1 (a2 e List.mem_cons_self))
        simp only [dd_zm] at *
        omega
    have := hz zs (fun e he => by
      have : ¬ e.2.2 < 0 := fun h => hall ⟨e, he, h⟩
      omega) (fun e he => hg.lt (dd_zl e) (List.mem_map.mpr ⟨e, he, rfl⟩))
    rw [ev] at this
    refine Classical.byContradiction fun h5 => ?_
    have := Int.mul_neg_of_neg_of_pos (show (dd_cs f (zs.map dd_zm)).2.2.2 < 0 by omega) hq
    omega

abbrev dd_V3 : Type := Int × Int × Int
def dd_up (u v : dd_V) : dd_V3 := (u.2.1 * v.2.2.1 - u.2.2.1 * v.2.1, u.2.2.1 * v.1 - u.1 * v.2.2.1, u.1 * v.2.1 - u.2.1 * v.1)
def dd_d3 (u : dd_V3) (w : dd_V) : Int := u.1 * w.1 + u.2.1 * w.2.1 + u.2.2 * w.2.2.1
def dd_sq3 (u : dd_V3) : Int := u.1 * u.1 + u.2.1 * u.2.1 + u.2.2 * u.2.2
def dd_bas (f : Nat → dd_V) : List (Nat × Int) → Prop
  | [] => True
  | [_] => True
  | [a, b] => dd_sq3 (dd_up (f a.1) (f b.1)) ≠ 0
  | [a, b, c] => dd_d3 (dd_up (f a.1) (f b.1)) (f c.1) ≠ 0
  | _ => False
def dd_z0 (e : Nat × Int) : dd_Z := (e.1, e.2, 0)
theorem dd_z0_l (t : List (Nat × Int)) : (t.map dd_z0).map dd_zl = t := by
  rw [List.map_map]
  induction t with
  | nil => rfl
  | cons e t ih => rw [List.map_cons, ih]; rfl
theorem dd_z0_m (f : Nat → dd_V) (t : List (Nat × Int)) : dd_cs f ((t.map dd_z0).map dd_zm) = dd_0 := by
  induction t with
  | nil => rfl
  | cons e t ih => simp only [List.map_cons, dd_cs, ih, dd_zm, dd_z0, dd_0_mul, dd_add_0]
theorem dd_sqz (t : Int) : 0 ≤ t * t := by
  rcases Int.le_total 0 t with h | h
  · exact Int.mul_nonneg h h
  · have := Int.mul_nonneg (show 0 ≤ -t by omega) (show 0 ≤ -t by omega)
    rwa [Int.neg_mul_neg] at this
theorem dd_sq3_0 {u : dd_V3} (h : dd_sq3 u = 0) : u.1 = 0 ∧ u.2.1 = 0 ∧ u.2.2 = 0 := by
  have h1 := dd_sqz u.1; have h2 := dd_sqz u.2.1; have h3 := dd_sqz u.2.2
  have z : ∀ t : Int, t * t = 0 → t = 0 := fun t ht => by
    rcases Int.mul_eq_zero.mp ht with h | h <;> exact h
  unfold dd_sq3 at h
  exact ⟨z _ (by omega), z _ (by omega), z _ (by omega)⟩
theorem dd_sq3_p (u : dd_V3) : 0 ≤ dd_sq3 u := by
  have h1 := dd_sqz u.1; have h2 := dd_sqz u.2.1; have h3 := dd_sqz u.2.2
  unfold dd_sq3; omega
def dd_w3 (u : dd_V) : dd_V3 := (u.1, u.2.1, u.2.2.1)
theorem dd_few {f : Nat → dd_V} {n : Nat} (hw : ∀ i, i < n → dd_sq3 (dd_w3 (f i)) ≠ 0) {x : dd_V} (hx : ∀ i, i < n → 0 ≤ dd_ev (f i) x) (hq : 0 < x.2.2.2) (L : Nat) :
    ∀ cs, cs.length ≤ L → dd_good n cs → ∃ m : Int, 0 < m ∧ ∃ ds, dd_good n ds ∧ dd_bas f ds ∧ (dd_cs f ds).1 = m * (dd_cs f cs).1 ∧ (dd_cs f ds).2.1 = m * (dd_cs f cs).2.1 ∧ (dd_cs f ds).2.2.1 = m * (dd_cs f cs).2.2.1 ∧ (dd_cs f ds).2.2.2 ≤ m * (dd_cs f cs).2.2.2 := by
  induction L with
  | zero =>
    intro cs hl hg
    obtain rfl : cs = [] := List.eq_nil_of_length_eq_zero (by omega)
    exact ⟨1, by omega, [], hg, trivial, by omega, by omega, by omega, by omega⟩
  | succ L ih =>
    intro cs hl hg
    have step : ∀ zs : List dd_Z, zs.map dd_zl = cs → (dd_cs f (zs.map dd_zm)).1 = 0 → (dd_cs f (zs.map dd_zm)).2.1 = 0 → (dd_cs f (zs.map dd_zm)).2.2.1 = 0 → (∃ e ∈ zs, e.2.2 ≠ 0) →
        ∃ m : Int, 0 < m ∧ ∃ ds, dd_good n ds ∧ dd_bas f ds ∧ (dd_cs f ds).1 = m * (dd_cs f cs).1 ∧ (dd_cs f ds).2.1 = m * (dd_cs f cs).2.1 ∧ (dd_cs f ds).2.2.1 = m * (dd_cs f cs).2.2.1 ∧ (dd_cs f ds).2.2.2 ≤ m * (dd_cs f cs).2.2.2 := by
      intro zs hz h1 h2 h3 hex
      obtain ⟨m, hm, c1, g1, l1, e1, e2, e3, e4⟩ := dd_less (f := f) (n := n) (zs := zs) (by rw [hz]; exact hg) hx hq h1 h2 h3 hex
      have hlen : zs.length = cs.length := by have := congrArg List.length hz; simpa using this
      obtain ⟨k, hk, ds, g2, b2, k1, k2, k3, k4⟩ := ih c1 (by omega) g1
      rw [hz] at e1 e2 e3 e4
      refine ⟨k * m, Int.mul_pos hk hm, ds, g2, b2, ?_, ?_, ?_, ?_⟩
      · rw [k1, e1, Int.mul_assoc]
      · rw [k2, e2, Int.mul_assoc]
      · rw [k3, e3, Int.mul_assoc]
      · have := Int.mul_le_mul_of_nonneg_left e4 (Int.le_of_lt hk)
        rw [Int.mul_assoc]; omega
    have same : dd_bas f cs → ∃ m : Int, 0 < m ∧ ∃ ds, dd_good n ds ∧ dd_bas f ds ∧ (dd_cs f ds).1 = m * (dd_cs f cs).1 ∧ (dd_cs f ds).2.1 = m * (dd_cs f cs).2.1 ∧ (dd_cs f ds).2.2.1 = m * (dd_cs f cs).2.2.1 ∧ (dd_cs f ds).2.2.2 ≤ m * (dd_cs f cs).2.2.2 :=
      fun hb => ⟨1, by omega, cs, hg, hb, by omega, by omega, by omega, by omega⟩
    match cs, hg, step, same with
    | [], _, _, same => exact same trivial
    | [_], _, _, same => exact same trivial
    | a :: b :: t, hg, step, same =>
      have hb := hw b.1 (hg.lt b (by simp))
      by_cases h0 : dd_sq3 (dd_up (f a.1) (f b.1)) = 0
      · obtain ⟨p1, p2, p3⟩ := dd_sq3_0 h0
        refine step ((a.1, a.2, dd_sq3 (dd_w3 (f b.1))) :: (b.1, b.2, -((f a.1).1 * (f b.1).1 + (f a.1).2.1 * (f b.1).2.1 + (f a.1).2.2.1 * (f b.1).2.2.1)) :: t.map dd_z0) ?_ ?_ ?_ ?_ ⟨_, List.mem_cons_self, hb⟩
        · simp only [List.map_cons, dd_z0_l]; rfl
        all_goals
          simp only [List.map_cons, dd_cs, dd_z0_m, dd_add_0]
          simp only [dd_zm, dd_add, dd_mul, dd_sq3, dd_w3, dd_up] at *
          grind
      · match t, hg, step, same with
        | [], _, _, same => exact same h0
        | c :: s, hg, step, same =>
          by_cases h1 : dd_d3 (dd_up (f a.1) (f b.1)) (f c.1) = 0
          · refine step ((a.1, a.2, (dd_up (f b.1) (f c.1)).1 * (dd_up (f a.1) (f b.1)).1 + (dd_up (f b.1) (f c.1)).2.1 * (dd_up (f a.1) (f b.1)).2.1 + (dd_up (f b.1) (f c.1)).2.2 * (dd_up (f a.1) (f b.1)).2.2) :: (b.1, b.2, (dd_up (f c.1) (f a.1)).1 * (dd_up (f a.1) (f b.1)).1 + (dd_up (f c.1) (f a.1)).2.1 * (dd_up (f a.1) (f b.1)).2.1 + (dd_up (f c.1) (f a.1)).2.2 * (dd_up (f a.1) (f b.1)).2.2) :: (c.1, c.2, dd_sq3 (dd_up (f a.1) (f b.1))) :: s.map dd_z0) ?_ ?_ ?_ ?_ ⟨(c.1, c.2, dd_sq3 (dd_up (f a.1) (f b.1))), by simp, h0⟩
            · simp only [List.map_cons, dd_z0_l]; rfl
            all_goals
              simp only [List.map_cons, dd_cs, dd_z0_m, dd_add_0]
              simp only [dd_zm, dd_add, dd_mul, dd_sq3, dd_d3, dd_up] at *
              grind
          · match s, hg, step, same with
            | [], _, _, same => exact same h1
            | d :: s, hg, step, same =>
              refine step ((a.1, a.2, dd_d3 (dd_up (f d.1) (f b.1)) (f c.1)) :: (b.1, b.2, dd_d3 (dd_up (f a.1) (f d.1)) (f c.1)) :: (c.1, c.2, dd_d3 (dd_up (f a.1) (f b.1)) (f d.1)) :: (d.1, d.2, -(dd_d3 (dd_up (f a.1) (f b.1)) (f c.1))) :: s.map dd_z0) ?_ ?_ ?_ ?_ ⟨(d.1, d.2, -(dd_d3 (dd_up (f a.1) (f b.1)) (f c.1))), by simp, by show -(dd_d3 (dd_up (f a.1) (f b.1)) (f c.1)) ≠ 0; omega⟩
              · simp only [List.map_cons, dd_z0_l]; rfl
              all_goals
                simp only [List.map_cons, dd_cs, dd_z0_m, dd_add_0]
                simp only [dd_zm, dd_add, dd_mul, dd_d3, dd_up] at *
                grind
