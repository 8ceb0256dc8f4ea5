/-- the scratch of a question: isBorne, above, below, the goal, ua ub uc -/
abbrev Sc : Type := Bool × Int64 × Int64 × V3 × V3
def glJ (J : gm_J) (r : Nat) (g : V3) : gm_J := gm_up (gm_up (gm_up J r 23 g.1) r 24 g.2.1) r 25 g.2.2
def scI (I : gm_I) (r : Nat) (c : Sc) : gm_I := lsI I r c.1
def scJ (J : gm_J) (r : Nat) (c : Sc) : gm_J := lsJ (glJ J r c.2.2.2.1) r c.2.1 c.2.2.1 c.2.2.2.2
theorem scI_o (I : gm_I) {r q k : Nat} (c : Sc) (h : q ≠ r ∨ k ≠ 20) : scI I r c q k = I q k := lsI_o I c.1 h
theorem scI_20 (I : gm_I) (r : Nat) (c : Sc) : scI I r c r 20 = bI c.1 := lsI_20 I r c.1
theorem scJ_o (J : gm_J) {r q k : Nat} {c : Sc} (h : q ≠ r ∨ k < 21 ∨ 28 < k) : scJ J r c q k = J q k := by
  unfold scJ
  rw [lsJ_o _ (by omega)]
  unfold glJ
  rcases h with h | h
  · simp [gm_up, h]
  · have h1 : k ≠ 23 := by omega
    have h2 : k ≠ 24 := by omega
    have h3 : k ≠ 25 := by omega
    simp [gm_up, h1, h2, h3]
theorem scJ_g (J : gm_J) (r : Nat) (c : Sc) : G3 (scJ J r c) r = c.2.2.2.1 := by
  simp [G3, scJ, lsJ, glJ, gm_up]
theorem scJ_a (J : gm_J) (r : Nat) (c : Sc) : scJ J r c r 21 = c.2.1 ∧ scJ J r c r 22 = c.2.2.1 := by
  simp [scJ, lsJ, glJ, gm_up]
theorem scJ_id (J : gm_J) (r : Nat) (b : Bool) : scJ J r (b, J r 21, J r 22, G3 J r, (J r 26, J r 27, J r 28)) = J := by
  unfold scJ
  have e : glJ J r (G3 J r) = J := by simp only [glJ, G3, gm_up_id]
  rw [e]
  exact lsJ_id J r
theorem goal_sc (J : gm_J) (r : Nat) (c : Sc) (x y z : Int64) : gm_up (gm_up (gm_up (scJ J r c) r 23 x) r 24 y) r 25 z = scJ J r (c.1, c.2.1, c.2.2.1, (x, y, z), c.2.2.2.2) := by
  funext q k
  simp only [scJ, lsJ, glJ, gm_up]
  repeat' split
  all_goals simp_all
theorem least_scJ (J : gm_J) (r : Nat) (c : Sc) (p x : Int64) (w : V3) : lsJ (scJ J r c) r p x w = scJ J r (c.1, p, x, c.2.2.2.1, w) := by
  funext q k
  simp only [scJ, lsJ, glJ, gm_up]
  repeat' split
  all_goals simp_all
theorem least_scI (I : gm_I) (r : Nat) (c : Sc) (b : Bool) : lsI (scI I r c) r b = lsI I r b := by
  unfold scI lsI; exact gm_up_up _ _ _ _ _
/-- the rows and the goal alone -/
def cJ (f : Nat → Nat → Int64) (g : V3) : gm_J := fun q i => if q = 0 then (if i = 23 then g.1 else if i = 24 then g.2.1 else if i = 25 then g.2.2 else 0) else f (q - 12) i
def LQ (f : Nat → Nat → Int64) (g : V3) (n : Nat) : LSt := lst (cJ f g) 0 n
def LR (s t : LSt) : Prop := s.1 = t.1 ∧ (t.1 = true → s = t)
theorem bear_LR {s t : LSt} {u d : Int64} (h : LR s t) : LR (bear s u d) (bear t u d) := by
  cases ht : t.1 with
  | true =>
    rw [h.2 ht]; exact ⟨rfl, fun _ => rfl⟩
  | false =>
    unfold bear
    rw [if_pos (Or.inl (h.1.trans ht)), if_pos (Or.inl ht)]
    exact ⟨rfl, fun _ => rfl⟩
theorem one_LR {J : gm_J} {r i : Nat} {s t : LSt} (h : LR s t) : LR (one J r i s) (one J r i t) := by
  unfold one; split
  · exact bear_LR h
  · exact h
theorem two_LR {J : gm_J} {r i j : Nat} {s t : LSt} (h : LR s t) : LR (two J r i j s) (two J r i j t) := by
  unfold two
  repeat' split
  all_goals first | exact bear_LR h | exact h
theorem three_LR {J : gm_J} {r i j k : Nat} {s t : LSt} (h : LR s t) : LR (three J r i j k s) (three J r i j k t) := by
  unfold three
  repeat' split
  all_goals first | exact bear_LR h | exact h
theorem lsC_LR {J : gm_J} {r i j n : Nat} {s t : LSt} (h : LR s t) : LR (lsC J r i j n s) (lsC J r i j n t) := by
  induction n with
  | zero => exact h
  | succ n ih => exact three_LR ih
theorem lsB_LR {J : gm_J} {r i n : Nat} {s t : LSt} (h : LR s t) : LR (lsB J r i n s) (lsB J r i n t) := by
  induction n with
  | zero => exact h
  | succ n ih => exact lsC_LR (two_LR ih)
theorem lsA_LR {J : gm_J} {r n : Nat} {s t : LSt} (h : LR s t) : LR (lsA J r n s) (lsA J r n t) := by
  induction n with
  | zero => exact h
  | succ n ih => exact lsB_LR (one_LR ih)
section Eqs
variable {J K : gm_J} {r n : Nat}
/-- the same rows (n of them) and goal, at r and at 0 -/
def sameR (J : gm_J) (r : Nat) (K : gm_J) (n : Nat) : Prop := (∀ c, c < 4 → ∀ i, i < n → J (r + 12 + c) i = K (12 + c) i) ∧ J r 23 = K 0 23 ∧ J r 24 = K 0 24 ∧ J r 25 = K 0 25
theorem one_eq (h : sameR J r K n) {i : Nat} (hi : i < n) (s : LSt) : one J r i s = one K 0 i s := by
  have e0 := h.1 0 (by omega) i hi
  have e1 := h.1 1 (by omega) i hi
  have e2 := h.1 2 (by omega) i hi
  have e3 := h.1 3 (by omega) i hi
  simp only [Nat.add_zero, Nat.add_assoc, Nat.reduceAdd] at e0 e1 e2 e3
  simp only [one, e0, e1, e2, e3, h.2.1, h.2.2.1, h.2.2.2, Nat.zero_add]
theorem upr_eq (h : sameR J r K n) {i j : Nat} (hi : i < n) (hj : j < n) : upr J r i j = upr K 0 i j := by
  have e0 := h.1 0 (by omega) i hi
  have e1 := h.1 1 (by omega) i hi
  have e2 := h.1 2 (by omega) i hi
  have d0 := h.1 0 (by omega) j hj
  have d1 := h.1 1 (by omega) j hj
  have d2 := h.1 2 (by omega) j hj
  simp only [Nat.add_zero, Nat.add_assoc, Nat.reduceAdd] at e0 e1 e2 d0 d1 d2
  simp only [upr, e0, e1, e2, d0, d1, d2, Nat.zero_add]
theorem two_eq (h : sameR J r K n) {i j : Nat} (hi : i < n) (hj : j < n) (s : LSt) : two J r i j s = two K 0 i j s := by
  have e0 := h.1 0 (by omega) i hi
  have e1 := h.1 1 (by omega) i hi
  have e2 := h.1 2 (by omega) i hi
  have e3 := h.1 3 (by omega) i hi
  have d0 := h.1 0 (by omega) j hj
  have d1 := h.1 1 (by omega) j hj
  have d2 := h.1 2 (by omega) j hj
  have d3 := h.1 3 (by omega) j hj
  simp only [Nat.add_zero, Nat.add_assoc, Nat.reduceAdd] at e0 e1 e2 e3 d0 d1 d2 d3
  simp only [two, fst2, snd2, upr_eq h hi hj, e0, e1, e2, e3, d0, d1, d2, d3, h.2.1, h.2.2.1, h.2.2.2, Nat.zero_add]
theorem three_eq (h : sameR J r K n) {i j k : Nat} (hi : i < n) (hj : j < n) (hk : k < n) (s : LSt) : three J r i j k s = three K 0 i j k s := by
  have e3 := h.1 3 (by omega) i hi
  have d3 := h.1 3 (by omega) j hj
  have c0 := h.1 0 (by omega) k hk
  have c1 := h.1 1 (by omega) k hk
  have c2 := h.1 2 (by omega) k hk
  have c3 := h.1 3 (by omega) k hk
  simp only [Nat.add_zero, Nat.add_assoc, Nat.reduceAdd] at e3 d3 c0 c1 c2 c3
  simp only [three, all3, dot3, upr_eq h hi hj, upr_eq h hj hk, upr_eq h hk hi, e3, d3, c0, c1, c2, c3, h.2.1, h.2.2.1, h.2.2.2, Nat.zero_add]
theorem lsC_eq (h : sameR J r K n) {i j : Nat} (hi : i < n) (hj : j < n) (m : Nat) (hm : m ≤ n) (s : LSt) : lsC J r i j m s = lsC K 0 i j m s := by
  induction m with
  | zero => rfl
  | succ m ih => simp only [lsC]; rw [ih (by omega), three_eq h hi hj (by omega)]
theorem lsB_eq (h : sameR J r K n) {i : Nat} (hi : i < n) (m : Nat) (hm : m ≤ n) (s : LSt) : lsB J r i m s = lsB K 0 i m s := by
  induction m with
  | zero => rfl
  | succ m ih => simp only [lsB]; rw [ih (by omega), two_eq h hi (by omega), lsC_eq h hi (by omega) m (by omega)]
theorem lsA_eq (h : sameR J r K n) (m : Nat) (hm : m ≤ n) (s : LSt) : lsA J r m s = lsA K 0 m s := by
  induction m with
  | zero => rfl
  | succ m ih => simp only [lsA]; rw [ih (by omega), one_eq h (by omega), lsB_eq h (by omega) m (by omega)]
end Eqs
theorem lst_LQ {J : gm_J} {r n : Nat} {f : Nat → Nat → Int64} {g : V3} (hf : ∀ c, c < 4 → ∀ i, i < n → J (r + 12 + c) i = f c i) (hg : G3 J r = g) : LR (lst J r n) (LQ f g n) := by
  have h : sameR J r (cJ f g) n := by
    refine ⟨fun c hc i hi => ?_, ?_, ?_, ?_⟩
    · rw [hf c hc i hi]
      unfold cJ
      rw [if_neg (by omega), show 12 + c - 12 = c by omega]
    · rw [← hg]; rfl
    · rw [← hg]; rfl
    · rw [← hg]; rfl
  unfold LQ lst
  rw [h.2.1, h.2.2.1, h.2.2.2]
  split
  · exact ⟨rfl, fun _ => rfl⟩
  · rw [lsA_eq h n (Nat.le_refl n)]
    exact lsA_LR ⟨rfl, fun q => absurd (show false = true from q) (by decide)⟩
def rwF (J : gm_J) (r : Nat) : Nat → Nat → Int64 := fun c i => J (r + 12 + c) i
def nothT (f : Nat → Nat → Int64) (k : Nat) : Bool := (LQ f (-(f 0 k), -(f 1 k), -(f 2 k)) k).1 && decide (-(f 3 k) * (LQ f (-(f 0 k), -(f 1 k), -(f 2 k)) k).2.2 < (LQ f (-(f 0 k), -(f 1 k), -(f 2 k)) k).2.1)
def nothB (f : Nat → Nat → Int64) : Nat → Bool
  | 0 => false
  | n + 1 => nothB f n || nothT f n
theorem nothB_t {f : Nat → Nat → Int64} {k n : Nat} (h : nothT f k = true) (hk : k < n) : nothB f n = true := by
  induction n with
  | zero => omega
  | succ n ih =>
    simp only [nothB, Bool.or_eq_true]
    by_cases e : k = n
    · subst e; exact Or.inr h
    · exact Or.inl (ih (by omega))
def leastT (f : Nat → Nat → Int64) (g : V3) (n : Nat) (d : Int64) : Bool := (LQ f g n).1 && decide (d * (LQ f g n).2.2 ≤ (LQ f g n).2.1)
theorem andLR {s t : LSt} (h : LR s t) (p : Int64 → Int64 → Bool) : (t.1 && p t.2.1 t.2.2) = (s.1 && p s.2.1 s.2.2) := by
  cases ht : t.1 with
  | true => rw [h.2 ht, ht]
  | false => rw [h.1, ht]; rfl
theorem nothT_of {f : Nat → Nat → Int64} {k : Nat} {s : LSt} (h : LR s (LQ f (-(f 0 k), -(f 1 k), -(f 2 k)) k)) : nothT f k = (s.1 && decide (-(f 3 k) * s.2.2 < s.2.1)) := andLR h (fun a b => decide (-(f 3 k) * b < a))
theorem leastT_of {f : Nat → Nat → Int64} {g : V3} {n : Nat} {d : Int64} {s : LSt} (h : LR s (LQ f g n)) : leastT f g n d = (s.1 && decide (d * s.2.2 ≤ s.2.1)) := andLR h (fun a b => decide (d * b ≤ a))
theorem noth_f {f : Nat → Nat → Int64} {k : Nat} {s : LSt} (h : LR s (LQ f (-(f 0 k), -(f 1 k), -(f 2 k)) k)) (hno : nothB f k = false) (h0 : s.1 = false ∨ ¬ -(f 3 k) * s.2.2 < s.2.1) : nothB f (k + 1) = false := by
  simp only [nothB]
  rw [hno, Bool.false_or, nothT_of h]
  rcases h0 with h0 | h0
  · rw [h0]; rfl
  · rw [decide_eq_false h0, Bool.and_false]
theorem noth_t {f : Nat → Nat → Int64} {k n : Nat} {s : LSt} (h : LR s (LQ f (-(f 0 k), -(f 1 k), -(f 2 k)) k)) (hk : k < n) (h0 : s.1 = true) (h1 : -(f 3 k) * s.2.2 < s.2.1) : nothB f n = true := by
  refine nothB_t ?_ hk
  rw [nothT_of h, h0, decide_eq_true h1]; rfl
