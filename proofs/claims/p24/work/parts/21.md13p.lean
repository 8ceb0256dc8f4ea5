def kb (I : gm_I) (r j : Nat) (a b c : Int32) : Nat := cb I r j (a.toInt64, b.toInt64, c.toInt64) 200 1 (a.toInt64, b.toInt64, c.toInt64)
theorem kb_le (I : gm_I) (r j : Nat) (a b c : Int32) : kb I r j a b c ≤ 200 := cb_le I r j _ 200 1 _ (by omega)
abbrev R4 : Type := Option (Int32 × Int32 × Int32 × Nat)
def rgC (K : Int32 → Int32 → Int32 → Nat) (th a b : Int32) : Nat → Int32 → R4
  | 0, _ => none
  | n + 1, c => if th < c then none else if 0 < K a b c then some (a, b, c, K a b c) else rgC K th a b n (c + Int32.ofInt 1)
def rgB (K : Int32 → Int32 → Int32 → Nat) (se th a : Int32) : Nat → Int32 → R4
  | 0, _ => none
  | n + 1, b => if se < b then none else match rgC K th a b 14 (-th) with
    | some q => some q
    | none => rgB K se th a n (b + Int32.ofInt 1)
def rgA (K : Int32 → Int32 → Int32 → Nat) (si se th : Int32) : Nat → Int32 → R4
  | 0, _ => none
  | n + 1, a => if si < a then none else match rgB K se th a 14 (-se) with
    | some q => some q
    | none => rgA K si se th n (a + Int32.ofInt 1)
def ringR (I : gm_I) (r j s nm : Nat) : R4 := rgA (kb I r j) (nI s) (if nm ≤ 1 then nI 0 else nI s) (if nm ≤ 2 then nI 0 else nI s) 14 (-(nI s))
def v3 (a b c : Int32) : V3 := (a.toInt64, b.toInt64, c.toInt64)
theorem incT {a : Int32} (h1 : -100 ≤ a.toInt) (h2 : a.toInt ≤ 100) : (a + Int32.ofInt 1).toInt = a.toInt + 1 := by
  rw [Int32.toInt_add]
  have : (Int32.ofInt 1).toInt = 1 := by decide
  rw [this, Int.bmod_eq_of_le (by omega) (by omega)]
theorem negN {s : Nat} (h : s ≤ 6) : (-(nI s)).toInt = -(s : Int) := sb_negT (by omega)
/-- one turn of the inner, the middle, the outer loop -/
theorem rgC_out {K : Int32 → Int32 → Int32 → Nat} {th a b c : Int32} {n : Nat} (h : th < c) : rgC K th a b n c = none := by
  cases n with
  | zero => rfl
  | succ n => simp only [rgC]; rw [if_pos h]
theorem rgC_yes {K : Int32 → Int32 → Int32 → Nat} {th a b c : Int32} {n : Nat} (h : ¬ th < c) (hk : 0 < K a b c) : rgC K th a b (n + 1) c = some (a, b, c, K a b c) := by
  simp only [rgC]; rw [if_neg h, if_pos hk]
theorem rgC_on {K : Int32 → Int32 → Int32 → Nat} {th a b c : Int32} {n : Nat} (h : ¬ th < c) (hk : ¬ 0 < K a b c) : rgC K th a b (n + 1) c = rgC K th a b n (c + Int32.ofInt 1) := by
  simp only [rgC]; rw [if_neg h, if_neg hk]
theorem rgB_out {K : Int32 → Int32 → Int32 → Nat} {se th a b : Int32} {n : Nat} (h : se < b) : rgB K se th a n b = none := by
  cases n with
  | zero => rfl
  | succ n => simp only [rgB]; rw [if_pos h]
theorem rgB_yes {K : Int32 → Int32 → Int32 → Nat} {se th a b : Int32} {n : Nat} {q : Int32 × Int32 × Int32 × Nat} (h : ¬ se < b) (hk : rgC K th a b 14 (-th) = some q) : rgB K se th a (n + 1) b = some q := by
  simp only [rgB]; rw [if_neg h, hk]
theorem rgB_on {K : Int32 → Int32 → Int32 → Nat} {se th a b : Int32} {n : Nat} (h : ¬ se < b) (hk : rgC K th a b 14 (-th) = none) : rgB K se th a (n + 1) b = rgB K se th a n (b + Int32.ofInt 1) := by
  simp only [rgB]; rw [if_neg h, hk]
theorem rgA_out {K : Int32 → Int32 → Int32 → Nat} {si se th a : Int32} {n : Nat} (h : si < a) : rgA K si se th n a = none := by
  cases n with
  | zero => rfl
  | succ n => simp only [rgA]; rw [if_pos h]
theorem rgA_yes {K : Int32 → Int32 → Int32 → Nat} {si se th a : Int32} {n : Nat} {q : Int32 × Int32 × Int32 × Nat} (h : ¬ si < a) (hk : rgB K se th a 14 (-se) = some q) : rgA K si se th (n + 1) a = some q := by
  simp only [rgA]; rw [if_neg h, hk]
theorem rgA_on {K : Int32 → Int32 → Int32 → Nat} {si se th a : Int32} {n : Nat} (h : ¬ si < a) (hk : rgB K se th a 14 (-se) = none) : rgA K si se th (n + 1) a = rgA K si se th n (a + Int32.ofInt 1) := by
  simp only [rgA]; rw [if_neg h, hk]
def ringP (I : gm_I) (J : gm_J) (r j s nm : Nat) (z : Int32) (u : gm_M) : Prop := match ringR I r j s nm with
  | none => z = 0 ∧ ∃ t : V3, u = (I, xyz J r t)
  | some q => z = nI q.2.2.2 ∧ q.2.2.2 ≤ 200 ∧ u = (I, put3 (xyz J r (v3 q.1 q.2.1 q.2.2.1)) r j (v3 q.1 q.2.1 q.2.2.1))
theorem ringP_no {I : gm_I} {J : gm_J} {r j s nm : Nat} {t : V3} (h : ringR I r j s nm = none) : ringP I J r j s nm (nI 0) (I, xyz J r t) := by
  unfold ringP; rw [h]; exact ⟨rfl, t, rfl⟩
theorem ringP_yes {I : gm_I} {J : gm_J} {r j s nm : Nat} {a b c : Int32} {k : Nat} (h : ringR I r j s nm = some (a, b, c, k)) (hk : k ≤ 200) : ringP I J r j s nm (nI k) (I, put3 (xyz J r (v3 a b c)) r j (v3 a b c)) := by
  unfold ringP; rw [h]; exact ⟨rfl, hk, rfl⟩
