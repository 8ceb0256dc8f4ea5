def howW (I : gm_I) (J : gm_J) (r j w : Nat) (x : Bool) (a b c : Int32) : Int32 := fallsV (rF I J r j w) (tmG I r (3 * j + w) a b c) (rN I r j w x) (chC I r (3 * j + w) a.toInt64 b.toInt64 c.toInt64)
def bndW (I : gm_I) (J : gm_J) (r j w : Nat) (x : Bool) (a b c : Int32) : Bool := (LQ (rF I J r j w) (a.toInt64, b.toInt64, c.toInt64) (rN I r j w x)).1
def tkW (I : gm_I) (J : gm_J) (r j : Nat) (x : Bool) (o z : Nat) (a b c : Int32) (w s : Nat) : Option Nat :=
  if o / 2 ^ w % 2 = 1 then
    if z / 2 ^ w % 2 = 1 then some (s + 1 * 2 ^ w)
    else if howW I J r j w x a b c = 0 then none
    else if howW I J r j w x a b c = nI 6 ∧ bndW I J r j w x a b c = true then some (s + 1 * 2 ^ w) else some (s + 0)
  else some s
def tkN (I : gm_I) (J : gm_J) (r j : Nat) (x : Bool) (o z : Nat) (a b c : Int32) : Nat → Option Nat
  | 0 => some 0
  | w + 1 => (tkN I J r j x o z a b c w).bind (tkW I J r j x o z a b c w)
theorem tkN_none {I : gm_I} {J : gm_J} {r j : Nat} {x : Bool} {o z : Nat} {a b c : Int32} {w s n : Nat} (h : tkN I J r j x o z a b c w = some s) (h0 : tkW I J r j x o z a b c w s = none) (hw : w < n) : tkN I J r j x o z a b c n = none := by
  induction n with
  | zero => omega
  | succ n ih =>
    simp only [tkN]
    by_cases e : w = n
    · subst e; rw [h]; exact h0
    · rw [ih (by omega)]; rfl
theorem tkN_on {I : gm_I} {J : gm_J} {r j : Nat} {x : Bool} {o z : Nat} {a b c : Int32} {w s t : Nat} (h : tkN I J r j x o z a b c w = some s) (h0 : tkW I J r j x o z a b c w s = some t) : tkN I J r j x o z a b c (w + 1) = some t := by
  simp only [tkN]; rw [h]; exact h0
theorem tkN_lt (I : gm_I) (J : gm_J) (r j : Nat) (x : Bool) (o z : Nat) (a b c : Int32) (n s : Nat) (h : tkN I J r j x o z a b c n = some s) : s < 2 ^ n := by
  induction n generalizing s with
  | zero => simp only [tkN, Option.some.injEq] at h; omega
  | succ n ih =>
    simp only [tkN] at h
    cases h1 : tkN I J r j x o z a b c n with
    | none => rw [h1] at h; exact absurd h (by simp)
    | some t =>
      rw [h1] at h
      have ht := ih t h1
      have h2 : tkW I J r j x o z a b c n t = some s := h
      have : s ≤ t + 1 * 2 ^ n := by
        unfold tkW at h2
        repeat' split at h2
        all_goals simp only [Option.some.injEq, reduceCtorEq] at h2
        all_goals omega
      rw [Nat.pow_succ]
      omega
