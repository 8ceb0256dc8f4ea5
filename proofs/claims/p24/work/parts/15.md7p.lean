theorem nN_nI {n : Nat} (h : n < 2 ^ 31) : nN (nI n) = n := nI_clamp h
/-- a change goes: the next numbers, if none is too great -/
def goV (I : gm_I) (r j k : Nat) (x y z : Int64) : Int64 × Int64 × Int64 := (becV I r (3 * j + k) 0 x y z, (if nN (I (r + 1) j) ≤ 1 then 0 else becV I r (3 * j + k) 1 x y z), (if nN (I (r + 1) j) ≤ 2 then 0 else becV I r (3 * j + k) 2 x y z))
def goB (v : Int64 × Int64 × Int64) : Bool := nearB v.1 && nearB v.2.1 && nearB v.2.2
def xyz (J : gm_J) (r : Nat) (v : Int64 × Int64 × Int64) : gm_J := gm_up (gm_up (gm_up J r 35 v.1) r 36 v.2.1) r 37 v.2.2
def sp_goes (I : gm_I) (J : gm_J) (r j k : Nat) : Int32 × gm_M :=
  if goB (goV I r j k (J r 35) (J r 36) (J r 37)) = true then (1, I, xyz J r (goV I r j k (J r 35) (J r 36) (J r 37))) else (0, I, J)
/-- all rows from k on, n of them, hold -/
def allMet (I : gm_I) (q k : Nat) : Nat → Int64 → Int64 → Int64 → Bool
  | 0, _, _, _ => true
  | n + 1, x, y, z => allMet I q k n x y z && metB I q (k + 4 * n) x y z
def wayMet (I : gm_I) (r w : Nat) (x y z : Int64) : Bool := allMet I (r + 6) (8 * w) (nN (I (r + 5) w)) x y z
def opens (I : gm_I) (r j : Nat) (x y z : Int64) : Nat → Nat
  | 0 => 0
  | n + 1 => opens I r j x y z n + if wayMet I r (3 * j + n) x y z = true then 2 ^ n else 0
def openN (I : gm_I) (r j : Nat) (x y z : Int64) : Nat := if allMet I (r + 4) (16 * j) (nN (I (r + 3) j)) x y z = true then opens I r j x y z (nN (I (r + 2) j)) else 0
theorem opens_lt (I : gm_I) (r j : Nat) (x y z : Int64) (n : Nat) : opens I r j x y z n < 2 ^ n := by
  induction n with
  | zero => simp [opens]
  | succ n ih =>
    simp only [opens]
    rw [Nat.pow_succ]
    split <;> omega
theorem allMet_le {I : gm_I} {q k m n : Nat} {x y z : Int64} (h : allMet I q k n x y z = true) (hm : m ≤ n) : allMet I q k m x y z = true := by
  induction n with
  | zero =>
    obtain rfl : m = 0 := by omega
    exact h
  | succ n ih =>
    by_cases e : m = n + 1
    · subst e; exact h
    · simp only [allMet, Bool.and_eq_true] at h
      exact ih h.1 (by omega)
theorem allMet_f {I : gm_I} {q k m n : Nat} {x y z : Int64} (h : metB I q (k + 4 * m) x y z = false) (hm : m < n) : allMet I q k n x y z = false := by
  cases e : allMet I q k n x y z with
  | false => rfl
  | true =>
    have := allMet_le e (show m + 1 ≤ n by omega)
    simp only [allMet, Bool.and_eq_true] at this
    rw [h] at this
    exact absurd this.2 (by decide)
