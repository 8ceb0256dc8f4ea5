abbrev LSt : Type := Bool × Int64 × Int64
def lsI (I : gm_I) (r : Nat) (b : Bool) : gm_I := gm_up I r 20 (bI b)
def lsJ (J : gm_J) (r : Nat) (p q : Int64) (w : V3) : gm_J := gm_up (gm_up (gm_up (gm_up (gm_up J r 21 p) r 22 q) r 26 w.1) r 27 w.2.1) r 28 w.2.2
def bear (s : LSt) (up dn : Int64) : LSt := if s.1 = false ∨ s.2.1 * dn < up * s.2.2 then (true, up, dn) else s
def G3 (J : gm_J) (r : Nat) : V3 := (J r 23, J r 24, J r 25)
def upr (J : gm_J) (r i j : Nat) : V3 := (J (r + 13) i * J (r + 14) j - J (r + 14) i * J (r + 13) j, J (r + 14) i * J (r + 12) j - J (r + 12) i * J (r + 14) j, J (r + 12) i * J (r + 13) j - J (r + 13) i * J (r + 12) j)
def one (J : gm_J) (r i : Nat) (s : LSt) : LSt :=
  if (J r 24 * J (r + 14) i = J r 25 * J (r + 13) i ∧ J r 25 * J (r + 12) i = J r 23 * J (r + 14) i ∧ J r 23 * J (r + 13) i = J r 24 * J (r + 12) i) ∧ 0 < J r 23 * J (r + 12) i + J r 24 * J (r + 13) i + J r 25 * J (r + 14) i then
    bear s ((J r 23 * J (r + 12) i + J r 24 * J (r + 13) i + J r 25 * J (r + 14) i) * J (r + 15) i) (J (r + 12) i * J (r + 12) i + J (r + 13) i * J (r + 13) i + J (r + 14) i * J (r + 14) i)
  else s
def sqr (u : V3) : Int64 := u.1 * u.1 + u.2.1 * u.2.1 + u.2.2 * u.2.2
def fst2 (J : gm_J) (r j : Nat) (u : V3) : Int64 := (J r 24 * J (r + 14) j - J r 25 * J (r + 13) j) * u.1 + (J r 25 * J (r + 12) j - J r 23 * J (r + 14) j) * u.2.1 + (J r 23 * J (r + 13) j - J r 24 * J (r + 12) j) * u.2.2
def snd2 (J : gm_J) (r i : Nat) (u : V3) : Int64 := (J (r + 13) i * J r 25 - J (r + 14) i * J r 24) * u.1 + (J (r + 14) i * J r 23 - J (r + 12) i * J r 25) * u.2.1 + (J (r + 12) i * J r 24 - J (r + 13) i * J r 23) * u.2.2
def two (J : gm_J) (r i j : Nat) (s : LSt) : LSt :=
  if sqr (upr J r i j) = 0 then s
  else if J r 23 * (upr J r i j).1 + J r 24 * (upr J r i j).2.1 + J r 25 * (upr J r i j).2.2 = 0 then
    if ¬ fst2 J r j (upr J r i j) < 0 ∧ ¬ snd2 J r i (upr J r i j) < 0 then bear s (fst2 J r j (upr J r i j) * J (r + 15) i + snd2 J r i (upr J r i j) * J (r + 15) j) (sqr (upr J r i j)) else s
  else s
def all3 (J : gm_J) (r k : Nat) (u : V3) : Int64 := u.1 * J (r + 12) k + u.2.1 * J (r + 13) k + u.2.2 * J (r + 14) k
def dot3 (J : gm_J) (r : Nat) (u : V3) : Int64 := u.1 * J r 23 + u.2.1 * J r 24 + u.2.2 * J r 25
def sgn (x : Int64) : Int64 := if 0 < x then 1 else -1
def three (J : gm_J) (r i j k : Nat) (s : LSt) : LSt :=
  if all3 J r k (upr J r i j) = 0 then s
  else if ¬ sgn (all3 J r k (upr J r i j)) * dot3 J r (upr J r j k) < 0 ∧ ¬ sgn (all3 J r k (upr J r i j)) * dot3 J r (upr J r k i) < 0 ∧ ¬ sgn (all3 J r k (upr J r i j)) * dot3 J r (upr J r i j) < 0 then
    bear s (sgn (all3 J r k (upr J r i j)) * dot3 J r (upr J r j k) * J (r + 15) i + sgn (all3 J r k (upr J r i j)) * dot3 J r (upr J r k i) * J (r + 15) j + sgn (all3 J r k (upr J r i j)) * dot3 J r (upr J r i j) * J (r + 15) k) (sgn (all3 J r k (upr J r i j)) * all3 J r k (upr J r i j))
  else s
def lsC (J : gm_J) (r i j : Nat) : Nat → LSt → LSt
  | 0, s => s
  | k + 1, s => three J r i j k (lsC J r i j k s)
def lsB (J : gm_J) (r i : Nat) : Nat → LSt → LSt
  | 0, s => s
  | j + 1, s => lsC J r i j j (two J r i j (lsB J r i j s))
def lsA (J : gm_J) (r : Nat) : Nat → LSt → LSt
  | 0, s => s
  | i + 1, s => lsB J r i i (one J r i (lsA J r i s))
def lst (J : gm_J) (r n : Nat) : LSt := if J r 23 = 0 ∧ J r 24 = 0 ∧ J r 25 = 0 then (true, 0, 1) else lsA J r n (false, J r 21, J r 22)
theorem lsI_20 (I : gm_I) (r : Nat) (b : Bool) : lsI I r b r 20 = bI b := by simp [lsI, gm_up]
theorem lsI_o (I : gm_I) {r q k : Nat} (b : Bool) (h : q ≠ r ∨ k ≠ 20) : lsI I r b q k = I q k := by
  unfold lsI; exact gm_up_ne _ _ h
theorem lsJ_o (J : gm_J) {r q k : Nat} {p x : Int64} {w : V3} (h : q ≠ r ∨ (k ≠ 21 ∧ k ≠ 22 ∧ k ≠ 26 ∧ k ≠ 27 ∧ k ≠ 28)) : lsJ J r p x w q k = J q k := by
  unfold lsJ
  rcases h with h | ⟨h1, h2, h3, h4, h5⟩
  · simp [gm_up, h]
  · simp [gm_up, h1, h2, h3, h4, h5]
theorem lsI_id {I : gm_I} {r : Nat} {b : Bool} (h : I r 20 = bI b) : lsI I r b = I := by
  unfold lsI; rw [← h]; exact gm_up_id _ _ _
theorem lsJ_id (J : gm_J) (r : Nat) : lsJ J r (J r 21) (J r 22) (J r 26, J r 27, J r 28) = J := by
  simp only [lsJ, gm_up_id]
theorem bears_ls {I : gm_I} {J : gm_J} {r : Nat} {s : LSt} {w : V3} {up dn : Int64} : (if lsI I r s.1 r 20 = 0 ∨ lsJ J r s.2.1 s.2.2 w r 21 * dn < up * lsJ J r s.2.1 s.2.2 w r 22 then (gm_up (lsI I r s.1) r 20 (nI 1), gm_up (gm_up (lsJ J r s.2.1 s.2.2 w) r 21 up) r 22 dn) else (lsI I r s.1, lsJ J r s.2.1 s.2.2 w)) = (lsI I r (bear s up dn).1, lsJ J r (bear s up dn).2.1 (bear s up dn).2.2 w) := by
  have e1 : lsJ J r s.2.1 s.2.2 w r 21 = s.2.1 := by simp [lsJ, gm_up]
  have e2 : lsJ J r s.2.1 s.2.2 w r 22 = s.2.2 := by simp [lsJ, gm_up]
  have e0 : (lsI I r s.1 r 20 = 0) ↔ s.1 = false := by
    rw [lsI_20]
    cases s.1 <;> simp [bI]
  rw [e1, e2]
  unfold bear
  by_cases h : s.1 = false ∨ s.2.1 * dn < up * s.2.2
  · rw [if_pos h, if_pos (h.imp e0.mpr id)]
    simp only [Prod.mk.injEq]
    refine ⟨by unfold lsI; rw [gm_up_up]; rfl, ?_⟩
    funext q k
    simp only [lsJ, gm_up]
    repeat' split
    all_goals simp_all
  · rw [if_neg h, if_neg (fun q => h (q.imp e0.mp id))]
theorem upr_ls {J : gm_J} {r i j : Nat} {p x : Int64} {w : V3} : gm_up (gm_up (gm_up (lsJ J r p x w) r 26 (lsJ J r p x w (r + 13) i * lsJ J r p x w (r + 14) j - lsJ J r p x w (r + 14) i * lsJ J r p x w (r + 13) j)) r 27 (lsJ J r p x w (r + 14) i * lsJ J r p x w (r + 12) j - lsJ J r p x w (r + 12) i * lsJ J r p x w (r + 14) j)) r 28 (lsJ J r p x w (r + 12) i * lsJ J r p x w (r + 13) j - lsJ J r p x w (r + 13) i * lsJ J r p x w (r + 12) j) = lsJ J r p x (upr J r i j) := by
  have e : ∀ k i, k ≠ 0 → lsJ J r p x w (r + k) i = J (r + k) i := fun k i h => lsJ_o J (Or.inl (by omega))
  rw [e 12 _ (by omega), e 13 _ (by omega), e 14 _ (by omega), e 12 _ (by omega), e 13 _ (by omega), e 14 _ (by omega)]
  funext q k
  simp only [lsJ, gm_up, upr]
  repeat' split
  all_goals simp_all
