-- BOTH SIDES OF term
def iR (x : Int32) (z B : Int) : Prop := x.toInt = z ∧ -B ≤ z ∧ z ≤ B
theorem iR_bm {z : Int} (h1 : -2147483648 ≤ z) (h2 : z < 2147483648) : z.bmod (2 ^ 32) = z := by
  rw [Int.bmod_eq_of_le] <;> omega
theorem iR.add {x y : Int32} {a b A B : Int} (hx : iR x a A) (hy : iR y b B) (h : A + B < 2147483648) : iR (x + y) (a + b) (A + B) := by
  obtain ⟨h1, h2, h3⟩ := hx
  obtain ⟨k1, k2, k3⟩ := hy
  refine ⟨?_, by omega, by omega⟩
  rw [Int32.toInt_add, h1, k1]; exact iR_bm (by omega) (by omega)
theorem iR.sub {x y : Int32} {a b A B : Int} (hx : iR x a A) (hy : iR y b B) (h : A + B < 2147483648) : iR (x - y) (a - b) (A + B) := by
  obtain ⟨h1, h2, h3⟩ := hx
  obtain ⟨k1, k2, k3⟩ := hy
  refine ⟨?_, by omega, by omega⟩
  rw [Int32.toInt_sub, h1, k1]; exact iR_bm (by omega) (by omega)
theorem iR.mul {x y : Int32} {a b A B : Int} (hx : iR x a A) (hy : iR y b B) (h : A * B < 2147483648) : iR (x * y) (a * b) (A * B) := by
  obtain ⟨h1, h2, h3⟩ := hx
  obtain ⟨k1, k2, k3⟩ := hy
  have := dd_mulb ⟨h2, h3⟩ ⟨k2, k3⟩
  refine ⟨?_, this⟩
  rw [Int32.toInt_mul, h1, k1]; exact iR_bm (by omega) (by omega)
theorem iR.le {x : Int32} {a A B : Int} (hx : iR x a A) (h : A ≤ B) : iR x a B := ⟨hx.1, by have := hx.2; omega, by have := hx.2; omega⟩
theorem iR.l {x : Int32} {a A : Int} (hx : iR x a A) : dd_R x.toInt64 a A := ⟨(Int32.toInt_toInt64 x).trans hx.1, hx.2⟩
theorem iR.sum3 {x y z p q s : Int32} {A B : Int} (h1 : iR x x.toInt A) (h2 : iR y y.toInt A) (h3 : iR z z.toInt A) (k1 : iR p p.toInt B) (k2 : iR q q.toInt B) (k3 : iR s s.toInt B) (hb : A * B < 100000) (h0 : 0 ≤ A * B) :
    iR (x * p + y * q + z * s) (x.toInt * p.toInt + y.toInt * q.toInt + z.toInt * s.toInt) (A * B + A * B + A * B) ∧ dd_R (x.toInt64 * p.toInt64 + y.toInt64 * q.toInt64 + z.toInt64 * s.toInt64) (x.toInt * p.toInt + y.toInt * q.toInt + z.toInt * s.toInt) (A * B + A * B + A * B) := by
  refine ⟨((h1.mul k1 (by omega)).add (h2.mul k2 (by omega)) (by omega)).add (h3.mul k3 (by omega)) (by omega), ?_⟩
  exact ((h1.l.mul k1.l (by omega)).add (h2.l.mul k2.l (by omega)) (by omega)).add (h3.l.mul k3.l (by omega)) (by omega)
/-- a term behind a change, in whole numbers -/
def wI (I : gm_I) (w i : Nat) (a b c : Int32) : Int := a.toInt * (I (w + 3) i).toInt + b.toInt * (I (w + 3) (3 + i)).toInt + c.toInt * (I (w + 3) (6 + i)).toInt
def cI (I : gm_I) (w : Nat) (a b c : Int32) : Int := a.toInt * (I (w + 4) 0).toInt + b.toInt * (I (w + 4) 1).toInt + c.toInt * (I (w + 4) 2).toInt
def gI (I : gm_I) (w : Nat) (a b c : Int32) : dd_V3 := (a.toInt - wI I w 0 a b c, b.toInt - wI I w 1 a b c, c.toInt - wI I w 2 a b c)
section TermNumbers
variable {I : gm_I} {w nm m : Nat} {a b c : Int32}
theorem tq_f (h : gqW I w nm) {i : Nat} (hi : i < 9) : iR (I (w + 3) i) (I (w + 3) i).toInt 3 := by
  have q := (h.2.1 (i / 3) (i % 3) (by omega) (by omega)).1
  rw [show 3 * (i / 3) + i % 3 = i by omega] at q
  have := inI_int (m := 3) (by omega) q
  exact ⟨rfl, by omega, by omega⟩
theorem tq_c (h : gqW I w nm) {i : Nat} (hi : i < 3) : iR (I (w + 4) i) (I (w + 4) i).toInt 99 := by
  have := inI_int (m := 99) (by omega) (h.2.2 i hi)
  exact ⟨rfl, by omega, by omega⟩
theorem tq_a {v : Int32} (h : -(2 : Int) ≤ v.toInt ∧ v.toInt ≤ 2) : iR v v.toInt 2 := ⟨rfl, h.1, h.2⟩
theorem tq_w (h : gqW I w nm) (ha : iR a a.toInt 2) (hb : iR b b.toInt 2) (hc : iR c c.toInt 2) {i : Nat} (hi : i < 3) : iR (wgt I w i a b c) (wI I w i a b c) 18 ∧ dd_R (a.toInt64 * (I (w + 3) i).toInt64 + b.toInt64 * (I (w + 3) (3 + i)).toInt64 + c.toInt64 * (I (w + 3) (6 + i)).toInt64) (wI I w i a b c) 18 :=
  iR.sum3 ha hb hc (tq_f h (by omega)) (tq_f h (by omega)) (tq_f h (by omega)) (by decide) (by decide)
theorem tq_k (h : gqW I w nm) (ha : iR a a.toInt 2) (hb : iR b b.toInt 2) (hc : iR c c.toInt 2) : iR (cst I w a b c) (cI I w a b c) 594 ∧ dd_R (a.toInt64 * (I (w + 4) 0).toInt64 + b.toInt64 * (I (w + 4) 1).toInt64 + c.toInt64 * (I (w + 4) 2).toInt64) (cI I w a b c) 594 :=
  iR.sum3 ha hb hc (tq_c h (by omega)) (tq_c h (by omega)) (tq_c h (by omega)) (by decide) (by decide)
/-- the term's row behind the change: less by so much or more -/
theorem tq_row (h : gqW I w nm) (ha : iR a a.toInt 2) (hb : iR b b.toInt 2) (hc : iR c c.toInt 2) {s : Nat} (hs : s ≤ 1) : iR (a - wgt I w 0 a b c) (gI I w a b c).1 20 ∧ iR (b - wgt I w 1 a b c) (gI I w a b c).2.1 20 ∧ iR (c - wgt I w 2 a b c) (gI I w a b c).2.2 20 ∧ iR (nI s + cst I w a b c) ((s : Int) + cI I w a b c) 595 := by
  refine ⟨ha.sub (tq_w h ha hb hc (by omega)).1 (by decide), hb.sub (tq_w h ha hb hc (by omega)).1 (by decide), hc.sub (tq_w h ha hb hc (by omega)).1 (by decide), ?_⟩
  have e : iR (nI s) (s : Int) 1 := ⟨nI_toInt (by omega), by omega, by omega⟩
  exact (e.add (tq_k h ha hb hc).1 (by decide)).le (by decide)
theorem tq_pz (h : gqW I w nm) (h1 : 1 ≤ nm) (h3 : nm ≤ 3) (hb : nm < 2 → b = 0) (hc : nm < 3 → c = 0) (d : Int) : dd_pz nm ((gI I w a b c).1, (gI I w a b c).2.1, (gI I w a b c).2.2, d) := by
  have z : ∀ i j, i < nm → nm ≤ j → j < 3 → (I (w + 3) (3 * i + j)).toInt = 0 := fun i j q1 q2 q3 => by
    rw [(h.2.1 i j (by omega) q3).2 q1 q2]; rfl
  have t0 : (0 : Int32).toInt = 0 := rfl
  refine ⟨fun q => by omega, fun q => ?_, fun q => ?_⟩
  · show b.toInt - (a.toInt * (I (w + 3) 1).toInt + b.toInt * (I (w + 3) (3 + 1)).toInt + c.toInt * (I (w + 3) (6 + 1)).toInt) = 0
    have e := z 0 1 (by omega) (by omega) (by omega)
    rw [show 3 * 0 + 1 = 1 by omega] at e
    rw [hb q, hc (by omega), t0, e]; simp
  · show c.toInt - (a.toInt * (I (w + 3) 2).toInt + b.toInt * (I (w + 3) (3 + 2)).toInt + c.toInt * (I (w + 3) (6 + 2)).toInt) = 0
    have e := z 0 2 (by omega) (by omega) (by omega)
    rw [show 3 * 0 + 2 = 2 by omega] at e
    rw [hc q, t0, e]
    by_cases q2 : nm < 2
    · rw [hb q2, t0]; simp
    · have e2 := z 1 2 (by omega) (by omega) (by omega)
      rw [show 3 * 1 + 2 = 3 + 2 by omega] at e2
      rw [e2]; simp
theorem wgt_eq {I' : gm_I} (e : I' (w + 3) = I (w + 3)) (i : Nat) : wgt I' w i a b c = wgt I w i a b c := by unfold wgt; rw [e]
theorem cst_eq {I' : gm_I} (e : I' (w + 4) = I (w + 4)) : cst I' w a b c = cst I w a b c := by unfold cst; rw [e]
end TermNumbers
