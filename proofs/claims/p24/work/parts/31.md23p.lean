def fc (I : gm_I) (r w i : Nat) : Int64 := (I (r + 7) (9 * w + i)).toInt64
def cn (I : gm_I) (r w i : Nat) : Int64 := (I (r + 8) (3 * w + i)).toInt64
/-- a term behind the change: its goal, its constant -/
def chG (I : gm_I) (r w : Nat) (a b c : Int64) : V3 := (a * (I (r + 7) (9 * w)).toInt64 + b * fc I r w 3 + c * fc I r w 6, a * fc I r w 1 + b * fc I r w 4 + c * fc I r w 7, a * fc I r w 2 + b * fc I r w 5 + c * fc I r w 8)
def chC (I : gm_I) (r w : Nat) (a b c : Int64) : Int64 := a * (I (r + 8) (3 * w)).toInt64 + b * cn I r w 1 + c * cn I r w 2
def fallsV (f : Nat → Nat → Int64) (g : V3) (n : Nat) (more : Int64) : Int32 := if (LQ f g n).1 = false ∨ (LQ f g n).2.1 < more * (LQ f g n).2.2 then 0 else if (more + 1) * (LQ f g n).2.2 ≤ (LQ f g n).2.1 then 6 else 2
theorem nor3 {s : LSt} {y : Int64} (h : s.1 = true) (h2 : y ≤ s.2.1) : ¬ (s.1 = false ∨ s.2.1 < y) := by
  rintro (q | q)
  · rw [h] at q; exact absurd q (by decide)
  · exact absurd q (Int64.not_lt.mpr h2)
theorem fallsV_of {f : Nat → Nat → Int64} {g : V3} {n : Nat} {more : Int64} {s : LSt} (h : LR s (LQ f g n)) : fallsV f g n more = if s.1 = false ∨ s.2.1 < more * s.2.2 then 0 else if (more + 1) * s.2.2 ≤ s.2.1 then 6 else 2 := by
  unfold fallsV
  generalize LQ f g n = q at h ⊢
  cases ht : q.1 with
  | true => rw [h.2 ht, ht]
  | false => rw [if_pos (Or.inl rfl), if_pos (Or.inl (h.1.trans ht))]
