theorem leastT_congr {f h : Nat → Nat → Int64} {g : V3} {n : Nat} {d : Int64} (e : ∀ c, c < 4 → ∀ i, i < n → f c i = h c i) : leastT f g n d = leastT h g n d := by
  unfold leastT; rw [LQ_congr e]
theorem fallsV_congr {f h : Nat → Nat → Int64} {g : V3} {n : Nat} {d : Int64} (e : ∀ c, c < 4 → ∀ i, i < n → f c i = h c i) : fallsV f g n d = fallsV h g n d := by
  unfold fallsV; rw [LQ_congr e]
def tmG (I : gm_I) (r w : Nat) (a b c : Int32) : V3 := (a.toInt64 - (chG I r w a.toInt64 b.toInt64 c.toInt64).1, b.toInt64 - (chG I r w a.toInt64 b.toInt64 c.toInt64).2.1, c.toInt64 - (chG I r w a.toInt64 b.toInt64 c.toInt64).2.2)
theorem chG_sp {I : gm_I} {r w n : Nat} {a b c : Int64} : chG (gm_up I r 15 (nI n)) r w a b c = chG I r w a b c := by
  have e : ∀ k, gm_up I r 15 (nI n) (r + 7) k = I (r + 7) k := fun k => gm_up_ne _ _ (Or.inl (by omega))
  simp only [chG, fc, e]
theorem chC_sp {I : gm_I} {r w n : Nat} {a b c : Int64} : chC (gm_up I r 15 (nI n)) r w a b c = chC I r w a b c := by
  have e : ∀ k, gm_up I r 15 (nI n) (r + 8) k = I (r + 8) k := fun k => gm_up_ne _ _ (Or.inl (by omega))
  simp only [chC, cn, e]
