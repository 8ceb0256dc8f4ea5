theorem copn_lt {I : gm_I} {o : Nat} {v : V3} (h : inv_Lp I o) : copn I o v < 8 := by
  obtain ⟨m, hm, em⟩ := h.2.2.1
  unfold copn
  split
  · rw [em, nN_nI (by omega)]
    have := cops_lt I o v m
    have h2 : (2 : Nat) ^ m ≤ 2 ^ 3 := Nat.pow_le_pow_right (by omega) hm
    omega
  · omega
