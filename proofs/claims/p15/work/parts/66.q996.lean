theorem inI_neg {v y : Int32} (h : v < 0) : inI v (nI 0) y = false := decide_eq_false (fun q => q.1 h)
theorem inI_big {i g : Nat} (hg : g < 2 ^ 31) (hi : i < 2 ^ 31) (h : g ≤ i) : inI (nI i) (nI 0) (nI g - nI 1) = false := by
  show inI (nI i) 0 (nI g - 1) = false
  rw [inI_dec hg]
  exact decide_eq_false (fun q => absurd ((nI_ltI hi hg).mp q.2) (by omega))
theorem inI_3f {k : Nat} (hk : k < 2 ^ 31) (h : 4 ≤ k) : inI (nI k) (nI 0) (nI 3) = false := decide_eq_false (fun q => q.2 (nI_lt (by omega) hk))
theorem inI_3t {k : Nat} (h : k < 4) : inI (nI k) (nI 0) (nI 3) = true := decide_eq_true ⟨nI_pos (by omega), nI_nlt (by omega) (by omega)⟩
