theorem inI_dec {v : Int32} {n : Nat} (hn : n < 2 ^ 31) : inI v 0 (nI n - 1) = decide (¬ v < 0 ∧ v < nI n) := by
  rw [Bool.eq_iff_iff, decide_eq_true_iff]
  constructor
  · intro h
    obtain ⟨j, hj, rfl⟩ := inI_nat hn h
    exact ⟨nI_pos (by omega), nI_lt hj hn⟩
  · rintro ⟨h1, h2⟩
    obtain ⟨j, hj, rfl⟩ := nI_of h1
    exact inI_in hn ((nI_ltI hj hn).mp h2)
/-- the loop j, the way k of a loop -/
abbrev Lq (B j : Nat) : Nat := B + 12 + 21 * j
abbrev Wq (B j k : Nat) : Nat := B + 12 + 21 * j + 6 + 5 * k
def fwB (I : gm_I) (B n : Nat) (v w : Int32) : Bool := inI v 0 (nI n - 1) && inI w 0 (I (B + 12 + 21 * nN v) 3 - 1)
def fnB (I : gm_I) (B n : Nat) (v w : Int32) : Bool := inI v 0 (nI n - 1) && inI w 0 (I (B + 12 + 21 * nN v) 0 - 1)
theorem fwB_j {I : gm_I} {B n : Nat} {v w : Int32} (hn : n ≤ 8) (hV : inv_FT I B) (h : fwB I B n v w = true) : ∃ j k m, j < n ∧ k < m ∧ m ≤ 3 ∧ v = nI j ∧ w = nI k ∧ I (B + 12 + 21 * j) 3 = nI m := by
  unfold fwB at h
  rw [Bool.and_eq_true] at h
  obtain ⟨j, hj, rfl⟩ := inI_nat (by omega) h.1
  obtain ⟨m, hm, em⟩ := (hV.2.1 j (by omega)).2.2.1
  have h2 := h.2
  rw [nN_nI (by omega), em] at h2
  obtain ⟨k, hk, rfl⟩ := inI_nat (by omega) h2
  exact ⟨j, k, m, hj, hk, hm, rfl, rfl, em⟩
theorem fnB_j {I : gm_I} {B n : Nat} {v w : Int32} (hn : n ≤ 8) (hV : inv_FT I B) (h : fnB I B n v w = true) : ∃ j k m, j < n ∧ k < m ∧ m ≤ 3 ∧ v = nI j ∧ w = nI k ∧ I (B + 12 + 21 * j) 0 = nI m := by
  unfold fnB at h
  rw [Bool.and_eq_true] at h
  obtain ⟨j, hj, rfl⟩ := inI_nat (by omega) h.1
  obtain ⟨m, hm, em⟩ := (hV.2.1 j (by omega)).1
  have h2 := h.2
  rw [nN_nI (by omega), em] at h2
  obtain ⟨k, hk, rfl⟩ := inI_nat (by omega) h2
  exact ⟨j, k, m, hj, hk, hm, rfl, rfl, em⟩
