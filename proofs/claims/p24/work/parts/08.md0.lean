def bI (b : Bool) : Int32 := if b then 1 else 0
theorem bI_01 {x : Int32} {b : Bool} (h : x = bI b) : x = 0 ∨ x = 1 := by
  cases b <;> simp [bI] at h <;> simp [h]
theorem bI_t {x : Int32} {b : Bool} (h : x = bI b) (h0 : ¬ x = 0) : b = true := by
  cases b
  · exact absurd h h0
  · rfl
theorem bI_f {x : Int32} {b : Bool} (h : x = bI b) (h0 : x = 0) : b = false := by
  cases b
  · rfl
  · rw [h] at h0; exact absurd h0 (by decide)
def inI (v lo hi : Int32) : Bool := decide (¬ v < lo ∧ ¬ hi < v)
theorem inI_nat {v : Int32} {n : Nat} (hn : n < 2 ^ 31) (h : inI v 0 (nI n - 1) = true) : ∃ j, j < n ∧ v = nI j := by
  have h := of_decide_eq_true h
  obtain ⟨j, hj, rfl⟩ := nI_of h.1
  refine ⟨j, ?_, rfl⟩
  rcases Nat.lt_or_ge j n with q | q
  · exact q
  · exfalso
    apply h.2
    by_cases h0 : n = 0
    · subst h0
      rw [Int32.lt_iff_toInt_lt, nI_toInt hj, show (nI 0 - 1 : Int32).toInt = -1 from rfl]
      omega
    · obtain ⟨k, rfl⟩ : ∃ k, n = k + 1 := ⟨n - 1, by omega⟩
      rw [nI_pred]
      exact nI_lt (by omega) hj
theorem inI_in {j n : Nat} (hn : n < 2 ^ 31) (h : j < n) : inI (nI j) 0 (nI n - 1) = true := by
  refine decide_eq_true ⟨nI_pos (by omega), ?_⟩
  obtain ⟨k, rfl⟩ : ∃ k, n = k + 1 := ⟨n - 1, by omega⟩
  rw [nI_pred]
  exact nI_nlt (by omega) (by omega)

def nle (I : gm_I) (a k b : Nat) : Prop := ∃ g : Nat, g ≤ b ∧ I a k = nI g
def inv_Md (I : gm_I) (r : Nat) : Prop := nle I r 0 8 ∧ (∀ j, j < 8 → nle I (r + 1) j 3) ∧ (∀ j, j < 8 → nle I (r + 2) j 3) ∧ (∀ j, j < 8 → nle I (r + 3) j 4) ∧ (∀ j, j < 24 → nle I (r + 5) j 2) ∧ nle I r 10 3

theorem nI_one : nI 1 = 1 := rfl
def lpB (I : gm_I) (r : Nat) (v : Int32) : Bool := inI v 0 (I r 0 - 1)
def wyB (I : gm_I) (r : Nat) (v w : Int32) : Bool := lpB I r v && inI w 0 (I (r + 2) v.toNatClampNeg - 1)
def nmB (I : gm_I) (r : Nat) (v w : Int32) : Bool := lpB I r v && inI w 0 (I (r + 1) v.toNatClampNeg - 1)
theorem lpB_j {I : gm_I} {r n : Nat} {v : Int32} (hn : I r 0 = nI n) (h8 : n ≤ 8) (h : lpB I r v = true) : ∃ j, j < n ∧ v = nI j := by
  unfold lpB at h
  rw [hn] at h
  exact inI_nat (by omega) h
theorem wyB_j {I : gm_I} {r : Nat} {v w : Int32} (hV : inv_Md I r) (h : wyB I r v w = true) : ∃ j k, j < 8 ∧ k < 3 ∧ v = nI j ∧ w = nI k ∧ lpB I r v = true ∧ (∀ n, I (r + 2) j = nI n → n ≤ 3 → k < n) := by
  unfold wyB at h
  rw [Bool.and_eq_true] at h
  obtain ⟨n, hn8, hn⟩ := hV.1
  obtain ⟨j, hj, rfl⟩ := lpB_j hn hn8 h.1
  obtain ⟨g, hg, eg⟩ := hV.2.2.1 j (by omega)
  have h2 := h.2
  rw [nI_clamp (by omega), eg] at h2
  obtain ⟨k, hk, rfl⟩ := inI_nat (by omega) h2
  refine ⟨j, k, by omega, by omega, rfl, rfl, h.1, fun n e hn => ?_⟩
  have := (nI_eq (by omega) (by omega)).mp (eg.symm.trans e)
  omega
theorem nmB_j {I : gm_I} {r : Nat} {v w : Int32} (hV : inv_Md I r) (h : nmB I r v w = true) : ∃ j k, j < 8 ∧ k < 3 ∧ v = nI j ∧ w = nI k ∧ lpB I r v = true ∧ (∀ n, I (r + 1) j = nI n → n ≤ 3 → k < n) := by
  unfold nmB at h
  rw [Bool.and_eq_true] at h
  obtain ⟨n, hn8, hn⟩ := hV.1
  obtain ⟨j, hj, rfl⟩ := lpB_j hn hn8 h.1
  obtain ⟨g, hg, eg⟩ := hV.2.1 j (by omega)
  have h2 := h.2
  rw [nI_clamp (by omega), eg] at h2
  obtain ⟨k, hk, rfl⟩ := inI_nat (by omega) h2
  refine ⟨j, k, by omega, by omega, rfl, rfl, h.1, fun n e hn => ?_⟩
  have := (nI_eq (by omega) (by omega)).mp (eg.symm.trans e)
  omega
def numB (nm : Nat) (a b c most : Int32) : Bool := inI a (-most) most && inI b (-most) most && inI c (-most) most && !(decide (a = 0) && decide (b = 0) && decide (c = 0)) && (decide (b = 0) || decide (1 < nm)) && (decide (c = 0) || decide (2 < nm))
def rowB (nm : Nat) (a b c d : Int32) : Bool := numB nm a b c (nI 9) && inI d (-1000) (nI 1000)
def sl_Md (r : Nat) : List (Nat ⊕ Value) := [.inl 0, .inr (.ref (r + 1)), .inr (.ref (r + 2)), .inr (.ref (r + 3)), .inr (.ref (r + 4)), .inr (.ref (r + 5)), .inr (.ref (r + 6)), .inr (.ref (r + 7)), .inr (.ref (r + 8)), .inr (.ref (r + 9)), .inl 0, .inr (.ref (r + 10)), .inl 0, .inl 0, .inr (.ref (r + 11)), .inl 0, .inr (.ref (r + 12)), .inr (.ref (r + 13)), .inr (.ref (r + 14)), .inr (.ref (r + 15)), .inl 0, .inl 1, .inl 1, .inl 1, .inl 1, .inl 1, .inl 1, .inl 1, .inl 1, .inl 1, .inl 1, .inl 1, .inl 1, .inl 0, .inr (.ref (r + 16)), .inl 1, .inl 1, .inl 1]
def is_Md (sh : gm_H) (r : Nat) : Prop := sh r = some (.inl (0, sl_Md r)) ∧ sh (r + 1) = some (.inr (.inl 8)) ∧ sh (r + 2) = some (.inr (.inl 8)) ∧ sh (r + 3) = some (.inr (.inl 8)) ∧ sh (r + 4) = some (.inr (.inl 128)) ∧ sh (r + 5) = some (.inr (.inl 24)) ∧ sh (r + 6) = some (.inr (.inl 192)) ∧ sh (r + 7) = some (.inr (.inl 216)) ∧ sh (r + 8) = some (.inr (.inl 72)) ∧ sh (r + 9) = some (.inr (.inr (.inl 24))) ∧ sh (r + 10) = some (.inr (.inl 12)) ∧ sh (r + 11) = some (.inr (.inl 4)) ∧ sh (r + 12) = some (.inr (.inr (.inl 8))) ∧ sh (r + 13) = some (.inr (.inr (.inl 8))) ∧ sh (r + 14) = some (.inr (.inr (.inl 8))) ∧ sh (r + 15) = some (.inr (.inr (.inl 8))) ∧ sh (r + 16) = some (.inr (.inl 12))
theorem Md_0 {sh : gm_H} {r : Nat} (h : is_Md sh r) : sh r = some (.inl (0, sl_Md r)) := h.1
theorem Md_1 {sh : gm_H} {r : Nat} (h : is_Md sh r) : sh (r + 1) = some (.inr (.inl 8)) := h.2.1
theorem Md_2 {sh : gm_H} {r : Nat} (h : is_Md sh r) : sh (r + 2) = some (.inr (.inl 8)) := h.2.2.1
theorem Md_3 {sh : gm_H} {r : Nat} (h : is_Md sh r) : sh (r + 3) = some (.inr (.inl 8)) := h.2.2.2.1
theorem Md_4 {sh : gm_H} {r : Nat} (h : is_Md sh r) : sh (r + 4) = some (.inr (.inl 128)) := h.2.2.2.2.1
theorem Md_5 {sh : gm_H} {r : Nat} (h : is_Md sh r) : sh (r + 5) = some (.inr (.inl 24)) := h.2.2.2.2.2.1
theorem Md_6 {sh : gm_H} {r : Nat} (h : is_Md sh r) : sh (r + 6) = some (.inr (.inl 192)) := h.2.2.2.2.2.2.1
theorem Md_7 {sh : gm_H} {r : Nat} (h : is_Md sh r) : sh (r + 7) = some (.inr (.inl 216)) := h.2.2.2.2.2.2.2.1
theorem Md_8 {sh : gm_H} {r : Nat} (h : is_Md sh r) : sh (r + 8) = some (.inr (.inl 72)) := h.2.2.2.2.2.2.2.2.1
theorem Md_9 {sh : gm_H} {r : Nat} (h : is_Md sh r) : sh (r + 9) = some (.inr (.inr (.inl 24))) := h.2.2.2.2.2.2.2.2.2.1
theorem Md_10 {sh : gm_H} {r : Nat} (h : is_Md sh r) : sh (r + 10) = some (.inr (.inl 12)) := h.2.2.2.2.2.2.2.2.2.2.1
theorem Md_11 {sh : gm_H} {r : Nat} (h : is_Md sh r) : sh (r + 11) = some (.inr (.inl 4)) := h.2.2.2.2.2.2.2.2.2.2.2.1
theorem Md_12 {sh : gm_H} {r : Nat} (h : is_Md sh r) : sh (r + 12) = some (.inr (.inr (.inl 8))) := h.2.2.2.2.2.2.2.2.2.2.2.2.1
theorem Md_13 {sh : gm_H} {r : Nat} (h : is_Md sh r) : sh (r + 13) = some (.inr (.inr (.inl 8))) := h.2.2.2.2.2.2.2.2.2.2.2.2.2.1
theorem Md_14 {sh : gm_H} {r : Nat} (h : is_Md sh r) : sh (r + 14) = some (.inr (.inr (.inl 8))) := h.2.2.2.2.2.2.2.2.2.2.2.2.2.2.1
theorem Md_15 {sh : gm_H} {r : Nat} (h : is_Md sh r) : sh (r + 15) = some (.inr (.inr (.inl 8))) := h.2.2.2.2.2.2.2.2.2.2.2.2.2.2.2.1
theorem Md_16 {sh : gm_H} {r : Nat} (h : is_Md sh r) : sh (r + 16) = some (.inr (.inl 12)) := h.2.2.2.2.2.2.2.2.2.2.2.2.2.2.2.2
