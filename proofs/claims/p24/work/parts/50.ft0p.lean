def slo (J : gm_J) (q i : Nat) (a b c : Int32) : Int64 := a.toInt64 * J (q + 1) (4 * i) + b.toInt64 * J (q + 1) (4 * i + 1) + c.toInt64 * J (q + 1) (4 * i + 2)
def wor (J : gm_J) (q i : Nat) (a b c d : Int32) : Int64 := a.toInt64 * J (q + 2) (4 * i) + b.toInt64 * J (q + 2) (4 * i + 1) + c.toInt64 * J (q + 2) (4 * i + 2) - d.toInt64 * J (q + 2) (4 * i + 3)
/-- a row holds at a ray -/
def rayH (J : gm_J) (q i : Nat) (a b c d : Int32) : Prop := ¬ a.toInt64 * J (q + 2) (4 * i) + b.toInt64 * J (q + 2) (4 * i + 1) + c.toInt64 * J (q + 2) (4 * i + 2) < d.toInt64 * J (q + 2) (4 * i + 3)
def impP (J : gm_J) (q l n : Nat) (a b c d : Int32) : Prop := (∀ j, j < l → slo J q j a b c = 0) ∧ ∀ j, j < n → rayH J q j a b c d
def bndP (J : gm_J) (q l n : Nat) (a b c : Int32) : Prop := (∀ j, j < l → slo J q j a b c = 0) ∧ ∀ j, j < n → J (q + 2) (4 * j + 3) = 0 → ¬ wor J q j a b c (nI 0) < 0
def nbrP (I : gm_I) (q i j n : Nat) : Prop := ∀ k, k < n → ¬ k = i → ¬ k = j → ¬ I (q + 3) k &&& (I (q + 3) i &&& I (q + 3) j) = (I (q + 3) i &&& I (q + 3) j)
theorem all_succ {P : Nat → Prop} {k : Nat} (h : ∀ j, j < k → P j) (hk : P k) : ∀ j, j < k + 1 → P j := by
  intro j hj
  by_cases e : j = k
  · rw [e]; exact hk
  · exact h j (by omega)
/-- what a method of a space may do -/
def sfP (q : Nat) (I : gm_I) (J : gm_J) (u : gm_M) : Prop := offR q (q + 5) I u.1 J u.2 ∧ inv_Sp u.1 q
def apP (q n : Nat) (t : Int32) (I : gm_I) (J : gm_J) (u : gm_M) : Prop := (n = 32 ∧ u = (I, J)) ∨ (n < 32 ∧ u = (gm_up (gm_up I (q + 3) n t) q 3 (nI (n + 1)), gm_up (gm_up (gm_up (gm_up J (q + 2) (4 * n + 0) (J (q + 5) 0)) (q + 2) (4 * n + 1) (J (q + 5) 1)) (q + 2) (4 * n + 2) (J (q + 5) 2)) (q + 2) (4 * n + 3) (J (q + 5) 3)))
theorem ap_safe {q n : Nat} {t : Int32} {I : gm_I} {J : gm_J} {u : gm_M} (h : inv_Sp I q) (hp : apP q n t I J u) : sfP q I J u := by
  rcases hp with ⟨_, rfl⟩ | ⟨hn, rfl⟩
  · exact ⟨offR.nil, h⟩
  · refine ⟨?_, (h.1.up (by omega)).up (by omega), nle.set (by omega)⟩
    exact ((((((offR.nil.upI (by omega)).upI (by omega)).upJ (by omega)).upJ (by omega)).upJ (by omega)).upJ (by omega))
