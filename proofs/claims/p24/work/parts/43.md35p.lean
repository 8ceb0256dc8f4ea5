def cpK (I : gm_I) (r k : Nat) : gm_I := fun q i => if q = r + 10 ∧ i < k then I (r + 16) i else I q i
theorem cpK_0 (I : gm_I) (r : Nat) : cpK I r 0 = I := by
  funext q i; simp [cpK]
theorem cpK_o (I : gm_I) {r k q i : Nat} (h : q ≠ r + 10) : cpK I r k q i = I q i := by
  unfold cpK; rw [if_neg (by omega)]
theorem cpK_up (I : gm_I) (r k : Nat) : gm_up (cpK I r k) (r + 10) k (I (r + 16) k) = cpK I r (k + 1) := by
  funext q i
  simp only [gm_up, cpK]
  by_cases hq : q = r + 10
  · by_cases hi : i = k
    · subst hq; subst hi; simp
    · have : (i < k + 1) ↔ i < k := by omega
      simp [hq, hi, this]
  · simp [hq]
/-- equal but for the scratch, what is kept, and the proof -/
def eqP (r : Nat) (I : gm_I) (J : gm_J) (I' : gm_I) (J' : gm_J) : Prop :=
  (∀ q k, ¬ (q = r ∧ (k = 10 ∨ k = 12 ∨ k = 15 ∨ k = 20 ∨ k = 33) ∨ q = r + 10 ∨ q = r + 16) → I' q k = I q k) ∧ (∀ q k, ¬ (q = r ∧ (21 ≤ k ∧ k ≤ 28 ∨ 35 ≤ k ∧ k ≤ 37) ∨ r + 12 ≤ q ∧ q ≤ r + 15) → J' q k = J q k) ∧ ∃ b, I' r 20 = bI b
def proveP (I : gm_I) (J : gm_J) (r j : Nat) (z : Int32) (u : gm_M) : Prop :=
  (leftR I J r j false).1.length ≤ 3 ∧ z = (if (leftR I J r j false).2 = 0 then 1 else 0) ∧ eqP r I J u.1 u.2 ∧ u.1 r 12 = nI (leftR I J r j false).2 ∧ u.1 r 10 = nI (leftR I J r j false).1.length ∧ ∀ i, u.1 (r + 10) i = if i < 4 * (leftR I J r j false).1.length then kA (leftR I J r j false).1 0 (I (r + 16)) i else I (r + 10) i
theorem proveP_of {I I1 : gm_I} {J J1 : gm_J} {r j n a : Nat} (hE : eqL r I J I1 J1) (hA : I1 (r + 16) = kA (leftR I J r j false).1 0 (I (r + 16))) (hn : n = (leftR I J r j false).1.length) (ha : a = (leftR I J r j false).2) (hn3 : n ≤ 3) {z : Int32} (hz : z = if a = 0 then 1 else 0) : proveP I J r j z (cpK (gm_up (gm_up I1 r 12 (nI a)) r 10 (nI n)) r (4 * n), J1) := by
  subst hn; subst ha
  refine ⟨hn3, hz, ⟨fun q k h => ?_, hE.2.1, ?_⟩, ?_, ?_, fun i => ?_⟩
  · show cpK _ r _ q k = _
    rw [cpK_o _ (by omega), gm_up_ne _ _ (by omega), gm_up_ne _ _ (by omega)]
    exact hE.1 q k (by omega)
  · obtain ⟨b, hb⟩ := hE.2.2
    refine ⟨b, ?_⟩
    show cpK _ r _ r 20 = bI b
    rw [cpK_o _ (by omega), gm_up_ne _ _ (by omega), gm_up_ne _ _ (by omega)]
    exact hb
  · show cpK _ r _ r 12 = _
    rw [cpK_o _ (by omega), gm_up_ne _ _ (by omega), gm_up_same]
  · show cpK _ r _ r 10 = _
    rw [cpK_o _ (by omega), gm_up_same]
  · show cpK _ r _ (r + 10) i = _
    unfold cpK
    by_cases hi : i < 4 * (leftR I J r j false).1.length
    · rw [if_pos ⟨rfl, hi⟩, if_pos hi, gm_up_ne _ _ (by omega), gm_up_ne _ _ (by omega), hA]
    · rw [if_neg (by omega), if_neg hi, gm_up_ne _ _ (by omega), gm_up_ne _ _ (by omega)]
      exact hE.1 _ _ (by omega)
