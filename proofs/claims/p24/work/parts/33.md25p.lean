theorem LQ_congr {f h : Nat → Nat → Int64} {g : V3} {n : Nat} (e : ∀ c, c < 4 → ∀ i, i < n → f c i = h c i) : LQ f g n = LQ h g n := by
  have q : sameR (cJ f g) 0 (cJ h g) n := by
    refine ⟨fun c hc i hi => ?_, rfl, rfl, rfl⟩
    unfold cJ
    rw [if_neg (by omega), if_neg (by omega), show 0 + 12 + c - 12 = c by omega]
    exact e c hc i hi
  unfold LQ lst
  rw [q.2.1, q.2.2.1, q.2.2.2]
  split
  · rfl
  · rw [lsA_eq q n (Nat.le_refl n)]; rfl
theorem nothB_congr {f h : Nat → Nat → Int64} {n : Nat} (e : ∀ c, c < 4 → ∀ i, i < n → f c i = h c i) : nothB f n = nothB h n := by
  induction n with
  | zero => rfl
  | succ n ih =>
    simp only [nothB]
    rw [ih (fun c hc i hi => e c hc i (by omega))]
    unfold nothT
    rw [e 0 (by omega) n (by omega), e 1 (by omega) n (by omega), e 2 (by omega) n (by omega), e 3 (by omega) n (by omega)]
    rw [LQ_congr (f := f) (h := h) (fun c hc i hi => e c hc i (by omega))]
/-- equal but for the scratch -/
def eqS (r : Nat) (I : gm_I) (J : gm_J) (I' : gm_I) (J' : gm_J) : Prop :=
  (∀ q k, ¬ (q = r ∧ (k = 15 ∨ k = 20)) → I' q k = I q k) ∧ (∀ q k, ¬ (q = r ∧ (21 ≤ k ∧ k ≤ 28 ∨ 35 ≤ k ∧ k ≤ 37) ∨ r + 12 ≤ q ∧ q ≤ r + 15) → J' q k = J q k) ∧ ∃ b, I' r 20 = bI b
theorem eqS_sc {r n : Nat} {I : gm_I} {J : gm_J} {f : Nat → Nat → Int64} {c : Sc} : eqS r I J (scI (gm_up I r 15 (nI n)) r c) (scJ (spJ J r n f) r c) := by
  refine ⟨fun q k h => ?_, fun q k h => ?_, c.1, scI_20 _ _ _⟩
  · rw [scI_o _ _ (by omega), gm_up_ne _ _ (by omega)]
  · rw [scJ_o _ (by omega), spJ_o (by omega)]
theorem eqS_rf {r : Nat} {I : gm_I} {J : gm_J} (h : ∃ b, I r 20 = bI b) : eqS r I J I J := ⟨fun _ _ _ => rfl, fun _ _ _ => rfl, h⟩
theorem rw_sp {J : gm_J} {r n : Nat} {f : Nat → Nat → Int64} : ∀ c, c < 4 → ∀ i, i < n → rwF (spJ J r n f) r c i = f c i := fun c hc i hi => spJ_in hc hi
