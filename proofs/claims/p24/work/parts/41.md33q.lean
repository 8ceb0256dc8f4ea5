theorem tk_ok {I : gm_I} {J : gm_J} {r j : Nat} {x : Bool} {o z n : Nat} {a b c : Int32} (hn : n ≤ 3) (ho : o < 8) : (tkN I J r j x o z a b c n).getD 0 < 8 ∧ (0 < (tkN I J r j x o z a b c n).getD 0 → (tkN I J r j x o z a b c n).getD 0 ≤ o ∧ bc (o - (tkN I J r j x o z a b c n).getD 0) + 1 ≤ bc o) := by
  cases h : tkN I J r j x o z a b c n with
  | none => exact ⟨by simp, fun q => absurd q (by simp)⟩
  | some s =>
    have h1 := tkN_lt I J r j x o z a b c n s h
    have h2 : s < 8 := Nat.lt_of_lt_of_le h1 (Nat.pow_le_pow_right (by omega) hn)
    exact ⟨h2, fun q => bc_sub o ho s h2 (tk_sub hn h) q⟩
theorem opN_lt (n : Nat) : opN n < 2 ^ n ∧ opN n + 1 = 2 ^ n := by
  induction n with
  | zero => exact ⟨by decide, by decide⟩
  | succ n ih => simp only [opN]; rw [Nat.pow_succ]; omega
theorem bc_le : ∀ o, o < 8 → bc o ≤ 3 ∧ (bc o = 0 → o = 0) := by decide +kernel
theorem fkN_on {T : Nat → Nat} {n k : Nat} (h : ¬ 0 < T k) : fkN T (n + 1) k = fkN T n (k + 1) := by
  simp only [fkN]; rw [if_neg h]
theorem fkN_yes {T : Nat → Nat} {n k : Nat} (h : 0 < T k) : fkN T (n + 1) k = some k := by
  simp only [fkN]; rw [if_pos h]
theorem lbN_on {T : Nat → Nat → Nat} {n o k : Nat} (ho : ¬ o = 0) (h : fkN (T o) 125 0 = some k) : lbN T (n + 1) o = ((k, T o k) :: (lbN T n (o - T o k)).1, (lbN T n (o - T o k)).2) := by
  simp only [lbN]; rw [if_neg ho, h]
theorem lbN_end {T : Nat → Nat → Nat} {n o : Nat} (h : fkN (T o) 125 0 = none) : lbN T n o = ([], o) := by
  cases n with
  | zero => rfl
  | succ n =>
    simp only [lbN]
    by_cases ho : o = 0
    · rw [if_pos ho]
    · rw [if_neg ho, h]
theorem lbN_0 {T : Nat → Nat → Nat} {n : Nat} : lbN T n 0 = ([], 0) := by
  cases n with
  | zero => rfl
  | succ n => simp [lbN]
theorem kept_up {r k s : Nat} {I I1 : gm_I} {L : List (Nat × Nat)} (hA : I1 (r + 16) = kA L 0 (I (r + 16))) : gm_up (lay4 I1 (r + 16) (4 * L.length) (tKa k) (tKb k) (tKc k) (nI s)) r 33 (nI (L.length + 1)) (r + 16) = kA (L ++ [(k, s)]) 0 (I (r + 16)) := by
  rw [gm_up_off _ _ _ (by omega), kA_snoc, Nat.zero_add, ← hA]
  unfold lay4
  rw [gm_up_i, gm_up_i, gm_up_i, gm_up_i]
  rfl
theorem kept_eqL {r k : Nat} {I I1 : gm_I} {J J1 : gm_J} {n : Int32} {a b c d : Int32} (h : eqL r I J I1 J1) : eqL r I J (gm_up (lay4 I1 (r + 16) k a b c d) r 33 n) J1 := by
  refine ⟨fun q i hq => ?_, h.2.1, ?_⟩
  · rw [gm_up_ne _ _ (by omega)]
    unfold lay4
    rw [gm_up_ne _ _ (Or.inl (by omega)), gm_up_ne _ _ (Or.inl (by omega)), gm_up_ne _ _ (Or.inl (by omega)), gm_up_ne _ _ (Or.inl (by omega))]
    exact h.1 q i hq
  · obtain ⟨b', hb⟩ := h.2.2
    refine ⟨b', ?_⟩
    rw [gm_up_ne _ _ (by omega)]
    unfold lay4
    rw [gm_up_ne _ _ (Or.inl (by omega)), gm_up_ne _ _ (Or.inl (by omega)), gm_up_ne _ _ (Or.inl (by omega)), gm_up_ne _ _ (Or.inl (by omega))]
    exact hb
def leftR (I : gm_I) (J : gm_J) (r j : Nat) (x : Bool) : List (Nat × Nat) × Nat := lbN (tkk I J r j x) 4 (opN (nN (I (r + 2) j)))
