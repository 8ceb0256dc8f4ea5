def but2 (o : Nat) (J J' : gm_J) : Prop := ∀ p, p ≠ o + 4 → p ≠ o + 5 → J' p = J p
def but5 (B o : Nat) (J J' : gm_J) : Prop := ∀ p, p ≠ o + 5 → p ≠ B + 9 → p ≠ B + 10 → p ≠ B + 11 → J' p = J p
theorem get3_off (J : gm_J) {t q : Nat} (v : V3) (h : q ≠ t) : get3 (set3 J t v) q = get3 J q := by unfold get3; rw [set3_off J v h]
theorem get3_but {g q : Nat} {J J' : gm_J} (h : butJ g J J') (hq : q ≠ g) : get3 J' q = get3 J q := by unfold get3; rw [h q hq]
theorem reachE {k nm m : Nat} {x : Int32} (h : x = if k < nm then nI m else nI 0) : ∃ g, g ≤ m ∧ x = nI g ∧ nI g = if nm ≤ k then nI 0 else nI m := by
  rw [h]
  by_cases hk : k < nm
  · rw [if_pos hk]
    exact ⟨m, Nat.le_refl m, rfl, (if_neg (by omega)).symm⟩
  · rw [if_neg hk]
    exact ⟨0, Nat.zero_le _, rfl, (if_pos (by omega)).symm⟩
def kc (I : gm_I) (o : Nat) (a b c : Int32) : Nat := cbF I o (v3 a b c) 200 1 (v3 a b c)
theorem kc_le (I : gm_I) (o : Nat) (a b c : Int32) : kc I o a b c ≤ 200 := cbF_le 200 1 _ (by omega)
def rgP (I : gm_I) (J : gm_J) (B o i nm : Nat) (x : Int32) (u : gm_M) : Prop := u.1 = I ∧ match rgA (kc I o) (nI i) (if nm ≤ 1 then nI 0 else nI i) (if nm ≤ 2 then nI 0 else nI i) 14 (-(nI i)) with
  | none => x = nI 0 ∧ but5 B o J u.2
  | some q => x = nI q.2.2.2 ∧ q.2.2.2 ≤ 200 ∧ ∃ J1, but5 B o J J1 ∧ u.2 = set3 J1 (o + 4) (v3 q.1 q.2.1 q.2.2.1)
theorem rgP_no {I : gm_I} {J J1 : gm_J} {B o i nm : Nat} (h : rgA (kc I o) (nI i) (if nm ≤ 1 then nI 0 else nI i) (if nm ≤ 2 then nI 0 else nI i) 14 (-(nI i)) = none) (hB : but5 B o J J1) : rgP I J B o i nm (nI 0) (I, J1) := by
  unfold rgP; rw [h]; exact ⟨rfl, rfl, hB⟩
theorem rgP_yes {I : gm_I} {J J1 : gm_J} {B o i nm k : Nat} {a b c : Int32} (h : rgA (kc I o) (nI i) (if nm ≤ 1 then nI 0 else nI i) (if nm ≤ 2 then nI 0 else nI i) 14 (-(nI i)) = some (a, b, c, k)) (hk : k ≤ 200) (hB : but5 B o J J1) : rgP I J B o i nm (nI k) (I, set3 J1 (o + 4) (v3 a b c)) := by
  unfold rgP; rw [h]; exact ⟨rfl, rfl, hk, J1, hB, rfl⟩
