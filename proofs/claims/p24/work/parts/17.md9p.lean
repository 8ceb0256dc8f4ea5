abbrev V3 : Type := Int64 × Int64 × Int64
def T3 (J : gm_J) (r : Nat) : V3 := (J r 35, J r 36, J r 37)
def fw (o : Nat) : Nat := if o % 2 = 1 then 0 else if o % 4 = 2 then 1 else 2
theorem fw_lt (o : Nat) : fw o < 3 := by unfold fw; split <;> (try split) <;> omega
/-- the walk goes on by one -/
def wk1 (I : gm_I) (r j : Nat) (v : V3) : Int32 × V3 :=
  if openN I r j v.1 v.2.1 v.2.2 = 0 then (-1, v)
  else if goB (goV I r j (fw (openN I r j v.1 v.2.1 v.2.2)) v.1 v.2.1 v.2.2) = true then (nI (fw (openN I r j v.1 v.2.1 v.2.2)), goV I r j (fw (openN I r j v.1 v.2.1 v.2.2)) v.1 v.2.1 v.2.2)
  else (-5, v)
theorem gm_up_id {α : Type} (f : Nat → Nat → α) (a k : Nat) : gm_up f a k (f a k) = f := by
  funext q j
  simp only [gm_up]
  split
  · next h => rw [h.1, h.2]
  · rfl
theorem gm_up_up {α : Type} (f : Nat → Nat → α) (a k : Nat) (v w : α) : gm_up (gm_up f a k v) a k w = gm_up f a k w := by
  funext q j
  simp only [gm_up]
  split <;> simp_all
theorem xyz_self (J : gm_J) (r : Nat) : xyz J r (T3 J r) = J := by
  simp only [xyz, T3, gm_up_id]
theorem T3_xyz (J : gm_J) (r : Nat) (v : V3) : T3 (xyz J r v) r = v := by
  simp [T3, xyz, gm_up]
theorem xyz_xyz (J : gm_J) (r : Nat) (v w : V3) : xyz (xyz J r v) r w = xyz J r w := by
  funext q j
  simp only [xyz, gm_up]
  repeat' split
  all_goals simp_all
theorem wk1_sign {I : gm_I} {r j : Nat} {v : V3} : ((wk1 I r j v).1 < 0 ∧ (wk1 I r j v).2 = v) ∨ ¬ (wk1 I r j v).1 < 0 := by
  unfold wk1
  split
  · left; exact ⟨show (-1 : Int32) < 0 by decide, rfl⟩
  · split
    · right; exact nI_pos (by have := fw_lt (openN I r j v.1 v.2.1 v.2.2); omega)
    · left; exact ⟨show (-5 : Int32) < 0 by decide, rfl⟩
theorem wk1_none {I : gm_I} {J : gm_J} {r j : Nat} (h : openN I r j (J r 35) (J r 36) (J r 37) = 0) : -1 = (wk1 I r j (T3 J r)).1 ∧ (I, J) = (I, xyz J r (wk1 I r j (T3 J r)).2) := by
  have e : wk1 I r j (T3 J r) = (-1, T3 J r) := if_pos h
  rw [e]
  exact ⟨rfl, by rw [xyz_self]⟩
theorem wk1_of {I I' : gm_I} {J J' : gm_J} {r j k o : Nat} {z : Int32} (h : (z, I', J') = if goB (goV I r j k (J r 35) (J r 36) (J r 37)) = true then (1, I, xyz J r (goV I r j k (J r 35) (J r 36) (J r 37))) else (0, I, J)) (hk : k = fw o) (ho : ¬ o = 0) (eo : o = openN I r j (J r 35) (J r 36) (J r 37)) :
    (z = 0 → -5 = (wk1 I r j (T3 J r)).1 ∧ (I', J') = (I, xyz J r (wk1 I r j (T3 J r)).2)) ∧ (¬ z = 0 → nI k = (wk1 I r j (T3 J r)).1 ∧ (I', J') = (I, xyz J r (wk1 I r j (T3 J r)).2)) := by
  subst hk
  subst eo
  have e0 : wk1 I r j (T3 J r) = if goB (goV I r j (fw (openN I r j (J r 35) (J r 36) (J r 37))) (J r 35) (J r 36) (J r 37)) = true then (nI (fw (openN I r j (J r 35) (J r 36) (J r 37))), goV I r j (fw (openN I r j (J r 35) (J r 36) (J r 37))) (J r 35) (J r 36) (J r 37)) else (-5, T3 J r) := if_neg ho
  by_cases hg : goB (goV I r j (fw (openN I r j (J r 35) (J r 36) (J r 37))) (J r 35) (J r 36) (J r 37)) = true
  · rw [if_pos hg] at h e0
    rw [e0]
    refine ⟨fun h0 => absurd ((Prod.mk.inj h).1.symm.trans h0) (by decide), fun _ => ⟨rfl, (Prod.mk.inj h).2⟩⟩
  · rw [if_neg hg] at h e0
    rw [e0]
    refine ⟨fun _ => ⟨rfl, ?_⟩, fun h0 => absurd (Prod.mk.inj h).1 h0⟩
    rw [xyz_self]
    exact (Prod.mk.inj h).2
/-- the walk goes on by n, or till it can't -/
def wkN (I : gm_I) (r j : Nat) : Nat → V3 → Nat × V3
  | 0, v => (0, v)
  | n + 1, v => if (wk1 I r j v).1 < 0 then (0, v) else ((wkN I r j n (wk1 I r j v).2).1 + 1, (wkN I r j n (wk1 I r j v).2).2)
theorem wkN_le (I : gm_I) (r j n : Nat) (v : V3) : (wkN I r j n v).1 ≤ n := by
  induction n generalizing v with
  | zero => exact Nat.le_refl 0
  | succ n ih =>
    simp only [wkN]
    split
    · exact Nat.zero_le _
    · exact Nat.succ_le_succ (ih _)
def st3 (J : gm_J) (r j : Nat) : V3 := (J (r + 9) (3 * j), J (r + 9) (3 * j + 1), J (r + 9) (3 * j + 2))
def put3 (J : gm_J) (r j : Nat) (v : V3) : gm_J := gm_up (gm_up (gm_up J (r + 9) (3 * j) v.1) (r + 9) (3 * j + 1) v.2.1) (r + 9) (3 * j + 2) v.2.2
theorem stay_xyz (J : gm_J) (r j : Nat) (v : V3) : gm_up (gm_up (gm_up (xyz J r v) (r + 9) (3 * j) ((xyz J r v) r 35)) (r + 9) (3 * j + 1) ((xyz J r v) r 36)) (r + 9) (3 * j + 2) ((xyz J r v) r 37) = put3 (xyz J r v) r j v := by
  simp [put3, xyz, gm_up]
theorem openN_lt {I : gm_I} {r j : Nat} {x y z : Int64} (h : nN (I (r + 2) j) ≤ 3) : openN I r j x y z < 8 := by
  unfold openN
  split
  · have h1 := opens_lt I r j x y z (nN (I (r + 2) j))
    have : (2 : Nat) ^ nN (I (r + 2) j) ≤ 2 ^ 3 := Nat.pow_le_pow_right (by omega) h
    omega
  · omega
theorem xyz_at (J : gm_J) (r : Nat) (v : V3) : xyz J r v r 35 = v.1 ∧ xyz J r v r 36 = v.2.1 ∧ xyz J r v r 37 = v.2.2 := by
  simp [xyz, gm_up]
theorem stay_is (J : gm_J) (r j : Nat) (v : V3) {K : gm_J} (e : K = xyz J r v) : gm_up (gm_up (gm_up K (r + 9) (3 * j) (K r 35)) (r + 9) (3 * j + 1) (K r 36)) (r + 9) (3 * j + 2) (K r 37) = put3 (xyz J r v) r j v := by
  subst e
  rw [(xyz_at J r v).1, (xyz_at J r v).2.1, (xyz_at J r v).2.2]
  rfl
theorem wkN_step {I : gm_I} {r j n d : Nat} {v t : V3} (h : wkN I r j n v = (d + (wkN I r j (n - d) t).1, (wkN I r j (n - d) t).2)) (hd : d < n) (hs : ¬ (wk1 I r j t).1 < 0) : wkN I r j n v = ((d + 1) + (wkN I r j (n - (d + 1)) (wk1 I r j t).2).1, (wkN I r j (n - (d + 1)) (wk1 I r j t).2).2) := by
  obtain ⟨k, hk⟩ : ∃ k, n - d = k + 1 := ⟨n - d - 1, by omega⟩
  rw [hk] at h
  rw [show n - (d + 1) = k by omega, h]
  simp only [wkN]
  rw [if_neg hs]
  simp only [Prod.mk.injEq, and_true]
  omega
theorem wkN_stop {I : gm_I} {r j n d : Nat} {v t : V3} (h : wkN I r j n v = (d + (wkN I r j (n - d) t).1, (wkN I r j (n - d) t).2)) (hs : (wk1 I r j t).1 < 0) : wkN I r j n v = (d, t) := by
  rw [h]
  cases hk : n - d with
  | zero => rfl
  | succ k =>
    simp only [wkN]
    rw [if_pos hs]
    rfl
theorem wkN_end {I : gm_I} {r j n d : Nat} {v t : V3} (h : wkN I r j n v = (d + (wkN I r j (n - d) t).1, (wkN I r j (n - d) t).2)) (hd : n ≤ d) : wkN I r j n v = (d, t) := by
  rw [h, show n - d = 0 by omega]
  rfl
theorem wk1_stay {I : gm_I} {r j : Nat} {v : V3} (h : (wk1 I r j v).1 < 0) : (wk1 I r j v).2 = v := by
  rcases wk1_sign (I := I) (r := r) (j := j) (v := v) with q | q
  · exact q.2
  · exact absurd h q
