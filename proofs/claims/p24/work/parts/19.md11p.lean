theorem gV_at {I : gm_I} {J : gm_J} {r j k : Nat} (v : V3) : goV I r j k (xyz J r v r 35) (xyz J r v r 36) (xyz J r v r 37) = goV I r j k v.1 v.2.1 v.2.2 := by
  rw [(xyz_at J r v).1, (xyz_at J r v).2.1, (xyz_at J r v).2.2]
theorem ne3a {J : gm_J} {r : Nat} {v : V3} {a b c : Int64} (h : ¬ xyz J r v r 35 = a) : ¬ v = (a, b, c) := fun e => h (by rw [(xyz_at J r v).1, e])
theorem ne3b {J : gm_J} {r : Nat} {v : V3} {a b c : Int64} (h : ¬ xyz J r v r 36 = b) : ¬ v = (a, b, c) := fun e => h (by rw [(xyz_at J r v).2.1, e])
theorem ne3c {J : gm_J} {r : Nat} {v : V3} {a b c : Int64} (h : ¬ xyz J r v r 37 = c) : ¬ v = (a, b, c) := fun e => h (by rw [(xyz_at J r v).2.2, e])
theorem eq3 {J : gm_J} {r : Nat} {v : V3} {a b c : Int64} (h1 : xyz J r v r 35 = a) (h2 : xyz J r v r 36 = b) (h3 : xyz J r v r 37 = c) : v = (a, b, c) := by
  rw [(xyz_at J r v).1] at h1
  rw [(xyz_at J r v).2.1] at h2
  rw [(xyz_at J r v).2.2] at h3
  rw [← h1, ← h2, ← h3]
def sp_go (I : gm_I) (J : gm_J) (r : Nat) (v w : Int32) : Int32 × gm_M :=
  if wyB I r v w = true then
    if openN I r (nN v) (st3 J r (nN v)).1 (st3 J r (nN v)).2.1 (st3 J r (nN v)).2.2 / 2 ^ nN w % 2 = 0 then (0, I, xyz J r (st3 J r (nN v)))
    else if goB (goV I r (nN v) (nN w) (st3 J r (nN v)).1 (st3 J r (nN v)).2.1 (st3 J r (nN v)).2.2) = true then (1, I, put3 (xyz J r (goV I r (nN v) (nN w) (st3 J r (nN v)).1 (st3 J r (nN v)).2.1 (st3 J r (nN v)).2.2)) r (nN v) (goV I r (nN v) (nN w) (st3 J r (nN v)).1 (st3 J r (nN v)).2.1 (st3 J r (nN v)).2.2))
    else (-5, I, put3 (xyz J r (st3 J r (nN v))) r (nN v) (st3 J r (nN v)))
  else (-2, I, J)
/-- behind how many goings on the walk is at s0 again -/
def cb (I : gm_I) (r j : Nat) (s0 : V3) : Nat → Nat → V3 → Nat
  | 0, _, _ => 0
  | n + 1, k, t => if (wk1 I r j t).1 < 0 then 0 else if (wk1 I r j t).2 = s0 then k else cb I r j s0 n (k + 1) (wk1 I r j t).2
theorem cb_le (I : gm_I) (r j : Nat) (s0 : V3) (n k : Nat) (t : V3) (hk : k + n ≤ 201) : cb I r j s0 n k t ≤ 200 := by
  induction n generalizing k t with
  | zero => exact Nat.zero_le _
  | succ n ih =>
    simp only [cb]
    split
    · exact Nat.zero_le _
    · split
      · omega
      · exact ih (k + 1) _ (by omega)
theorem cb_in {I : gm_I} {r j n k : Nat} {s0 t : V3} (h0 : ¬ (wk1 I r j t).1 < 0) (h1 : ¬ (wk1 I r j t).2 = s0) : cb I r j s0 (n + 1) k t = cb I r j s0 n (k + 1) (wk1 I r j t).2 := by
  simp only [cb]
  rw [if_neg h0, if_neg h1]
theorem cb_yes {I : gm_I} {r j n k : Nat} {s0 t : V3} (h0 : ¬ (wk1 I r j t).1 < 0) (h1 : (wk1 I r j t).2 = s0) : cb I r j s0 (n + 1) k t = k := by
  simp only [cb]
  rw [if_neg h0, if_pos h1]
theorem cb_no {I : gm_I} {r j n k : Nat} {s0 t : V3} (h0 : (wk1 I r j t).1 < 0) : cb I r j s0 (n + 1) k t = 0 := by
  simp only [cb]
  rw [if_pos h0]
