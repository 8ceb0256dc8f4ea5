def way9 (I : gm_I) (q k : Nat) : gm_I := gm_up (gm_up (gm_up (gm_up (gm_up (gm_up (gm_up (gm_up (gm_up I q (k + 0) (nI 1)) q (k + 1) (nI 0)) q (k + 2) (nI 0)) q (k + 3) (nI 0)) q (k + 4) (nI 1)) q (k + 5) (nI 0)) q (k + 6) (nI 0)) q (k + 7) (nI 0)) q (k + 8) (nI 1)
def way3 (I : gm_I) (q k : Nat) : gm_I := gm_up (gm_up (gm_up I q (k + 0) (nI 0)) q (k + 1) (nI 0)) q (k + 2) (nI 0)
def sp_way (I : gm_I) (J : gm_J) (r : Nat) (v : Int32) : Int32 × gm_M :=
  if lpB I r v = true then
    if nN (I (r + 2) (nN v)) = 3 then (-4, I, J)
    else (nI (nN (I (r + 2) (nN v))), gm_up (way3 (way9 (gm_up I (r + 5) (3 * nN v + nN (I (r + 2) (nN v))) (nI 0)) (r + 7) (9 * (3 * nN v + nN (I (r + 2) (nN v))))) (r + 8) (3 * (3 * nN v + nN (I (r + 2) (nN v))))) (r + 2) (nN v) (nI (nN (I (r + 2) (nN v)) + 1)), J)
  else (-2, I, J)
def sp_at (I : gm_I) (J : gm_J) (r : Nat) (v w : Int32) : Int64 := if nmB I r v w = true then J (r + 9) (3 * nN v + nN w) else -9000000000000
def sp_proof (I : gm_I) (r : Nat) (k w : Int32) : Int32 := if (inI k (nI 0) (I r 10 - nI 1) && inI w (nI 0) (nI 3)) = true then I (r + 10) (4 * nN k + nN w) else -1000
def sp_needed (I : gm_I) (r : Nat) (k : Int32) : Int32 := if (!decide (I r 13 = 0) && inI k (nI 0) (nI 3)) = true then I (r + 11) (nN k) else -1000
def metB (I : gm_I) (q k : Nat) (x y z : Int64) : Bool := decide (¬ (I q k).toInt64 * x + (I q (k + 1)).toInt64 * y + (I q (k + 2)).toInt64 * z < (I q (k + 3)).toInt64)
def nearB (v : Int64) : Bool := decide (¬ v < -1000000000000 ∧ ¬ 1000000000000 < v)
def becV (I : gm_I) (r w k : Nat) (x y z : Int64) : Int64 := (I (r + 7) (9 * w + 3 * k)).toInt64 * x + (I (r + 7) (9 * w + 3 * k + 1)).toInt64 * y + (I (r + 7) (9 * w + 3 * k + 2)).toInt64 * z + (I (r + 8) (3 * w + k)).toInt64
theorem inI_k {v : Int32} {n : Nat} (hn : n < 2 ^ 31 - 1) (h : inI v 0 (nI n) = true) : ∃ j, j ≤ n ∧ v = nI j := by
  have h := of_decide_eq_true h
  obtain ⟨j, hj, rfl⟩ := nI_of h.1
  refine ⟨j, ?_, rfl⟩
  rcases Nat.lt_or_ge n j with q | q
  · exact absurd (nI_lt q hj) h.2
  · exact q
