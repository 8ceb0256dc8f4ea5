def rwV (I : gm_I) (a i : Nat) : dd_V := rV (I a (4 * i)) (I a (4 * i + 1)) (I a (4 * i + 2)) (I a (4 * i + 3))
/-- the rows of a loop's guard (g of them), then those of its way w -/
def fF (I : gm_I) (o w g i : Nat) : dd_V := if i < g then rwV I (o + 2) i else rwV I (o + 6 + 5 * w + 2) (i - g)
theorem dd_rw_len (F : Nat → dd_V) (m : Nat) : (dd_rw F m).length = m + 1 := by
  unfold dd_rw; rw [List.length_cons, List.length_map, List.length_range]
theorem fF_1 {I I1 : gm_I} {o w g k : Nat} (hk : k < g) (e : I1 (o + 2) = I (o + 2)) : rwV I1 (o + 2) k = fF I o w g k := by
  unfold fF rwV; rw [if_pos hk, e]
theorem fF_2 {I I1 : gm_I} {o w g k p : Nat} (hp : p = o + 6 + 5 * w) (e : I1 (p + 1 + 1) = I (p + 1 + 1)) : rwV I1 (p + 1 + 1) k = fF I o w g (g + k) := by
  subst hp
  unfold fF rwV
  rw [if_neg (by omega), e, show g + k - g = k by omega]
