theorem allMet_eq {I : gm_I} {q q' k' n : Nat} {x y z : Int64} (h : ∀ i, i < 4 * n → I q i = I q' (k' + i)) : allMet I q 0 n x y z = allMet I q' k' n x y z := by
  induction n with
  | zero => rfl
  | succ n ih =>
    simp only [allMet]
    rw [ih (fun i hi => h i (by omega))]
    have e0 := h (4 * n) (by omega)
    have e1 := h (4 * n + 1) (by omega)
    have e2 := h (4 * n + 2) (by omega)
    have e3 := h (4 * n + 3) (by omega)
    unfold metB
    rw [Nat.zero_add, e0, e1, e2, e3]
    rfl
def relJ (J : gm_J) (B r : Nat) : Prop := ∀ j i, j < 8 → i < 3 → J (B + 12 + 21 * j + 4) i = J (r + 9) (3 * j + i)
/-- the way k of the loop j leaves the name i as it is -/
def idn (I : gm_I) (r j k i : Nat) : Prop := (∀ c, c < 3 → I (r + 7) (9 * (3 * j + k) + 3 * i + c) = if c = i then nI 1 else nI 0) ∧ I (r + 8) (3 * (3 * j + k) + i) = nI 0
/-- names that there are not are 0 and stay 0 -/
def zN (I : gm_I) (J : gm_J) (r : Nat) : Prop := ∀ j, j < nN (I r 0) → 1 ≤ nN (I (r + 1) j) ∧ ∀ i, nN (I (r + 1) j) ≤ i → i < 3 → J (r + 9) (3 * j + i) = 0 ∧ ∀ k, k < nN (I (r + 2) j) → idn I r j k i
def SJ (I : gm_I) (J : gm_J) (B r : Nat) : Prop := relJ J B r ∧ zN I J r
/-- a state of a loop of nm names -/
def zx (nm : Nat) (v : V3) : Prop := (nm ≤ 1 → v.2.1 = 0) ∧ (nm ≤ 2 → v.2.2 = 0)
/-- the ways of the loop j leave the names from nm on as they are -/
def idw (I : gm_I) (r j : Nat) : Prop := ∀ i, nN (I (r + 1) j) ≤ i → i < 3 → ∀ k, k < nN (I (r + 2) j) → idn I r j k i
section WK
variable {I : gm_I} {B r j : Nat}
theorem gMt_eq (h : SI I B r) (hj : j < 8) (v : V3) : gMt I (B + 12 + 21 * j) v = allMet I (r + 4) (16 * j) (nN (I (r + 3) j)) v.1 v.2.1 v.2.2 := by
  have hL := h.2.2.2.2.2.1 j hj
  obtain ⟨g, hg, eg⟩ := h.2.2.1.2.2.2.1 j hj
  unfold gMt
  rw [hL.2.2.1, eg, nN_nI (by omega)]
  exact allMet_eq (fun i hi => hL.2.2.2 i (by omega))
theorem wMt_eq (h : SI I B r) (hj : j < 8) {k : Nat} (hk : k < 3) (v : V3) : wMt I (B + 12 + 21 * j + 6 + 5 * k) v = wayMet I r (3 * j + k) v.1 v.2.1 v.2.2 := by
  have hW := h.2.2.2.2.2.2 j k hj hk
  obtain ⟨g, hg, eg⟩ := h.2.2.1.2.2.2.2.1 (3 * j + k) (by omega)
  unfold wMt wayMet
  rw [hW.1, eg, nN_nI (by omega)]
  exact allMet_eq (fun i hi => hW.2.1 i (by omega))
theorem cops_eq (h : SI I B r) (hj : j < 8) (v : V3) {n : Nat} (hn : n ≤ 3) : cops I (B + 12 + 21 * j) v n = opens I r j v.1 v.2.1 v.2.2 n := by
  induction n with
  | zero => rfl
  | succ n ih =>
    simp only [cops, opens]
    rw [ih (by omega), wMt_eq h hj (by omega), Nat.one_mul]
theorem copn_eq (h : SI I B r) (hj : j < 8) (v : V3) : copn I (B + 12 + 21 * j) v = openN I r j v.1 v.2.1 v.2.2 := by
  have hL := h.2.2.2.2.2.1 j hj
  obtain ⟨m, hm, em⟩ := h.2.2.1.2.2.1 j hj
  unfold copn openN
  rw [gMt_eq h hj, hL.2.1, em, nN_nI (by omega), cops_eq h hj v hm]
theorem bhd_eq (h : SI I B r) (hj : j < 8) {k i : Nat} (hk : k < 3) (hi : i < 3) (x y z : Int64) : bhd I (B + 12 + 21 * j + 6 + 5 * k) i x y z = becV I r (3 * j + k) i x y z := by
  have hW := h.2.2.2.2.2.2 j k hj hk
  unfold bhd becV
  rw [hW.2.2.1 (3 * i) (by omega), hW.2.2.1 (3 * i + 1) (by omega), hW.2.2.1 (3 * i + 2) (by omega), hW.2.2.2 i hi]
  rfl
theorem zero1 (x z : Int64) : (nI 0).toInt64 * x + (nI 1).toInt64 * 0 + (nI 0).toInt64 * z + (nI 0).toInt64 = 0 := by
  have e0 : (nI 0).toInt64 = 0 := by decide
  rw [e0, Int64.zero_mul, Int64.mul_zero, Int64.zero_mul]
  decide
theorem zero2 (x y : Int64) : (nI 0).toInt64 * x + (nI 0).toInt64 * y + (nI 1).toInt64 * 0 + (nI 0).toInt64 = 0 := by
  have e0 : (nI 0).toInt64 = 0 := by decide
  rw [e0, Int64.zero_mul, Int64.zero_mul, Int64.mul_zero]
  decide
theorem bh3_eq (h : SI I B r) (hj : j < 8) (hi : idw I r j) {k : Nat} (hk : k < nN (I (r + 2) j)) (hk3 : k < 3) {v : V3} (hz : zx (nN (I (r + 1) j)) v) : bh3 I (B + 12 + 21 * j + 6 + 5 * k) v = goV I r j k v.1 v.2.1 v.2.2 := by
  unfold bh3 goV
  rw [bhd_eq h hj hk3 (by omega), bhd_eq h hj hk3 (by omega), bhd_eq h hj hk3 (by omega)]
  have e1 : nN (I (r + 1) j) ≤ 1 → becV I r (3 * j + k) 1 v.1 v.2.1 v.2.2 = 0 := fun hn => by
    have g := hi 1 hn (by omega) k hk
    have a0 := g.1 0 (by omega)
    have a1 := g.1 1 (by omega)
    have a2 := g.1 2 (by omega)
    rw [if_neg (by omega)] at a0 a2
    rw [if_pos rfl] at a1
    unfold becV
    rw [show 9 * (3 * j + k) + 3 * 1 = 9 * (3 * j + k) + 3 * 1 + 0 from rfl, a0, a1, a2, g.2, hz.1 hn]
    exact zero1 _ _
  have e2 : nN (I (r + 1) j) ≤ 2 → becV I r (3 * j + k) 2 v.1 v.2.1 v.2.2 = 0 := fun hn => by
    have g := hi 2 hn (by omega) k hk
    have a0 := g.1 0 (by omega)
    have a1 := g.1 1 (by omega)
    have a2 := g.1 2 (by omega)
    rw [if_neg (by omega)] at a0 a1
    rw [if_pos rfl] at a2
    unfold becV
    rw [show 9 * (3 * j + k) + 3 * 2 = 9 * (3 * j + k) + 3 * 2 + 0 from rfl, a0, a1, a2, g.2, hz.2 hn]
    exact zero2 _ _
  by_cases n1 : nN (I (r + 1) j) ≤ 1
  · rw [if_pos n1, if_pos (by omega), e1 n1, e2 (by omega)]
  · rw [if_neg n1]
    by_cases n2 : nN (I (r + 1) j) ≤ 2
    · rw [if_pos n2, e2 n2]
    · rw [if_neg n2]
/-- one going on: class and reference alike -/
theorem cw1_eq (h : SI I B r) (hj : j < 8) (hi : idw I r j) {v : V3} (hz : zx (nN (I (r + 1) j)) v) : cw1 I (B + 12 + 21 * j) v = wk1 I r j v := by
  have hL := h.2.2.2.2.2.1 j hj
  obtain ⟨m, hm, em⟩ := h.2.2.1.2.2.1 j hj
  have hmn : nN (I (r + 2) j) = m := by rw [em, nN_nI (by omega)]
  have w : ∀ k, k < m → wMt I (B + 12 + 21 * j + 6 + 5 * k) v = wayMet I r (3 * j + k) v.1 v.2.1 v.2.2 := fun k hk => wMt_eq h hj (by omega) v
  have b : ∀ k, k < m → bh3 I (B + 12 + 21 * j + 6 + 5 * k) v = goV I r j k v.1 v.2.1 v.2.2 := fun k hk => bh3_eq h hj hi (by omega) (by omega) hz
  unfold cw1 wk1
  unfold openN
  rw [gMt_eq h hj, hL.2.1, hmn]
  cases hg : allMet I (r + 4) (16 * j) (nN (I (r + 3) j)) v.1 v.2.1 v.2.2 with
  | false => simp
  | true =>
    simp only [if_true]
    have hm4 : m = 0 ∨ m = 1 ∨ m = 2 ∨ m = 3 := by omega
    rcases hm4 with rfl | rfl | rfl | rfl
    · simp [cwf, opens]
    · simp only [cwf, opens, w 0 (by omega), b 0 (by omega)]
      cases h0 : wayMet I r (3 * j + 0) v.1 v.2.1 v.2.2 <;> simp [fw]
    · simp only [cwf, opens, w 0 (by omega), w 1 (by omega), b 0 (by omega), b 1 (by omega), Nat.zero_add]
      cases h0 : wayMet I r (3 * j + 0) v.1 v.2.1 v.2.2 <;> cases h1 : wayMet I r (3 * j + 1) v.1 v.2.1 v.2.2 <;> simp [fw]
    · simp only [cwf, opens, w 0 (by omega), w 1 (by omega), w 2 (by omega), b 0 (by omega), b 1 (by omega), b 2 (by omega), Nat.zero_add, Nat.reduceAdd]
      cases h0 : wayMet I r (3 * j + 0) v.1 v.2.1 v.2.2 <;> cases h1 : wayMet I r (3 * j + 1) v.1 v.2.1 v.2.2 <;> cases h2 : wayMet I r (3 * j + 2) v.1 v.2.1 v.2.2 <;> simp [fw]
theorem zx_go {k : Nat} {x y z : Int64} : zx (nN (I (r + 1) j)) (goV I r j k x y z) := ⟨fun h => if_pos h, fun h => if_pos h⟩
theorem zx_wk {v : V3} (hz : zx (nN (I (r + 1) j)) v) : zx (nN (I (r + 1) j)) (wk1 I r j v).2 := by
  unfold wk1
  split
  · exact hz
  · split
    · exact zx_go
    · exact hz
/-- the class's walk -/
def cwN (I : gm_I) (o : Nat) : Nat → V3 → Nat × V3
  | 0, v => (0, v)
  | n + 1, v => if (cw1 I o v).1 < 0 then (0, v) else ((cwN I o n (cw1 I o v).2).1 + 1, (cwN I o n (cw1 I o v).2).2)
theorem cwN_eq (h : SI I B r) (hj : j < 8) (hi : idw I r j) (n : Nat) {v : V3} (hz : zx (nN (I (r + 1) j)) v) : cwN I (B + 12 + 21 * j) n v = wkN I r j n v := by
  induction n generalizing v with
  | zero => rfl
  | succ n ih =>
    simp only [cwN, wkN]
    rw [cw1_eq h hj hi hz, ih (zx_wk hz)]
theorem zx_wkN (n : Nat) {v : V3} (hz : zx (nN (I (r + 1) j)) v) : zx (nN (I (r + 1) j)) (wkN I r j n v).2 := by
  induction n generalizing v with
  | zero => exact hz
  | succ n ih =>
    simp only [wkN]
    split
    · exact hz
    · exact ih (zx_wk hz)
def cbF (I : gm_I) (o : Nat) (s0 : V3) : Nat → Nat → V3 → Nat
  | 0, _, _ => 0
  | n + 1, k, t => if (cw1 I o t).1 < 0 then 0 else if (cw1 I o t).2 = s0 then k else cbF I o s0 n (k + 1) (cw1 I o t).2
theorem cbF_eq (h : SI I B r) (hj : j < 8) (hi : idw I r j) (s0 : V3) (n k : Nat) {t : V3} (hz : zx (nN (I (r + 1) j)) t) : cbF I (B + 12 + 21 * j) s0 n k t = cb I r j s0 n k t := by
  induction n generalizing k t with
  | zero => rfl
  | succ n ih =>
    simp only [cbF, cb]
    rw [cw1_eq h hj hi hz, ih (k + 1) (zx_wk hz)]
end WK
/-- the states of a walk -/
def itr (I : gm_I) (o : Nat) (v : V3) : Nat → V3
  | 0 => v
  | n + 1 => (cw1 I o (itr I o v n)).2
section CYC
variable {I : gm_I} {o : Nat} {s0 : V3}
theorem cbF_closed {G : V3 → Prop} (hG : ∀ x, G x → ¬ (cw1 I o x).1 < 0 ∧ G (cw1 I o x).2 ∧ (cw1 I o x).2 ≠ s0) (n k : Nat) {x : V3} (hx : G x) : cbF I o s0 n k x = 0 := by
  induction n generalizing k x with
  | zero => rfl
  | succ n ih =>
    obtain ⟨h1, h2, h3⟩ := hG x hx
    simp only [cbF]
    rw [if_neg h1, if_neg h3]
    exact ih (k + 1) h2
/-- a walk that meets itself elsewhere does not come back -/
theorem cbF_ring {p k n m : Nat} (hp : p < k) (hD : ∀ i, i < k → ¬ (cw1 I o (itr I o s0 i)).1 < 0) (hE : ∀ i, 1 ≤ i → i ≤ k → itr I o s0 i ≠ s0) (he : itr I o s0 k = itr I o s0 p) : cbF I o s0 n m (itr I o s0 k) = 0 := by
  refine cbF_closed (G := fun x => ∃ i, i < k ∧ x = itr I o s0 i ∧ p ≤ i) (fun x hx => ?_) n m ⟨p, hp, he, Nat.le_refl p⟩
  obtain ⟨i, hi, rfl, hpi⟩ := hx
  refine ⟨hD i hi, ?_, hE (i + 1) (by omega) (by omega)⟩
  by_cases h : i + 1 = k
  · refine ⟨p, hp, ?_, Nat.le_refl p⟩
    rw [← he, ← h]; rfl
  · exact ⟨i + 1, by omega, rfl, by omega⟩
theorem cbF_in {n k : Nat} {t : V3} (h0 : ¬ (cw1 I o t).1 < 0) (h1 : ¬ (cw1 I o t).2 = s0) : cbF I o s0 (n + 1) k t = cbF I o s0 n (k + 1) (cw1 I o t).2 := by
  simp only [cbF]; rw [if_neg h0, if_neg h1]
theorem cbF_yes {n k : Nat} {t : V3} (h0 : ¬ (cw1 I o t).1 < 0) (h1 : (cw1 I o t).2 = s0) : cbF I o s0 (n + 1) k t = k := by
  simp only [cbF]; rw [if_neg h0, if_pos h1]
theorem cbF_no {n k : Nat} {t : V3} (h0 : (cw1 I o t).1 < 0) : cbF I o s0 (n + 1) k t = 0 := by
  simp only [cbF]; rw [if_pos h0]
theorem cbF_le (n k : Nat) (t : V3) (hk : k + n ≤ 201) : cbF I o s0 n k t ≤ 200 := by
  induction n generalizing k t with
  | zero => exact Nat.zero_le _
  | succ n ih =>
    simp only [cbF]
    split
    · exact Nat.zero_le _
    · split
      · omega
      · exact ih (k + 1) _ (by omega)
end CYC
theorem cwN_step {I : gm_I} {o n d : Nat} {v t : V3} (h : cwN I o n v = (d + (cwN I o (n - d) t).1, (cwN I o (n - d) t).2)) (hd : d < n) (hs : ¬ (cw1 I o t).1 < 0) : cwN I o n v = ((d + 1) + (cwN I o (n - (d + 1)) (cw1 I o t).2).1, (cwN I o (n - (d + 1)) (cw1 I o t).2).2) := by
  obtain ⟨k, hk⟩ : ∃ k, n - d = k + 1 := ⟨n - d - 1, by omega⟩
  rw [hk] at h
  rw [show n - (d + 1) = k by omega, h]
  simp only [cwN]
  rw [if_neg hs]
  simp only [Prod.mk.injEq, and_true]
  omega
theorem cwN_stop {I : gm_I} {o n d : Nat} {v t : V3} (h : cwN I o n v = (d + (cwN I o (n - d) t).1, (cwN I o (n - d) t).2)) (hs : (cw1 I o t).1 < 0) : cwN I o n v = (d, t) := by
  rw [h]
  cases hk : n - d with
  | zero => rfl
  | succ k =>
    simp only [cwN]
    rw [if_pos hs]
    rfl
theorem cwN_end {I : gm_I} {o n d : Nat} {v t : V3} (h : cwN I o n v = (d + (cwN I o (n - d) t).1, (cwN I o (n - d) t).2)) (hd : n ≤ d) : cwN I o n v = (d, t) := by
  rw [h, show n - d = 0 by omega]
  rfl
theorem cwN_le (I : gm_I) (o n : Nat) (v : V3) : (cwN I o n v).1 ≤ n := by
  induction n generalizing v with
  | zero => exact Nat.le_refl 0
  | succ n ih =>
    simp only [cwN]
    split
    · exact Nat.zero_le _
    · exact Nat.succ_le_succ (ih _)
theorem cwf_stay {I : gm_I} {o m k : Nat} {v : V3} (h : (cwf I o v m k).1 < 0) (hk : k + m < 2 ^ 31) : (cwf I o v m k).2 = v := by
  induction m generalizing k with
  | zero => rfl
  | succ m ih =>
    simp only [cwf] at h ⊢
    split at h
    · next hw =>
      rw [if_pos hw]
      split at h
      · exact absurd h (nI_pos (by omega))
      · next hg => rw [if_neg hg]
    · next hw =>
      rw [if_neg hw]
      exact ih h (by omega)
theorem cw1_stay {I : gm_I} {o : Nat} {v : V3} (hI : inv_Lp I o) (h : (cw1 I o v).1 < 0) : (cw1 I o v).2 = v := by
  obtain ⟨m, hm, em⟩ := hI.2.2.1
  unfold cw1 at h ⊢
  split at h
  · next hg =>
    rw [if_pos hg]
    exact cwf_stay h (by rw [em, nN_nI (by omega)]; omega)
  · next hg => rw [if_neg hg]
