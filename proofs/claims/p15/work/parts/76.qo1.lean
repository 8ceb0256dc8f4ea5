-- BOTH SIDES OF empty AND holds
section QOPS
variable {I I1 : gm_I} {J J1 : gm_J} {B r n j k nm g t : Nat} {v w : Int32}
theorem rf_row (h : SI I B r) (hk : ∀ q, r ≤ q → I1 q = I q) (hn : n ≤ 8) (hD : spD I B n v w j k nm g t) {i : Nat} (hi : i < g + t) : ∃ a b c d : Int32, fF I (B + 12 + 21 * j) k g i = rV a b c d ∧ rowF I1 J1 r j k g t 0 i = a.toInt64 ∧ rowF I1 J1 r j k g t 1 i = b.toInt64 ∧ rowF I1 J1 r j k g t 2 i = c.toInt64 ∧ rowF I1 J1 r j k g t 3 i = d.toInt64 := by
  obtain ⟨d1, d2, _, _, _, _, _, _, _, d10, _, d12, _⟩ := hD
  have hL := (h.2.2.2.2.2.1 j (by omega)).2.2.2
  have hW := (h.2.2.2.2.2.2 j k (by omega) d2).2.1
  by_cases c : i < g
  · have e : ∀ c', c' < 4 → rowF I1 J1 r j k g t c' i = (I (B + 12 + 21 * j + 2) (4 * i + c')).toInt64 := by
      intro c' hc'
      unfold rowF
      rw [if_pos c, hk (r + 4) (by omega), show 16 * j + 4 * i + c' = 16 * j + (4 * i + c') by omega, ← hL (4 * i + c') (by omega)]
    refine ⟨_, _, _, _, ?_, e 0 (by omega), e 1 (by omega), e 2 (by omega), e 3 (by omega)⟩
    unfold fF; rw [if_pos c]; rfl
  · have e : ∀ c', c' < 4 → rowF I1 J1 r j k g t c' i = (I (B + 12 + 21 * j + 6 + 5 * k + 2) (4 * (i - g) + c')).toInt64 := by
      intro c' hc'
      unfold rowF
      rw [if_neg c, if_pos hi, hk (r + 6) (by omega), show 8 * (3 * j + k) + 4 * (i - g) + c' = 8 * (3 * j + k) + (4 * (i - g) + c') by omega, ← hW (4 * (i - g) + c') (by omega)]
    refine ⟨_, _, _, _, ?_, e 0 (by omega), e 1 (by omega), e 2 (by omega), e 3 (by omega)⟩
    unfold fF; rw [if_neg c]; rfl
/-- the reference's rows are the program's -/
theorem rf_of (h : SI I B r) (hk : ∀ q, r ≤ q → I1 q = I q) (hn : n ≤ 8) (hD : spD I B n v w j k nm g t) : dd_RF (rowF I1 J1 r j k g t) (fF I (B + 12 + 21 * j) k g) (g + t) := by
  have key : ∀ i, i < g + t → dd_R (rowF I1 J1 r j k g t 0 i) (fF I (B + 12 + 21 * j) k g i).1 9 ∧ dd_R (rowF I1 J1 r j k g t 1 i) (fF I (B + 12 + 21 * j) k g i).2.1 9 ∧ dd_R (rowF I1 J1 r j k g t 2 i) (fF I (B + 12 + 21 * j) k g i).2.2.1 9 ∧ dd_R (rowF I1 J1 r j k g t 3 i) (dd_D (fF I (B + 12 + 21 * j) k g) i) 1000 := by
    intro i hi
    obtain ⟨a, b, c, d, e, e0, e1, e2, e3⟩ := rf_row (J1 := J1) h hk hn hD hi
    have hs := (hD.2.2.2.2.2.2.2.2.2.2.2.2.1 i hi).1
    unfold dd_D
    rw [e] at hs ⊢
    rw [e0, e1, e2, e3]
    obtain ⟨s1, s2, s3, s4⟩ := rV_sm hs
    refine ⟨⟨Int32.toInt_toInt64 a, s1⟩, ⟨Int32.toInt_toInt64 b, s2⟩, ⟨Int32.toInt_toInt64 c, s3⟩, ?_⟩
    show dd_R d.toInt64 (-(-d.toInt)) 1000
    rw [Int.neg_neg]
    exact ⟨Int32.toInt_toInt64 d, s4⟩
  exact ⟨fun i hi => (key i hi).1, fun i hi => (key i hi).2.1, fun i hi => (key i hi).2.2.1, fun i hi => (key i hi).2.2.2⟩
theorem ct_of (h : SI I B r) (hk : ∀ q, r ≤ q → I1 q = I q) (hn : n ≤ 8) (hD : spD I B n v w j k nm g t) : nN v = j ∧ nN w = k ∧ nN (I1 (r + 1) j) = nm ∧ nN (I1 (r + 3) j) = g ∧ nN (I1 (r + 5) (3 * j + k)) = t := by
  obtain ⟨d1, d2, rfl, rfl, _, d6, _, d8, d9, d10, d11, d12, _⟩ := hD
  have hL := h.2.2.2.2.2.1 j (by omega)
  have hW := h.2.2.2.2.2.2 j k (by omega) d2
  rw [hk (r + 1) (by omega), hk (r + 3) (by omega), hk (r + 5) (by omega), ← hL.1, ← hL.2.2.1, ← hW.1, d6, d9, d11]
  exact ⟨nN_nI (by omega), nN_nI (by omega), nN_nI (by omega), nN_nI (by omega), nN_nI (by omega)⟩
theorem oq_empty {x z : Int32} (h : SI I B r) (hn : n ≤ 8) (en : I B 1 = nI n) (hc : emQ I J B n v w x (I1, J1)) (hm : z = if wyB I1 r v w = true then bI (nothB (rowF I1 J1 r (nN v) (nN w) (nN (I1 (r + 3) (nN v))) (nN (I1 (r + 5) (3 * nN v + nN w)))) (nN (I1 (r + 3) (nN v)) + nN (I1 (r + 5) (3 * nN v + nN w)))) else -2) : x = z := by
  obtain ⟨hs, _, hc⟩ := hc
  have hr := h.1
  have hk : ∀ q, B + 216 ≤ q → I1 q = I q := fun q hq => (hs.1.1 q (by omega)).1
  have hk' : ∀ q, r ≤ q → I1 q = I q := fun q hq => hk q (by omega)
  rw [wyB_k hk hr, wy_same h hn en] at hm
  rcases hc with ⟨c1, c2⟩ | ⟨j, k, nm, g, t, LU, R, hD, hQ, hx⟩
  · rw [c1, if_neg (by decide)] at hm; rw [c2, hm]
  · rw [hD.2.2.2.2.1, if_pos rfl] at hm
    obtain ⟨q1, q2, q3, q4, q5⟩ := ct_of h hk' hn hD
    rw [q1, q2, q4, q5] at hm
    have hd := hD.2.2.2.2.2.2.2.2.2.2.2.2.1
    rw [hx, hm]
    congr 1
    rw [Bool.eq_iff_iff, decide_eq_true_iff, dd_nothB_iff (rf_of h hk' hn hD) (fun i hi => (hd i hi).2.2.2), ← dd_ex_pf (n := nm) (fun i hi => (hd i hi).2.2.1), List.length_eq_zero_iff]
    exact hQ.2.nothing List.mem_cons_self
theorem oq_holds {a b c d x z : Int32} (h : SI I B r) (hn : n ≤ 8) (en : I B 1 = nI n) (hc : hoQ I J B n v w a b c d x (I1, J1)) (hm : z = if wyB I1 r v w = true then if rowB (nN (I1 (r + 1) (nN v))) a b c d = true then bI (nothB (rowF I1 J1 r (nN v) (nN w) (nN (I1 (r + 3) (nN v))) (nN (I1 (r + 5) (3 * nN v + nN w)))) (nN (I1 (r + 3) (nN v)) + nN (I1 (r + 5) (3 * nN v + nN w))) || leastT (rowF I1 J1 r (nN v) (nN w) (nN (I1 (r + 3) (nN v))) (nN (I1 (r + 5) (3 * nN v + nN w)))) (a.toInt64, b.toInt64, c.toInt64) (nN (I1 (r + 3) (nN v)) + nN (I1 (r + 5) (3 * nN v + nN w))) d.toInt64) else -3 else -2) : x = z := by
  obtain ⟨hs, _, hc⟩ := hc
  have hr := h.1
  have hk : ∀ q, B + 216 ≤ q → I1 q = I q := fun q hq => (hs.1.1 q (by omega)).1
  have hk' : ∀ q, r ≤ q → I1 q = I q := fun q hq => hk q (by omega)
  rw [wyB_k hk hr, wy_same h hn en] at hm
  rcases hc with ⟨c1, c2⟩ | ⟨j, k, nm, g, t, hD, hc⟩
  · rw [c1, if_neg (by decide)] at hm; rw [c2, hm]
  · rw [hD.2.2.2.2.1, if_pos rfl] at hm
    obtain ⟨q1, q2, q3, q4, q5⟩ := ct_of h hk' hn hD
    rw [q1, q2, q3, q4, q5] at hm
    rcases hc with ⟨c1, c2⟩ | ⟨c1, LU, R, z1, hQ, hx, hz⟩
    · rw [c1, if_neg (by decide)] at hm; rw [c2, hm]
    · rw [c1, if_pos rfl] at hm
      have hd := hD.2.2.2.2.2.2.2.2.2.2.2.2.1
      have g0 := rowB_gd hD.2.2.2.2.2.2.1 c1
      obtain ⟨s1, s2, s3, s4⟩ := rV_sm g0.1
      have hF := rf_of (J1 := J1) h hk' hn hD
      have hi := sp_imp (a := a) (b := b) (c := c) (d := d) hQ.1 hQ.2 List.mem_cons_self s1 s2 s3 s4 (by decide) (by decide)
      rw [dd_all_pf (fun i hi => (hd i hi).2.2.1) g0.2.2.1] at hi
      rw [hx, hm]
      congr 1
      rw [Bool.eq_iff_iff, hz, hi, Bool.or_eq_true, dd_nothB_iff hF (fun i hi => (hd i hi).2.2.2)]
      have ra : dd_R a.toInt64 a.toInt 40 := ⟨Int32.toInt_toInt64 a, by omega, by omega⟩
      have rb : dd_R b.toInt64 b.toInt 40 := ⟨Int32.toInt_toInt64 b, by omega, by omega⟩
      have rc : dd_R c.toInt64 c.toInt 40 := ⟨Int32.toInt_toInt64 c, by omega, by omega⟩
      have rd : dd_R d.toInt64 d.toInt 5000 := ⟨Int32.toInt_toInt64 d, by omega, by omega⟩
      by_cases hp : ∃ p, dd_pf (fF I (B + 12 + 21 * j) k g) (g + t) p
      · rw [dd_leastT_iff hF (fun i hi => (hd i hi).2.2.2) (g := (a.toInt64, b.toInt64, c.toInt64)) (G := (a.toInt, b.toInt, c.toInt)) ⟨ra, rb, rc⟩ hp (d := d.toInt64) (D := d.toInt) rd]
        constructor
        · exact fun q => Or.inr (fun p hp => (dd_d3_ev (a.toInt, b.toInt, c.toInt) d.toInt p).mpr (q p hp))
        · rintro (q | q)
          · exact absurd hp q
          · exact fun p hp => (dd_d3_ev (a.toInt, b.toInt, c.toInt) d.toInt p).mp (q p hp)
      · exact ⟨fun _ => Or.inl hp, fun _ p hq => absurd ⟨p, hq⟩ hp⟩
end QOPS
