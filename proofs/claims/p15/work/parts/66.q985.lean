-- THE SPACES OF ALL WAYS OF A LOOP
def q_lm (I : gm_I) (o : Nat) : Nat := nN (I o 3)
def q_ln (I : gm_I) (o : Nat) : Nat := nN (I o 0)
def q_lg (I : gm_I) (o : Nat) : Nat := nN (I (o + 1) 2)
def q_lt (I : gm_I) (o k : Nat) : Nat := nN (I (o + 6 + 5 * k + 1) 2)
/-- what is known of a loop's numbers -/
def LD (I : gm_I) (o : Nat) : Prop := (I o 3 = nI (q_lm I o) ∧ q_lm I o ≤ 3) ∧ (I o 0 = nI (q_ln I o) ∧ 1 ≤ q_ln I o ∧ q_ln I o ≤ 3) ∧ (I (o + 1) 2 = nI (q_lg I o) ∧ q_lg I o ≤ 4) ∧ (∀ k, k < q_lm I o → I (o + 6 + 5 * k + 1) 2 = nI (q_lt I o k) ∧ q_lt I o k ≤ 2) ∧ (∀ k, k < q_lm I o → ∀ i, i < q_lg I o + q_lt I o k → gdV (q_ln I o) (fF I o k (q_lg I o) i)) ∧ ∀ k, k < q_lm I o → gqW I (o + 6 + 5 * k) (q_ln I o)
theorem nN_of {x : Int32} {n : Nat} (h : x = nI n) (hn : n < 2 ^ 31) : x = nI (nN x) ∧ nN x = n := by
  have e : nN x = n := by rw [h]; exact nN_nI hn
  exact ⟨by rw [e]; exact h, e⟩
theorem gq_ld {I : gm_I} {B n j : Nat} (hG : GQ I B) (hV : inv_FT I B) (en : I B 1 = nI n) (hn : n ≤ 8) (hj : j < n) : LD I (B + 12 + 21 * j) := by
  unfold GQ at hG
  rw [en, nN_nI (by omega)] at hG
  obtain ⟨_, nm, h1, h2, h3, h4, h5⟩ := hG j hj
  have hL := hV.2.1 j (by omega)
  obtain ⟨m, hm, em⟩ := hL.2.2.1
  obtain ⟨g, hg, eg⟩ := hL.2.1.2
  obtain ⟨q1, q2⟩ := nN_of em (by omega)
  obtain ⟨q3, q4⟩ := nN_of h1 (by omega)
  obtain ⟨q5, q6⟩ := nN_of eg (by omega)
  have w : ∀ k, k < q_lm I (B + 12 + 21 * j) → k < 3 := fun k hk => by unfold q_lm at hk; omega
  have t : ∀ k, k < q_lm I (B + 12 + 21 * j) → I (B + 12 + 21 * j + 6 + 5 * k + 1) 2 = nI (q_lt I (B + 12 + 21 * j) k) ∧ q_lt I (B + 12 + 21 * j) k ≤ 2 := fun k hk => by
    obtain ⟨t, ht, et⟩ := (hL.2.2.2 k (w k hk)).2
    obtain ⟨q7, q8⟩ := nN_of et (by omega)
    exact ⟨q7, by unfold q_lt; omega⟩
  refine ⟨⟨q1, by unfold q_lm; omega⟩, ⟨q3, by unfold q_ln; omega, by unfold q_ln; omega⟩, ⟨q5, by unfold q_lg; omega⟩, t, fun k hk i hi => ?_, fun k hk => ?_⟩
  · unfold fF
    have e : q_ln I (B + 12 + 21 * j) = nm := q4
    rw [e]
    by_cases c : i < q_lg I (B + 12 + 21 * j)
    · rw [if_pos c]; exact rowB_gd h2 (h4 i c)
    · rw [if_neg c]
      exact rowB_gd h2 ((h5 k hk).2.1 (i - q_lg I (B + 12 + 21 * j)) (by have := hi; unfold q_lt at this; omega))
  · have e : q_ln I (B + 12 + 21 * j) = nm := q4
    rw [e]; exact (h5 k hk).2
theorem fF_keep {B j o k g : Nat} {I I2 : gm_I} {J J2 : gm_J} (hk : keepF B I I2 J J2) (ho : o = B + 12 + 21 * j) (hj : j < 8) (h3 : k < 3) : fF I2 o k g = fF I o k g := by
  funext i
  unfold fF rwV
  rw [(hk.1 (o + 2) (by omega)).1, (hk.1 (o + 6 + 5 * k + 2) (by omega)).1]
theorem fs_step {B o k p nm g : Nat} {tw : Nat → Nat} {I I2 I3 : gm_I} {J2 J3 : gm_J} (H : ∀ w, w < k → sp_K I2 J2 (B + 180 + 12 * w) (dd_ab nm) (dd_rw (fF I o w g) (g + tw w))) (hu : skP p (dd_ab nm) (dd_rw (fF I2 o k g) (g + tw k)) I2 J2 (I3, J3)) (hp : p = B + 180 + 12 * k) (eF : fF I2 o k g = fF I o k g) : ∀ w, w < k + 1 → sp_K I3 J3 (B + 180 + 12 * w) (dd_ab nm) (dd_rw (fF I o w g) (g + tw w)) := by
  intro w hw
  by_cases c : w = k
  · subst c
    have h := hu.2
    rw [eF, hp] at h; exact h
  · exact (H w (by omega)).congr (fun a h1 h2 => hu.1 a (by omega))
/-- what a term is on the points of a space, and behind the change -/
def zsp (I : gm_I) (W : Nat) (F : Nat → dd_V) (m : Nat) (a b c : Int32) (z : zT) : Prop := (z.1 = true ↔ ∃ M : Int, ∀ p, dd_pf F m p → -M * p.2.2.2 ≤ dd_d3 (a.toInt, b.toInt, c.toInt) p) ∧ (z.2.1 = true ↔ ∀ p, dd_pf F m p → cI I W a b c * p.2.2.2 ≤ dd_d3 (gI I W a b c) p) ∧ (z.2.2 = true ↔ ∀ p, dd_pf F m p → (cI I W a b c + 1) * p.2.2.2 ≤ dd_d3 (gI I W a b c) p)
section SEM
variable {I I2 : gm_I} {J2 : gm_J} {q W nm m : Nat} {F : Nat → dd_V} {LU : List (dd_V × dd_V)} {R : List dd_V} {a b c : Int32}
theorem tq_sem (hM : sp_M I2 J2 q (dd_rw F m) (LU.map Prod.fst) R) (hO : dd_Ok (dd_ab nm) (dd_rw F m) LU R) (hW : gqW I W nm) (h1 : 1 ≤ nm) (h3 : nm ≤ 3) (hd : ∀ i, i < m → gdV nm (F i)) (e3 : I2 (W + 3) = I (W + 3)) (e4 : I2 (W + 4) = I (W + 4)) (hn : numB nm a b c (nI 2) = true) :
    (bndP J2 q (LU.map Prod.fst).length R.length a b c ↔ ∃ M : Int, ∀ p, dd_pf F m p → -M * p.2.2.2 ≤ dd_d3 (a.toInt, b.toInt, c.toInt) p) ∧ ∀ s : Nat, s ≤ 1 → (impP J2 q (LU.map Prod.fst).length R.length (a - wgt I2 W 0 a b c) (b - wgt I2 W 1 a b c) (c - wgt I2 W 2 a b c) (nI s + cst I2 W a b c) ↔ ∀ p, dd_pf F m p → ((s : Int) + cI I W a b c) * p.2.2.2 ≤ dd_d3 (gI I W a b c) p) := by
  obtain ⟨s1, s2, s3, _, s5, s6⟩ := numB_int (m := 2) (by omega) hn
  have ha := tq_a (v := a) (by omega)
  have hb := tq_a (v := b) (by omega)
  have hcc := tq_a (v := c) (by omega)
  constructor
  · rw [sp_bnd (A9 := 2) hM hO List.mem_cons_self ha.2 hb.2 hcc.2 (by decide)]
    refine exists_congr (fun M => ?_)
    have eM : dd_add (rV a b c 0) (dd_mul M dd_e4) = (a.toInt, b.toInt, c.toInt, -(-M)) := by
      show (a.toInt + M * 0, b.toInt + M * 0, c.toInt + M * 0, -(0 : Int32).toInt + M * 1) = _
      rw [show (0 : Int32).toInt = 0 from rfl, Int.mul_zero, Int.mul_one, Int.neg_neg]
      simp
    rw [eM, dd_all_pf (fun i hi => (hd i hi).2.2.1) ⟨fun q => by omega, fun q => by show b.toInt = 0; rw [s5 q]; rfl, fun q => by show c.toInt = 0; rw [s6 q]; rfl⟩]
    constructor
    · exact fun q p hp => (dd_d3_ev (a.toInt, b.toInt, c.toInt) (-M) p).mpr (q p hp)
    · exact fun q p hp => (dd_d3_ev (a.toInt, b.toInt, c.toInt) (-M) p).mp (q p hp)
  · intro s hs1
    obtain ⟨t1, t2, t3, t4⟩ := tq_row hW ha hb hcc hs1
    rw [wgt_eq e3, wgt_eq e3, wgt_eq e3, cst_eq e4]
    have eV : rV (a - wgt I W 0 a b c) (b - wgt I W 1 a b c) (c - wgt I W 2 a b c) (nI s + cst I W a b c) = ((gI I W a b c).1, (gI I W a b c).2.1, (gI I W a b c).2.2, -((s : Int) + cI I W a b c)) := by
      unfold rV; rw [t1.1, t2.1, t3.1, t4.1]
    have hi := sp_imp (a := a - wgt I W 0 a b c) (b := b - wgt I W 1 a b c) (c := c - wgt I W 2 a b c) (d := nI s + cst I W a b c) (A9 := 20) (D9 := 595) hM hO List.mem_cons_self (by rw [t1.1]; exact t1.2) (by rw [t2.1]; exact t2.2) (by rw [t3.1]; exact t3.2) (by rw [t4.1]; exact t4.2) (by decide) (by decide)
    rw [hi, dd_all_pf (fun i hi => (hd i hi).2.2.1) (by rw [eV]; exact tq_pz hW h1 h3 s5 s6 _), eV]
    constructor
    · exact fun q p hp => (dd_d3_ev (gI I W a b c) ((s : Int) + cI I W a b c) p).mpr (q p hp)
    · exact fun q p hp => (dd_d3_ev (gI I W a b c) ((s : Int) + cI I W a b c) p).mp (q p hp)
theorem zok_of {z : zT} (hK : sp_K I2 J2 q (dd_ab nm) (dd_rw F m)) (hm : m ≤ 7) (hW : gqW I W nm) (h1 : 1 ≤ nm) (h3 : nm ≤ 3) (hd : ∀ i, i < m → gdV nm (F i)) (e3 : I2 (W + 3) = I (W + 3)) (e4 : I2 (W + 4) = I (W + 4)) (hn : numB nm a b c (nI 2) = true) (hz : zsp I W F m a b c z) : zok I2 J2 W q a b c z := by
  obtain ⟨LU, R, hM, hO⟩ := hK
  obtain ⟨k1, k2⟩ := tq_sem hM hO hW h1 h3 hd e3 e4 hn
  obtain ⟨z1, z2, z3⟩ := hz
  refine ⟨_, _, hM.1, ok_len hO, hM.2.1, by have := ok_lenR hO (by rw [dd_rw_len]; omega); omega, z1.trans k1.symm, z2.trans ?_, z3.trans ?_⟩
  · rw [k2 0 (by omega)]
    have e : ((0 : Nat) : Int) + cI I W a b c = cI I W a b c := by omega
    rw [e]
  · rw [k2 1 (by omega)]
    have e : ((1 : Nat) : Int) + cI I W a b c = cI I W a b c + 1 := by omega
    rw [e]
end SEM
/-- what prove() leaves and answers, where Z says what each term is on each way -/
def prQ (I : gm_I) (J : gm_J) (B n : Nat) (v : Int32) (Z : Int32 → Int32 → Int32 → Nat → zT) (x : Int32) (u : gm_M) : Prop := sfF B I J u ∧ ((inI v 0 (nI n - 1) = false ∧ x = -2 ∧ u = (I, J)) ∨ ∃ j, j < n ∧ v = nI j ∧
  (lbN (ckk (q_ln I (B + 12 + 21 * j)) (q_lm I (B + 12 + 21 * j)) Z) 4 (opN (q_lm I (B + 12 + 21 * j)))).1.length ≤ 3 ∧ x = (if (lbN (ckk (q_ln I (B + 12 + 21 * j)) (q_lm I (B + 12 + 21 * j)) Z) 4 (opN (q_lm I (B + 12 + 21 * j)))).2 = 0 then 1 else 0) ∧
  u.1 (B + 4) 1 = nI (lbN (ckk (q_ln I (B + 12 + 21 * j)) (q_lm I (B + 12 + 21 * j)) Z) 4 (opN (q_lm I (B + 12 + 21 * j)))).1.length ∧ u.1 (B + 4) 2 = nI (lbN (ckk (q_ln I (B + 12 + 21 * j)) (q_lm I (B + 12 + 21 * j)) Z) 4 (opN (q_lm I (B + 12 + 21 * j)))).2 ∧ ∃ f0, u.1 (B + 5) = kA (lbN (ckk (q_ln I (B + 12 + 21 * j)) (q_lm I (B + 12 + 21 * j)) Z) 4 (opN (q_lm I (B + 12 + 21 * j)))).1 0 f0)
def zHyp (I : gm_I) (B n : Nat) (v : Int32) (Z : Int32 → Int32 → Int32 → Nat → zT) : Prop := ∀ j, j < n → v = nI j → ∀ a b c, numB (q_ln I (B + 12 + 21 * j)) a b c (nI 2) = true → ∀ w, w < q_lm I (B + 12 + 21 * j) → zsp I (B + 12 + 21 * j + 6 + 5 * w) (fF I (B + 12 + 21 * j) w (q_lg I (B + 12 + 21 * j))) (q_lg I (B + 12 + 21 * j) + q_lt I (B + 12 + 21 * j) w) a b c (Z a b c w)
