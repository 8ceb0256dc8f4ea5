-- BOTH SIDES OF term: the answers
theorem tv_eq {z1 z2 z3 : Bool} {F : Int32} (h2 : z2 = true ↔ F ≠ 0) (h3 : z3 = true ↔ F = 6) (hF : F = 0 ∨ F = 2 ∨ F = 6) : nI (tvN z1 z2 z3) = bI z1 + F := by
  rcases hF with rfl | rfl | rfl
  · have e2 : z2 = false := by cases z2 with
      | false => rfl
      | true => exact absurd rfl (h2.mp rfl)
    have e3 : z3 = false := by cases z3 with
      | false => rfl
      | true => exact absurd (h3.mp rfl) (by decide)
    subst e2 e3
    cases z1 <;> decide
  · have e2 : z2 = true := h2.mpr (by decide)
    have e3 : z3 = false := by cases z3 with
      | false => rfl
      | true => exact absurd (h3.mp rfl) (by decide)
    subst e2 e3
    cases z1 <;> decide
  · have e2 : z2 = true := h2.mpr (by decide)
    have e3 : z3 = true := h3.mpr rfl
    subst e2 e3
    cases z1 <;> decide
/-- a term behind a change, in the reference's longs -/
theorem tm_R {I I1 : gm_I} {r j k W nm : Nat} {a b c : Int32} (f7 : ∀ i, i < 9 → I1 (r + 7) (9 * (3 * j + k) + i) = I (W + 3) i) (f8 : ∀ i, i < 3 → I1 (r + 8) (3 * (3 * j + k) + i) = I (W + 4) i) (hW : gqW I W nm) (ha : iR a a.toInt 2) (hb : iR b b.toInt 2) (hcc : iR c c.toInt 2) : dd_RG (tmG I1 r (3 * j + k) a b c) (gI I W a b c) ∧ dd_R (chC I1 r (3 * j + k) a.toInt64 b.toInt64 c.toInt64) (cI I W a b c) 4000 := by
  have hG : dd_RG (tmG I1 r (3 * j + k) a b c) (gI I W a b c) := by
    refine ⟨?_, ?_, ?_⟩
    · have q := ha.l.sub (tq_w hW ha hb hcc (i := 0) (by omega)).2 (by decide)
      have e : (tmG I1 r (3 * j + k) a b c).1 = a.toInt64 - (a.toInt64 * (I (W + 3) 0).toInt64 + b.toInt64 * (I (W + 3) (3 + 0)).toInt64 + c.toInt64 * (I (W + 3) (6 + 0)).toInt64) := by
        show a.toInt64 - (a.toInt64 * (I1 (r + 7) (9 * (3 * j + k) + 0)).toInt64 + b.toInt64 * (I1 (r + 7) (9 * (3 * j + k) + 3)).toInt64 + c.toInt64 * (I1 (r + 7) (9 * (3 * j + k) + 6)).toInt64) = _
        rw [f7 0 (by omega), f7 3 (by omega), f7 6 (by omega)]
      rw [e]; exact q.le (by decide)
    · have q := hb.l.sub (tq_w hW ha hb hcc (i := 1) (by omega)).2 (by decide)
      have e : (tmG I1 r (3 * j + k) a b c).2.1 = b.toInt64 - (a.toInt64 * (I (W + 3) 1).toInt64 + b.toInt64 * (I (W + 3) (3 + 1)).toInt64 + c.toInt64 * (I (W + 3) (6 + 1)).toInt64) := by
        show b.toInt64 - (a.toInt64 * (I1 (r + 7) (9 * (3 * j + k) + 1)).toInt64 + b.toInt64 * (I1 (r + 7) (9 * (3 * j + k) + 4)).toInt64 + c.toInt64 * (I1 (r + 7) (9 * (3 * j + k) + 7)).toInt64) = _
        rw [f7 1 (by omega), f7 4 (by omega), f7 7 (by omega)]
      rw [e]; exact q.le (by decide)
    · have q := hcc.l.sub (tq_w hW ha hb hcc (i := 2) (by omega)).2 (by decide)
      have e : (tmG I1 r (3 * j + k) a b c).2.2 = c.toInt64 - (a.toInt64 * (I (W + 3) 2).toInt64 + b.toInt64 * (I (W + 3) (3 + 2)).toInt64 + c.toInt64 * (I (W + 3) (6 + 2)).toInt64) := by
        show c.toInt64 - (a.toInt64 * (I1 (r + 7) (9 * (3 * j + k) + 2)).toInt64 + b.toInt64 * (I1 (r + 7) (9 * (3 * j + k) + 5)).toInt64 + c.toInt64 * (I1 (r + 7) (9 * (3 * j + k) + 8)).toInt64) = _
        rw [f7 2 (by omega), f7 5 (by omega), f7 8 (by omega)]
      rw [e]; exact q.le (by decide)
  have hK : dd_R (chC I1 r (3 * j + k) a.toInt64 b.toInt64 c.toInt64) (cI I W a b c) 4000 := by
    have q := (tq_k hW ha hb hcc).2
    have e : chC I1 r (3 * j + k) a.toInt64 b.toInt64 c.toInt64 = a.toInt64 * (I (W + 4) 0).toInt64 + b.toInt64 * (I (W + 4) 1).toInt64 + c.toInt64 * (I (W + 4) 2).toInt64 := by
      show a.toInt64 * (I1 (r + 8) (3 * (3 * j + k) + 0)).toInt64 + b.toInt64 * (I1 (r + 8) (3 * (3 * j + k) + 1)).toInt64 + c.toInt64 * (I1 (r + 8) (3 * (3 * j + k) + 2)).toInt64 = _
      rw [f8 0 (by omega), f8 1 (by omega), f8 2 (by omega)]
    rw [e]; exact q.le (by decide)
  exact ⟨hG, hK⟩
section QOPS2
variable {I I1 : gm_I} {J J1 : gm_J} {B r n : Nat} {v w : Int32}
theorem oq_term {a b c x z : Int32} (h : SI I B r) (hn : n ≤ 8) (en : I B 1 = nI n) (hc : teQ I J B n v w a b c x (I1, J1)) (hm : z = if wyB I1 r v w = true then if numB (nN (I1 (r + 1) (nN v))) a b c (nI 2) = true then (if nothB (rowF I1 J1 r (nN v) (nN w) (nN (I1 (r + 3) (nN v))) (nN (I1 (r + 5) (3 * nN v + nN w)))) (nN (I1 (r + 3) (nN v)) + nN (I1 (r + 5) (3 * nN v + nN w))) = true then 7 else bI (LQ (rowF I1 J1 r (nN v) (nN w) (nN (I1 (r + 3) (nN v))) (nN (I1 (r + 5) (3 * nN v + nN w)))) (a.toInt64, b.toInt64, c.toInt64) (nN (I1 (r + 3) (nN v)) + nN (I1 (r + 5) (3 * nN v + nN w)))).1 + fallsV (rowF I1 J1 r (nN v) (nN w) (nN (I1 (r + 3) (nN v))) (nN (I1 (r + 5) (3 * nN v + nN w)))) (tmG I1 r (3 * nN v + nN w) a b c) (nN (I1 (r + 3) (nN v)) + nN (I1 (r + 5) (3 * nN v + nN w))) (chC I1 r (3 * nN v + nN w) a.toInt64 b.toInt64 c.toInt64)) else -3 else -2) : x = z := by
  obtain ⟨hs, _, hc⟩ := hc
  have hr := h.1
  have hk : ∀ q, B + 216 ≤ q → I1 q = I q := fun q hq => (hs.1.1 q (by omega)).1
  have hk' : ∀ q, r ≤ q → I1 q = I q := fun q hq => hk q (by omega)
  rw [wyB_k hk hr, wy_same h hn en] at hm
  rcases hc with ⟨c1, c2⟩ | ⟨j, k, nm, g, t, hD, hc⟩
  · rw [c1, if_neg (by decide)] at hm; rw [c2, hm]
  · rw [hD.2.2.2.2.1, if_pos rfl] at hm
    obtain ⟨q1, q2, q3, q4, q5⟩ := ct_of h hk' hn hD
    rw [q1, q2, q3, q4, q5] at hm
    rcases hc with ⟨c1, c2⟩ | ⟨c1, LU, R, z1, z2, z3, hQ, hx, hz1, hz2, hz3⟩
    · rw [c1, if_neg (by decide)] at hm; rw [c2, hm]
    · rw [c1, if_pos rfl] at hm
      obtain ⟨d1, d2, _, _, _, _, d7, d8, _, _, _, _, hd, hW⟩ := id hD
      obtain ⟨s1, s2, s3, _, s5, s6⟩ := numB_int (m := 2) (by omega) c1
      have ha := tq_a (v := a) (by omega)
      have hb := tq_a (v := b) (by omega)
      have hcc := tq_a (v := c) (by omega)
      have hF := rf_of (J1 := J1) h hk' hn hD
      have e3 : I1 (B + 12 + 21 * j + 6 + 5 * k + 3) = I (B + 12 + 21 * j + 6 + 5 * k + 3) := (hs.1.1 _ (by omega)).1
      have e4 : I1 (B + 12 + 21 * j + 6 + 5 * k + 4) = I (B + 12 + 21 * j + 6 + 5 * k + 4) := (hs.1.1 _ (by omega)).1
      have hRW := h.2.2.2.2.2.2 j k (by omega) d2
      have f7 : ∀ i, i < 9 → I1 (r + 7) (9 * (3 * j + k) + i) = I (B + 12 + 21 * j + 6 + 5 * k + 3) i := fun i hi => by rw [hk' (r + 7) (by omega)]; exact (hRW.2.2.1 i hi).symm
      have f8 : ∀ i, i < 3 → I1 (r + 8) (3 * (3 * j + k) + i) = I (B + 12 + 21 * j + 6 + 5 * k + 4) i := fun i hi => by rw [hk' (r + 8) (by omega)]; exact (hRW.2.2.2 i hi).symm
      obtain ⟨W, hW0⟩ : ∃ W, W = B + 12 + 21 * j + 6 + 5 * k := ⟨_, rfl⟩
      rw [← hW0] at e3 e4 f7 f8 hW hz2 hz3
      obtain ⟨hG, hK⟩ := tm_R f7 f8 hW ha hb hcc
      -- the program's rows, in whole numbers
      have hrow : ∀ s : Nat, s ≤ 1 → (impP J1 (B + 180 + 12 * k) (LU.map Prod.fst).length R.length (a - wgt I1 W 0 a b c) (b - wgt I1 W 1 a b c) (c - wgt I1 W 2 a b c) (nI s + cst I1 W a b c) ↔ ∀ p, dd_pf (fF I (B + 12 + 21 * j) k g) (g + t) p → ((s : Int) + cI I W a b c) * p.2.2.2 ≤ dd_d3 (gI I W a b c) p) := by
        intro s hs1
        obtain ⟨t1, t2, t3, t4⟩ := tq_row hW ha hb hcc hs1
        rw [wgt_eq e3, wgt_eq e3, wgt_eq e3, cst_eq e4]
        have eV : rV (a - wgt I W 0 a b c) (b - wgt I W 1 a b c) (c - wgt I W 2 a b c) (nI s + cst I W a b c) = ((gI I W a b c).1, (gI I W a b c).2.1, (gI I W a b c).2.2, -((s : Int) + cI I W a b c)) := by
          unfold rV; rw [t1.1, t2.1, t3.1, t4.1]
        have hi := sp_imp (a := a - wgt I W 0 a b c) (b := b - wgt I W 1 a b c) (c := c - wgt I W 2 a b c) (d := nI s + cst I W a b c) (A9 := 20) (D9 := 595) hQ.1 hQ.2 List.mem_cons_self (by rw [t1.1]; exact t1.2) (by rw [t2.1]; exact t2.2) (by rw [t3.1]; exact t3.2) (by rw [t4.1]; exact t4.2) (by decide) (by decide)
        rw [hi, dd_all_pf (fun i hi => (hd i hi).2.2.1) (by rw [eV]; exact tq_pz hW d7 d8 s5 s6 _), eV]
        constructor
        · exact fun q p hp => (dd_d3_ev (gI I W a b c) ((s : Int) + cI I W a b c) p).mpr (q p hp)
        · exact fun q p hp => (dd_d3_ev (gI I W a b c) ((s : Int) + cI I W a b c) p).mp (q p hp)
      have hbnd : bndP J1 (B + 180 + 12 * k) (LU.map Prod.fst).length R.length a b c ↔ ∃ M : Int, ∀ p, dd_pf (fF I (B + 12 + 21 * j) k g) (g + t) p → -M * p.2.2.2 ≤ dd_d3 (a.toInt, b.toInt, c.toInt) p := by
        rw [sp_bnd (A9 := 2) hQ.1 hQ.2 List.mem_cons_self ha.2 hb.2 hcc.2 (by decide)]
        refine exists_congr (fun M => ?_)
        have eM : dd_add (rV a b c 0) (dd_mul M dd_e4) = (a.toInt, b.toInt, c.toInt, -(-M)) := by
          show (a.toInt + M * 0, b.toInt + M * 0, c.toInt + M * 0, -(0 : Int32).toInt + M * 1) = _
          rw [show (0 : Int32).toInt = 0 from rfl, Int.mul_zero, Int.mul_one, Int.neg_neg]
          simp
        rw [eM, dd_all_pf (fun i hi => (hd i hi).2.2.1) ⟨fun q => by omega, fun q => by show b.toInt = 0; rw [s5 q]; rfl, fun q => by show c.toInt = 0; rw [s6 q]; rfl⟩]
        constructor
        · exact fun q p hp => (dd_d3_ev (a.toInt, b.toInt, c.toInt) (-M) p).mpr (q p hp)
        · exact fun q p hp => (dd_d3_ev (a.toInt, b.toInt, c.toInt) (-M) p).mp (q p hp)
      have r2 := hz2.trans (hrow 0 (by omega))
      have r3 := hz3.trans (hrow 1 (by omega))
      have r1 := hz1.trans hbnd
      rw [hx, hm]
      have hno := dd_nothB_iff hF (fun i hi => (hd i hi).2.2.2)
      by_cases hp : ∃ p, dd_pf (fF I (B + 12 + 21 * j) k g) (g + t) p
      · rw [if_neg (fun q => hno.mp q hp)]
        obtain ⟨v1, v2, v3⟩ := dd_fallsV hF (fun i hi => (hd i hi).2.2.2) hG hp hK
        have eb : (LQ (rowF I1 J1 r j k g t) (a.toInt64, b.toInt64, c.toInt64) (g + t)).1 = z1 := by
          rw [Bool.eq_iff_iff, r1, dd_bnd_iff hF (fun i hi => (hd i hi).2.2.2) (g := (a.toInt64, b.toInt64, c.toInt64)) (G := (a.toInt, b.toInt, c.toInt)) ⟨ha.l.le (by decide), hb.l.le (by decide), hcc.l.le (by decide)⟩ hp]
        rw [eb]
        refine tv_eq (r2.trans ?_) (r3.trans ?_) v3
        · rw [v1]
          have e0 : ((0 : Nat) : Int) + cI I W a b c = cI I W a b c := by omega
          rw [e0]
        · rw [v2]
          have e1 : ((1 : Nat) : Int) + cI I W a b c = cI I W a b c + 1 := by omega
          rw [e1]
      · rw [if_pos (hno.mpr hp)]
        have n0 : ∀ p, ¬ dd_pf (fF I (B + 12 + 21 * j) k g) (g + t) p := fun p q => hp ⟨p, q⟩
        have k1 : z1 = true := r1.mpr ⟨0, fun p q => absurd q (n0 p)⟩
        have k2 : z2 = true := r2.mpr (fun p q => absurd q (n0 p))
        have k3 : z3 = true := r3.mpr (fun p q => absurd q (n0 p))
        rw [k1, k2, k3]; rfl
end QOPS2
