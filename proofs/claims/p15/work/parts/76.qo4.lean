-- BOTH SIDES OF need
def nJ (J : gm_J) (r : Nat) (a b c d : Int32) : gm_J := gm_up (gm_up (gm_up (gm_up J r 29 a.toInt64) r 30 b.toInt64) r 31 c.toInt64) r 32 d.toInt64
theorem nJ_at (J : gm_J) (r : Nat) (a b c d : Int32) : nJ J r a b c d r 29 = a.toInt64 ∧ nJ J r a b c d r 30 = b.toInt64 ∧ nJ J r a b c d r 31 = c.toInt64 ∧ nJ J r a b c d r 32 = d.toInt64 := by
  unfold nJ
  refine ⟨?_, ?_, ?_, gm_up_same _ _ _ _⟩
  · rw [gm_up_ne _ _ (by omega), gm_up_ne _ _ (by omega), gm_up_ne _ _ (by omega), gm_up_same]
  · rw [gm_up_ne _ _ (by omega), gm_up_ne _ _ (by omega), gm_up_same]
  · rw [gm_up_ne _ _ (by omega), gm_up_same]
def zR4 (I : gm_I) (J : gm_J) (r j : Nat) : Z4 := fun a b c d a' b' c' w => zR I (nJ J r a b c d) r j true a' b' c' w
def yR4 (I : gm_I) (J : gm_J) (r j : Nat) : Y4 := fun a b c d w => lastW I (nJ J r a b c d) r j w
theorem rf_ext {f : Nat → Nat → Int64} {F : Nat → dd_V} {M : Nat} {a b c d : Int32} (hF : dd_RF f F M) (e0 : f 0 M = a.toInt64) (e1 : f 1 M = b.toInt64) (e2 : f 2 M = c.toInt64) (e3 : f 3 M = d.toInt64) (hs : dd_sm (rV a b c d)) : dd_RF f (fE F M (rV a b c d)) (M + 1) := by
  obtain ⟨s1, s2, s3, s4⟩ := rV_sm hs
  have k1 : ∀ i, i < M → fE F M (rV a b c d) i = F i := fun i hi => if_pos hi
  have k2 : fE F M (rV a b c d) M = rV a b c d := if_neg (Nat.lt_irrefl M)
  refine ⟨fun i hi => ?_, fun i hi => ?_, fun i hi => ?_, fun i hi => ?_⟩
  · by_cases q : i < M
    · rw [k1 i q]; exact hF.a i q
    · rw [show i = M by omega, k2, e0]; exact ⟨Int32.toInt_toInt64 a, s1⟩
  · by_cases q : i < M
    · rw [k1 i q]; exact hF.b i q
    · rw [show i = M by omega, k2, e1]; exact ⟨Int32.toInt_toInt64 b, s2⟩
  · by_cases q : i < M
    · rw [k1 i q]; exact hF.c i q
    · rw [show i = M by omega, k2, e2]; exact ⟨Int32.toInt_toInt64 c, s3⟩
  · unfold dd_D
    by_cases q : i < M
    · rw [k1 i q]; exact hF.d i q
    · rw [show i = M by omega, k2, e3]
      show dd_R d.toInt64 (-(-d.toInt)) 1000
      rw [Int.neg_neg]
      exact ⟨Int32.toInt_toInt64 d, s4⟩
theorem zR_core {I : gm_I} {J : gm_J} {r j w W nm M : Nat} {x : Bool} {F : Nat → dd_V} {a b c : Int32} (hF : dd_RF (rF I J r j w) F M) (eN : rN I r j w x = M) (hd : ∀ i, i < M → gdV nm (F i)) (hT : dd_RG (tmG I r (3 * j + w) a b c) (gI I W a b c)) (hK : dd_R (chC I r (3 * j + w) a.toInt64 b.toInt64 c.toInt64) (cI I W a b c) 4000) (ha : iR a a.toInt 2) (hb : iR b b.toInt 2) (hcc : iR c c.toInt 2) : zsp I W F M a b c (zR I J r j x a b c w) := by
  have hno := dd_nothB_iff hF (fun i hi => (hd i hi).2.2.2)
  unfold zR
  rw [eN]
  by_cases hp : ∃ p, dd_pf F M p
  · rw [if_neg (fun q => hno.mp q hp)]
    obtain ⟨v1, v2, v3⟩ := dd_fallsV hF (fun i hi => (hd i hi).2.2.2) hT hp hK
    have eh : howW I J r j w x a b c = fallsV (rF I J r j w) (tmG I r (3 * j + w) a b c) M (chC I r (3 * j + w) a.toInt64 b.toInt64 c.toInt64) := by unfold howW; rw [eN]
    have eb : bndW I J r j w x a b c = (LQ (rF I J r j w) (a.toInt64, b.toInt64, c.toInt64) M).1 := by unfold bndW; rw [eN]
    rw [eh, eb]
    refine ⟨?_, ?_, ?_⟩
    · exact dd_bnd_iff hF (fun i hi => (hd i hi).2.2.2) (g := (a.toInt64, b.toInt64, c.toInt64)) (G := (a.toInt, b.toInt, c.toInt)) ⟨ha.l.le (by decide), hb.l.le (by decide), hcc.l.le (by decide)⟩ hp
    · rw [← v1]; simp
    · rw [← v2]
      show decide _ = true ↔ _
      rw [decide_eq_true_iff]; exact Iff.rfl
  · rw [if_pos (hno.mpr hp)]
    have n0 : ∀ p, ¬ dd_pf F M p := fun p q => hp ⟨p, q⟩
    exact ⟨⟨fun _ => ⟨0, fun p q => absurd q (n0 p)⟩, fun _ => rfl⟩, ⟨fun _ p q => absurd q (n0 p), fun _ => rfl⟩, ⟨fun _ p q => absurd q (n0 p), fun _ => rfl⟩⟩
theorem ch_RG {I I1 : gm_I} {r j k W nm : Nat} {a b c : Int32} (f7 : ∀ i, i < 9 → I1 (r + 7) (9 * (3 * j + k) + i) = I (W + 3) i) (hW : gqW I W nm) (ha : iR a a.toInt 2) (hb : iR b b.toInt 2) (hcc : iR c c.toInt 2) : dd_RG (chG I1 r (3 * j + k) a.toInt64 b.toInt64 c.toInt64) (wI I W 0 a b c, wI I W 1 a b c, wI I W 2 a b c) := by
  refine ⟨?_, ?_, ?_⟩
  · have q := (tq_w hW ha hb hcc (i := 0) (by omega)).2
    have e : (chG I1 r (3 * j + k) a.toInt64 b.toInt64 c.toInt64).1 = a.toInt64 * (I (W + 3) 0).toInt64 + b.toInt64 * (I (W + 3) (3 + 0)).toInt64 + c.toInt64 * (I (W + 3) (6 + 0)).toInt64 := by
      show a.toInt64 * (I1 (r + 7) (9 * (3 * j + k) + 0)).toInt64 + b.toInt64 * (I1 (r + 7) (9 * (3 * j + k) + 3)).toInt64 + c.toInt64 * (I1 (r + 7) (9 * (3 * j + k) + 6)).toInt64 = _
      rw [f7 0 (by omega), f7 3 (by omega), f7 6 (by omega)]
    rw [e]; exact q.le (by decide)
  · have q := (tq_w hW ha hb hcc (i := 1) (by omega)).2
    have e : (chG I1 r (3 * j + k) a.toInt64 b.toInt64 c.toInt64).2.1 = a.toInt64 * (I (W + 3) 1).toInt64 + b.toInt64 * (I (W + 3) (3 + 1)).toInt64 + c.toInt64 * (I (W + 3) (6 + 1)).toInt64 := by
      show a.toInt64 * (I1 (r + 7) (9 * (3 * j + k) + 1)).toInt64 + b.toInt64 * (I1 (r + 7) (9 * (3 * j + k) + 4)).toInt64 + c.toInt64 * (I1 (r + 7) (9 * (3 * j + k) + 7)).toInt64 = _
      rw [f7 1 (by omega), f7 4 (by omega), f7 7 (by omega)]
    rw [e]; exact q.le (by decide)
  · have q := (tq_w hW ha hb hcc (i := 2) (by omega)).2
    have e : (chG I1 r (3 * j + k) a.toInt64 b.toInt64 c.toInt64).2.2 = a.toInt64 * (I (W + 3) 2).toInt64 + b.toInt64 * (I (W + 3) (3 + 2)).toInt64 + c.toInt64 * (I (W + 3) (6 + 2)).toInt64 := by
      show a.toInt64 * (I1 (r + 7) (9 * (3 * j + k) + 2)).toInt64 + b.toInt64 * (I1 (r + 7) (9 * (3 * j + k) + 5)).toInt64 + c.toInt64 * (I1 (r + 7) (9 * (3 * j + k) + 8)).toInt64 = _
      rw [f7 2 (by omega), f7 5 (by omega), f7 8 (by omega)]
    rw [e]; exact q.le (by decide)
section QOPS4
variable {I I1 : gm_I} {J J1 : gm_J} {B r n j : Nat} {v : Int32}
theorem zR4_hyp (h : SI I B r) (hG : GQ I B) (hn : n ≤ 8) (en : I B 1 = nI n) : ∀ j, j < n → v = nI j → z4Hyp I (B + 12 + 21 * j) (zR4 I J r (nN v)) (yR4 I J r (nN v)) := by
  intro j hj ev a b c d hnum hd2 w hw
  subst ev
  rw [nN_nI (by omega)]
  have hD := gq_ld hG h.2.1 en hn hj
  have hS := ld_sp hD hn hj hw
  have hw3 : w < 3 := hS.2.1
  obtain ⟨_, _, q3, q4, q5⟩ := ct_of (I1 := I) h (fun _ _ => rfl) hn hS
  obtain ⟨n1, n2, n3, n4⟩ := nJ_at J r a b c d
  have hg : gdV (q_ln I (B + 12 + 21 * j)) (rV a b c d) := num_gd hD.2.1.2.1 (by omega) hnum (by have := hd2.1; have := hd2.2; omega)
  have hF0 := rf_of (I1 := I) (J1 := nJ J r a b c d) h (fun _ _ => rfl) hn hS
  have ex : ∀ c', rowF I (nJ J r a b c d) r j w (q_lg I (B + 12 + 21 * j)) (q_lt I (B + 12 + 21 * j) w) c' (q_lg I (B + 12 + 21 * j) + q_lt I (B + 12 + 21 * j) w) = nJ J r a b c d r (29 + c') := fun c' => by
    unfold rowF; rw [if_neg (by omega), if_neg (by omega)]
  have hF1 := rf_ext (a := a) (b := b) (c := c) (d := d) hF0 ((ex 0).trans n1) ((ex 1).trans n2) ((ex 2).trans n3) ((ex 3).trans n4) hg.1
  have eF : rF I (nJ J r a b c d) r j w = rowF I (nJ J r a b c d) r j w (q_lg I (B + 12 + 21 * j)) (q_lt I (B + 12 + 21 * j) w) := by unfold rF; rw [q4, q5]
  have eN : rN I r j w true = q_lg I (B + 12 + 21 * j) + q_lt I (B + 12 + 21 * j) w + 1 := by unfold rN; rw [q4, q5]; rfl
  rw [← eF] at hF1
  have hRW := h.2.2.2.2.2.2 j w (by omega) hw3
  have hd := gd_fE (hD.2.2.2.2.1 w hw) hg
  have hW := hD.2.2.2.2.2 w hw
  refine ⟨fun a' b' c' hn' => ?_, ?_⟩
  · obtain ⟨s1, s2, s3, _, s5, s6⟩ := numB_int (m := 2) (by omega) hn'
    have ha := tq_a (v := a') (by omega)
    have hb := tq_a (v := b') (by omega)
    have hcc := tq_a (v := c') (by omega)
    obtain ⟨hT, hK⟩ := tm_R (I := I) (I1 := I) (r := r) (j := j) (k := w) (W := B + 12 + 21 * j + 6 + 5 * w) (fun i hi => (hRW.2.2.1 i hi).symm) (fun i hi => (hRW.2.2.2 i hi).symm) hW ha hb hcc
    exact zR_core hF1 eN hd hT hK ha hb hcc
  · obtain ⟨s1, s2, s3, _, s5, s6⟩ := numB_int (m := 1) (by omega) hnum
    have ha := tq_a (v := a) (by omega)
    have hb := tq_a (v := b) (by omega)
    have hcc := tq_a (v := c) (by omega)
    have hT := ch_RG (I := I) (I1 := I) (r := r) (j := j) (k := w) (W := B + 12 + 21 * j + 6 + 5 * w) (fun i hi => (hRW.2.2.1 i hi).symm) hW ha hb hcc
    obtain ⟨_, hK⟩ := tm_R (I := I) (I1 := I) (r := r) (j := j) (k := w) (W := B + 12 + 21 * j + 6 + 5 * w) (fun i hi => (hRW.2.2.1 i hi).symm) (fun i hi => (hRW.2.2.2 i hi).symm) hW ha hb hcc
    have rd : dd_R d.toInt64 d.toInt 2 := ⟨Int32.toInt_toInt64 d, hd2.1, hd2.2⟩
    have rs : dd_R (d.toInt64 - chC I r (3 * j + w) a.toInt64 b.toInt64 c.toInt64) (d.toInt - cI I (B + 12 + 21 * j + 6 + 5 * w) a b c) 5000 := (rd.sub hK (by decide)).le (by decide)
    unfold ysp yR4 lastW
    rw [n1, n2, n3, n4, eN, Bool.or_eq_true, dd_nothB_iff hF1 (fun i hi => (hd i hi).2.2.2)]
    by_cases hp : ∃ p, dd_pf (fE (fF I (B + 12 + 21 * j) w (q_lg I (B + 12 + 21 * j))) (q_lg I (B + 12 + 21 * j) + q_lt I (B + 12 + 21 * j) w) (rV a b c d)) (q_lg I (B + 12 + 21 * j) + q_lt I (B + 12 + 21 * j) w + 1) p
    · rw [dd_leastT_iff hF1 (fun i hi => (hd i hi).2.2.2) hT hp rs]
      exact ⟨fun q => q.resolve_left (fun q2 => q2 hp), Or.inr⟩
    · exact ⟨fun _ p q => absurd ⟨p, q⟩ hp, fun _ => Or.inl hp⟩
theorem lb_leftx {x : Bool} (h : SI I B r) (hG : GQ I B) (hn : n ≤ 8) (en : I B 1 = nI n) (hj : j < n) : lbN (ckk (q_ln I (B + 12 + 21 * j)) (q_lm I (B + 12 + 21 * j)) (zR I J r j x)) 4 (opN (q_lm I (B + 12 + 21 * j))) = leftR I J r j x := by
  have hD := gq_ld hG h.2.1 en hn hj
  have hL := h.2.2.2.2.2.1 j (by omega)
  have e1 : nN (I (r + 1) j) = q_ln I (B + 12 + 21 * j) := by rw [← hL.1]; rfl
  have e2 : nN (I (r + 2) j) = q_lm I (B + 12 + 21 * j) := by rw [← hL.2.1]; rfl
  have hm := hD.1.2
  have h1 := opN_lt (q_lm I (B + 12 + 21 * j))
  have h2 : 2 ^ q_lm I (B + 12 + 21 * j) ≤ 2 ^ 3 := Nat.pow_le_pow_right (by omega) hm
  unfold leftR
  rw [e2]
  refine lbN_congr (fun o ho k hk => ?_) (fun o ho k => ?_) 4 _ (by omega)
  · unfold ckk tkk
    rw [e1, e2, zR_tk hm _ (Nat.le_refl _)]
  · have q := (ckk_ok (nm := q_ln I (B + 12 + 21 * j)) (Z := zR I J r j x) (k := k) hm ho).2.2
    by_cases c : ckk (q_ln I (B + 12 + 21 * j)) (q_lm I (B + 12 + 21 * j)) (zR I J r j x) o k = 0
    · exact Or.inr c
    · exact Or.inl (q (by omega)).1
theorem yN_last (m : Nat) {a b c d : Int32} : yN (yR4 I J r j a b c d) m = lastN I (nJ J r a b c d) r j m := by
  induction m with
  | zero => rfl
  | succ m ih => simp only [yN, lastN]; rw [ih]; rfl
theorem ng_nd (h : SI I B r) (hG : GQ I B) (hn : n ≤ 8) (en : I B 1 = nI n) (hj : j < n) (hk : ∀ q, B + 216 ≤ q → I1 q = I q) (k : Nat) : NG (q_ln I (B + 12 + 21 * j)) (q_lm I (B + 12 + 21 * j)) (zR4 I J r j) (yR4 I J r j) k ↔ 0 < ndT I1 J1 r j k := by
  have hr := h.1
  have hL := h.2.2.2.2.2.1 j (by omega)
  have e1 : nN (I1 (r + 1) j) = q_ln I (B + 12 + 21 * j) := by rw [hk (r + 1) (by omega), ← hL.1]; rfl
  have e2 : nN (I1 (r + 2) j) = q_lm I (B + 12 + 21 * j) := by rw [hk (r + 2) (by omega), ← hL.2.1]; rfl
  have eQ : eqQ r I (naJ J r k) I1 (naJ J1 r k) := by
    refine ⟨fun c _ _ i => by rw [hk (r + c) (by omega)], fun i h29 h32 => ?_⟩
    unfold naJ
    rcases (show i = 29 ∨ i = 30 ∨ i = 31 ∨ i = 32 by omega) with rfl | rfl | rfl | rfl <;> simp [gm_up]
  unfold NG ngd ndT
  rw [e1, e2, lastN_eqQ eQ, leftR_eqQ eQ, yN_last]
  have el : lbN (ckk (q_ln I (B + 12 + 21 * j)) (q_lm I (B + 12 + 21 * j)) (zR4 I J r j (nKa k) (nKb k) (nKc k) (nKd k))) 4 (opN (q_lm I (B + 12 + 21 * j))) = leftR I (naJ J r k) r j true := lb_leftx (J := naJ J r k) (x := true) h hG hn en hj
  rw [el]
  show numB _ _ _ _ _ = true ∧ lastN I (naJ J r k) r j _ = true ∧ _ ↔ _
  constructor
  · intro q; rw [if_pos q]; omega
  · intro q
    by_cases c : numB (q_ln I (B + 12 + 21 * j)) (nKa k) (nKb k) (nKc k) (nI 1) = true ∧ lastN I (naJ J r k) r j (q_lm I (B + 12 + 21 * j)) = true ∧ (leftR I (naJ J r k) r j true).2 = 0
    · exact c
    · rw [if_neg c] at q; omega
theorem oq_need {x z : Int32} {I2 : gm_I} {J2 : gm_J} (h : SI I B r) (hG : GQ I B) (hn : n ≤ 8) (en : I B 1 = nI n) (hc : ndQ I J B n v (zR I J r (nN v) false) (zR4 I J r (nN v)) (yR4 I J r (nN v)) x (I1, J1)) (hm : (lpB I1 r v = false ∧ z = -2 ∧ (I2, J2) = (I1, J1)) ∨ (lpB I1 r v = true ∧ needP I1 J1 r (nN v) z (I2, J2))) : x = z := by
  obtain ⟨hs, _, hc⟩ := hc
  have hr := h.1
  have hk : ∀ q, B + 216 ≤ q → I1 q = I q := fun q hq => (hs.1.1 q (by omega)).1
  rw [lpB_k hk hr, lp_same (h.ent en)] at hm
  rcases hc with ⟨c1, c2, _⟩ | ⟨j, hj, ev, hc⟩
  · rcases hm with ⟨_, m2, _⟩ | ⟨m1, _⟩
    · rw [c2, m2]
    · rw [c1] at m1; cases m1
  · subst ev
    rcases hm with ⟨m1, _⟩ | ⟨_, _, m2⟩
    · rw [inI_in (by omega) hj] at m1; cases m1
    · rw [nN_nI (by omega)] at m2 hc
      have eQ : eqQ r I J I1 J1 := ⟨fun c _ _ k => by rw [hk (r + c) (by omega)], fun k _ _ => congrFun (hs.1.1 r (by omega)).2 k⟩
      rw [leftR_eqQ eQ] at m2
      rw [lb_left h hG hn en hj] at hc
      have key := fun k => ng_nd (J := J) (J1 := J1) h hG hn en hj hk k
      rcases hc with ⟨k1, k2, _⟩ | ⟨k1, hc⟩
      · rw [if_pos k1] at m2
        rw [k2, m2.1]
      · rw [if_neg k1] at m2
        rcases hc with ⟨k2, _, k3⟩ | ⟨k2, _, k, k3, k4, _⟩
        · cases e : fkN (ndT I1 J1 r j) 135 0 with
          | none => rw [e] at m2; rw [k2, m2.1]
          | some k =>
            obtain ⟨p1, _, p3⟩ := fkN_some 135 0 e
            exact absurd ((key k).mpr p1) (k3 k (by omega))
        · cases e : fkN (ndT I1 J1 r j) 135 0 with
          | none =>
            have p := fkN_zero 135 0 e k (by omega) (by omega)
            have q := (key k).mp k4
            omega
          | some k' => rw [e] at m2; rw [k2, m2.1]
end QOPS4
