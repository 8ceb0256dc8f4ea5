-- BOTH SIDES OF prove
theorem zt_bit {I : gm_I} {J : gm_J} {r j : Nat} {x : Bool} {m w : Nat} (hm : m ≤ 3) (hw : w < m) : ztN I J r j x m / 2 ^ w % 2 = 1 ↔ nothB (rF I J r j w) (rN I r j w x) = true := by
  match m, hm, w, hw with
  | 1, _, 0, _ => simp only [ztN]; split <;> simp_all
  | 2, _, 0, _ => simp only [ztN]; split <;> split <;> simp_all
  | 2, _, 1, _ => simp only [ztN]; split <;> split <;> simp_all
  | 3, _, 0, _ => simp only [ztN]; split <;> split <;> split <;> simp_all
  | 3, _, 1, _ => simp only [ztN]; split <;> split <;> split <;> simp_all
  | 3, _, 2, _ => simp only [ztN]; split <;> split <;> split <;> simp_all
/-- what a term is on each way, by the reference's numbers -/
def zR (I : gm_I) (J : gm_J) (r j : Nat) (x : Bool) (a b c : Int32) (w : Nat) : zT := if nothB (rF I J r j w) (rN I r j w x) = true then (true, true, true) else (bndW I J r j w x a b c, !decide (howW I J r j w x a b c = 0), decide (howW I J r j w x a b c = nI 6))
theorem zR_tk {I : gm_I} {J : gm_J} {r j : Nat} {x : Bool} {o m : Nat} {a b c : Int32} (hm : m ≤ 3) : ∀ n, n ≤ m → ckN (zR I J r j x a b c) o n = tkN I J r j x o (ztN I J r j x m) a b c n := by
  intro n
  induction n with
  | zero => intro _; rfl
  | succ n ih =>
    intro hn
    simp only [ckN, tkN]
    rw [ih (by omega)]
    congr 1
    funext s
    unfold ckW tkW
    by_cases ho : o / 2 ^ n % 2 = 1
    · rw [if_pos ho, if_pos ho]
      have hz := zt_bit (I := I) (J := J) (r := r) (j := j) (x := x) hm (show n < m by omega)
      unfold zR
      by_cases hno : nothB (rF I J r j n) (rN I r j n x) = true
      · rw [if_pos hno, if_pos (hz.mpr hno)]; rfl
      · rw [if_neg hno, if_neg (fun q => hno (hz.mp q))]
        by_cases h0 : howW I J r j n x a b c = 0
        · rw [if_pos h0, if_neg (fun q => by rw [decide_eq_true h0] at q; exact absurd (show false = true from q) (by decide))]
        · rw [if_neg h0, if_pos (by rw [decide_eq_false h0]; rfl)]
          by_cases h6 : howW I J r j n x a b c = nI 6 ∧ bndW I J r j n x a b c = true
          · rw [if_pos h6, if_pos ⟨h6.2, decide_eq_true h6.1⟩]
          · rw [if_neg h6, if_neg (fun q => h6 ⟨of_decide_eq_true q.2, q.1⟩)]; rfl
    · rw [if_neg ho, if_neg ho]
theorem lbN_congr {T T' : Nat → Nat → Nat} (h : ∀ o, o < 8 → ∀ k, k < 125 → T o k = T' o k) (hs : ∀ o, o < 8 → ∀ k, T o k ≤ o ∨ T o k = 0) : ∀ f o, o < 8 → lbN T f o = lbN T' f o := by
  have fk : ∀ o, o < 8 → ∀ n k, n + k = 125 → fkN (T o) n k = fkN (T' o) n k := by
    intro o ho n
    induction n with
    | zero => intro k _; rfl
    | succ n ih =>
      intro k hk
      simp only [fkN]
      rw [h o ho k (by omega), ih (k + 1) (by omega)]
  have fb : ∀ o n k i, fkN (T o) n k = some i → i < k + n := by
    intro o n
    induction n with
    | zero => intro k i q; cases q
    | succ n ih =>
      intro k i q
      simp only [fkN] at q
      split at q
      · have := Option.some.inj q; omega
      · have := ih (k + 1) i q; omega
  intro f
  induction f with
  | zero => intro o _; rfl
  | succ f ih =>
    intro o ho
    simp only [lbN]
    by_cases h0 : o = 0
    · rw [if_pos h0, if_pos h0]
    · rw [if_neg h0, if_neg h0, ← fk o ho 125 0 rfl]
      cases e : fkN (T o) 125 0 with
      | none => rfl
      | some k =>
        have hk := fb o 125 0 k e
        have e2 := h o ho k (by omega)
        show ((k, T o k) :: (lbN T f (o - T o k)).1, (lbN T f (o - T o k)).2) = ((k, T' o k) :: (lbN T' f (o - T' o k)).1, (lbN T' f (o - T' o k)).2)
        rw [← e2, ih (o - T o k) (by omega)]
section QOPS3
variable {I I1 : gm_I} {J J1 : gm_J} {B r n j : Nat} {v : Int32}
theorem ld_sp {w : Nat} (hD : LD I (B + 12 + 21 * j)) (hn : n ≤ 8) (hj : j < n) (hw : w < q_lm I (B + 12 + 21 * j)) : spD I B n (nI j) (nI w) j w (q_ln I (B + 12 + 21 * j)) (q_lg I (B + 12 + 21 * j)) (q_lt I (B + 12 + 21 * j) w) := by
  obtain ⟨⟨a1, a2⟩, ⟨b1, b2, b3⟩, ⟨c1, c2⟩, d, e, f⟩ := hD
  exact ⟨hj, by omega, rfl, rfl, fw_t hn hj hw a2 a1, b1, b2, b3, c1, c2, (d w hw).1, (d w hw).2, e w hw, f w hw⟩
theorem zR_hyp (h : SI I B r) (hG : GQ I B) (hn : n ≤ 8) (en : I B 1 = nI n) : zHyp I B n v (zR I J r (nN v) false) := by
  intro j hj ev a b c hnum w hw
  subst ev
  rw [nN_nI (by omega)]
  have hD := gq_ld hG h.2.1 en hn hj
  have hS := ld_sp hD hn hj hw
  have hw3 : w < 3 := hS.2.1
  obtain ⟨_, _, q3, q4, q5⟩ := ct_of (I1 := I) h (fun _ _ => rfl) hn hS
  have hF := rf_of (I1 := I) (J1 := J) h (fun _ _ => rfl) hn hS
  obtain ⟨s1, s2, s3, _, s5, s6⟩ := numB_int (m := 2) (by omega) hnum
  have ha := tq_a (v := a) (by omega)
  have hb := tq_a (v := b) (by omega)
  have hcc := tq_a (v := c) (by omega)
  have hRW := h.2.2.2.2.2.2 j w (by omega) hw3
  have hd : ∀ i, i < q_lg I (B + 12 + 21 * j) + q_lt I (B + 12 + 21 * j) w → gdV (q_ln I (B + 12 + 21 * j)) (fF I (B + 12 + 21 * j) w (q_lg I (B + 12 + 21 * j)) i) := hD.2.2.2.2.1 w hw
  obtain ⟨hT, hK⟩ := tm_R (I := I) (I1 := I) (r := r) (j := j) (k := w) (W := B + 12 + 21 * j + 6 + 5 * w) (fun i hi => (hRW.2.2.1 i hi).symm) (fun i hi => (hRW.2.2.2 i hi).symm) (hD.2.2.2.2.2 w hw) ha hb hcc
  have eF : rF I J r j w = rowF I J r j w (q_lg I (B + 12 + 21 * j)) (q_lt I (B + 12 + 21 * j) w) := by unfold rF; rw [q4, q5]
  have eN : rN I r j w false = q_lg I (B + 12 + 21 * j) + q_lt I (B + 12 + 21 * j) w := by unfold rN; rw [q4, q5]; rfl
  have hno := dd_nothB_iff hF (fun i hi => (hd i hi).2.2.2)
  unfold zR
  rw [eF, eN]
  by_cases hp : ∃ p, dd_pf (fF I (B + 12 + 21 * j) w (q_lg I (B + 12 + 21 * j))) (q_lg I (B + 12 + 21 * j) + q_lt I (B + 12 + 21 * j) w) p
  · rw [if_neg (fun q => hno.mp q hp)]
    obtain ⟨v1, v2, v3⟩ := dd_fallsV hF (fun i hi => (hd i hi).2.2.2) hT hp hK
    have eh : howW I J r j w false a b c = fallsV (rowF I J r j w (q_lg I (B + 12 + 21 * j)) (q_lt I (B + 12 + 21 * j) w)) (tmG I r (3 * j + w) a b c) (q_lg I (B + 12 + 21 * j) + q_lt I (B + 12 + 21 * j) w) (chC I r (3 * j + w) a.toInt64 b.toInt64 c.toInt64) := by unfold howW; rw [eF, eN]
    have eb : bndW I J r j w false a b c = (LQ (rowF I J r j w (q_lg I (B + 12 + 21 * j)) (q_lt I (B + 12 + 21 * j) w)) (a.toInt64, b.toInt64, c.toInt64) (q_lg I (B + 12 + 21 * j) + q_lt I (B + 12 + 21 * j) w)).1 := by unfold bndW; rw [eF, eN]
    rw [eh, eb]
    refine ⟨?_, ?_, ?_⟩
    · exact dd_bnd_iff hF (fun i hi => (hd i hi).2.2.2) (g := (a.toInt64, b.toInt64, c.toInt64)) (G := (a.toInt, b.toInt, c.toInt)) ⟨ha.l.le (by decide), hb.l.le (by decide), hcc.l.le (by decide)⟩ hp
    · rw [← v1]; simp
    · rw [← v2]
      show decide _ = true ↔ _
      rw [decide_eq_true_iff]; exact Iff.rfl
  · rw [if_pos (hno.mpr hp)]
    have n0 : ∀ p, ¬ dd_pf (fF I (B + 12 + 21 * j) w (q_lg I (B + 12 + 21 * j))) (q_lg I (B + 12 + 21 * j) + q_lt I (B + 12 + 21 * j) w) p := fun p q => hp ⟨p, q⟩
    exact ⟨⟨fun _ => ⟨0, fun p q => absurd q (n0 p)⟩, fun _ => rfl⟩, ⟨fun _ p q => absurd q (n0 p), fun _ => rfl⟩, ⟨fun _ p q => absurd q (n0 p), fun _ => rfl⟩⟩
theorem lb_left (h : SI I B r) (hG : GQ I B) (hn : n ≤ 8) (en : I B 1 = nI n) (hj : j < n) : lbN (ckk (q_ln I (B + 12 + 21 * j)) (q_lm I (B + 12 + 21 * j)) (zR I J r j false)) 4 (opN (q_lm I (B + 12 + 21 * j))) = leftR I J r j false := by
  have hD := gq_ld hG h.2.1 en hn hj
  have hL := h.2.2.2.2.2.1 j (by omega)
  have e1 : nN (I (r + 1) j) = q_ln I (B + 12 + 21 * j) := by rw [← hL.1]; rfl
  have e2 : nN (I (r + 2) j) = q_lm I (B + 12 + 21 * j) := by rw [← hL.2.1]; rfl
  have hm := hD.1.2
  have h1 := opN_lt (q_lm I (B + 12 + 21 * j))
  have h2 : 2 ^ q_lm I (B + 12 + 21 * j) ≤ 2 ^ 3 := Nat.pow_le_pow_right (by omega) hm
  unfold leftR
  rw [e2]
  refine lbN_congr (fun o ho k hk => ?_) (fun o ho k => ?_) 4 _ (by omega)
  · unfold ckk tkk
    rw [e1, e2, zR_tk hm _ (Nat.le_refl _)]
  · have q := (ckk_ok (nm := q_ln I (B + 12 + 21 * j)) (Z := zR I J r j false) (k := k) hm ho).2.2
    by_cases c : ckk (q_ln I (B + 12 + 21 * j)) (q_lm I (B + 12 + 21 * j)) (zR I J r j false) o k = 0
    · exact Or.inr c
    · exact Or.inl (q (by omega)).1
theorem oq_prove {x z : Int32} {I2 : gm_I} {J2 : gm_J} (h : SI I B r) (hG : GQ I B) (hn : n ≤ 8) (en : I B 1 = nI n) (hc : prQ I J B n v (zR I J r (nN v) false) x (I1, J1)) (hm : (lpB I1 r v = false ∧ z = -2 ∧ (I2, J2) = (I1, J1)) ∨ (lpB I1 r v = true ∧ proveP I1 J1 r (nN v) z (I2, J2))) : x = z := by
  obtain ⟨hs, hc⟩ := hc
  have hr := h.1
  have hk : ∀ q, B + 216 ≤ q → I1 q = I q := fun q hq => (hs.1.1 q (by omega)).1
  rw [lpB_k hk hr, lp_same (h.ent en)] at hm
  rcases hc with ⟨c1, c2, _⟩ | ⟨j, hj, ev, _, hx, _⟩
  · rcases hm with ⟨_, m2, _⟩ | ⟨m1, _⟩
    · rw [c2, m2]
    · rw [c1] at m1; cases m1
  · subst ev
    rcases hm with ⟨m1, _⟩ | ⟨_, _, m2, _⟩
    · rw [inI_in (by omega) hj] at m1; cases m1
    · rw [nN_nI (by omega)] at m2 hx
      have eQ : eqQ r I J I1 J1 := ⟨fun c _ _ k => by rw [hk (r + c) (by omega)], fun k _ _ => congrFun (hs.1.1 r (by omega)).2 k⟩
      rw [leftR_eqQ eQ] at m2
      rw [lb_left h hG hn en hj] at hx
      rw [hx, m2]
end QOPS3
