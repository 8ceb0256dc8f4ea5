-- THE INVARIANT OF THE ROWS IS KEPT
section GQS
variable {I I1 I2 I' : gm_I} {J J1 J2 : gm_J} {B r : Nat}
theorem gqW.congr {w nm : Nat} (h : gqW I w nm) (e : ∀ q, w ≤ q → q ≤ w + 4 → I' q = I q) : gqW I' w nm := by
  unfold gqW gqR at *
  rw [e (w + 1) (by omega) (by omega), e (w + 1 + 1) (by omega) (by omega), e (w + 3) (by omega) (by omega), e (w + 4) (by omega) (by omega)]
  exact h
theorem gqL.congr {o : Nat} (h : gqL I o) (e : ∀ q, o ≤ q → q ≤ o + 20 → I' q = I q) : gqL I' o := by
  obtain ⟨nm, h1, h2, h3, h4, h5⟩ := h
  refine ⟨nm, by rw [e o (by omega) (by omega)]; exact h1, h2, h3, ?_, ?_⟩
  · unfold gqR at *
    rw [e (o + 1) (by omega) (by omega), e (o + 1 + 1) (by omega) (by omega)]; exact h4
  · rw [e o (by omega) (by omega)]
    intro k hk
    obtain ⟨a, b⟩ := h5 k hk
    exact ⟨a, b.congr (fun q h1 h2 => e q (by omega) (by omega))⟩
theorem GQ.keep (h : GQ I B) (h1 : I' B 1 = I B 1) (hc : ∀ q, B + 12 ≤ q → q < B + 180 → I' q = I q) : GQ I' B := by
  unfold GQ at *
  rw [h1]
  intro j hj
  obtain ⟨a, b⟩ := h j hj
  exact ⟨a, b.congr (fun q h1 h2 => hc q (by omega) (by omega))⟩
theorem GQ.cls (h : GQ I B) (hs : sfF B I J (I1, J1)) : GQ I1 B := h.keep hs.1.2 (fun q h1 h2 => (hs.1.1 q (by omega)).1)
theorem GQ.low (h : GQ I B) (hr : r = B + 216) (hk : ∀ q, q < r → I' q = I q) : GQ I' B := h.keep (by rw [hk B (by omega)]) (fun q h1 h2 => hk q (by omega))
theorem GQ.eq (h : GQ I B) (e : (I1, J1) = (I, J)) : GQ I1 B := by rw [(Prod.mk.inj e).1]; exact h
theorem GQ.eqI (h : GQ I B) (e : I1 = I) : GQ I1 B := by rw [e]; exact h
theorem GQ.qm (h : GQ I B) (hr : r = B + 216) (hq : qM r I I1) : GQ I1 B := h.low hr (fun q h => by funext k; exact hq _ _ (by omega))
theorem GQ.refS (h : GQ I B) (hr : r = B + 216) (hs : eqS r I J I1 J1) : GQ I1 B := h.qm hr (fun q k n => hs.1 q k (by omega))
theorem GQ.refP {j : Nat} {z : Int32} (h : GQ I B) (hr : r = B + 216) (hs : proveP I J r j z (I1, J1)) : GQ I1 B := h.qm hr (fun q k n => hs.2.2.1.1 q k (by omega))
theorem GQ.refN {j : Nat} {z : Int32} (h : GQ I B) (hr : r = B + 216) (hs : needP I J r j z (I1, J1)) : GQ I1 B := h.qm hr (fun q k n => hs.1.1 q k (by omega))
theorem GQ.lp {j n : Nat} (h : GQ I B) (en : I B 1 = nI n) (hn : n ≤ 8) (h1 : I' B 1 = I B 1) (hj : j < n) (hO : ∀ q, B + 12 ≤ q → q < B + 180 → (q < B + 12 + 21 * j ∨ B + 12 + 21 * j + 20 < q) → I' q = I q) (hL : gqL I (B + 12 + 21 * j) → gqL I' (B + 12 + 21 * j)) : GQ I' B := by
  unfold GQ at *
  rw [h1, en, nN_nI (by omega)]
  rw [en, nN_nI (by omega)] at h
  intro i hi
  obtain ⟨a, b⟩ := h i hi
  refine ⟨a, ?_⟩
  by_cases c : i = j
  · subst c; exact hL b
  · exact b.congr (fun q h1 h2 => hO q (by omega) (by omega) (by omega))
theorem lay4_at (I : gm_I) (q k : Nat) (a b c d : Int32) : lay4 I q k a b c d q k = a ∧ lay4 I q k a b c d q (k + 1) = b ∧ lay4 I q k a b c d q (k + 2) = c ∧ lay4 I q k a b c d q (k + 3) = d := by
  unfold lay4
  refine ⟨?_, ?_, ?_, gm_up_same _ _ _ _⟩
  · rw [gm_up_ne _ _ (by omega), gm_up_ne _ _ (by omega), gm_up_ne _ _ (by omega), gm_up_same]
  · rw [gm_up_ne _ _ (by omega), gm_up_ne _ _ (by omega), gm_up_same]
  · rw [gm_up_ne _ _ (by omega), gm_up_same]
theorem lay4_o (I : gm_I) {q k p j : Nat} (a b c d : Int32) (h : p ≠ q ∨ j < k ∨ k + 3 < j) : lay4 I q k a b c d p j = I p j := by
  unfold lay4
  rw [gm_up_ne _ _ (by omega), gm_up_ne _ _ (by omega), gm_up_ne _ _ (by omega), gm_up_ne _ _ (by omega)]
theorem gqR.lay {a g nm : Nat} {x y z w : Int32} (h : ∀ i, i < g → gqR I a nm i) (hr : rowB nm x y z w = true) : ∀ i, i < g + 1 → gqR (lay4 I a (4 * g) x y z w) a nm i := by
  intro i hi
  unfold gqR
  by_cases c : i = g
  · subst c
    obtain ⟨e1, e2, e3, e4⟩ := lay4_at I a (4 * i) x y z w
    rw [e1, e2, e3, e4]; exact hr
  · rw [lay4_o _ _ _ _ _ (by omega), lay4_o _ _ _ _ _ (by omega), lay4_o _ _ _ _ _ (by omega), lay4_o _ _ _ _ _ (by omega)]
    exact h i (by omega)
theorem nm_eq {o nm nm' : Nat} (h : I o 0 = nI nm) (h' : I o 0 = nI nm') (h3 : nm ≤ 3) (h3' : nm' ≤ 3) : nm = nm' := (nI_eq (by omega) (by omega)).mp (h.symm.trans h')
/-- the reference leaves what lies below it alone -/
theorem lo_guard {v a b c d z : Int32} (hm : (z, I2, J2) = sp_guard I1 J1 r v a b c d) : ∀ q, q < r → I2 q = I1 q := by
  intro q hq
  unfold sp_guard at hm
  repeat' split at hm
  all_goals obtain ⟨_, e⟩ := Prod.mk.inj hm
  all_goals obtain ⟨rfl, _⟩ := Prod.mk.inj e
  all_goals first | rfl | (unfold lay4; repeat rw [gm_up_off _ _ _ (by omega)])
theorem lo_row {v w a b c d z : Int32} (hm : (z, I2, J2) = sp_row I1 J1 r v w a b c d) : ∀ q, q < r → I2 q = I1 q := by
  intro q hq
  unfold sp_row at hm
  repeat' split at hm
  all_goals obtain ⟨_, e⟩ := Prod.mk.inj hm
  all_goals obtain ⟨rfl, _⟩ := Prod.mk.inj e
  all_goals first | rfl | (unfold lay4; repeat rw [gm_up_off _ _ _ (by omega)])
theorem lo_factor {v w a b x z : Int32} (hm : (z, I2, J2) = sp_factor I1 J1 r v w a b x) : ∀ q, q < r → I2 q = I1 q := by
  intro q hq
  unfold sp_factor at hm
  repeat' split at hm
  all_goals obtain ⟨_, e⟩ := Prod.mk.inj hm
  all_goals obtain ⟨rfl, _⟩ := Prod.mk.inj e
  all_goals first | rfl | (rw [gm_up_off _ _ _ (by omega)])
theorem lo_constant {v w a x z : Int32} (hm : (z, I2, J2) = sp_constant I1 J1 r v w a x) : ∀ q, q < r → I2 q = I1 q := by
  intro q hq
  unfold sp_constant at hm
  repeat' split at hm
  all_goals obtain ⟨_, e⟩ := Prod.mk.inj hm
  all_goals obtain ⟨rfl, _⟩ := Prod.mk.inj e
  all_goals first | rfl | (rw [gm_up_off _ _ _ (by omega)])
theorem lo_way {v z : Int32} (hm : (z, I2, J2) = sp_way I1 J1 r v) : ∀ q, q < r → I2 q = I1 q := by
  intro q hq
  unfold sp_way at hm
  repeat' split at hm
  all_goals obtain ⟨_, e⟩ := Prod.mk.inj hm
  all_goals obtain ⟨rfl, _⟩ := Prod.mk.inj e
  all_goals first | rfl | (unfold way3 way9; repeat rw [gm_up_off _ _ _ (by omega)])
theorem num13' {v : Int32} (h : inI v (nI 1) (nI 3) = true) : ∃ g, 1 ≤ g ∧ g ≤ 3 ∧ v = nI g := by
  obtain ⟨g, h3, rfl⟩ := num3 h
  refine ⟨g, ?_, h3, rfl⟩
  rcases Nat.lt_or_ge 0 g with q | q
  · exact q
  · have e : g = 0 := by omega
    subst e
    exact absurd h (by decide)
theorem gq_loop {n : Nat} {v x z : Int32} (h : SI I B r) (hG : GQ I B) (hn : n ≤ 8) (en : I B 1 = nI n) (hc : (inI v (nI 1) (nI 3) = false ∧ x = -3 ∧ (I1, J1) = (I, J)) ∨ (inI v (nI 1) (nI 3) = true ∧ n = 8 ∧ x = -4 ∧ (I1, J1) = (I, J)) ∨ (inI v (nI 1) (nI 3) = true ∧ n < 8 ∧ x = nI n ∧ (I1, J1) = (gm_up (lbI I (B + 12 + 21 * n) v) B 1 (nI (n + 1)), lbJ J (B + 12 + 21 * n)))) (hm : (inI v (nI 1) (nI 3) = false ∧ z = -3 ∧ (I2, J2) = (I1, J1)) ∨ (inI v (nI 1) (nI 3) = true ∧ n = 8 ∧ z = -4 ∧ (I2, J2) = (I1, J1)) ∨ (inI v (nI 1) (nI 3) = true ∧ n < 8 ∧ z = nI n ∧ (I2, J2) = (gm_up (gm_up (gm_up (gm_up I1 (r + 1) n v) (r + 2) n (nI 0)) (r + 3) n (nI 0)) r 0 (nI (n + 1)), gm_up (gm_up (gm_up J1 (r + 9) (3 * n + 0) 0) (r + 9) (3 * n + 1) 0) (r + 9) (3 * n + 2) 0))) : GQ I2 B := by
  have hr := h.1
  have low : ∀ q, q < r → I2 q = I1 q := by
    intro q hq
    rcases hm with ⟨_, _, e⟩ | ⟨_, _, _, e⟩ | ⟨_, _, _, e⟩
    · rw [(Prod.mk.inj e).1]
    · rw [(Prod.mk.inj e).1]
    · rw [(Prod.mk.inj e).1]
      repeat rw [gm_up_off _ _ _ (by omega)]
  refine GQ.low ?_ hr low
  rcases hc with ⟨_, _, e⟩ | ⟨_, _, _, e⟩ | ⟨c1, c2, _, e⟩
  · exact hG.eq e
  · exact hG.eq e
  · rw [(Prod.mk.inj e).1]
    obtain ⟨g, g1, g3, rfl⟩ := num13' c1
    unfold GQ at *
    rw [en, nN_nI (by omega)] at hG
    rw [gm_up_same, nN_nI (by omega)]
    intro j hj
    refine ⟨by omega, ?_⟩
    by_cases c : j = n
    · subst c
      refine ⟨g, ?_, g1, g3, ?_, ?_⟩
      · unfold lbI; rw [gm_up_ne _ _ (by omega), gm_up_ne _ _ (by omega), gm_up_ne _ _ (by omega), gm_up_same]
      · intro i hi
        unfold lbI at hi
        rw [gm_up_ne _ _ (by omega), gm_up_ne _ _ (by omega), gm_up_same, nN_nI (by omega)] at hi
        omega
      · intro i hi
        unfold lbI at hi
        rw [gm_up_ne _ _ (by omega), gm_up_same, nN_nI (by omega)] at hi
        omega
    · refine (hG j (by omega)).2.congr (fun q h1 h2 => ?_)
      unfold lbI
      rw [gm_up_off _ _ _ (by omega), gm_up_off _ _ _ (by omega), gm_up_off _ _ _ (by omega), gm_up_off _ _ _ (by omega)]
theorem gq_clear {x z : Int32} (h : SI I B r) (hc : x = I B 1 ∧ (I1, J1) = (gm_up (gm_up (gm_up I B 1 (nI 0)) (B + 4) 1 (nI 0)) (B + 4) 2 (nI 0), J)) (hm : z = I1 r 0 ∧ (I2, J2) = (gm_up (gm_up (gm_up (gm_up I1 r 0 (nI 0)) r 10 (nI 0)) r 12 (nI 0)) r 13 (nI 0), J1)) : GQ I2 B := by
  have hr := h.1
  unfold GQ
  rw [(Prod.mk.inj hm.2).1, gm_up_ne _ _ (by omega), gm_up_ne _ _ (by omega), gm_up_ne _ _ (by omega), gm_up_ne _ _ (by omega), (Prod.mk.inj hc.2).1, gm_up_ne _ _ (by omega), gm_up_ne _ _ (by omega), gm_up_same, nN_nI (by omega)]
  intro j hj; omega
theorem gq_guard {n : Nat} {v a b c d x z : Int32} (h : SI I B r) (hG : GQ I B) (hn : n ≤ 8) (en : I B 1 = nI n) (hc : gdP I J B n v a b c d x (I1, J1)) (hm : (z, I2, J2) = sp_guard I1 J1 r v a b c d) : GQ I2 B := by
  refine GQ.low ?_ h.1 (lo_guard hm)
  rcases hc with ⟨_, _, e⟩ | ⟨j, nm, g, hj, _, enm, hnm, eg, hg, ⟨_, _, e⟩ | ⟨_, _, _, e⟩ | ⟨hrow, hg4, _, e⟩⟩
  · exact hG.eq e
  · exact hG.eq e
  · exact hG.eq e
  · rw [(Prod.mk.inj e).1]
    refine hG.lp en hn ?_ hj (fun q h1 h2 h3 => ?_) (fun hL => ?_)
    · rw [gm_up_ne _ _ (by omega), lay4_o _ _ _ _ _ (by omega)]
    · rw [gm_up_off _ _ _ (by omega)]; funext k; exact lay4_o _ _ _ _ _ (by omega)
    · obtain ⟨nm', h1, h2, h3, h4, h5⟩ := hL
      have e0 := nm_eq enm h1 hnm h3
      subst e0
      rw [eg, nN_nI (by omega)] at h4
      refine ⟨nm, ?_, h2, h3, ?_, ?_⟩
      · rw [gm_up_ne _ _ (by omega), lay4_o _ _ _ _ _ (by omega)]; exact enm
      · rw [gm_up_same, nN_nI (by omega)]
        intro i hi
        have q := gqR.lay h4 hrow i hi
        unfold gqR at q ⊢
        rw [gm_up_off _ _ _ (by omega)]; exact q
      · rw [gm_up_ne _ _ (by omega), lay4_o _ _ _ _ _ (by omega)]
        intro k hk
        obtain ⟨k1, k2⟩ := h5 k hk
        exact ⟨k1, k2.congr (fun q q1 q2 => by rw [gm_up_off _ _ _ (by omega)]; funext m; exact lay4_o _ _ _ _ _ (by omega))⟩
theorem gq_row {n : Nat} {v w a b c d x z : Int32} (h : SI I B r) (hG : GQ I B) (hn : n ≤ 8) (en : I B 1 = nI n) (hc : rwP I J B n v w a b c d x (I1, J1)) (hm : (z, I2, J2) = sp_row I1 J1 r v w a b c d) : GQ I2 B := by
  refine GQ.low ?_ h.1 (lo_row hm)
  rcases hc with ⟨_, _, e⟩ | ⟨j, k, m, nm, g, hj, hk, hm3, _, _, em, enm, hnm, eg, hg, ⟨_, _, e⟩ | ⟨_, _, _, e⟩ | ⟨hrow, hg2, _, e⟩⟩
  · exact hG.eq e
  · exact hG.eq e
  · exact hG.eq e
  · rw [(Prod.mk.inj e).1]
    refine hG.lp en hn ?_ hj (fun q h1 h2 h3 => ?_) (fun hL => ?_)
    · rw [gm_up_ne _ _ (by omega), lay4_o _ _ _ _ _ (by omega)]
    · rw [gm_up_off _ _ _ (by omega)]; funext k; exact lay4_o _ _ _ _ _ (by omega)
    · obtain ⟨nm', h1, h2, h3, h4, h5⟩ := hL
      have e0 := nm_eq enm h1 hnm h3
      subst e0
      refine ⟨nm, ?_, h2, h3, ?_, ?_⟩
      · rw [gm_up_ne _ _ (by omega), lay4_o _ _ _ _ _ (by omega)]; exact enm
      · unfold gqR at *
        rw [gm_up_ne _ _ (by omega), lay4_o _ _ _ _ _ (by omega), gm_up_off _ _ _ (by omega)]
        intro i hi
        rw [lay4_o _ _ _ _ _ (by omega), lay4_o _ _ _ _ _ (by omega), lay4_o _ _ _ _ _ (by omega), lay4_o _ _ _ _ _ (by omega)]
        exact h4 i hi
      · rw [gm_up_ne _ _ (by omega), lay4_o _ _ _ _ _ (by omega)]
        intro k' hk'
        obtain ⟨k1, k2⟩ := h5 k' hk'
        refine ⟨k1, ?_⟩
        by_cases c : k' = k
        · subst c
          obtain ⟨w1, w2, w3⟩ := k2
          rw [eg, nN_nI (by omega)] at w1
          refine ⟨?_, ?_, ?_⟩
          · rw [gm_up_same, nN_nI (by omega)]
            intro i hi
            have q := gqR.lay w1 hrow i hi
            unfold gqR at q ⊢
            rw [gm_up_off _ _ _ (by omega)]; exact q
          · intro a' b' ha' hb'
            rw [gm_up_ne _ _ (by omega), lay4_o _ _ _ _ _ (by omega)]
            exact w2 a' b' ha' hb'
          · intro a' ha'
            rw [gm_up_ne _ _ (by omega), lay4_o _ _ _ _ _ (by omega)]
            exact w3 a' ha'
        · exact k2.congr (fun q q1 q2 => by rw [gm_up_off _ _ _ (by omega)]; funext m; exact lay4_o _ _ _ _ _ (by omega))
theorem gq_way {n : Nat} {v x z : Int32} (h : SI I B r) (hG : GQ I B) (hn : n ≤ 8) (en : I B 1 = nI n) (hc : wyP I J B n v x (I1, J1)) (hm : (z, I2, J2) = sp_way I1 J1 r v) : GQ I2 B := by
  refine GQ.low ?_ h.1 (lo_way hm)
  rcases hc with ⟨_, _, e⟩ | ⟨j, m, hj, _, em, hm3, ⟨_, _, e⟩ | ⟨hm2, _, e⟩⟩
  · exact hG.eq e
  · exact hG.eq e
  · rw [(Prod.mk.inj e).1]
    refine hG.lp en hn ?_ hj (fun q h1 h2 h3 => ?_) (fun hL => ?_)
    · rw [gm_up_ne _ _ (by omega), bgI_o _ (by omega)]
    · rw [gm_up_off _ _ _ (by omega)]; funext k; exact bgI_o _ (by omega)
    · obtain ⟨nm, h1, h2, h3, h4, h5⟩ := hL
      rw [em, nN_nI (by omega)] at h5
      refine ⟨nm, ?_, h2, h3, ?_, ?_⟩
      · rw [gm_up_ne _ _ (by omega), bgI_o _ (by omega)]; exact h1
      · unfold gqR at *
        rw [gm_up_off _ _ _ (by omega), gm_up_off _ _ _ (by omega), bgI_o _ (by omega)]
        intro i hi
        rw [bgI_o _ (by omega), bgI_o _ (by omega), bgI_o _ (by omega), bgI_o _ (by omega)]
        exact h4 i hi
      · rw [gm_up_same, nN_nI (by omega)]
        intro k hk
        refine ⟨by omega, ?_⟩
        by_cases c : k = m
        · subst c
          refine ⟨?_, ?_, ?_⟩
          · rw [gm_up_off _ _ _ (by omega), bgI_1, nN_nI (by omega)]
            intro i hi; omega
          · intro a' b' ha' hb'
            rw [gm_up_off _ _ _ (by omega), bgI_3 _ (by omega)]
            by_cases c2 : a' = b'
            · rw [if_pos (by omega)]
              exact ⟨by decide, fun x1 x2 => by omega⟩
            · rw [if_neg (by omega)]
              exact ⟨by decide, fun _ _ => rfl⟩
          · intro a' ha'
            rw [gm_up_off _ _ _ (by omega), bgI_4 _ ha']; decide
        · exact (h5 k (by omega)).2.congr (fun q q1 q2 => by rw [gm_up_off _ _ _ (by omega)]; funext i; exact bgI_o _ (by omega))
theorem gq_factor {n : Nat} {v w a b y x z : Int32} (h : SI I B r) (hG : GQ I B) (hn : n ≤ 8) (en : I B 1 = nI n) (hc : faP I J B n v w a b y x (I1, J1)) (hm : (z, I2, J2) = sp_factor I1 J1 r v w a b y) : GQ I2 B := by
  refine GQ.low ?_ h.1 (lo_factor hm)
  rcases hc with ⟨_, _, e⟩ | ⟨_, _, _, e⟩ | ⟨hq, hy, _, e⟩
  · exact hG.eq e
  · exact hG.eq e
  · rw [(Prod.mk.inj e).1]
    rw [Bool.and_eq_true, Bool.and_eq_true] at hq
    obtain ⟨⟨q1, q2⟩, q3⟩ := hq
    obtain ⟨j, k, m, hj, hk, hm3, rfl, rfl, em⟩ := fwB_j hn h.2.1 q1
    obtain ⟨j2, a2, nm, hj2, ha2, hnm, e2, rfl, enm⟩ := fnB_j hn h.2.1 q2
    obtain ⟨j3, b2, nm2, hj3, hb2, hnm2, e3, rfl, enm2⟩ := fnB_j hn h.2.1 q3
    have ej2 : j = j2 := (nI_eq (by omega) (by omega)).mp e2
    have ej3 : j = j3 := (nI_eq (by omega) (by omega)).mp e3
    subst ej2 ej3
    have en2 := nm_eq enm enm2 hnm hnm2
    subst en2
    rw [nN_nI (show j < 2 ^ 31 by omega), nN_nI (show k < 2 ^ 31 by omega), nN_nI (show a2 < 2 ^ 31 by omega), nN_nI (show b2 < 2 ^ 31 by omega)]
    refine hG.lp en hn ?_ hj (fun q h1 h2 h3 => ?_) (fun hL => ?_)
    · rw [gm_up_ne _ _ (by omega)]
    · rw [gm_up_off _ _ _ (by omega)]
    · obtain ⟨nm', h1, h2, h3, h4, h5⟩ := hL
      have e0 := nm_eq enm h1 hnm h3
      subst e0
      refine ⟨nm, ?_, h2, h3, ?_, ?_⟩
      · rw [gm_up_ne _ _ (by omega)]; exact enm
      · unfold gqR at *
        rw [gm_up_off _ _ _ (by omega), gm_up_off _ _ _ (by omega)]; exact h4
      · rw [gm_up_off _ _ _ (by omega)]
        intro k' hk'
        obtain ⟨k1, k2⟩ := h5 k' hk'
        refine ⟨k1, ?_⟩
        by_cases c : k' = k
        · subst c
          obtain ⟨w1, w2, w3⟩ := k2
          refine ⟨?_, ?_, ?_⟩
          · unfold gqR at *
            rw [gm_up_off _ _ _ (by omega), gm_up_off _ _ _ (by omega)]; exact w1
          · intro a' b' ha' hb'
            by_cases c3 : 3 * a' + b' = 3 * a2 + b2
            · have ea : a' = a2 := by omega
              have eb : b' = b2 := by omega
              subst ea eb
              rw [gm_up_same]
              exact ⟨hy, fun _ x2 => by omega⟩
            · rw [gm_up_ne _ _ (Or.inr c3)]; exact w2 a' b' ha' hb'
          · intro a' ha'
            rw [gm_up_off _ _ _ (by omega)]; exact w3 a' ha'
        · exact k2.congr (fun q q1 q2 => by rw [gm_up_off _ _ _ (by omega)])
theorem gq_constant {n : Nat} {v w a y x z : Int32} (h : SI I B r) (hG : GQ I B) (hn : n ≤ 8) (en : I B 1 = nI n) (hc : coP I J B n v w a y x (I1, J1)) (hm : (z, I2, J2) = sp_constant I1 J1 r v w a y) : GQ I2 B := by
  refine GQ.low ?_ h.1 (lo_constant hm)
  rcases hc with ⟨_, _, e⟩ | ⟨_, _, _, e⟩ | ⟨hq, hy, _, e⟩
  · exact hG.eq e
  · exact hG.eq e
  · rw [(Prod.mk.inj e).1]
    rw [Bool.and_eq_true] at hq
    obtain ⟨q1, q2⟩ := hq
    obtain ⟨j, k, m, hj, hk, hm3, rfl, rfl, em⟩ := fwB_j hn h.2.1 q1
    obtain ⟨j2, a2, nm, hj2, ha2, hnm, e2, rfl, enm⟩ := fnB_j hn h.2.1 q2
    have ej2 : j = j2 := (nI_eq (by omega) (by omega)).mp e2
    subst ej2
    rw [nN_nI (show j < 2 ^ 31 by omega), nN_nI (show k < 2 ^ 31 by omega), nN_nI (show a2 < 2 ^ 31 by omega)]
    refine hG.lp en hn ?_ hj (fun q h1 h2 h3 => ?_) (fun hL => ?_)
    · rw [gm_up_ne _ _ (by omega)]
    · rw [gm_up_off _ _ _ (by omega)]
    · obtain ⟨nm', h1, h2, h3, h4, h5⟩ := hL
      refine ⟨nm', ?_, h2, h3, ?_, ?_⟩
      · rw [gm_up_ne _ _ (by omega)]; exact h1
      · unfold gqR at *
        rw [gm_up_off _ _ _ (by omega), gm_up_off _ _ _ (by omega)]; exact h4
      · rw [gm_up_off _ _ _ (by omega)]
        intro k' hk'
        obtain ⟨k1, k2⟩ := h5 k' hk'
        refine ⟨k1, ?_⟩
        by_cases c : k' = k
        · subst c
          obtain ⟨w1, w2, w3⟩ := k2
          refine ⟨?_, ?_, ?_⟩
          · unfold gqR at *
            rw [gm_up_off _ _ _ (by omega), gm_up_off _ _ _ (by omega)]; exact w1
          · intro a' b' ha' hb'
            rw [gm_up_off _ _ _ (by omega)]; exact w2 a' b' ha' hb'
          · intro a' ha'
            by_cases c3 : a' = a2
            · subst c3; rw [gm_up_same]; exact hy
            · rw [gm_up_ne _ _ (Or.inr c3)]; exact w3 a' ha'
        · exact k2.congr (fun q q1 q2 => by rw [gm_up_off _ _ _ (by omega)])
end GQS
