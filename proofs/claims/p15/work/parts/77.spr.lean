-- WHAT THE LATEST prove() FOUND IS THE SAME OF BOTH OBJECTS
def SP (I : gm_I) (B r : Nat) : Prop := I (B + 4) 1 = I r 10 ∧ I (B + 4) 2 = I r 12 ∧ ∀ i, i < 4 * nN (I r 10) → I (B + 5) i = I (r + 10) i
def PQ (I : gm_I) (B r : Nat) : Prop := GQ I B ∧ SP I B r
section SPS
variable {I I1 I2 : gm_I} {J J1 J2 : gm_J} {B r : Nat}
theorem SP.keep (h : SP I B r) (h4 : I1 (B + 4) = I (B + 4)) (h5 : I1 (B + 5) = I (B + 5)) (hr : I1 r 10 = I r 10) (hr2 : I1 r 12 = I r 12) (hr3 : ∀ i, I1 (r + 10) i = I (r + 10) i) : SP I1 B r := by
  unfold SP at *
  rw [h4, h5, hr, hr2]
  exact ⟨h.1, h.2.1, fun i hi => (h.2.2 i hi).trans (hr3 i).symm⟩
theorem SP.eqI (h : SP I B r) (e : I1 = I) : SP I1 B r := by rw [e]; exact h
theorem SP.eq (h : SP I B r) (e : (I1, J1) = (I, J)) : SP I1 B r := h.eqI (Prod.mk.inj e).1
/-- a change of the class outside what is told -/
theorem SP.cls (h : SP I B r) (hr : r = B + 216) (hk : ∀ q, q = B + 4 ∨ q = B + 5 ∨ B + 216 ≤ q → I1 q = I q) : SP I1 B r := by
  refine h.keep (hk _ (by omega)) (hk _ (by omega)) ?_ ?_ (fun i => ?_)
  · rw [hk r (by omega)]
  · rw [hk r (by omega)]
  · rw [hk (r + 10) (by omega)]
theorem SP.ask (h : SP I B r) (hr : r = B + 216) (hs : sfF B I J (I1, J1)) (hy : kY B I I1) : SP I1 B r := h.cls hr (fun q hq => by
  rcases hq with rfl | rfl | hq
  · exact hy.1
  · exact hy.2
  · exact (hs.1.1 q (by omega)).1)
theorem SP.ref (h : SP I B r) (hr : r = B + 216) (hq : ∀ q k, ¬ (q = r ∧ (k = 0 ∨ k = 13 ∨ k = 15 ∨ k = 20 ∨ k = 33) ∨ (r + 1 ≤ q ∧ q ≤ r + 8) ∨ q = r + 11 ∨ q = r + 16) → I1 q k = I q k) : SP I1 B r := by
  refine h.keep ?_ ?_ (hq _ _ (by omega)) (hq _ _ (by omega)) (fun i => hq _ _ (by omega))
  · funext k; exact hq _ _ (by omega)
  · funext k; exact hq _ _ (by omega)
theorem SP.refS (h : SP I B r) (hr : r = B + 216) (hs : eqS r I J I1 J1) : SP I1 B r := h.ref hr (fun q k n => hs.1 q k (by omega))
theorem SP.refN {j : Nat} {z : Int32} (h : SP I B r) (hr : r = B + 216) (hs : needP I J r j z (I1, J1)) : SP I1 B r := h.ref hr (fun q k n => hs.1.1 q k (by omega))
theorem sn_need {v z : Int32} (h : SP I B r) (hr : r = B + 216) (hm : (lpB I r v = false ∧ z = -2 ∧ (I1, J1) = (I, J)) ∨ (lpB I r v = true ∧ needP I J r (nN v) z (I1, J1))) : SP I1 B r := by
  rcases hm with ⟨_, _, e⟩ | ⟨_, hm⟩
  · exact h.eq e
  · exact h.refN hr hm
-- the changes
theorem sp_loop {n : Nat} {v x z : Int32} (h : SI I B r) (hS : SP I B r) (hn : n ≤ 8) (hc : (inI v (nI 1) (nI 3) = false ∧ x = -3 ∧ (I1, J1) = (I, J)) ∨ (inI v (nI 1) (nI 3) = true ∧ n = 8 ∧ x = -4 ∧ (I1, J1) = (I, J)) ∨ (inI v (nI 1) (nI 3) = true ∧ n < 8 ∧ x = nI n ∧ (I1, J1) = (gm_up (lbI I (B + 12 + 21 * n) v) B 1 (nI (n + 1)), lbJ J (B + 12 + 21 * n)))) (hm : (inI v (nI 1) (nI 3) = false ∧ z = -3 ∧ (I2, J2) = (I1, J1)) ∨ (inI v (nI 1) (nI 3) = true ∧ n = 8 ∧ z = -4 ∧ (I2, J2) = (I1, J1)) ∨ (inI v (nI 1) (nI 3) = true ∧ n < 8 ∧ z = nI n ∧ (I2, J2) = (gm_up (gm_up (gm_up (gm_up I1 (r + 1) n v) (r + 2) n (nI 0)) (r + 3) n (nI 0)) r 0 (nI (n + 1)), gm_up (gm_up (gm_up J1 (r + 9) (3 * n + 0) 0) (r + 9) (3 * n + 1) 0) (r + 9) (3 * n + 2) 0))) : SP I2 B r := by
  have hr := h.1
  have h1 : SP I1 B r := by
    rcases hc with ⟨_, _, e⟩ | ⟨_, _, _, e⟩ | ⟨_, c2, _, e⟩
    · exact hS.eq e
    · exact hS.eq e
    · refine hS.cls hr (fun q hq => ?_)
      rw [(Prod.mk.inj e).1]
      unfold lbI
      rw [gm_up_off _ _ _ (by omega), gm_up_off _ _ _ (by omega), gm_up_off _ _ _ (by omega), gm_up_off _ _ _ (by omega)]
  rcases hm with ⟨_, _, e⟩ | ⟨_, _, _, e⟩ | ⟨_, _, _, e⟩
  · exact h1.eq e
  · exact h1.eq e
  · refine h1.ref hr (fun q k hq => ?_)
    rw [(Prod.mk.inj e).1, gm_up_ne _ _ (by omega), gm_up_ne _ _ (by omega), gm_up_ne _ _ (by omega), gm_up_ne _ _ (by omega)]
theorem sp_clear {x z : Int32} (h : SI I B r) (hc : x = I B 1 ∧ (I1, J1) = (gm_up (gm_up (gm_up I B 1 (nI 0)) (B + 4) 1 (nI 0)) (B + 4) 2 (nI 0), J)) (hm : z = I1 r 0 ∧ (I2, J2) = (gm_up (gm_up (gm_up (gm_up I1 r 0 (nI 0)) r 10 (nI 0)) r 12 (nI 0)) r 13 (nI 0), J1)) : SP I2 B r := by
  have hr := h.1
  have e2 := (Prod.mk.inj hm.2).1
  have e1 := (Prod.mk.inj hc.2).1
  have k10 : I2 r 10 = nI 0 := by rw [e2, gm_up_ne _ _ (by omega), gm_up_ne _ _ (by omega), gm_up_same]
  have k12 : I2 r 12 = nI 0 := by rw [e2, gm_up_ne _ _ (by omega), gm_up_same]
  unfold SP
  rw [k10, k12]
  refine ⟨?_, ?_, fun i hi => ?_⟩
  · rw [e2, gm_up_ne _ _ (by omega), gm_up_ne _ _ (by omega), gm_up_ne _ _ (by omega), gm_up_ne _ _ (by omega), e1, gm_up_ne _ _ (by omega), gm_up_same]
  · rw [e2, gm_up_ne _ _ (by omega), gm_up_ne _ _ (by omega), gm_up_ne _ _ (by omega), gm_up_ne _ _ (by omega), e1, gm_up_same]
  · rw [nN_nI (by omega)] at hi; omega
theorem sp_guard' {n : Nat} {v a b c d x z : Int32} (h : SI I B r) (hS : SP I B r) (hn : n ≤ 8) (hc : gdP I J B n v a b c d x (I1, J1)) (hm : (z, I2, J2) = sp_guard I1 J1 r v a b c d) : SP I2 B r := by
  have hr := h.1
  have h1 : SP I1 B r := by
    rcases hc with ⟨_, _, e⟩ | ⟨j, nm, g, hj, _, enm, hnm, eg, hg, ⟨_, _, e⟩ | ⟨_, _, _, e⟩ | ⟨hrow, hg4, _, e⟩⟩
    · exact hS.eq e
    · exact hS.eq e
    · exact hS.eq e
    · refine hS.cls hr (fun q hq => ?_)
      rw [(Prod.mk.inj e).1, gm_up_off _ _ _ (by omega)]
      funext k; exact lay4_o _ _ _ _ _ (by omega)
  unfold sp_guard at hm
  repeat' split at hm
  all_goals obtain ⟨_, e⟩ := Prod.mk.inj hm
  all_goals obtain ⟨rfl, _⟩ := Prod.mk.inj e
  all_goals first | exact h1 | exact h1.ref hr (fun q k hq => by rw [gm_up_ne _ _ (by omega), lay4_o _ _ _ _ _ (by omega)])
theorem sp_row' {n : Nat} {v w a b c d x z : Int32} (h : SI I B r) (hS : SP I B r) (hn : n ≤ 8) (hc : rwP I J B n v w a b c d x (I1, J1)) (hm : (z, I2, J2) = sp_row I1 J1 r v w a b c d) : SP I2 B r := by
  have hr := h.1
  have h1 : SP I1 B r := by
    rcases hc with ⟨_, _, e⟩ | ⟨j, k, m, nm, g, hj, hk, hm3, _, _, em, enm, hnm, eg, hg, ⟨_, _, e⟩ | ⟨_, _, _, e⟩ | ⟨hrow, hg2, _, e⟩⟩
    · exact hS.eq e
    · exact hS.eq e
    · exact hS.eq e
    · refine hS.cls hr (fun q hq => ?_)
      rw [(Prod.mk.inj e).1, gm_up_off _ _ _ (by omega)]
      funext k; exact lay4_o _ _ _ _ _ (by omega)
  unfold sp_row at hm
  repeat' split at hm
  all_goals obtain ⟨_, e⟩ := Prod.mk.inj hm
  all_goals obtain ⟨rfl, _⟩ := Prod.mk.inj e
  all_goals first | exact h1 | exact h1.ref hr (fun q k hq => by rw [gm_up_ne _ _ (by omega), lay4_o _ _ _ _ _ (by omega)])
theorem sp_way' {n : Nat} {v x z : Int32} (h : SI I B r) (hS : SP I B r) (hn : n ≤ 8) (hc : wyP I J B n v x (I1, J1)) (hm : (z, I2, J2) = sp_way I1 J1 r v) : SP I2 B r := by
  have hr := h.1
  have h1 : SP I1 B r := by
    rcases hc with ⟨_, _, e⟩ | ⟨j, m, hj, _, em, hm3, ⟨_, _, e⟩ | ⟨hm2, _, e⟩⟩
    · exact hS.eq e
    · exact hS.eq e
    · refine hS.cls hr (fun q hq => ?_)
      rw [(Prod.mk.inj e).1, gm_up_off _ _ _ (by omega)]
      funext k; exact bgI_o _ (by omega)
  unfold sp_way at hm
  repeat' split at hm
  all_goals obtain ⟨_, e⟩ := Prod.mk.inj hm
  all_goals obtain ⟨rfl, _⟩ := Prod.mk.inj e
  all_goals first | exact h1 | (refine h1.ref hr (fun q k hq => ?_); unfold way3 way9; repeat rw [gm_up_ne _ _ (by omega)])
theorem sp_factor' {n : Nat} {v w a b y x z : Int32} (h : SI I B r) (hS : SP I B r) (hn : n ≤ 8) (hc : faP I J B n v w a b y x (I1, J1)) (hm : (z, I2, J2) = sp_factor I1 J1 r v w a b y) : SP I2 B r := by
  have hr := h.1
  have h1 : SP I1 B r := by
    rcases hc with ⟨_, _, e⟩ | ⟨_, _, _, e⟩ | ⟨hq, hy, _, e⟩
    · exact hS.eq e
    · exact hS.eq e
    · rw [Bool.and_eq_true, Bool.and_eq_true] at hq
      obtain ⟨j, k, m, hj, hk, hm3, rfl, rfl, em⟩ := fwB_j hn h.2.1 hq.1.1
      refine hS.cls hr (fun q hq => ?_)
      rw [(Prod.mk.inj e).1, nN_nI (show j < 2 ^ 31 by omega), nN_nI (show k < 2 ^ 31 by omega), gm_up_off _ _ _ (by omega)]
  unfold sp_factor at hm
  repeat' split at hm
  all_goals obtain ⟨_, e⟩ := Prod.mk.inj hm
  all_goals obtain ⟨rfl, _⟩ := Prod.mk.inj e
  all_goals first | exact h1 | exact h1.ref hr (fun q k hq => by rw [gm_up_ne _ _ (by omega)])
theorem sp_constant' {n : Nat} {v w a y x z : Int32} (h : SI I B r) (hS : SP I B r) (hn : n ≤ 8) (hc : coP I J B n v w a y x (I1, J1)) (hm : (z, I2, J2) = sp_constant I1 J1 r v w a y) : SP I2 B r := by
  have hr := h.1
  have h1 : SP I1 B r := by
    rcases hc with ⟨_, _, e⟩ | ⟨_, _, _, e⟩ | ⟨hq, hy, _, e⟩
    · exact hS.eq e
    · exact hS.eq e
    · rw [Bool.and_eq_true] at hq
      obtain ⟨j, k, m, hj, hk, hm3, rfl, rfl, em⟩ := fwB_j hn h.2.1 hq.1
      refine hS.cls hr (fun q hq => ?_)
      rw [(Prod.mk.inj e).1, nN_nI (show j < 2 ^ 31 by omega), nN_nI (show k < 2 ^ 31 by omega), gm_up_off _ _ _ (by omega)]
  unfold sp_constant at hm
  repeat' split at hm
  all_goals obtain ⟨_, e⟩ := Prod.mk.inj hm
  all_goals obtain ⟨rfl, _⟩ := Prod.mk.inj e
  all_goals first | exact h1 | exact h1.ref hr (fun q k hq => by rw [gm_up_ne _ _ (by omega)])
-- prove on both sides leaves the same
theorem lay4f_o (f : Nat → Int32) {i k : Nat} (a b c d : Int32) (h : k < i ∨ i + 3 < k) : lay4f f i a b c d k = f k := by
  unfold lay4f upd
  rw [if_neg (by omega), if_neg (by omega), if_neg (by omega), if_neg (by omega)]
theorem kA_in (L : List (Nat × Nat)) : ∀ (i : Nat) (f f' : Nat → Int32) (k : Nat), (k < 4 * i → f k = f' k) → k < 4 * (i + L.length) → kA L i f k = kA L i f' k := by
  induction L with
  | nil => intro i f f' k h hk; exact h (by simpa using hk)
  | cons q L ih =>
    intro i f f' k h hk
    show kA L (i + 1) _ k = kA L (i + 1) _ k
    refine ih (i + 1) _ _ k (fun hk2 => ?_) (by rw [List.length_cons] at hk; omega)
    by_cases c : k < 4 * i
    · rw [lay4f_o _ _ _ _ _ (by omega), lay4f_o _ _ _ _ _ (by omega)]; exact h c
    · unfold lay4f upd
      by_cases c3 : k = 4 * i + 3
      · rw [if_pos c3, if_pos c3]
      · rw [if_neg c3, if_neg c3]
        by_cases c2 : k = 4 * i + 2
        · rw [if_pos c2, if_pos c2]
        · rw [if_neg c2, if_neg c2]
          by_cases c1 : k = 4 * i + 1
          · rw [if_pos c1, if_pos c1]
          · rw [if_neg c1, if_neg c1, if_pos (by omega), if_pos (by omega)]
theorem sp_prove {n : Nat} {v x z : Int32} (h : SI I B r) (hG : GQ I B) (hS : SP I B r) (hn : n ≤ 8) (en : I B 1 = nI n) (hc : prQ I J B n v (zR I J r (nN v) false) x (I1, J1)) (hm : (lpB I1 r v = false ∧ z = -2 ∧ (I2, J2) = (I1, J1)) ∨ (lpB I1 r v = true ∧ proveP I1 J1 r (nN v) z (I2, J2))) : SP I2 B r := by
  obtain ⟨hs, hc⟩ := hc
  have hr := h.1
  have hk : ∀ q, B + 216 ≤ q → I1 q = I q := fun q hq => (hs.1.1 q (by omega)).1
  have hlp : lpB I1 r v = inI v 0 (nI n - 1) := by rw [lpB_k hk hr, lp_same (h.ent en)]
  rcases hc with ⟨c1, _, c3⟩ | ⟨j, hj, ev, c4, _, c5, c6, f0, c7⟩
  · rcases hm with ⟨_, _, e⟩ | ⟨m1, _⟩
    · exact (hS.eq c3).eq e
    · rw [hlp, c1] at m1; cases m1
  · subst ev
    rcases hm with ⟨m1, _⟩ | ⟨_, m2, m3, m4, m5, m6, m7⟩
    · rw [hlp, inI_in (by omega) hj] at m1; cases m1
    · rw [nN_nI (by omega)] at m2 m5 m6 m7 c4 c5 c6 c7
      have eQ : eqQ r I J I1 J1 := ⟨fun c _ _ k => by rw [hk (r + c) (by omega)], fun k _ _ => congrFun (hs.1.1 r (by omega)).2 k⟩
      rw [leftR_eqQ eQ] at m2 m5 m6 m7
      rw [lb_left h hG hn en hj] at c4 c5 c6 c7
      have lo : ∀ q, q < r → I2 q = I1 q := fun q hq => by funext k; exact m4.1 q k (by omega)
      have m5 : I2 r 12 = nI (leftR I J r j false).2 := m5
      have m6 : I2 r 10 = nI (leftR I J r j false).1.length := m6
      have m7 : ∀ i, I2 (r + 10) i = if i < 4 * (leftR I J r j false).1.length then kA (leftR I J r j false).1 0 (I1 (r + 16)) i else I1 (r + 10) i := m7
      have c5 : I1 (B + 4) 1 = nI (leftR I J r j false).1.length := c5
      have c6 : I1 (B + 4) 2 = nI (leftR I J r j false).2 := c6
      have c7 : I1 (B + 5) = kA (leftR I J r j false).1 0 f0 := c7
      unfold SP
      rw [m5, m6, lo (B + 4) (by omega), lo (B + 5) (by omega), c5, c6, c7]
      refine ⟨rfl, rfl, fun i hi => ?_⟩
      rw [nN_nI (by omega)] at hi
      rw [m7 i, if_pos hi]
      exact kA_in _ 0 _ _ i (fun q => by omega) (by omega)
theorem so_proof {v w x z : Int32} (hS : SP I B r) (hV : inv_FT I B) (hc : x = if (inI v (nI 0) (I (B + 4) 1 - nI 1) && inI w (nI 0) (nI 3)) = true then I (B + 5) (4 * nN v + nN w) else -1000) (hm : z = sp_proof I r v w) : x = z := by
  obtain ⟨n, hn, en⟩ := hV.2.2.1
  have e1 := hS.1
  unfold sp_proof at hm
  rw [← e1] at hm
  rw [hc, hm]
  by_cases c : (inI v (nI 0) (I (B + 4) 1 - nI 1) && inI w (nI 0) (nI 3)) = true
  · rw [if_pos c, if_pos c]
    rw [Bool.and_eq_true, en] at c
    have c1 : inI v 0 (nI n - 1) = true := c.1
    obtain ⟨k, hk, rfl⟩ := inI_nat (by omega) c1
    obtain ⟨i, hi, rfl⟩ := inI_k (n := 3) (by omega) (show inI w 0 (nI 3) = true from c.2)
    rw [nN_nI (by omega), nN_nI (by omega)]
    refine hS.2.2 _ ?_
    rw [← e1, en, nN_nI (by omega)]; omega
  · rw [if_neg c, if_neg c]
end SPS
