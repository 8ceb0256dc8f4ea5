section SJ
variable {I I1 I2 : gm_I} {J J1 J2 : gm_J} {B r : Nat}
theorem SJ.keep (h : SJ I J B r) (h0 : I1 r 0 = I r 0) (h1 : I1 (r + 1) = I (r + 1)) (h2 : I1 (r + 2) = I (r + 2)) (h7 : I1 (r + 7) = I (r + 7)) (h8 : I1 (r + 8) = I (r + 8)) (hc : ∀ j, j < 8 → J1 (B + 12 + 21 * j + 4) = J (B + 12 + 21 * j + 4)) (hm : J1 (r + 9) = J (r + 9)) : SJ I1 J1 B r := by
  refine ⟨fun j i hj hi => by rw [hc j hj, hm]; exact h.1 j i hj hi, ?_⟩
  have g := h.2
  unfold zN idn at g ⊢
  rw [h0, h1, h2, h7, h8, hm]
  exact g
theorem SJ.cls (h : SJ I J B r) (hr : r = B + 216) (hs : sfF B I J (I1, J1)) : SJ I1 J1 B r :=
  h.keep (congrFun (hs.1.1 r (by omega)).1 0) (hs.1.1 (r + 1) (by omega)).1 (hs.1.1 (r + 2) (by omega)).1 (hs.1.1 (r + 7) (by omega)).1 (hs.1.1 (r + 8) (by omega)).1 (fun j hj => (hs.1.1 _ (by omega)).2) (hs.1.1 (r + 9) (by omega)).2
theorem SJ.ref (h : SJ I J B r) (hr : r = B + 216) (hq : qM r I I1) (hj : ∀ q k, ¬ (q = r ∨ (r + 12 ≤ q ∧ q ≤ r + 15)) → J1 q k = J q k) : SJ I1 J1 B r :=
  h.keep (hq _ _ (by omega)) (by funext k; exact hq _ _ (by omega)) (by funext k; exact hq _ _ (by omega)) (by funext k; exact hq _ _ (by omega)) (by funext k; exact hq _ _ (by omega)) (fun j hj8 => by funext k; exact hj _ _ (by omega)) (by funext k; exact hj _ _ (by omega))
theorem SJ.refS (h : SJ I J B r) (hr : r = B + 216) (hs : eqS r I J I1 J1) : SJ I1 J1 B r := h.ref hr (fun q k n => hs.1 q k (by omega)) (fun q k n => hs.2.1 q k (by omega))
theorem SJ.refP {j : Nat} {z : Int32} (h : SJ I J B r) (hr : r = B + 216) (hs : proveP I J r j z (I1, J1)) : SJ I1 J1 B r := h.ref hr (fun q k n => hs.2.2.1.1 q k (by omega)) (fun q k n => hs.2.2.1.2.1 q k (by omega))
theorem SJ.refN {j : Nat} {z : Int32} (h : SJ I J B r) (hr : r = B + 216) (hs : needP I J r j z (I1, J1)) : SJ I1 J1 B r := h.ref hr (fun q k n => hs.1.1 q k (by omega)) (fun q k n => hs.1.2.1 q k (by omega))
theorem SJ.eq (h : SJ I J B r) (e : (I1, J1) = (I, J)) : SJ I1 J1 B r := by
  obtain ⟨rfl, rfl⟩ := Prod.mk.inj e; exact h
theorem num13 {v : Int32} (h : inI v (nI 1) (nI 3) = true) : ∃ g, 1 ≤ g ∧ g ≤ 3 ∧ v = nI g := by
  obtain ⟨g, hg, rfl⟩ := num3 h
  refine ⟨g, ?_, hg, rfl⟩
  have h := of_decide_eq_true h
  rcases Nat.lt_or_ge g 1 with q | q
  · exact absurd (nI_lt q (by omega)) h.1
  · exact q
/-- the reference's own marks, x y z, are no state -/
theorem xyz_9 (J : gm_J) (r : Nat) (v : V3) {q : Nat} (h : q ≠ r) : xyz J r v q = J q := by
  funext k; simp [xyz, gm_up, h]
theorem put3_at (J : gm_J) {r j i : Nat} (v : V3) (hi : i < 3) : put3 J r j v (r + 9) (3 * j + i) = if i = 0 then v.1 else if i = 1 then v.2.1 else v.2.2 := by
  unfold put3
  rcases (show i = 0 ∨ i = 1 ∨ i = 2 by omega) with rfl | rfl | rfl
  · show gm_up (gm_up (gm_up J (r + 9) (3 * j) v.1) (r + 9) (3 * j + 1) v.2.1) (r + 9) (3 * j + 2) v.2.2 (r + 9) (3 * j) = v.1
    repeat (first | rw [gm_up_same] | rw [gm_up_ne _ _ (by omega)])
  · repeat (first | rw [gm_up_same] | rw [gm_up_ne _ _ (by omega)])
    rfl
  · repeat (first | rw [gm_up_same] | rw [gm_up_ne _ _ (by omega)])
    rfl
theorem put3_ne (J : gm_J) {r j j2 i : Nat} (v : V3) (hi : i < 3) (h : j2 ≠ j) : put3 J r j v (r + 9) (3 * j2 + i) = J (r + 9) (3 * j2 + i) := by
  unfold put3
  repeat (first | rw [gm_up_same] | rw [gm_up_ne _ _ (by omega)])
theorem put3_off (J : gm_J) {r j q : Nat} (v : V3) (h : q ≠ r + 9) : put3 J r j v q = J q := by
  funext k
  unfold put3
  repeat (first | rw [gm_up_same] | rw [gm_up_ne _ _ (by omega)])
theorem set3_at (J : gm_J) {t i : Nat} (v : V3) (hi : i < 3) : set3 J t v t i = if i = 0 then v.1 else if i = 1 then v.2.1 else v.2.2 := by
  unfold set3
  rcases (show i = 0 ∨ i = 1 ∨ i = 2 by omega) with rfl | rfl | rfl
  · repeat (first | rw [gm_up_same] | rw [gm_up_ne _ _ (by omega)])
    rfl
  · repeat (first | rw [gm_up_same] | rw [gm_up_ne _ _ (by omega)])
    rfl
  · repeat (first | rw [gm_up_same] | rw [gm_up_ne _ _ (by omega)])
    rfl
theorem relJ.st (h : relJ J B r) {j : Nat} (hj : j < 8) : get3 J (B + 12 + 21 * j + 4) = st3 J r j := by
  unfold get3 st3
  rw [h j 0 hj (by omega), h j 1 hj (by omega), h j 2 hj (by omega)]
  rfl
theorem zN.zx (h : zN I J r) {j : Nat} (hj : j < nN (I r 0)) : zx (nN (I (r + 1) j)) (st3 J r j) := ⟨fun hn => ((h j hj).2 1 hn (by omega)).1, fun hn => ((h j hj).2 2 hn (by omega)).1⟩
theorem zN.idw (h : zN I J r) {j : Nat} (hj : j < nN (I r 0)) : idw I r j := fun i hn hi k hk => ((h j hj).2 i hn hi).2 k hk
/-- a state of the loop j is laid down on both sides -/
theorem SJ.put {j : Nat} {v : V3} (h : SJ I J B r) (hr : r = B + 216) (hj : j < 8) (hz : zx (nN (I (r + 1) j)) v) (hv : j < nN (I r 0)) (hn8 : nN (I r 0) ≤ 8)
    (h1 : ∀ i, i < 8 → i ≠ j → J1 (B + 12 + 21 * i + 4) = J (B + 12 + 21 * i + 4)) (h2 : get3 J1 (B + 12 + 21 * j + 4) = v) (h3 : ∀ i k, i < 8 → i ≠ j → k < 3 → J1 (r + 9) (3 * i + k) = J (r + 9) (3 * i + k)) (h4 : st3 J1 r j = v) : SJ I J1 B r := by
  have e0 : J1 (B + 12 + 21 * j + 4) 0 = v.1 := congrArg (fun z : V3 => z.1) h2
  have e1 : J1 (B + 12 + 21 * j + 4) 1 = v.2.1 := congrArg (fun z : V3 => z.2.1) h2
  have e2 : J1 (B + 12 + 21 * j + 4) 2 = v.2.2 := congrArg (fun z : V3 => z.2.2) h2
  have f0 : J1 (r + 9) (3 * j) = v.1 := congrArg (fun z : V3 => z.1) h4
  have f1 : J1 (r + 9) (3 * j + 1) = v.2.1 := congrArg (fun z : V3 => z.2.1) h4
  have f2 : J1 (r + 9) (3 * j + 2) = v.2.2 := congrArg (fun z : V3 => z.2.2) h4
  refine ⟨fun i k hi hk => ?_, fun i hi => ?_⟩
  · by_cases e : i = j
    · subst e
      rcases (show k = 0 ∨ k = 1 ∨ k = 2 by omega) with rfl | rfl | rfl
      · exact e0.trans f0.symm
      · exact e1.trans f1.symm
      · exact e2.trans f2.symm
    · rw [h1 i hi e, h3 i k hi e hk]; exact h.1 i k hi hk
  · obtain ⟨g1, g2⟩ := h.2 i hi
    refine ⟨g1, fun k hk hk3 => ⟨?_, (g2 k hk hk3).2⟩⟩
    by_cases e : i = j
    · subst e
      rcases (show k = 0 ∨ k = 1 ∨ k = 2 by omega) with rfl | rfl | rfl
      · omega
      · exact f1.trans (hz.1 hk)
      · exact f2.trans (hz.2 hk)
    · rw [h3 i k (by omega) e hk3]; exact (g2 k hk hk3).1
theorem st3_put3 (J : gm_J) (r j : Nat) (v : V3) : st3 (put3 J r j v) r j = v := by
  have e0 : put3 J r j v (r + 9) (3 * j) = v.1 := (put3_at J (r := r) (j := j) (i := 0) v (by omega)).trans (if_pos rfl)
  have e1 : put3 J r j v (r + 9) (3 * j + 1) = v.2.1 := (put3_at J (r := r) (j := j) (i := 1) v (by omega)).trans rfl
  have e2 : put3 J r j v (r + 9) (3 * j + 2) = v.2.2 := (put3_at J (r := r) (j := j) (i := 2) v (by omega)).trans rfl
  unfold st3
  rw [e0, e1, e2]
/-- the class's state of the loop j is v, the reference's is laid down as v -/
theorem SJ.both {j : Nat} {v t : V3} (h : SJ I J B r) (hr : r = B + 216) (hj : j < 8) (hv : j < nN (I r 0)) (hn8 : nN (I r 0) ≤ 8) (hz : zx (nN (I (r + 1) j)) v) (h1 : ∀ i, i < 8 → i ≠ j → J1 (B + 12 + 21 * i + 4) = J (B + 12 + 21 * i + 4)) (h2 : get3 J1 (B + 12 + 21 * j + 4) = v) (h3 : J1 (r + 9) = J (r + 9)) : SJ I (put3 (xyz J1 r t) r j v) B r := by
  refine h.put hr hj hz hv hn8 (fun i hi hne => ?_) ?_ (fun i k hi hne hk => ?_) (st3_put3 _ _ _ _)
  · rw [put3_off _ _ (by omega), xyz_9 _ _ _ (by omega)]; exact h1 i hi hne
  · rw [← h2]; unfold get3; rw [put3_off _ _ (by omega), xyz_9 _ _ _ (by omega)]
  · rw [put3_ne _ _ hk hne, xyz_9 _ _ _ (by omega), h3]
/-- the states are as they were -/
theorem SJ.same {t : V3} (h : SJ I J B r) (hr : r = B + 216) (h1 : ∀ i, i < 8 → J1 (B + 12 + 21 * i + 4) = J (B + 12 + 21 * i + 4)) (h3 : J1 (r + 9) = J (r + 9)) : SJ I (xyz J1 r t) B r :=
  h.keep rfl rfl rfl rfl rfl (fun j hj => by rw [xyz_9 _ _ _ (by omega)]; exact h1 j hj) (by rw [xyz_9 _ _ _ (by omega)]; exact h3)
theorem SI.n8 (h : SI I B r) {n : Nat} (hn : n ≤ 8) (en : I B 1 = nI n) : nN (I r 0) = n := by rw [h.ent en, nN_nI (by omega)]
theorem sj_open {n : Nat} {v x z : Int32} (h : SI I B r) (hJ : SJ I J B r) (hn : n ≤ 8) (en : I B 1 = nI n) (hc : (I1, J1) = (I, J) ∧ ((inI v 0 (nI n - 1) = false ∧ x = -2) ∨ ∃ j, j < n ∧ v = nI j ∧ x = nI (copn I (B + 12 + 21 * j) (get3 J (B + 12 + 21 * j + 4)))))
    (hm : (lpB I1 r v = false ∧ z = -2 ∧ (I2, J2) = (I1, J1)) ∨ (lpB I1 r v = true ∧ z = nI (openN I1 r (nN v) (st3 J1 r (nN v)).1 (st3 J1 r (nN v)).2.1 (st3 J1 r (nN v)).2.2) ∧ (I2, J2) = (I1, xyz J1 r (st3 J1 r (nN v))))) : SJ I2 J2 B r ∧ x = z := by
  obtain ⟨e, hc⟩ := hc
  obtain ⟨rfl, rfl⟩ := Prod.mk.inj e
  have hr := h.1
  rw [lp_same (h.ent en)] at hm
  rcases hc with ⟨c1, rfl⟩ | ⟨j, hj, rfl, rfl⟩
  · rcases hm with ⟨d1, rfl, e⟩ | ⟨d1, d2, e⟩
    · exact ⟨hJ.eq e, rfl⟩
    · rw [c1] at d1; cases d1
  · rcases hm with ⟨d1, rfl, e⟩ | ⟨d1, d2, e⟩
    · rw [inI_in (by omega) hj] at d1; cases d1
    · obtain ⟨rfl, rfl⟩ := Prod.mk.inj e
      rw [nN_nI (by omega)] at d2
      refine ⟨hJ.same hr (fun _ _ => rfl) rfl, ?_⟩
      rw [d2, hJ.1.st (by omega), copn_eq h (by omega)]
theorem sj_step {n : Nat} {v x z : Int32} (h : SI I B r) (hJ : SJ I J B r) (hn : n ≤ 8) (en : I B 1 = nI n) (hc : (inI v 0 (nI n - 1) = false ∧ x = -2 ∧ (I1, J1) = (I, J)) ∨ ∃ j, j < n ∧ v = nI j ∧ adP I J (B + 12 + 21 * j) (B + 12 + 21 * j + 4) x (I1, J1))
    (hm : (lpB I1 r v = false ∧ z = -2 ∧ (I2, J2) = (I1, J1)) ∨ (lpB I1 r v = true ∧ z = (wk1 I1 r (nN v) (st3 J1 r (nN v))).1 ∧ (I2, J2) = (I1, put3 (xyz J1 r (wk1 I1 r (nN v) (st3 J1 r (nN v))).2) r (nN v) (wk1 I1 r (nN v) (st3 J1 r (nN v))).2))) : SJ I2 J2 B r ∧ x = z := by
  have hr := h.1
  have h8 := h.n8 hn en
  rcases hc with ⟨c1, rfl, e⟩ | ⟨j, hj, rfl, J3, hb, hx, e⟩
  · obtain ⟨rfl, rfl⟩ := Prod.mk.inj e
    rw [lp_same (h.ent en)] at hm
    rcases hm with ⟨d1, rfl, e⟩ | ⟨d1, d2, e⟩
    · exact ⟨hJ.eq e, rfl⟩
    · rw [c1] at d1; cases d1
  · obtain ⟨rfl, eJ⟩ := Prod.mk.inj e
    rw [lp_same (h.ent en), nN_nI (by omega)] at hm
    rcases hm with ⟨d1, rfl, e⟩ | ⟨d1, d2, e⟩
    · rw [inI_in (by omega) hj] at d1; cases d1
    · have hz := hJ.2.zx (j := j) (by omega)
      have hi := hJ.2.idw (j := j) (by omega)
      rw [hJ.1.st (by omega), cw1_eq h (by omega) hi hz] at hx eJ
      have h9 : J1 (r + 9) = J (r + 9) := by rw [eJ, set3_off _ _ (by omega)]; exact hb _ (by omega)
      have hs : st3 J1 r j = st3 J r j := by unfold st3; rw [h9]
      rw [hs] at d2 e
      obtain ⟨rfl, rfl⟩ := Prod.mk.inj e
      refine ⟨hJ.both hr (by omega) (by omega) (by omega) (zx_wk hz) (fun i hi8 hne => ?_) ?_ h9, hx.trans d2.symm⟩
      · rw [eJ, set3_off _ _ (by omega)]; exact hb _ (by omega)
      · rw [eJ, get3_set3]
theorem sj_walk {n : Nat} {v w x z : Int32} (h : SI I B r) (hJ : SJ I J B r) (hn : n ≤ 8) (en : I B 1 = nI n) (hc : (inI v 0 (nI n - 1) = false ∧ x = -2 ∧ (I1, J1) = (I, J)) ∨ (inI v 0 (nI n - 1) = true ∧ inI w (nI 0) (nI 1000) = false ∧ x = -3 ∧ (I1, J1) = (I, J)) ∨ ∃ j i, j < n ∧ v = nI j ∧ w = nI i ∧ i ≤ 1000 ∧ x = nI (cwN I (B + 12 + 21 * j) i (get3 J (B + 12 + 21 * j + 4))).1 ∧ (I1, J1).1 = I ∧ but2 (B + 12 + 21 * j) J (I1, J1).2 ∧ get3 (I1, J1).2 (B + 12 + 21 * j + 4) = (cwN I (B + 12 + 21 * j) i (get3 J (B + 12 + 21 * j + 4))).2)
    (hm : (lpB I1 r v = false ∧ z = -2 ∧ (I2, J2) = (I1, J1)) ∨ (lpB I1 r v = true ∧ inI w (nI 0) (nI 1000) = false ∧ z = -3 ∧ (I2, J2) = (I1, J1)) ∨ (lpB I1 r v = true ∧ inI w (nI 0) (nI 1000) = true ∧ z = nI (wkN I1 r (nN v) (nN w) (st3 J1 r (nN v))).1 ∧ (I2, J2) = (I1, put3 (xyz J1 r (wkN I1 r (nN v) (nN w) (st3 J1 r (nN v))).2) r (nN v) (wkN I1 r (nN v) (nN w) (st3 J1 r (nN v))).2))) : SJ I2 J2 B r ∧ x = z := by
  have hr := h.1
  have h8 := h.n8 hn en
  rcases hc with ⟨c1, rfl, e⟩ | ⟨c1, c2, rfl, e⟩ | ⟨j, i, hj, rfl, rfl, hi, hx, e, hb, hg⟩
  · obtain ⟨rfl, rfl⟩ := Prod.mk.inj e
    rw [lp_same (h.ent en)] at hm
    rcases hm with ⟨d1, rfl, e⟩ | ⟨d1, d2, rfl, e⟩ | ⟨d1, d2, d3, e⟩
    · exact ⟨hJ.eq e, rfl⟩
    · rw [c1] at d1; cases d1
    · rw [c1] at d1; cases d1
  · obtain ⟨rfl, rfl⟩ := Prod.mk.inj e
    rw [lp_same (h.ent en)] at hm
    rcases hm with ⟨d1, rfl, e⟩ | ⟨d1, d2, rfl, e⟩ | ⟨d1, d2, d3, e⟩
    · rw [c1] at d1; cases d1
    · exact ⟨hJ.eq e, rfl⟩
    · rw [c2] at d2; cases d2
  · have e : I1 = I := e
    subst e
    rw [lp_same (h.ent en), nN_nI (show j < 2 ^ 31 by omega), nN_nI (show i < 2 ^ 31 by omega)] at hm
    have hb : but2 (B + 12 + 21 * j) J J1 := hb
    have hg : get3 J1 (B + 12 + 21 * j + 4) = _ := hg
    rcases hm with ⟨d1, rfl, e⟩ | ⟨d1, d2, rfl, e⟩ | ⟨d1, d2, d3, e⟩
    · rw [inI_in (by omega) hj] at d1; cases d1
    · exfalso
      have d3 := of_decide_eq_false d2
      exact d3 ⟨nI_nlt (by omega) (by omega), nI_nlt (by omega) (by omega)⟩
    · have hz := hJ.2.zx (j := j) (by omega)
      have hi2 := hJ.2.idw (j := j) (by omega)
      rw [hJ.1.st (by omega), cwN_eq h (by omega) hi2 i hz] at hx hg
      have h9 : J1 (r + 9) = J (r + 9) := hb _ (by omega) (by omega)
      have hs : st3 J1 r j = st3 J r j := by unfold st3; rw [h9]
      rw [hs] at d3 e
      obtain ⟨rfl, rfl⟩ := Prod.mk.inj e
      exact ⟨hJ.both hr (by omega) (by omega) (by omega) (zx_wkN i hz) (fun q hq hne => hb _ (by omega) (by omega)) hg h9, hx.trans d3.symm⟩
end SJ
