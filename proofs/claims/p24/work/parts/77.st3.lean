section SK
variable {I I1 I2 : gm_I} {J J1 J2 : gm_J} {B r : Nat}
theorem sj_at {n : Nat} {v w : Int32} {x z : Int64} (h : SI I B r) (hJ : SJ I J B r) (hn : n ≤ 8) (en : I B 1 = nI n) (hc : (I1, J1) = (I, J) ∧ x = if fnB I B n v w = true then J (B + 12 + 21 * nN v + 4) (nN w) else -9000000000000) (hm : (I2, J2) = (I1, J1) ∧ z = sp_at I1 J1 r v w) : SJ I2 J2 B r ∧ x = z := by
  obtain ⟨e, rfl⟩ := hc
  obtain ⟨rfl, rfl⟩ := Prod.mk.inj e
  obtain ⟨e, rfl⟩ := hm
  refine ⟨hJ.eq e, ?_⟩
  unfold sp_at
  rw [nm_same h hn en]
  by_cases c : fnB I1 B n v w = true
  · rw [if_pos c, if_pos c]
    obtain ⟨j, k, m, hj, hk, hm, rfl, rfl, em⟩ := fnB_j hn h.2.1 c
    rw [nN_nI (show j < 2 ^ 31 by omega), nN_nI (show k < 2 ^ 31 by omega)]
    exact hJ.1 j k (by omega) (by omega)
  · rw [if_neg c, if_neg c]
theorem sj_go {n : Nat} {v w x z : Int32} (h : SI I B r) (hJ : SJ I J B r) (hn : n ≤ 8) (en : I B 1 = nI n) (hc : (fwB I B n v w = false ∧ x = -2 ∧ (I1, J1) = (I, J)) ∨ ∃ j k, j < n ∧ k < 3 ∧ v = nI j ∧ w = nI k ∧ fwB I B n v w = true ∧ ((copn I (B + 12 + 21 * j) (get3 J (B + 12 + 21 * j + 4)) / 2 ^ k % 2 = 0 ∧ x = 0 ∧ (I1, J1) = (I, J)) ∨ (¬ copn I (B + 12 + 21 * j) (get3 J (B + 12 + 21 * j + 4)) / 2 ^ k % 2 = 0 ∧ ∃ y, chP I J (B + 12 + 21 * j + 6 + 5 * k) (B + 12 + 21 * j + 4) (B + 12 + 21 * j + 5) y (I1, J1) ∧ x = if y = 0 then -5 else nI 1)))
    (hm : (z, I2, J2) = sp_go I1 J1 r v w) : SJ I2 J2 B r ∧ x = z := by
  have hr := h.1
  have h8 := h.n8 hn en
  rcases hc with ⟨c1, rfl, e⟩ | ⟨j, k, hj, hk, rfl, rfl, c1, hc⟩
  · obtain ⟨rfl, rfl⟩ := Prod.mk.inj e
    unfold sp_go at hm
    rw [wy_same h hn en, if_neg (by rw [c1]; decide)] at hm
    obtain ⟨rfl, e⟩ := Prod.mk.inj hm
    exact ⟨hJ.eq e, rfl⟩
  · have hz := hJ.2.zx (j := j) (by omega)
    have hi := hJ.2.idw (j := j) (by omega)
    have hkm : k < nN (I (r + 2) j) := by
      obtain ⟨j', k', m, hj', hk', hm', ej, ek, em⟩ := fwB_j hn h.2.1 c1
      obtain rfl : j = j' := gm_eqt (by omega) (by omega) ej
      obtain rfl : k = k' := gm_eqt (by omega) (by omega) ek
      rw [← (h.2.2.2.2.2.1 j (by omega)).2.1, em, nN_nI (by omega)]; exact hk'
    rw [hJ.1.st (by omega), copn_eq h (by omega)] at hc
    rcases hc with ⟨c2, rfl, e⟩ | ⟨c2, y, ⟨J3, hb, hch⟩, rfl⟩
    · obtain ⟨rfl, rfl⟩ := Prod.mk.inj e
      unfold sp_go at hm
      rw [wy_same h hn en, if_pos c1, nN_nI (show j < 2 ^ 31 by omega), nN_nI (show k < 2 ^ 31 by omega), if_pos c2] at hm
      obtain ⟨rfl, e⟩ := Prod.mk.inj hm
      obtain ⟨rfl, rfl⟩ := Prod.mk.inj e
      exact ⟨hJ.same hr (fun _ _ => rfl) rfl, rfl⟩
    · rw [hJ.1.st (by omega), bh3_eq h (by omega) hi hkm hk hz] at hch
      rcases hch with ⟨rfl, hg, e⟩ | ⟨rfl, hg, e⟩
      · obtain ⟨rfl, eJ⟩ := Prod.mk.inj e
        have h9 : J1 (r + 9) = J (r + 9) := by rw [eJ, set3_off _ _ (by omega)]; exact hb _ (by omega)
        have hs : st3 J1 r j = st3 J r j := by unfold st3; rw [h9]
        unfold sp_go at hm
        rw [wy_same h hn en, if_pos c1, nN_nI (show j < 2 ^ 31 by omega), nN_nI (show k < 2 ^ 31 by omega), hs, if_neg c2, if_pos hg] at hm
        obtain ⟨rfl, e⟩ := Prod.mk.inj hm
        obtain ⟨rfl, rfl⟩ := Prod.mk.inj e
        refine ⟨hJ.both hr (by omega) (by omega) (by omega) zx_go (fun i hi8 hne => ?_) ?_ h9, by rw [if_neg (by decide)]; rfl⟩
        · rw [eJ, set3_off _ _ (by omega)]; exact hb _ (by omega)
        · rw [eJ, get3_set3]
      · obtain ⟨rfl, rfl⟩ := Prod.mk.inj e
        have h9 : J1 (r + 9) = J (r + 9) := hb _ (by omega)
        have hs : st3 J1 r j = st3 J r j := by unfold st3; rw [h9]
        unfold sp_go at hm
        rw [wy_same h hn en, if_pos c1, nN_nI (show j < 2 ^ 31 by omega), nN_nI (show k < 2 ^ 31 by omega), hs, if_neg c2, if_neg (by rw [hg]; decide)] at hm
        obtain ⟨rfl, e⟩ := Prod.mk.inj hm
        obtain ⟨rfl, rfl⟩ := Prod.mk.inj e
        refine ⟨hJ.both hr (by omega) (by omega) (by omega) hz (fun i hi8 hne => hb _ (by omega)) ?_ h9, by rw [if_pos rfl]⟩
        rw [get3_but hb (by omega)]; exact hJ.1.st (by omega)
theorem sj_put {n : Nat} {v w y x z : Int32} (h : SI I B r) (hJ : SJ I J B r) (hn : n ≤ 8) (en : I B 1 = nI n) (hc : ptP I J B n v w y x (I1, J1)) (hm : (nmB I1 r v w = false ∧ z = -2 ∧ (I2, J2) = (I1, J1)) ∨ (nmB I1 r v w = true ∧ inI y (-1000000) (nI 1000000) = false ∧ z = -3 ∧ (I2, J2) = (I1, J1)) ∨ (nmB I1 r v w = true ∧ inI y (-1000000) (nI 1000000) = true ∧ z = 1 ∧ (I2, J2) = (I1, gm_up J1 (r + 9) (3 * v.toNatClampNeg + w.toNatClampNeg) y.toInt64))) : SJ I2 J2 B r := by
  have hr := h.1
  have h8 := h.n8 hn en
  have elit : (-1000000 : Int32) = -(nI 1000000) := by decide
  have eI : I1 = I := by rcases hc with ⟨_, _, e⟩ | ⟨_, _, _, e⟩ | ⟨_, _, _, e⟩ <;> exact (Prod.mk.inj e).1
  subst eI
  rw [nm_same h hn en, elit] at hm
  rcases hc with ⟨c1, rfl, e⟩ | ⟨c1, c2, rfl, e⟩ | ⟨c1, c2, rfl, e⟩
  · obtain ⟨_, rfl⟩ := Prod.mk.inj e
    rcases hm with ⟨d1, rfl, e⟩ | ⟨d1, d2, rfl, e⟩ | ⟨d1, d2, rfl, e⟩
    · exact hJ.eq e
    · rw [c1] at d1; cases d1
    · rw [c1] at d1; cases d1
  · obtain ⟨_, rfl⟩ := Prod.mk.inj e
    rcases hm with ⟨d1, rfl, e⟩ | ⟨d1, d2, rfl, e⟩ | ⟨d1, d2, rfl, e⟩
    · exact hJ.eq e
    · exact hJ.eq e
    · rw [c2] at d2; cases d2
  · obtain ⟨_, eJ⟩ := Prod.mk.inj e
    rcases hm with ⟨d1, rfl, e⟩ | ⟨d1, d2, rfl, e⟩ | ⟨d1, d2, rfl, e⟩
    · rw [c1] at d1; cases d1
    · rw [c2] at d2; cases d2
    · obtain ⟨rfl, rfl⟩ := Prod.mk.inj e
      obtain ⟨j, k, m, hj, hk, hm3, rfl, rfl, em⟩ := fnB_j hn h.2.1 c1
      have ej : (nI j).toNatClampNeg = j := nI_clamp (by omega)
      have ek : (nI k).toNatClampNeg = k := nI_clamp (by omega)
      simp only [nN, ej, ek] at eJ ⊢
      have em2 : I2 (r + 1) j = nI m := (h.2.2.2.2.2.1 j (by omega)).1.symm.trans em
      refine ⟨fun i c hi hc3 => ?_, fun i hi => ?_⟩
      · by_cases e : i = j ∧ c = k
        · obtain ⟨rfl, rfl⟩ := e
          rw [eJ]
          repeat (first | rw [gm_up_same] | rw [gm_up_ne _ _ (by omega)])
        · rw [eJ]
          repeat (first | rw [gm_up_same] | rw [gm_up_ne _ _ (by omega)])
          exact hJ.1 i c hi hc3
      · obtain ⟨g1, g2⟩ := hJ.2 i hi
        refine ⟨g1, fun c hc hc3 => ⟨?_, (g2 c hc hc3).2⟩⟩
        have hne : ¬ (i = j ∧ c = k) := fun e => by
          obtain ⟨rfl, rfl⟩ := e
          rw [em2, nN_nI (by omega)] at hc
          omega
        rw [eJ]
        repeat (first | rw [gm_up_same] | rw [gm_up_ne _ _ (by omega)])
        exact (g2 c hc hc3).1
end SK
