theorem lg_cmp_self (x : Int64) : lg_cmp x x = nI 0 := by simp [lg_cmp, nI_0]
theorem lw_cmp {i L : Nat} (hi : i < 2 ^ 20) (hL : L < 2 ^ 20) (h : ¬ nI L - nI 7 < nI i) : i + 7 ≤ L := by
  rw [Int32.lt_iff_toInt_lt, nI_toInt (by omega), Int32.toInt_sub, nI_toInt (by omega), nI_toInt (by omega), Int.bmod_eq_of_le (by omega) (by omega)] at h
  omega
section LWI
variable {I I1 I2 : gm_I} {J J1 J2 : gm_J} {B r : Nat}
theorem SI.eq (h : SI I B r) (e : I1 = I) : SI I1 B r := by rw [e]; exact h
theorem i_step {n : Nat} {v x : Int32} (h : (inI v 0 (nI n - 1) = false ∧ x = -2 ∧ (I1, J1) = (I, J)) ∨ ∃ j, j < n ∧ v = nI j ∧ adP I J (B + 12 + 21 * j) (B + 12 + 21 * j + 4) x (I1, J1)) : I1 = I := by
  rcases h with ⟨_, _, e⟩ | ⟨j, _, _, _, _, _, e⟩ <;> exact (Prod.mk.inj e).1
theorem i_go {n : Nat} {v w x : Int32} (h : (fwB I B n v w = false ∧ x = -2 ∧ (I1, J1) = (I, J)) ∨ ∃ j k, j < n ∧ k < 3 ∧ v = nI j ∧ w = nI k ∧ fwB I B n v w = true ∧ ((copn I (B + 12 + 21 * j) (get3 J (B + 12 + 21 * j + 4)) / 2 ^ k % 2 = 0 ∧ x = 0 ∧ (I1, J1) = (I, J)) ∨ (¬ copn I (B + 12 + 21 * j) (get3 J (B + 12 + 21 * j + 4)) / 2 ^ k % 2 = 0 ∧ ∃ y, chP I J (B + 12 + 21 * j + 6 + 5 * k) (B + 12 + 21 * j + 4) (B + 12 + 21 * j + 5) y (I1, J1) ∧ x = if y = 0 then -5 else nI 1))) : I1 = I := by
  rcases h with ⟨_, _, e⟩ | ⟨j, k, _, _, _, _, _, ⟨_, _, e⟩ | ⟨_, y, ⟨J2, _, ⟨_, _, e⟩ | ⟨_, _, e⟩⟩, _⟩⟩ <;> exact (Prod.mk.inj e).1
theorem m_open {v z : Int32} (h : (lpB I r v = false ∧ z = -2 ∧ (I1, J1) = (I, J)) ∨ (lpB I r v = true ∧ z = nI (openN I r (nN v) (st3 J r (nN v)).1 (st3 J r (nN v)).2.1 (st3 J r (nN v)).2.2) ∧ (I1, J1) = (I, xyz J r (st3 J r (nN v))))) : I1 = I := by
  rcases h with ⟨_, _, e⟩ | ⟨_, _, e⟩ <;> exact (Prod.mk.inj e).1
theorem m_step {v z : Int32} (h : (lpB I r v = false ∧ z = -2 ∧ (I1, J1) = (I, J)) ∨ (lpB I r v = true ∧ z = (wk1 I r (nN v) (st3 J r (nN v))).1 ∧ (I1, J1) = (I, put3 (xyz J r (wk1 I r (nN v) (st3 J r (nN v))).2) r (nN v) (wk1 I r (nN v) (st3 J r (nN v))).2))) : I1 = I := by
  rcases h with ⟨_, _, e⟩ | ⟨_, _, e⟩ <;> exact (Prod.mk.inj e).1
theorem m_go {v w z : Int32} (h : (z, I1, J1) = sp_go I J r v w) : I1 = I := by
  unfold sp_go at h
  repeat' split at h
  all_goals exact (Prod.mk.inj (Prod.mk.inj h).2).1
theorem m_walk {v x z : Int32} (h : (lpB I r v = false ∧ z = -2 ∧ (I1, J1) = (I, J)) ∨ (lpB I r v = true ∧ inI x (nI 0) (nI 1000) = false ∧ z = -3 ∧ (I1, J1) = (I, J)) ∨ (lpB I r v = true ∧ inI x (nI 0) (nI 1000) = true ∧ z = nI (wkN I r (nN v) (nN x) (st3 J r (nN v))).1 ∧ (I1, J1) = (I, put3 (xyz J r (wkN I r (nN v) (nN x) (st3 J r (nN v))).2) r (nN v) (wkN I r (nN v) (nN x) (st3 J r (nN v))).2))) : I1 = I := by
  rcases h with ⟨_, _, e⟩ | ⟨_, _, _, e⟩ | ⟨_, _, _, e⟩ <;> exact (Prod.mk.inj e).1
theorem m_ring {v x z : Int32} (h : (lpB I r v = false ∧ z = -2 ∧ (I1, J1) = (I, J)) ∨ (lpB I r v = true ∧ inI x (nI 0) (nI 6) = false ∧ z = -3 ∧ (I1, J1) = (I, J)) ∨ (lpB I r v = true ∧ inI x (nI 0) (nI 6) = true ∧ ringP I J r (nN v) (nN x) (nN (I (r + 1) (nN v))) z (I1, J1))) : I1 = I := by
  rcases h with ⟨_, _, e⟩ | ⟨_, _, _, e⟩ | ⟨_, _, e⟩
  · exact (Prod.mk.inj e).1
  · exact (Prod.mk.inj e).1
  · unfold ringP at e
    split at e
    · obtain ⟨_, t, e⟩ := e
      exact (Prod.mk.inj e).1
    · obtain ⟨_, _, e⟩ := e
      exact (Prod.mk.inj e).1
theorem m_prove {v z : Int32} (hS : SI I B r) (h : (lpB I r v = false ∧ z = -2 ∧ (I1, J1) = (I, J)) ∨ (lpB I r v = true ∧ proveP I J r (nN v) z (I1, J1))) : SI I1 B r := by
  rcases h with ⟨_, _, e⟩ | ⟨_, h⟩
  · exact hS.eq (Prod.mk.inj e).1
  · exact hS.refP h
theorem m_need {v z : Int32} (hS : SI I B r) (h : (lpB I r v = false ∧ z = -2 ∧ (I1, J1) = (I, J)) ∨ (lpB I r v = true ∧ needP I J r (nN v) z (I1, J1))) : SI I1 B r := by
  rcases h with ⟨_, _, e⟩ | ⟨_, h⟩
  · exact hS.eq (Prod.mk.inj e).1
  · exact hS.refN h
end LWI

section LWS
variable {I I1 I2 : gm_I} {J J1 J2 : gm_J} {B r : Nat}
theorem i_walkF {n : Nat} {v w x : Int32} (h : (inI v 0 (nI n - 1) = false ∧ x = -2 ∧ (I1, J1) = (I, J)) ∨ (inI v 0 (nI n - 1) = true ∧ inI w (nI 0) (nI 1000) = false ∧ x = -3 ∧ (I1, J1) = (I, J)) ∨ ∃ j i, j < n ∧ v = nI j ∧ w = nI i ∧ i ≤ 1000 ∧ x = nI (cwN I (B + 12 + 21 * j) i (get3 J (B + 12 + 21 * j + 4))).1 ∧ (I1, J1).1 = I ∧ but2 (B + 12 + 21 * j) J (I1, J1).2 ∧ get3 (I1, J1).2 (B + 12 + 21 * j + 4) = (cwN I (B + 12 + 21 * j) i (get3 J (B + 12 + 21 * j + 4))).2) : I1 = I := by
  rcases h with ⟨_, _, e⟩ | ⟨_, _, _, e⟩ | ⟨_, _, _, _, _, _, _, e, _⟩
  · exact (Prod.mk.inj e).1
  · exact (Prod.mk.inj e).1
  · exact e
theorem i_ringF {n : Nat} {v w x : Int32} (h : (inI v 0 (nI n - 1) = false ∧ x = -2 ∧ (I1, J1) = (I, J)) ∨ (inI v 0 (nI n - 1) = true ∧ inI w (nI 0) (nI 6) = false ∧ x = -3 ∧ (I1, J1) = (I, J)) ∨ ∃ j i nm, j < n ∧ v = nI j ∧ w = nI i ∧ i ≤ 6 ∧ I (B + 12 + 21 * j) 0 = nI nm ∧ nm ≤ 3 ∧ rgP I J B (B + 12 + 21 * j) i nm x (I1, J1)) : I1 = I := by
  rcases h with ⟨_, _, e⟩ | ⟨_, _, _, e⟩ | ⟨_, _, _, _, _, _, _, _, _, e⟩
  · exact (Prod.mk.inj e).1
  · exact (Prod.mk.inj e).1
  · exact e.1
theorem mj_prove {v z : Int32} (hJ : SJ I J B r) (hr : r = B + 216) (h : (lpB I r v = false ∧ z = -2 ∧ (I1, J1) = (I, J)) ∨ (lpB I r v = true ∧ proveP I J r (nN v) z (I1, J1))) : SJ I1 J1 B r := by
  rcases h with ⟨_, _, e⟩ | ⟨_, h⟩
  · exact hJ.eq e
  · exact hJ.refP hr h
theorem mj_need {v z : Int32} (hJ : SJ I J B r) (hr : r = B + 216) (h : (lpB I r v = false ∧ z = -2 ∧ (I1, J1) = (I, J)) ∨ (lpB I r v = true ∧ needP I J r (nN v) z (I1, J1))) : SJ I1 J1 B r := by
  rcases h with ⟨_, _, e⟩ | ⟨_, h⟩
  · exact hJ.eq e
  · exact hJ.refN hr h
theorem tyJ_a {M : mw_M} {q n k : Nat} {cA : ClassId} {f : Nat → Int64} (h : M q = some (.inl (cA, n, .inr (.inl f)))) : tyJ M q k = f k := by unfold tyJ; rw [h]
theorem tv_SJ {M : mw_M} {cs : Nat → ClassId} (hF : blkFT M cs B) (hM : blkMd M cs r) : SJ (tyI M) (tyJ M) B r := by
  refine ⟨fun j i hj hi => ?_, fun j hj => ?_⟩
  · have g := hF.2.2.2.2.2.2.2.2.2.2.1 j hj
    rw [tyJ_a g.2.2.2.1, tyJ_a hM.2.2.2.2.2.2.2.2.2.1]
  · exfalso
    rw [tyI_o hM.1 (k := 0) rfl] at hj
    rw [show nN (0 : Int32) = 0 from rfl] at hj
    omega
end LWS
