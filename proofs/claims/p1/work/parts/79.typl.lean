theorem lg_cmp_self (x : Int64) : lg_cmp x x = nI 0 := by simp [lg_cmp, nI_0]
theorem lw_cmp {i L : Nat} (hi : i < 2 ^ 20) (hL : L < 2 ^ 20) (h : ¬ nI L - nI 7 < nI i) : i + 7 ≤ L := by
  rw [Int32.lt_iff_toInt_lt, nI_toInt (by omega), Int32.toInt_sub, nI_toInt (by omega), nI_toInt (by omega), Int.bmod_eq_of_le (by omega) (by omega)] at h
  omega
section LWI
variable {I I1 I2 : gm_I} {J J1 J2 : gm_J} {B r : Nat}
theorem SI.eq (h : SI I B r) (e : I1 = I) : SI I1 B r := by rw [e]; exact h
theorem i_step {n : Nat} {v x : Int32} (h : (inI v 0 (nI n - 1) = false ∧ x = -2 ∧ (I1, J1) = (I, J)) ∨ ∃ j, j < n ∧ v = nI j ∧ adP I J (B + 12 + 21 * j) (B + 12 + 21 * j + 4) x (I1, J1)) : I1 = I := by
  rcases h with ⟨_, _, e⟩ | ⟨j, _, _, _, _, _, e⟩ <;> exact (Prod.mk.inj e).1
theorem i_go {n : Nat} {v w x : Int32} (h : (fwB I B n v w = false ∧ x = -2 ∧ (I1, J1) = (I, J)) ∨ ∃ j k, j < n ∧ k < 3 ∧ v = nI j ∧ w = nI k ∧ fwB I B n v w = true ∧ ((copn I (B + 12 + 21 * j) (get3 J (B + 12 + 21 * j + 4)) / 2 ^ k % 2 = 0 ∧ x = 0 ∧ (I1, J1) = (I, J)) ∨ (¬ copn I (B + 12 + 21 * j) (get3 J (B + 12 + 21 * j + 4)) / 2 ^ k % 2 = 0 ∧ ∃ y, chP I J (B + 12 + 21 * j + 6 + 5 * k) (B + 12 + 21 * j + 4) (B + 12 + 21 * j + 5) y (I1, J1) ∧ x = if y = 0 then -5 else nI 1))) : I1 = I := by
  rcases h with ⟨_, _, e⟩ | ⟨j, k, _, _, _, _, _, ⟨_, _, e⟩ | ⟨_, y, ⟨J2, _, ⟨_, _, e⟩ | ⟨_, _, e⟩⟩, _⟩⟩ <;> exact (Prod.mk.inj e).1
theorem m_open {v z : Int32} (h : (lpB I r v = false ∧ z = -2 ∧ (I1, J1) = (I, J)) ∨ (lpB I r v = true ∧ z = nI (openN I r (nN v) (st3 J r (nN v)).1 (st3 J r (nN v)).2.1 (st3 J r (nN v)).2.2) ∧ (I1, J1) = (I, xyz J r (st3 J r (nN v))))) : I1 = I := by
  rcases h with ⟨_, _, e⟩ | ⟨_, _, e⟩ <;> exact (Prod.mk.inj e).1
theorem m_step {v z : Int32} (h : (lpB I r v = false ∧ z = -2 ∧ (I1, J1) = (I, J)) ∨ (lpB I r v = true ∧ z = (wk1 I r (nN v) (st3 J r (nN v))).1 ∧ (I1, J1) = (I, put3 (xyz J r (wk1 I r (nN v) (st3 J r (nN v))).2) r (nN v) (wk1 I r (nN v) (st3 J r (nN v))).2))) : I1 = I := by
  rcases h with ⟨_, _, e⟩ | ⟨_, _, e⟩ <;> exact (Prod.mk.inj e).1
theorem m_go {v w z : Int32} (h : (z, I1, J1) = sp_go I J r v w) : I1 = I := by
  unfold sp_go at h
  repeat' split at h
  all_goals exact (Prod.mk.inj (Prod.mk.inj h).2).1
theorem m_walk {v x z : Int32} (h : (lpB I r v = false ∧ z = -2 ∧ (I1, J1) = (I, J)) ∨ (lpB I r v = true ∧ inI x (nI 0) (nI 1000) = false ∧ z = -3 ∧ (I1, J1) = (I, J)) ∨ (lpB I r v = true ∧ inI x (nI 0) (nI 1000) = true ∧ z = nI (wkN I r (nN v) (nN x) (st3 J r (nN v))).1 ∧ (I1, J1) = (I, put3 (xyz J r (wkN I r (nN v) (nN x) (st3 J r (nN v))).2) r (nN v) (wkN I r (nN v) (nN x) (st3 J r (nN v))).2))) : I1 = I := by
  rcases h with ⟨_, _, e⟩ | ⟨_, _, _, e⟩ | ⟨_, _, _, e⟩ <;> exact (Prod.mk.inj e).1
theorem m_ring {v x z : Int32} (h : (lpB I r v = false ∧ z = -2 ∧ (I1, J1) = (I, J)) ∨ (lpB I r v = true ∧ inI x (nI 0) (nI 6) = false ∧ z = -3 ∧ (I1, J1) = (I, J)) ∨ (lpB I r v = true ∧ inI x (nI 0) (nI 6) = true ∧ ringP I J r (nN v) (nN x) (nN (I (r + 1) (nN v))) z (I1, J1))) : I1 = I := by
  rcases h with ⟨_, _, e⟩ | ⟨_, _, _, e⟩ | ⟨_, _, e⟩
  · exact (Prod.mk.inj e).1
  · exact (Prod.mk.inj e).1
  · unfold ringP at e
    split at e
    · obtain ⟨_, t, e⟩ := e
      exact (Prod.mk.inj e).1
    · obtain ⟨_, _, e⟩ := e
      exact (Prod.mk.inj e).1
theorem m_prove {v z : Int32} (hS : SI I B r) (h : (lpB I r v = false ∧ z = -2 ∧ (I1, J1) = (I, J)) ∨ (lpB I r v = true ∧ proveP I J r (nN v) z (I1, J1))) : SI I1 B r := by
  rcases h with ⟨_, _, e⟩ | ⟨_, h⟩
  · exact hS.eq (Prod.mk.inj e).1
  · exact hS.refP h
theorem m_need {v z : Int32} (hS : SI I B r) (h : (lpB I r v = false ∧ z = -2 ∧ (I1, J1) = (I, J)) ∨ (lpB I r v = true ∧ needP I J r (nN v) z (I1, J1))) : SI I1 B r := by
  rcases h with ⟨_, _, e⟩ | ⟨_, h⟩
  · exact hS.eq (Prod.mk.inj e).1
  · exact hS.refN h
end LWI

section LW1
variable {I I1 I2 : gm_I} {J J1 J2 : gm_J} {B r : Nat}
/-- what is so of both objects before the first call -/
def Fr (I : gm_I) (B r : Nat) : Prop := I B 1 = nI 0 ∧ I (B + 4) 1 = nI 0 ∧ I (B + 4) 2 = nI 0 ∧ I B 7 = nI 0 ∧ I r 10 = nI 0 ∧ I r 12 = nI 0 ∧ I r 13 = nI 0
theorem tv_Fr {M : mw_M} {cs : Nat → ClassId} (hF : blkFT M cs B) (hM : blkMd M cs r) : Fr (tyI M) B r :=
  ⟨tyI_o hF.1 rfl, tyI_o hF.2.2.2.2.1.1 rfl, tyI_o hF.2.2.2.2.1.1 rfl, tyI_o hF.1 rfl, tyI_o hM.1 rfl, tyI_o hM.1 rfl, tyI_o hM.1 rfl⟩
theorem fr_in (v : Int32) : inI v 0 (nI 0 - 1) = false := by
  cases h : inI v 0 (nI 0 - 1) with
  | false => rfl
  | true => obtain ⟨j, hj, _⟩ := inI_nat (by omega) h; omega
theorem fr_lp {v : Int32} (h : I r 0 = nI 0) : lpB I r v = false := by unfold lpB; rw [h]; exact fr_in v
theorem fr_wy {v w : Int32} (h : I r 0 = nI 0) : wyB I r v w = false := by unfold wyB; rw [fr_lp h]; rfl
theorem fr_nm {v w : Int32} (h : I r 0 = nI 0) : nmB I r v w = false := by unfold nmB; rw [fr_lp h]; rfl
/-- the reference: two ways, the first of them only where there is no such loop -/
theorem fr_two {v z : Int32} {P Q : Prop} (h : I r 0 = nI 0) (q : (lpB I r v = false ∧ z = -2 ∧ P) ∨ (lpB I r v = true ∧ Q)) : z = -2 := by
  rcases q with ⟨_, e, _⟩ | ⟨e, _⟩
  · exact e
  · rw [fr_lp h] at e; cases e
theorem fr_three {v z : Int32} {P Q R : Prop} (h : I r 0 = nI 0) (q : (lpB I r v = false ∧ z = -2 ∧ P) ∨ (lpB I r v = true ∧ Q) ∨ (lpB I r v = true ∧ R)) : z = -2 := by
  rcases q with ⟨_, e, _⟩ | ⟨e, _⟩ | ⟨e, _⟩
  · exact e
  · rw [fr_lp h] at e; cases e
  · rw [fr_lp h] at e; cases e
theorem fr_go {v w z : Int32} (h : I r 0 = nI 0) (q : (z, I1, J1) = sp_go I J r v w) : z = -2 := by
  unfold sp_go at q
  rw [if_neg (by rw [fr_wy h]; decide)] at q
  exact (Prod.mk.inj q).1
theorem fr_if {v w z a : Int32} (h : I r 0 = nI 0) (q : z = if wyB I r v w = true then a else -2) : z = -2 := by
  rw [if_neg (by rw [fr_wy h]; decide)] at q
  exact q
theorem fr_at {v w : Int32} (h : I r 0 = nI 0) : sp_at I J r v w = -9000000000000 := by
  unfold sp_at
  rw [if_neg (by rw [fr_nm h]; decide)]
theorem fr_proof {k w : Int32} (h : I r 10 = nI 0) : sp_proof I r k w = -1000 := by
  unfold sp_proof
  rw [h]
  rw [if_neg]
  rw [show inI k (nI 0) (nI 0 - nI 1) = false from fr_in k, Bool.false_and]
  decide
theorem fr_needed {k : Int32} (h : I r 13 = nI 0) : sp_needed I r k = -1000 := by
  unfold sp_needed
  rw [if_neg]
  rw [show decide (I r 13 = 0) = true from decide_eq_true h, Bool.not_true, Bool.false_and]
  decide
/-- the class -/
theorem fr_cat {v w : Int32} {x y : Int64} (h : x = if fnB I B 0 v w = true then y else -9000000000000) : x = -9000000000000 := by
  rw [if_neg (by unfold fnB; rw [fr_in, Bool.false_and]; decide)] at h
  exact h
theorem fr_c2 {v x : Int32} {P : Prop} {Q : Nat → Prop} (h : (inI v 0 (nI 0 - 1) = false ∧ x = -2 ∧ P) ∨ ∃ j, j < 0 ∧ Q j) : x = -2 := by
  rcases h with ⟨_, e, _⟩ | ⟨j, hj, _⟩
  · exact e
  · omega
theorem fr_c1 {v x : Int32} {Q : Nat → Prop} (h : (inI v 0 (nI 0 - 1) = false ∧ x = -2) ∨ ∃ j, j < 0 ∧ Q j) : x = -2 := by
  rcases h with ⟨_, e⟩ | ⟨j, hj, _⟩
  · exact e
  · omega
theorem fr_c3 {v w x : Int32} {P : Prop} {Q : Nat → Nat → Prop} (h : (fwB I B 0 v w = false ∧ x = -2 ∧ P) ∨ ∃ j k, j < 0 ∧ Q j k) : x = -2 := by
  rcases h with ⟨_, e, _⟩ | ⟨j, k, hj, _⟩
  · exact e
  · omega
end LW1
