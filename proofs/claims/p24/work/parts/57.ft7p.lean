def pfP (f : Nat) (I : gm_I) (J : gm_J) (u : gm_M) : Prop := offR f (f + 1) I u.1 J u.2 ∧ inv_Pf u.1 f
theorem apf_safe {f n : Nat} {x y z w : Int32} {I : gm_I} {J : gm_J} {u : gm_M} (h : inv_Pf I f) (hp : (n = 3 ∧ u = (I, J)) ∨ (n < 3 ∧ u = (gm_up (gm_up (lay4 I (f + 1) (4 * n) x y z w) f 1 (nI (n + 1))) f 2 (I f 2 &&& (w ^^^ (-1))), J))) : pfP f I J u := by
  rcases hp with ⟨_, rfl⟩ | ⟨hn, rfl⟩
  · exact ⟨offR.nil, h⟩
  · refine ⟨?_, nle.up (nle.set (by omega)) (by omega)⟩
    exact (((((offR.nil.upI (by omega)).upI (by omega)).upI (by omega)).upI (by omega)).upI (by omega)).upI (by omega)
theorem reachN {k nm m : Nat} {x : Int32} (h : x = if k < nm then nI m else nI 0) : ∃ g, g ≤ m ∧ x = nI g := by
  rw [h]; split
  · exact ⟨m, Nat.le_refl m, rfl⟩
  · exact ⟨0, Nat.zero_le _, rfl⟩
theorem loI {v : Int32} {m : Nat} (hm : m < 2 ^ 31) (h : ¬ nI m < v) : v.toInt ≤ (m : Int) := by
  have q := Int32.not_lt.mp h
  rw [Int32.le_iff_toInt_le, nI_toInt hm] at q
  exact q
/-- what a question may change of the class -/
def keepF (B : Nat) (I I' : gm_I) (J J' : gm_J) : Prop := (∀ q, (q < B ∨ (B + 12 ≤ q ∧ q < B + 180) ∨ B + 216 ≤ q) → I' q = I q ∧ J' q = J q) ∧ I' B 1 = I B 1
def sfF (B : Nat) (I : gm_I) (J : gm_J) (u : gm_M) : Prop := keepF B I u.1 J u.2 ∧ inv_FT u.1 B
section KF
variable {B p m : Nat} {I I1 I2 : gm_I} {J J1 J2 : gm_J}
theorem keepF.nil : keepF B I I J J := ⟨fun _ _ => ⟨rfl, rfl⟩, rfl⟩
theorem keepF.tr (h : keepF B I I1 J J1) (h2 : keepF B I1 I2 J1 J2) : keepF B I I2 J J2 := ⟨fun q hq => ⟨(h2.1 q hq).1.trans (h.1 q hq).1, (h2.1 q hq).2.trans (h.1 q hq).2⟩, h2.2.trans h.2⟩
theorem keepF.of {lo hi : Nat} (hO : offR lo hi I I1 J J1) (h : (B < lo ∧ hi < B + 12) ∨ (B + 180 ≤ lo ∧ hi < B + 216)) : keepF B I I1 J J1 := ⟨fun q hq => hO q (by omega), by rw [hO.i (by omega)]⟩
theorem keepF.b7 {v : Int32} : keepF B I (gm_up I B 7 v) J J := ⟨fun q hq => ⟨gm_up_off _ _ _ (by omega), rfl⟩, gm_up_ne _ _ (by omega)⟩
theorem inv_FT.sp (h : inv_FT I1 B) (hs : sfP p I1 J1 (I2, J2)) (hm : m < 6) (hp : p = B + 180 + 6 * m) : inv_FT I2 B := by
  have hO := hs.1
  have e0 : I2 B = I1 B := hO.i (by omega)
  refine ⟨h.1.off e0, fun j hj => (h.2.1 j hj).off hO (by omega), h.2.2.1.off hO (by omega), h.2.2.2.1.off hO (by omega), fun k hk => ?_, by rw [e0]; exact h.2.2.2.2.2⟩
  by_cases e : k = m
  · subst e; rw [← hp]; exact hs.2
  · exact (h.2.2.2.2.1 k hk).off hO (by omega)
theorem inv_FT.pf (h : inv_FT I1 B) (hs : pfP p I1 J1 (I2, J2)) (hp : p = B + 4 ∨ p = B + 6) : inv_FT I2 B := by
  have hO := hs.1
  have e0 : I2 B = I1 B := hO.i (by omega)
  refine ⟨h.1.off e0, fun j hj => (h.2.1 j hj).off hO (by omega), ?_, ?_, fun k hk => (h.2.2.2.2.1 k hk).off hO (by omega), by rw [e0]; exact h.2.2.2.2.2⟩
  · rcases hp with rfl | rfl
    · exact hs.2
    · exact h.2.2.1.off hO (by omega)
  · rcases hp with rfl | rfl
    · exact h.2.2.2.1.off hO (by omega)
    · exact hs.2
theorem inv_FT.b7 {v : Int32} (h : inv_FT I B) (hv : v = 0 ∨ v = 1) : inv_FT (gm_up I B 7 v) B := by
  have hO : offR B B I (gm_up I B 7 v) (fun _ _ => 0) (fun _ _ => 0) := offR.nil.upI (by omega)
  refine ⟨h.1.up (by omega), fun j hj => (h.2.1 j hj).off hO (by omega), h.2.2.1.off hO (by omega), h.2.2.2.1.off hO (by omega), fun k hk => (h.2.2.2.2.1 k hk).off hO (by omega), ?_⟩
  rw [gm_up_same]; exact hv
theorem inv_FT.keep {lo hi : Nat} (h : inv_FT I1 B) (hO : offR lo hi I1 I2 J1 J2) (hd : B + 7 < lo ∧ hi < B + 12) : inv_FT I2 B := by
  have e0 : I2 B = I1 B := hO.i (by omega)
  exact ⟨h.1.off e0, fun j hj => (h.2.1 j hj).off hO (by omega), h.2.2.1.off hO (by omega), h.2.2.2.1.off hO (by omega), fun k hk => (h.2.2.2.2.1 k hk).off hO (by omega), by rw [e0]; exact h.2.2.2.2.2⟩
end KF
