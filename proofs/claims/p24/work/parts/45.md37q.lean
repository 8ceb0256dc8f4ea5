theorem eqN_lay {r : Nat} {I I1 : gm_I} {J J1 : gm_J} {v a b c d : Int32} (h : eqN r I J I1 J1) : eqN r I J (lay4 (gm_up I1 r 13 v) (r + 11) 0 a b c d) J1 := by
  refine ⟨fun q i hq => ?_, h.2.1, ?_⟩
  · unfold lay4
    rw [gm_up_ne _ _ (Or.inl (by omega)), gm_up_ne _ _ (Or.inl (by omega)), gm_up_ne _ _ (Or.inl (by omega)), gm_up_ne _ _ (Or.inl (by omega)), gm_up_ne _ _ (by omega)]
    exact h.1 q i hq
  · obtain ⟨b', hb⟩ := h.2.2
    refine ⟨b', ?_⟩
    unfold lay4
    rw [gm_up_ne _ _ (Or.inl (by omega)), gm_up_ne _ _ (Or.inl (by omega)), gm_up_ne _ _ (Or.inl (by omega)), gm_up_ne _ _ (Or.inl (by omega)), gm_up_ne _ _ (by omega)]
    exact hb
theorem lay_13 {r : Nat} {I1 : gm_I} {v a b c d : Int32} : lay4 (gm_up I1 r 13 v) (r + 11) 0 a b c d r 13 = v := by
  unfold lay4
  rw [gm_up_ne _ _ (Or.inl (by omega)), gm_up_ne _ _ (Or.inl (by omega)), gm_up_ne _ _ (Or.inl (by omega)), gm_up_ne _ _ (Or.inl (by omega)), gm_up_same]
theorem lay_11 {r : Nat} {I1 : gm_I} {a b c d : Int32} : lay4 I1 (r + 11) 0 a b c d (r + 11) 0 = a ∧ lay4 I1 (r + 11) 0 a b c d (r + 11) 1 = b ∧ lay4 I1 (r + 11) 0 a b c d (r + 11) 2 = c ∧ lay4 I1 (r + 11) 0 a b c d (r + 11) 3 = d := by
  simp [lay4, gm_up]
theorem eqN_na {r k : Nat} {I I1 : gm_I} {J J1 : gm_J} (h : eqN r I J I1 J1) : eqN r I J I1 (naJ J1 r k) := by
  refine ⟨h.1, fun q i hq => ?_, h.2.2⟩
  unfold naJ
  rw [gm_up_ne _ _ (by omega), gm_up_ne _ _ (by omega), gm_up_ne _ _ (by omega), gm_up_ne _ _ (by omega)]
  exact h.2.1 q i hq
theorem eqN_S {r : Nat} {I I1 : gm_I} {J J1 : gm_J} (h : eqS r I J I1 J1) : eqN r I J I1 J1 := eqN_L (eqL_S h)
def needP (I : gm_I) (J : gm_J) (r j : Nat) (z : Int32) (u : gm_M) : Prop := eqN r I J u.1 u.2 ∧
  if (leftR I J r j false).2 = 0 then z = 2 ∧ u.1 r 13 = nI 0 else match fkN (ndT I J r j) 135 0 with
    | none => z = 0 ∧ u.1 r 13 = nI 0
    | some k => z = 1 ∧ u.1 r 13 = nI 1 ∧ u.1 (r + 11) 0 = nKa k ∧ u.1 (r + 11) 1 = nKb k ∧ u.1 (r + 11) 2 = nKc k ∧ u.1 (r + 11) 3 = nKd k
theorem needP_2 {I : gm_I} {J : gm_J} {r j : Nat} {u : gm_M} (hN : eqN r I J u.1 u.2) (h : (leftR I J r j false).2 = 0) (h13 : u.1 r 13 = nI 0) : needP I J r j (nI 2) u := ⟨hN, by rw [if_pos h]; exact ⟨rfl, h13⟩⟩
theorem needP_0 {I : gm_I} {J : gm_J} {r j : Nat} {u : gm_M} (hN : eqN r I J u.1 u.2) (h : ¬ (leftR I J r j false).2 = 0) (hf : fkN (ndT I J r j) 135 0 = none) (h13 : u.1 r 13 = nI 0) : needP I J r j (nI 0) u := ⟨hN, by rw [if_neg h, hf]; exact ⟨rfl, h13⟩⟩
theorem needP_1 {I I1 : gm_I} {J J1 : gm_J} {r j k : Nat} (hN : eqN r I J I1 J1) (h : ¬ (leftR I J r j false).2 = 0) (hf : fkN (ndT I J r j) 135 0 = some k) : needP I J r j (nI 1) (lay4 (gm_up I1 r 13 (nI 1)) (r + 11) 0 (nKa k) (nKb k) (nKc k) (nKd k), J1) := by
  refine ⟨eqN_lay hN, ?_⟩
  rw [if_neg h, hf]
  exact ⟨rfl, lay_13, lay_11.1, lay_11.2.1, lay_11.2.2.1, lay_11.2.2.2⟩
