section RG
variable {K K' : Int32 → Int32 → Int32 → Nat}
theorem rgC_congr {a b : Int32} {m : Nat} (hm : m ≤ 6) (hK : ∀ c : Int32, -(m : Int) ≤ c.toInt → c.toInt ≤ (m : Int) → K a b c = K' a b c) (n : Nat) {c : Int32} (hc : -(m : Int) ≤ c.toInt) (hc2 : c.toInt ≤ 7) : rgC K (nI m) a b n c = rgC K' (nI m) a b n c := by
  induction n generalizing c with
  | zero => rfl
  | succ n ih =>
    simp only [rgC]
    by_cases h : nI m < c
    · rw [if_pos h, if_pos h]
    · have hle : c.toInt ≤ (m : Int) := loI (by omega) h
      have nx : (c + Int32.ofInt 1).toInt = c.toInt + 1 := incT (by omega) (by omega)
      rw [if_neg h, if_neg h, hK c hc hle, ih (by omega) (by omega)]
theorem rgB_congr {a : Int32} {m1 m2 : Nat} (h1 : m1 ≤ 6) (h2 : m2 ≤ 6) (hK : ∀ b c : Int32, -(m1 : Int) ≤ b.toInt → b.toInt ≤ (m1 : Int) → -(m2 : Int) ≤ c.toInt → c.toInt ≤ (m2 : Int) → K a b c = K' a b c) (n : Nat) {b : Int32} (hb : -(m1 : Int) ≤ b.toInt) (hb2 : b.toInt ≤ 7) : rgB K (nI m1) (nI m2) a n b = rgB K' (nI m1) (nI m2) a n b := by
  induction n generalizing b with
  | zero => rfl
  | succ n ih =>
    simp only [rgB]
    by_cases h : nI m1 < b
    · rw [if_pos h, if_pos h]
    · have hle : b.toInt ≤ (m1 : Int) := loI (by omega) h
      have nx : (b + Int32.ofInt 1).toInt = b.toInt + 1 := incT (by omega) (by omega)
      have e : rgC K (nI m2) a b 14 (-(nI m2)) = rgC K' (nI m2) a b 14 (-(nI m2)) := rgC_congr h2 (fun c q1 q2 => hK b c hb hle q1 q2) 14 (by rw [negN h2]; omega) (by rw [negN h2]; omega)
      rw [if_neg h, if_neg h, e, ih (by omega) (by omega)]
theorem rgA_congr {si : Int32} {m1 m2 : Nat} (h1 : m1 ≤ 6) (h2 : m2 ≤ 6) (hK : ∀ a b c : Int32, -(m1 : Int) ≤ b.toInt → b.toInt ≤ (m1 : Int) → -(m2 : Int) ≤ c.toInt → c.toInt ≤ (m2 : Int) → K a b c = K' a b c) (n : Nat) (a : Int32) : rgA K si (nI m1) (nI m2) n a = rgA K' si (nI m1) (nI m2) n a := by
  induction n generalizing a with
  | zero => rfl
  | succ n ih =>
    simp only [rgA]
    have e : rgB K (nI m1) (nI m2) a 14 (-(nI m1)) = rgB K' (nI m1) (nI m2) a 14 (-(nI m1)) := rgB_congr h1 h2 (fun b c => hK a b c) 14 (by rw [negN h1]; omega) (by rw [negN h1]; omega)
    rw [e, ih]
theorem rgC_rng {a b : Int32} {m : Nat} (hm : m ≤ 6) (n : Nat) {c : Int32} (hc : -(m : Int) ≤ c.toInt) (hc2 : c.toInt ≤ 7) {q : Int32 × Int32 × Int32 × Nat} (h : rgC K (nI m) a b n c = some q) : q.2.1 = b ∧ -(m : Int) ≤ q.2.2.1.toInt ∧ q.2.2.1.toInt ≤ (m : Int) := by
  induction n generalizing c with
  | zero => cases h
  | succ n ih =>
    simp only [rgC] at h
    by_cases h0 : nI m < c
    · rw [if_pos h0] at h; cases h
    · have hle : c.toInt ≤ (m : Int) := loI (by omega) h0
      have nx : (c + Int32.ofInt 1).toInt = c.toInt + 1 := incT (by omega) (by omega)
      rw [if_neg h0] at h
      split at h
      · cases h; exact ⟨rfl, hc, hle⟩
      · exact ih (by omega) (by omega) h
theorem rgB_rng {a : Int32} {m1 m2 : Nat} (h1 : m1 ≤ 6) (h2 : m2 ≤ 6) (n : Nat) {b : Int32} (hb : -(m1 : Int) ≤ b.toInt) (hb2 : b.toInt ≤ 7) {q : Int32 × Int32 × Int32 × Nat} (h : rgB K (nI m1) (nI m2) a n b = some q) : (-(m1 : Int) ≤ q.2.1.toInt ∧ q.2.1.toInt ≤ (m1 : Int)) ∧ -(m2 : Int) ≤ q.2.2.1.toInt ∧ q.2.2.1.toInt ≤ (m2 : Int) := by
  induction n generalizing b with
  | zero => cases h
  | succ n ih =>
    simp only [rgB] at h
    by_cases h0 : nI m1 < b
    · rw [if_pos h0] at h; cases h
    · have hle : b.toInt ≤ (m1 : Int) := loI (by omega) h0
      have nx : (b + Int32.ofInt 1).toInt = b.toInt + 1 := incT (by omega) (by omega)
      rw [if_neg h0] at h
      cases hC : rgC K (nI m2) a b 14 (-(nI m2)) with
      | some q' =>
        rw [hC] at h
        cases h
        have g := rgC_rng h2 14 (by rw [negN h2]; omega) (by rw [negN h2]; omega) hC
        rw [g.1]
        exact ⟨⟨hb, hle⟩, g.2⟩
      | none =>
        rw [hC] at h
        exact ih (by omega) (by omega) h
theorem rgA_rng {si : Int32} {m1 m2 : Nat} (h1 : m1 ≤ 6) (h2 : m2 ≤ 6) (n : Nat) (a : Int32) {q : Int32 × Int32 × Int32 × Nat} (h : rgA K si (nI m1) (nI m2) n a = some q) : (-(m1 : Int) ≤ q.2.1.toInt ∧ q.2.1.toInt ≤ (m1 : Int)) ∧ -(m2 : Int) ≤ q.2.2.1.toInt ∧ q.2.2.1.toInt ≤ (m2 : Int) := by
  induction n generalizing a with
  | zero => cases h
  | succ n ih =>
    simp only [rgA] at h
    split at h
    · cases h
    · cases hB : rgB K (nI m1) (nI m2) a 14 (-(nI m1)) with
      | some q' =>
        rw [hB] at h
        cases h
        exact rgB_rng h1 h2 14 (by rw [negN h1]; omega) (by rw [negN h1]; omega) hB
      | none =>
        rw [hB] at h
        exact ih _ h
end RG
theorem z64 {b : Int32} (h1 : -((0 : Nat) : Int) ≤ b.toInt) (h2 : b.toInt ≤ ((0 : Nat) : Int)) : b.toInt64 = 0 := by
  have e : b = 0 := Int32.toInt_inj.mp (by rw [show (0 : Int32).toInt = 0 from rfl]; omega)
  rw [e]; rfl
theorem zx_v3 {nm m1 m2 : Nat} {a b c : Int32} (e1 : nm ≤ 1 → m1 = 0) (e2 : nm ≤ 2 → m2 = 0) (hb : -(m1 : Int) ≤ b.toInt ∧ b.toInt ≤ (m1 : Int)) (hc : -(m2 : Int) ≤ c.toInt ∧ c.toInt ≤ (m2 : Int)) : zx nm (v3 a b c) := by
  refine ⟨fun h => ?_, fun h => ?_⟩
  · have := e1 h; subst this; exact z64 hb.1 hb.2
  · have := e2 h; subst this; exact z64 hc.1 hc.2
section RJ
variable {I I1 I2 : gm_I} {J J1 J2 : gm_J} {B r : Nat}
theorem sj_ring {n : Nat} {v w x z : Int32} (h : SI I B r) (hJ : SJ I J B r) (hn : n ≤ 8) (en : I B 1 = nI n) (hc : (inI v 0 (nI n - 1) = false ∧ x = -2 ∧ (I1, J1) = (I, J)) ∨ (inI v 0 (nI n - 1) = true ∧ inI w (nI 0) (nI 6) = false ∧ x = -3 ∧ (I1, J1) = (I, J)) ∨ ∃ j i nm, j < n ∧ v = nI j ∧ w = nI i ∧ i ≤ 6 ∧ I (B + 12 + 21 * j) 0 = nI nm ∧ nm ≤ 3 ∧ rgP I J B (B + 12 + 21 * j) i nm x (I1, J1))
    (hm : (lpB I1 r v = false ∧ z = -2 ∧ (I2, J2) = (I1, J1)) ∨ (lpB I1 r v = true ∧ inI w (nI 0) (nI 6) = false ∧ z = -3 ∧ (I2, J2) = (I1, J1)) ∨ (lpB I1 r v = true ∧ inI w (nI 0) (nI 6) = true ∧ ringP I1 J1 r (nN v) (nN w) (nN (I1 (r + 1) (nN v))) z (I2, J2))) : SJ I2 J2 B r ∧ x = z := by
  have hr := h.1
  have h8 := h.n8 hn en
  rcases hc with ⟨c1, rfl, e⟩ | ⟨c1, c2, rfl, e⟩ | ⟨j, i, nm, hj, rfl, rfl, hi, enm, hnm, hg⟩
  · obtain ⟨rfl, rfl⟩ := Prod.mk.inj e
    rw [lp_same (h.ent en)] at hm
    rcases hm with ⟨d1, rfl, e⟩ | ⟨d1, d2, rfl, e⟩ | ⟨d1, d2, d3⟩
    · exact ⟨hJ.eq e, rfl⟩
    · rw [c1] at d1; cases d1
    · rw [c1] at d1; cases d1
  · obtain ⟨rfl, rfl⟩ := Prod.mk.inj e
    rw [lp_same (h.ent en)] at hm
    rcases hm with ⟨d1, rfl, e⟩ | ⟨d1, d2, rfl, e⟩ | ⟨d1, d2, d3⟩
    · rw [c1] at d1; cases d1
    · exact ⟨hJ.eq e, rfl⟩
    · rw [c2] at d2; cases d2
  · obtain ⟨e, hg⟩ := hg
    have e : I1 = I := e
    subst e
    have em : I1 (r + 1) j = nI nm := (h.2.2.2.2.2.1 j (by omega)).1.symm.trans enm
    rw [lp_same (h.ent en), nN_nI (show j < 2 ^ 31 by omega), nN_nI (show i < 2 ^ 31 by omega), em, nN_nI (show nm < 2 ^ 31 by omega)] at hm
    rcases hm with ⟨d1, rfl, e⟩ | ⟨d1, d2, rfl, e⟩ | ⟨d1, d2, d3⟩
    · rw [inI_in (by omega) hj] at d1; cases d1
    · exfalso
      exact of_decide_eq_false d2 ⟨nI_nlt (by omega) (by omega), nI_nlt (by omega) (by omega)⟩
    · have hi2 := hJ.2.idw (j := j) (by omega)
      obtain ⟨m1, hm1, e1, z1⟩ : ∃ m1, m1 ≤ 6 ∧ (if nm ≤ 1 then nI 0 else nI i) = nI m1 ∧ (nm ≤ 1 → m1 = 0) := by
        by_cases q : nm ≤ 1
        · exact ⟨0, by omega, by rw [if_pos q], fun _ => rfl⟩
        · exact ⟨i, hi, by rw [if_neg q], fun q2 => absurd q2 q⟩
      obtain ⟨m2, hm2, e2, z2⟩ : ∃ m2, m2 ≤ 6 ∧ (if nm ≤ 2 then nI 0 else nI i) = nI m2 ∧ (nm ≤ 2 → m2 = 0) := by
        by_cases q : nm ≤ 2
        · exact ⟨0, by omega, by rw [if_pos q], fun _ => rfl⟩
        · exact ⟨i, hi, by rw [if_neg q], fun q2 => absurd q2 q⟩
      have hnm2 : nN (I1 (r + 1) j) = nm := by rw [em, nN_nI (by omega)]
      have eA : rgA (kc I1 (B + 12 + 21 * j)) (nI i) (nI m1) (nI m2) 14 (-(nI i)) = rgA (kb I1 r j) (nI i) (nI m1) (nI m2) 14 (-(nI i)) := rgA_congr hm1 hm2 (fun a b c q1 q2 q3 q4 => cbF_eq h (by omega) hi2 _ 200 1 (by rw [hnm2]; exact zx_v3 z1 z2 ⟨q1, q2⟩ ⟨q3, q4⟩)) 14 _
      unfold ringP ringR at d3
      rw [e1, e2, eA] at hg
      rw [e1, e2] at d3
      cases hA : rgA (kb I1 r j) (nI i) (nI m1) (nI m2) 14 (-(nI i)) with
      | none =>
        rw [hA] at hg d3
        obtain ⟨rfl, hb⟩ := hg
        obtain ⟨rfl, t, e⟩ := d3
        obtain ⟨rfl, rfl⟩ := Prod.mk.inj e
        have hb : but5 B (B + 12 + 21 * j) J J1 := hb
        exact ⟨hJ.same hr (fun q hq => hb _ (by omega) (by omega) (by omega) (by omega)) (hb _ (by omega) (by omega) (by omega) (by omega)), rfl⟩
      | some q =>
        rw [hA] at hg d3
        obtain ⟨rfl, hk, J3, hb, eJ⟩ := hg
        obtain ⟨rfl, _, e⟩ := d3
        obtain ⟨rfl, rfl⟩ := Prod.mk.inj e
        have eJ : J1 = set3 J3 (B + 12 + 21 * j + 4) (v3 q.1 q.2.1 q.2.2.1) := eJ
        have g := rgA_rng hm1 hm2 14 _ hA
        refine ⟨hJ.both hr (by omega) (by omega) (by omega) (by rw [hnm2]; exact zx_v3 z1 z2 g.1 g.2) (fun a ha hne => ?_) ?_ ?_, rfl⟩
        · rw [eJ, set3_off _ _ (by omega)]; exact hb _ (by omega) (by omega) (by omega) (by omega)
        · rw [eJ, get3_set3]
        · rw [eJ, set3_off _ _ (by omega)]; exact hb _ (by omega) (by omega) (by omega) (by omega)
end RJ
