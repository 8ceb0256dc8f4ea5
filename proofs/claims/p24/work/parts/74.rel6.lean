section OPS6
variable {I I1 : gm_I} {J J1 : gm_J} {B r : Nat}

theorem op_factor {n : Nat} {v w a b y x : Int32} (h : SI I B r) (hn : n ≤ 8) (en : I B 1 = nI n) (hc : faP I J B n v w a b y x (I1, J1)) : inv_Md I1 r ∧ ∀ (z : Int32) (I2 : gm_I) (J2 : gm_J), (z, I2, J2) = sp_factor I1 J1 r v w a b y → SI I2 B r ∧ x = z := by
  have hr := h.1
  have hcond : (wyB I r v w && nmB I r v a && nmB I r v b) = (fwB I B n v w && fnB I B n v a && fnB I B n v b) := by rw [wy_same h hn en]; simp only [nm_same h hn en]
  have elit : (-3 : Int32) = -(nI 3) := by decide
  rcases hc with ⟨c1, rfl, e⟩ | ⟨c1, c2, rfl, e⟩ | ⟨c1, c2, ex, e⟩
  · obtain ⟨rfl, rfl⟩ := Prod.mk.inj e
    refine ⟨h.2.2.1, fun z I2 J2 hm => ?_⟩
    unfold sp_factor at hm
    rw [hcond, if_neg (by rw [c1]; decide)] at hm
    obtain ⟨rfl, e⟩ := Prod.mk.inj hm
    obtain ⟨rfl, rfl⟩ := Prod.mk.inj e
    exact ⟨h, rfl⟩
  · obtain ⟨rfl, rfl⟩ := Prod.mk.inj e
    refine ⟨h.2.2.1, fun z I2 J2 hm => ?_⟩
    unfold sp_factor at hm
    rw [hcond, if_pos c1, elit, if_neg (by rw [c2]; decide)] at hm
    obtain ⟨rfl, e⟩ := Prod.mk.inj hm
    obtain ⟨rfl, rfl⟩ := Prod.mk.inj e
    exact ⟨h, rfl⟩
  · have c0 := c1
    simp only [Bool.and_eq_true] at c0
    obtain ⟨⟨b, b0⟩, b1⟩ := c0
    obtain ⟨j, k, m, hj, hkm, hm3, rfl, rfl, em3⟩ := fwB_j hn h.2.1 b
    obtain ⟨j0, a0, m0, hj0, ha0, hm0, ej0, ea0, em0⟩ := fnB_j hn h.2.1 b0
    obtain ⟨j1, a1, m1, hj1, ha1, hm1, ej1, ea1, em1⟩ := fnB_j hn h.2.1 b1
    obtain rfl : j = j0 := gm_eqt (by omega) (by omega) ej0
    subst ea0
    subst ea1
    have hL := h.2.2.2.2.2.1 j (by omega)
    have hW := h.2.2.2.2.2.2 j k (by omega) (by omega)
    rw [nN_nI (show j < 2 ^ 31 by omega), nN_nI (show k < 2 ^ 31 by omega), nN_nI (show a0 < 2 ^ 31 by omega), nN_nI (show a1 < 2 ^ 31 by omega)] at ex e
    have eI := (Prod.mk.inj e).1
    have hk : ∀ q, B + 216 ≤ q → I1 q = I q := fun q hq => by
      funext i
      rw [eI]
      repeat (first | rw [gm_up_same] | rw [gm_up_ne _ _ (by omega)])
    have hm0 := h.md hk
    have r0 : I1 r = I r := hk r (by omega)
    have hkr : ∀ c, I1 (r + c) = I (r + c) := fun c => hk _ (by omega)
    have hF1 : inv_FT I1 B := by
      rw [eI]
      refine h.2.1.lp (J := J) (J1 := J) (j := j) (offR.nil.upI (by omega)) (by omega) ?_
      have g1 := h.2.1.2.1 j (by omega)
      refine ⟨g1.1.up (by omega), ⟨?_, g1.2.1.2.up (by omega)⟩, g1.2.2.1.up (by omega), fun i hi => ⟨?_, (g1.2.2.2 i hi).2.up (by omega)⟩⟩
      · repeat (first | rw [gm_up_same] | rw [gm_up_ne _ _ (by omega)])
        exact g1.2.1.1
      · repeat (first | rw [gm_up_same] | rw [gm_up_ne _ _ (by omega)])
        exact (g1.2.2.2 i hi).1
    refine ⟨hm0.1, fun z I2 J2 hm => ?_⟩
    unfold sp_factor at hm
    rw [wyB_k hk hr] at hm
    simp only [nmB_k hk hr] at hm
    rw [hcond, if_pos c1, elit, if_pos c2, nN_nI (show j < 2 ^ 31 by omega), nN_nI (show k < 2 ^ 31 by omega), nN_nI (show a0 < 2 ^ 31 by omega), nN_nI (show a1 < 2 ^ 31 by omega), hkr 7] at hm
    obtain ⟨rfl, e2⟩ := Prod.mk.inj hm
    obtain ⟨rfl, rfl⟩ := Prod.mk.inj e2
    have hx := hW.2.2.1 (3 * a0 + a1) (by omega)
    refine ⟨⟨hr, hF1.ref (fun q hq => ?_), ?_, ?_, ?_⟩, ?_⟩
    · funext i
      repeat (first | rw [gm_up_same] | rw [gm_up_ne _ _ (by omega)])
    · obtain ⟨m1, m2, m3, m4, m5, m6⟩ := hm0.1
      exact ⟨m1.up (by omega), fun i hi => (m2 i hi).up (by omega), fun i hi => (m3 i hi).up (by omega), fun i hi => (m4 i hi).up (by omega), fun i hi => (m5 i hi).up (by omega), m6.up (by omega)⟩
    · obtain ⟨b, hb⟩ := hm0.2
      refine ⟨b, ?_⟩
      rw [← hb]
      repeat (first | rw [gm_up_same] | rw [gm_up_ne _ _ (by omega)])
    · have hR := h.2.2.2.2
      refine hR.lp (j := j) ?_ (fun q h1 h2 h3 => ?_) (fun i hi hne => ⟨?_, ?_, ?_, fun a ha => ?_, fun p hp => ⟨?_, fun a ha => ?_, fun a ha => ?_, fun a ha => ?_⟩⟩) ⟨?_, ?_, ?_, fun i hi => ?_⟩ (fun p hp => ?_)
      · repeat (first | rw [gm_up_same] | rw [gm_up_ne _ _ (by omega)])
        rw [r0, h.ent en, eI]
        repeat (first | rw [gm_up_same] | rw [gm_up_ne _ _ (by omega)])
        exact en
      · funext i
        repeat (first | rw [gm_up_same] | rw [gm_up_ne _ _ (by omega)])
        rw [eI]
        repeat (first | rw [gm_up_same] | rw [gm_up_ne _ _ (by omega)])
      · repeat (first | rw [gm_up_same] | rw [gm_up_ne _ _ (by omega)])
        rw [hkr]
      · repeat (first | rw [gm_up_same] | rw [gm_up_ne _ _ (by omega)])
        rw [hkr]
      · repeat (first | rw [gm_up_same] | rw [gm_up_ne _ _ (by omega)])
        rw [hkr]
      · repeat (first | rw [gm_up_same] | rw [gm_up_ne _ _ (by omega)])
        rw [hkr]
      · repeat (first | rw [gm_up_same] | rw [gm_up_ne _ _ (by omega)])
        rw [hkr]
      · repeat (first | rw [gm_up_same] | rw [gm_up_ne _ _ (by omega)])
        rw [hkr]
      · repeat (first | rw [gm_up_same] | rw [gm_up_ne _ _ (by omega)])
        rw [hkr]
      · repeat (first | rw [gm_up_same] | rw [gm_up_ne _ _ (by omega)])
        rw [hkr]
      · repeat (first | rw [gm_up_same] | rw [gm_up_ne _ _ (by omega)])
        rw [hkr, eI]
        repeat (first | rw [gm_up_same] | rw [gm_up_ne _ _ (by omega)])
        exact hL.1
      · repeat (first | rw [gm_up_same] | rw [gm_up_ne _ _ (by omega)])
        rw [hkr, eI]
        repeat (first | rw [gm_up_same] | rw [gm_up_ne _ _ (by omega)])
        exact hL.2.1
      · repeat (first | rw [gm_up_same] | rw [gm_up_ne _ _ (by omega)])
        rw [hkr, eI]
        repeat (first | rw [gm_up_same] | rw [gm_up_ne _ _ (by omega)])
        exact hL.2.2.1
      · repeat (first | rw [gm_up_same] | rw [gm_up_ne _ _ (by omega)])
        rw [hkr, eI]
        repeat (first | rw [gm_up_same] | rw [gm_up_ne _ _ (by omega)])
        exact hL.2.2.2 i hi
      · have hV := hR.2.2 j p (by omega) hp
        refine ⟨?_, fun i hi => ?_, fun i hi => ?_, fun i hi => ?_⟩
        · repeat (first | rw [gm_up_same] | rw [gm_up_ne _ _ (by omega)])
          rw [hkr, eI]
          repeat (first | rw [gm_up_same] | rw [gm_up_ne _ _ (by omega)])
          exact hV.1
        · repeat (first | rw [gm_up_same] | rw [gm_up_ne _ _ (by omega)])
          rw [hkr, eI]
          repeat (first | rw [gm_up_same] | rw [gm_up_ne _ _ (by omega)])
          exact hV.2.1 i hi
        · by_cases ep : p = k ∧ i = 3 * a0 + a1
          · obtain ⟨rfl, rfl⟩ := ep
            rw [show 9 * (3 * j + p) + (3 * a0 + a1) = 9 * (3 * j + p) + 3 * a0 + a1 by omega]
            repeat (first | rw [gm_up_same] | rw [gm_up_ne _ _ (by omega)])
            rw [eI]
            repeat (first | rw [gm_up_same] | rw [gm_up_ne _ _ (by omega)])
          · repeat (first | rw [gm_up_same] | rw [gm_up_ne _ _ (by omega)])
            rw [hkr, eI]
            repeat (first | rw [gm_up_same] | rw [gm_up_ne _ _ (by omega)])
            exact hV.2.2.1 i hi
        · repeat (first | rw [gm_up_same] | rw [gm_up_ne _ _ (by omega)])
          rw [hkr, eI]
          repeat (first | rw [gm_up_same] | rw [gm_up_ne _ _ (by omega)])
          exact hV.2.2.2 i hi
    · rw [ex, hx]
      rw [Nat.add_assoc (9 * (3 * j + k))]

theorem op_constant {n : Nat} {v w a y x : Int32} (h : SI I B r) (hn : n ≤ 8) (en : I B 1 = nI n) (hc : coP I J B n v w a y x (I1, J1)) : inv_Md I1 r ∧ ∀ (z : Int32) (I2 : gm_I) (J2 : gm_J), (z, I2, J2) = sp_constant I1 J1 r v w a y → SI I2 B r ∧ x = z := by
  have hr := h.1
  have hcond : (wyB I r v w && nmB I r v a) = (fwB I B n v w && fnB I B n v a) := by rw [wy_same h hn en]; simp only [nm_same h hn en]
  have elit : (-99 : Int32) = -(nI 99) := by decide
  rcases hc with ⟨c1, rfl, e⟩ | ⟨c1, c2, rfl, e⟩ | ⟨c1, c2, ex, e⟩
  · obtain ⟨rfl, rfl⟩ := Prod.mk.inj e
    refine ⟨h.2.2.1, fun z I2 J2 hm => ?_⟩
    unfold sp_constant at hm
    rw [hcond, if_neg (by rw [c1]; decide)] at hm
    obtain ⟨rfl, e⟩ := Prod.mk.inj hm
    obtain ⟨rfl, rfl⟩ := Prod.mk.inj e
    exact ⟨h, rfl⟩
  · obtain ⟨rfl, rfl⟩ := Prod.mk.inj e
    refine ⟨h.2.2.1, fun z I2 J2 hm => ?_⟩
    unfold sp_constant at hm
    rw [hcond, if_pos c1, elit, if_neg (by rw [c2]; decide)] at hm
    obtain ⟨rfl, e⟩ := Prod.mk.inj hm
    obtain ⟨rfl, rfl⟩ := Prod.mk.inj e
    exact ⟨h, rfl⟩
  · have c0 := c1
    simp only [Bool.and_eq_true] at c0
    obtain ⟨b, b0⟩ := c0
    obtain ⟨j, k, m, hj, hkm, hm3, rfl, rfl, em3⟩ := fwB_j hn h.2.1 b
    obtain ⟨j0, a0, m0, hj0, ha0, hm0, ej0, ea0, em0⟩ := fnB_j hn h.2.1 b0
    obtain rfl : j = j0 := gm_eqt (by omega) (by omega) ej0
    subst ea0
    have hL := h.2.2.2.2.2.1 j (by omega)
    have hW := h.2.2.2.2.2.2 j k (by omega) (by omega)
    rw [nN_nI (show j < 2 ^ 31 by omega), nN_nI (show k < 2 ^ 31 by omega), nN_nI (show a0 < 2 ^ 31 by omega)] at ex e
    have eI := (Prod.mk.inj e).1
    have hk : ∀ q, B + 216 ≤ q → I1 q = I q := fun q hq => by
      funext i
      rw [eI]
      repeat (first | rw [gm_up_same] | rw [gm_up_ne _ _ (by omega)])
    have hm0 := h.md hk
    have r0 : I1 r = I r := hk r (by omega)
    have hkr : ∀ c, I1 (r + c) = I (r + c) := fun c => hk _ (by omega)
    have hF1 : inv_FT I1 B := by
      rw [eI]
      refine h.2.1.lp (J := J) (J1 := J) (j := j) (offR.nil.upI (by omega)) (by omega) ?_
      have g1 := h.2.1.2.1 j (by omega)
      refine ⟨g1.1.up (by omega), ⟨?_, g1.2.1.2.up (by omega)⟩, g1.2.2.1.up (by omega), fun i hi => ⟨?_, (g1.2.2.2 i hi).2.up (by omega)⟩⟩
      · repeat (first | rw [gm_up_same] | rw [gm_up_ne _ _ (by omega)])
        exact g1.2.1.1
      · repeat (first | rw [gm_up_same] | rw [gm_up_ne _ _ (by omega)])
        exact (g1.2.2.2 i hi).1
    refine ⟨hm0.1, fun z I2 J2 hm => ?_⟩
    unfold sp_constant at hm
    rw [wyB_k hk hr] at hm
    simp only [nmB_k hk hr] at hm
    rw [hcond, if_pos c1, elit, if_pos c2, nN_nI (show j < 2 ^ 31 by omega), nN_nI (show k < 2 ^ 31 by omega), nN_nI (show a0 < 2 ^ 31 by omega), hkr 8] at hm
    obtain ⟨rfl, e2⟩ := Prod.mk.inj hm
    obtain ⟨rfl, rfl⟩ := Prod.mk.inj e2
    have hx := hW.2.2.2 (a0) (by omega)
    refine ⟨⟨hr, hF1.ref (fun q hq => ?_), ?_, ?_, ?_⟩, ?_⟩
    · funext i
      repeat (first | rw [gm_up_same] | rw [gm_up_ne _ _ (by omega)])
    · obtain ⟨m1, m2, m3, m4, m5, m6⟩ := hm0.1
      exact ⟨m1.up (by omega), fun i hi => (m2 i hi).up (by omega), fun i hi => (m3 i hi).up (by omega), fun i hi => (m4 i hi).up (by omega), fun i hi => (m5 i hi).up (by omega), m6.up (by omega)⟩
    · obtain ⟨b, hb⟩ := hm0.2
      refine ⟨b, ?_⟩
      rw [← hb]
      repeat (first | rw [gm_up_same] | rw [gm_up_ne _ _ (by omega)])
    · have hR := h.2.2.2.2
      refine hR.lp (j := j) ?_ (fun q h1 h2 h3 => ?_) (fun i hi hne => ⟨?_, ?_, ?_, fun a ha => ?_, fun p hp => ⟨?_, fun a ha => ?_, fun a ha => ?_, fun a ha => ?_⟩⟩) ⟨?_, ?_, ?_, fun i hi => ?_⟩ (fun p hp => ?_)
      · repeat (first | rw [gm_up_same] | rw [gm_up_ne _ _ (by omega)])
        rw [r0, h.ent en, eI]
        repeat (first | rw [gm_up_same] | rw [gm_up_ne _ _ (by omega)])
        exact en
      · funext i
        repeat (first | rw [gm_up_same] | rw [gm_up_ne _ _ (by omega)])
        rw [eI]
        repeat (first | rw [gm_up_same] | rw [gm_up_ne _ _ (by omega)])
      · repeat (first | rw [gm_up_same] | rw [gm_up_ne _ _ (by omega)])
        rw [hkr]
      · repeat (first | rw [gm_up_same] | rw [gm_up_ne _ _ (by omega)])
        rw [hkr]
      · repeat (first | rw [gm_up_same] | rw [gm_up_ne _ _ (by omega)])
        rw [hkr]
      · repeat (first | rw [gm_up_same] | rw [gm_up_ne _ _ (by omega)])
        rw [hkr]
      · repeat (first | rw [gm_up_same] | rw [gm_up_ne _ _ (by omega)])
        rw [hkr]
      · repeat (first | rw [gm_up_same] | rw [gm_up_ne _ _ (by omega)])
        rw [hkr]
      · repeat (first | rw [gm_up_same] | rw [gm_up_ne _ _ (by omega)])
        rw [hkr]
      · repeat (first | rw [gm_up_same] | rw [gm_up_ne _ _ (by omega)])
        rw [hkr]
      · repeat (first | rw [gm_up_same] | rw [gm_up_ne _ _ (by omega)])
        rw [hkr, eI]
        repeat (first | rw [gm_up_same] | rw [gm_up_ne _ _ (by omega)])
        exact hL.1
      · repeat (first | rw [gm_up_same] | rw [gm_up_ne _ _ (by omega)])
        rw [hkr, eI]
        repeat (first | rw [gm_up_same] | rw [gm_up_ne _ _ (by omega)])
        exact hL.2.1
      · repeat (first | rw [gm_up_same] | rw [gm_up_ne _ _ (by omega)])
        rw [hkr, eI]
        repeat (first | rw [gm_up_same] | rw [gm_up_ne _ _ (by omega)])
        exact hL.2.2.1
      · repeat (first | rw [gm_up_same] | rw [gm_up_ne _ _ (by omega)])
        rw [hkr, eI]
        repeat (first | rw [gm_up_same] | rw [gm_up_ne _ _ (by omega)])
        exact hL.2.2.2 i hi
      · have hV := hR.2.2 j p (by omega) hp
        refine ⟨?_, fun i hi => ?_, fun i hi => ?_, fun i hi => ?_⟩
        · repeat (first | rw [gm_up_same] | rw [gm_up_ne _ _ (by omega)])
          rw [hkr, eI]
          repeat (first | rw [gm_up_same] | rw [gm_up_ne _ _ (by omega)])
          exact hV.1
        · repeat (first | rw [gm_up_same] | rw [gm_up_ne _ _ (by omega)])
          rw [hkr, eI]
          repeat (first | rw [gm_up_same] | rw [gm_up_ne _ _ (by omega)])
          exact hV.2.1 i hi
        · repeat (first | rw [gm_up_same] | rw [gm_up_ne _ _ (by omega)])
          rw [hkr, eI]
          repeat (first | rw [gm_up_same] | rw [gm_up_ne _ _ (by omega)])
          exact hV.2.2.1 i hi
        · by_cases ep : p = k ∧ i = a0
          · obtain ⟨rfl, rfl⟩ := ep
            repeat (first | rw [gm_up_same] | rw [gm_up_ne _ _ (by omega)])
            rw [eI]
            repeat (first | rw [gm_up_same] | rw [gm_up_ne _ _ (by omega)])
          · repeat (first | rw [gm_up_same] | rw [gm_up_ne _ _ (by omega)])
            rw [hkr, eI]
            repeat (first | rw [gm_up_same] | rw [gm_up_ne _ _ (by omega)])
            exact hV.2.2.2 i hi
    · rw [ex, hx]

theorem op_put {n : Nat} {v w y x : Int32} (h : SI I B r) (hn : n ≤ 8) (en : I B 1 = nI n) (hc : ptP I J B n v w y x (I1, J1)) : inv_Md I1 r ∧ ∀ (z : Int32) (I2 : gm_I) (J2 : gm_J), ((nmB I1 r v w = false ∧ z = -2 ∧ (I2, J2) = (I1, J1)) ∨ (nmB I1 r v w = true ∧ inI y (-1000000) (nI 1000000) = false ∧ z = -3 ∧ (I2, J2) = (I1, J1)) ∨ (nmB I1 r v w = true ∧ inI y (-1000000) (nI 1000000) = true ∧ z = 1 ∧ (I2, J2) = (I1, gm_up J1 (r + 9) (3 * v.toNatClampNeg + w.toNatClampNeg) y.toInt64))) → SI I2 B r ∧ x = z := by
  have eI : I1 = I := by rcases hc with ⟨_, _, e⟩ | ⟨_, _, _, e⟩ | ⟨_, _, _, e⟩ <;> exact (Prod.mk.inj e).1
  subst eI
  have elit : (-1000000 : Int32) = -(nI 1000000) := by decide
  refine ⟨h.2.2.1, fun z I2 J2 hm => ?_⟩
  rw [nm_same h hn en, elit] at hm
  have eI : I2 = I1 := by rcases hm with ⟨_, _, e⟩ | ⟨_, _, _, e⟩ | ⟨_, _, _, e⟩ <;> exact (Prod.mk.inj e).1
  subst eI
  refine ⟨h, ?_⟩
  rcases hc with ⟨c1, rfl, e⟩ | ⟨c1, c2, rfl, e⟩ | ⟨c1, c2, rfl, e⟩ <;> rcases hm with ⟨d1, rfl, e⟩ | ⟨d1, d2, rfl, e⟩ | ⟨d1, d2, rfl, e⟩ <;> first | rfl | exact absurd (c1.symm.trans d1) (by decide) | exact absurd (c2.symm.trans d2) (by decide)
theorem op_told {n : Nat} {v w x : Int32} (h : SI I B r) (hn : n ≤ 8) (en : I B 1 = nI n) (hc : (I1, J1) = (I, J) ∧ x = if inI v 0 (nI n - 1) = true then (if w = nI 0 then I (B + 12 + 21 * nN v) 0 else if w = nI 1 then I (B + 12 + 21 * nN v) 3 else if w = nI 2 then I (B + 12 + 21 * nN v + 1) 2 else -3) else -2) : inv_Md I1 r ∧ ∀ (z : Int32) (I2 : gm_I) (J2 : gm_J), ((I2, J2) = (I1, J1) ∧ z = if lpB I1 r v then (if w = 0 then I1 (r + 1) v.toNatClampNeg else if w = nI 1 then I1 (r + 2) v.toNatClampNeg else if w = nI 2 then I1 (r + 3) v.toNatClampNeg else -3) else -2) → SI I2 B r ∧ x = z := by
  obtain ⟨e, rfl⟩ := hc
  obtain ⟨rfl, rfl⟩ := Prod.mk.inj e
  refine ⟨h.2.2.1, fun z I2 J2 hm => ?_⟩
  obtain ⟨e, rfl⟩ := hm
  obtain ⟨rfl, rfl⟩ := Prod.mk.inj e
  refine ⟨h, ?_⟩
  rw [lp_same (h.ent en)]
  cases e : inI v 0 (nI n - 1) with
  | false => rw [if_neg (by decide), if_neg (by decide)]
  | true =>
    obtain ⟨j, hj, rfl⟩ := inI_nat (by omega) e
    have hL := h.2.2.2.2.2.1 j (by omega)
    have ej : (nI j).toNatClampNeg = j := nI_clamp (by omega)
    simp only [nN, ej, nI_0]
    rw [hL.1, hL.2.1, hL.2.2.1]
end OPS6
