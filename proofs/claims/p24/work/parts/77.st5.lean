section SQ
variable {I I1 I2 : gm_I} {J J1 J2 : gm_J} {B r : Nat}

theorem sj_factor {n : Nat} {v w a b y x z : Int32} (h : SI I B r) (hJ : SJ I J B r) (hn : n ≤ 8) (en : I B 1 = nI n) (hc : faP I J B n v w a b y x (I1, J1)) (hm : (z, I2, J2) = sp_factor I1 J1 r v w a b y) : SJ I2 J2 B r := by
  have hr := h.1
  have h8 := h.n8 hn en
  have hcond : (wyB I r v w && nmB I r v a && nmB I r v b) = (fwB I B n v w && fnB I B n v a && fnB I B n v b) := by rw [wy_same h hn en]; simp only [nm_same h hn en]
  have elit : (-3 : Int32) = -(nI 3) := by decide
  rcases hc with ⟨c1, rfl, e⟩ | ⟨c1, c2, rfl, e⟩ | ⟨c1, c2, ex, e⟩
  · obtain ⟨rfl, rfl⟩ := Prod.mk.inj e
    unfold sp_factor at hm
    rw [hcond, if_neg (by rw [c1]; decide)] at hm
    exact hJ.eq (Prod.mk.inj hm).2
  · obtain ⟨rfl, rfl⟩ := Prod.mk.inj e
    unfold sp_factor at hm
    rw [hcond, if_pos c1, elit, if_neg (by rw [c2]; decide)] at hm
    exact hJ.eq (Prod.mk.inj hm).2
  · have c0 := c1
    simp only [Bool.and_eq_true] at c0
    obtain ⟨⟨b, b0⟩, b1⟩ := c0
    obtain ⟨j, k, m, hj, hkm, hm3, rfl, rfl, em3⟩ := fwB_j hn h.2.1 b
    obtain ⟨j0, a0, m0, hj0, ha0, hm0, ej0, ea0, em0⟩ := fnB_j hn h.2.1 b0
    obtain ⟨j1, a1, m1, hj1, ha1, hm1, ej1, ea1, em1⟩ := fnB_j hn h.2.1 b1
    obtain rfl : j = j0 := gm_eqt (by omega) (by omega) ej0
    subst ea0
    subst ea1
    have enm : I (r + 1) j = nI m0 := (h.2.2.2.2.2.1 j (by omega)).1.symm.trans em0
    rw [nN_nI (show j < 2 ^ 31 by omega), nN_nI (show k < 2 ^ 31 by omega), nN_nI (show a0 < 2 ^ 31 by omega), nN_nI (show a1 < 2 ^ 31 by omega)] at ex e
    obtain ⟨eI, rfl⟩ := Prod.mk.inj e
    have hk : ∀ q, B + 216 ≤ q → I1 q = I q := fun q hq => by
      funext i
      rw [eI]
      repeat (first | rw [gm_up_same] | rw [gm_up_ne _ _ (by omega)])
    have hkr : ∀ c, I1 (r + c) = I (r + c) := fun c => hk _ (by omega)
    have r0 : I1 r = I r := hk _ (by omega)
    unfold sp_factor at hm
    rw [wyB_k hk hr] at hm
    simp only [nmB_k hk hr] at hm
    rw [hcond, if_pos c1, elit, if_pos c2, nN_nI (show j < 2 ^ 31 by omega), nN_nI (show k < 2 ^ 31 by omega), nN_nI (show a0 < 2 ^ 31 by omega), nN_nI (show a1 < 2 ^ 31 by omega)] at hm
    obtain ⟨_, e2⟩ := Prod.mk.inj hm
    obtain ⟨rfl, rfl⟩ := Prod.mk.inj e2
    refine ⟨hJ.1, fun i hi => ?_⟩
    have q0 : ∀ x, gm_up I1 (r + 7) (9 * (3 * j + k) + 3 * a0 + a1) y r x = I r x := fun x => by
      repeat (first | rw [gm_up_same] | rw [gm_up_ne _ _ (by omega)])
      rw [r0]
    have q1 : ∀ c x, c ≠ 0 → c ≠ 7 → gm_up I1 (r + 7) (9 * (3 * j + k) + 3 * a0 + a1) y (r + c) x = I (r + c) x := fun c x hc0 hc1 => by
      repeat (first | rw [gm_up_same] | rw [gm_up_ne _ _ (by omega)])
      rw [hkr]
    rw [q0] at hi
    obtain ⟨g1, g2⟩ := hJ.2 i hi
    obtain ⟨mw, hmw, emw⟩ := h.2.2.1.2.2.1 i (by omega)
    unfold idn at g2 ⊢
    rw [q1 1 _ (by omega) (by omega), q1 2 _ (by omega) (by omega)]
    refine ⟨g1, fun i2 hi2 hi3 => ⟨(g2 i2 hi2 hi3).1, fun k2 hk2 => ⟨fun c hc => ?_, ?_⟩⟩⟩
    · have hk3 : k2 < 3 := by rw [emw, nN_nI (by omega)] at hk2; omega
      have hnn : i = j → m0 ≤ i2 := fun e => by subst e; rw [enm, nN_nI (by omega)] at hi2; exact hi2
      have hne : i ≠ j ∨ k2 ≠ k ∨ i2 ≠ a0 := by by_cases e : i = j; (right; right; have := hnn e; omega); exact Or.inl e
      rw [gm_up_ne _ _ (by omega), hkr]; exact ((g2 i2 hi2 hi3).2 k2 hk2).1 c hc
    · have hk3 : k2 < 3 := by rw [emw, nN_nI (by omega)] at hk2; omega
      have hnn : i = j → m0 ≤ i2 := fun e => by subst e; rw [enm, nN_nI (by omega)] at hi2; exact hi2
      rw [q1 8 _ (by omega) (by omega)]; exact ((g2 i2 hi2 hi3).2 k2 hk2).2

theorem sj_constant {n : Nat} {v w a y x z : Int32} (h : SI I B r) (hJ : SJ I J B r) (hn : n ≤ 8) (en : I B 1 = nI n) (hc : coP I J B n v w a y x (I1, J1)) (hm : (z, I2, J2) = sp_constant I1 J1 r v w a y) : SJ I2 J2 B r := by
  have hr := h.1
  have h8 := h.n8 hn en
  have hcond : (wyB I r v w && nmB I r v a) = (fwB I B n v w && fnB I B n v a) := by rw [wy_same h hn en]; simp only [nm_same h hn en]
  have elit : (-99 : Int32) = -(nI 99) := by decide
  rcases hc with ⟨c1, rfl, e⟩ | ⟨c1, c2, rfl, e⟩ | ⟨c1, c2, ex, e⟩
  · obtain ⟨rfl, rfl⟩ := Prod.mk.inj e
    unfold sp_constant at hm
    rw [hcond, if_neg (by rw [c1]; decide)] at hm
    exact hJ.eq (Prod.mk.inj hm).2
  · obtain ⟨rfl, rfl⟩ := Prod.mk.inj e
    unfold sp_constant at hm
    rw [hcond, if_pos c1, elit, if_neg (by rw [c2]; decide)] at hm
    exact hJ.eq (Prod.mk.inj hm).2
  · have c0 := c1
    simp only [Bool.and_eq_true] at c0
    obtain ⟨b, b0⟩ := c0
    obtain ⟨j, k, m, hj, hkm, hm3, rfl, rfl, em3⟩ := fwB_j hn h.2.1 b
    obtain ⟨j0, a0, m0, hj0, ha0, hm0, ej0, ea0, em0⟩ := fnB_j hn h.2.1 b0
    obtain rfl : j = j0 := gm_eqt (by omega) (by omega) ej0
    subst ea0
    have enm : I (r + 1) j = nI m0 := (h.2.2.2.2.2.1 j (by omega)).1.symm.trans em0
    rw [nN_nI (show j < 2 ^ 31 by omega), nN_nI (show k < 2 ^ 31 by omega), nN_nI (show a0 < 2 ^ 31 by omega)] at ex e
    obtain ⟨eI, rfl⟩ := Prod.mk.inj e
    have hk : ∀ q, B + 216 ≤ q → I1 q = I q := fun q hq => by
      funext i
      rw [eI]
      repeat (first | rw [gm_up_same] | rw [gm_up_ne _ _ (by omega)])
    have hkr : ∀ c, I1 (r + c) = I (r + c) := fun c => hk _ (by omega)
    have r0 : I1 r = I r := hk _ (by omega)
    unfold sp_constant at hm
    rw [wyB_k hk hr] at hm
    simp only [nmB_k hk hr] at hm
    rw [hcond, if_pos c1, elit, if_pos c2, nN_nI (show j < 2 ^ 31 by omega), nN_nI (show k < 2 ^ 31 by omega), nN_nI (show a0 < 2 ^ 31 by omega)] at hm
    obtain ⟨_, e2⟩ := Prod.mk.inj hm
    obtain ⟨rfl, rfl⟩ := Prod.mk.inj e2
    refine ⟨hJ.1, fun i hi => ?_⟩
    have q0 : ∀ x, gm_up I1 (r + 8) (3 * (3 * j + k) + a0) y r x = I r x := fun x => by
      repeat (first | rw [gm_up_same] | rw [gm_up_ne _ _ (by omega)])
      rw [r0]
    have q1 : ∀ c x, c ≠ 0 → c ≠ 8 → gm_up I1 (r + 8) (3 * (3 * j + k) + a0) y (r + c) x = I (r + c) x := fun c x hc0 hc1 => by
      repeat (first | rw [gm_up_same] | rw [gm_up_ne _ _ (by omega)])
      rw [hkr]
    rw [q0] at hi
    obtain ⟨g1, g2⟩ := hJ.2 i hi
    obtain ⟨mw, hmw, emw⟩ := h.2.2.1.2.2.1 i (by omega)
    unfold idn at g2 ⊢
    rw [q1 1 _ (by omega) (by omega), q1 2 _ (by omega) (by omega)]
    refine ⟨g1, fun i2 hi2 hi3 => ⟨(g2 i2 hi2 hi3).1, fun k2 hk2 => ⟨fun c hc => ?_, ?_⟩⟩⟩
    · have hk3 : k2 < 3 := by rw [emw, nN_nI (by omega)] at hk2; omega
      have hnn : i = j → m0 ≤ i2 := fun e => by subst e; rw [enm, nN_nI (by omega)] at hi2; exact hi2
      rw [q1 7 _ (by omega) (by omega)]; exact ((g2 i2 hi2 hi3).2 k2 hk2).1 c hc
    · have hk3 : k2 < 3 := by rw [emw, nN_nI (by omega)] at hk2; omega
      have hnn : i = j → m0 ≤ i2 := fun e => by subst e; rw [enm, nN_nI (by omega)] at hi2; exact hi2
      have hne : i ≠ j ∨ k2 ≠ k ∨ i2 ≠ a0 := by by_cases e : i = j; (right; right; have := hnn e; omega); exact Or.inl e
      rw [gm_up_ne _ _ (by omega), hkr]; exact ((g2 i2 hi2 hi3).2 k2 hk2).2

theorem sj_way {n : Nat} {v x z : Int32} (h : SI I B r) (hJ : SJ I J B r) (hn : n ≤ 8) (en : I B 1 = nI n) (hc : wyP I J B n v x (I1, J1)) (hm : (z, I2, J2) = sp_way I1 J1 r v) : SJ I2 J2 B r := by
  have hr := h.1
  have h8 := h.n8 hn en
  have en2 := h.ent en
  rcases hc with ⟨c1, rfl, e⟩ | ⟨j, m, hj, rfl, em3, hm3, hc⟩
  · obtain ⟨rfl, rfl⟩ := Prod.mk.inj e
    unfold sp_way at hm
    rw [lp_same en2, if_neg (by rw [c1]; decide)] at hm
    exact hJ.eq (Prod.mk.inj hm).2
  · have em : I (r + 2) j = nI m := (h.2.2.2.2.2.1 j (by omega)).2.1.symm.trans em3
    have hlp : lpB I r (nI j) = true := by rw [lp_same en2]; exact inI_in (by omega) hj
    rcases hc with ⟨c2, rfl, e⟩ | ⟨c2, rfl, e⟩
    · obtain ⟨rfl, rfl⟩ := Prod.mk.inj e
      unfold sp_way at hm
      rw [if_pos hlp, nN_nI (show j < 2 ^ 31 by omega), em, nN_nI (show m < 2 ^ 31 by omega), if_pos c2] at hm
      exact hJ.eq (Prod.mk.inj hm).2
    · obtain ⟨eI, rfl⟩ := Prod.mk.inj e
      have hk : ∀ q, B + 216 ≤ q → I1 q = I q := fun q hq => by
        funext i
        rw [eI]
        repeat (first | rw [gm_up_same] | rw [gm_up_ne _ _ (by omega)] | rw [bgI_o _ (by omega)])
      have hkr : ∀ c, I1 (r + c) = I (r + c) := fun c => hk _ (by omega)
      have r0 : I1 r = I r := hk _ (by omega)
      unfold sp_way at hm
      rw [if_pos (by rw [lpB_k hk hr]; exact hlp), nN_nI (show j < 2 ^ 31 by omega), hkr 2, em, nN_nI (show m < 2 ^ 31 by omega), if_neg (by omega)] at hm
      obtain ⟨_, e2⟩ := Prod.mk.inj hm
      obtain ⟨eI2, rfl⟩ := Prod.mk.inj e2
      have q0 : I2 r 0 = I r 0 := by
        rw [eI2]; simp only [way3, way9]
        repeat (first | rw [gm_up_same] | rw [gm_up_ne _ _ (by omega)])
        rw [r0]
      have q1 : ∀ x, I2 (r + 1) x = I (r + 1) x := fun x => by
        rw [eI2]; simp only [way3, way9]
        repeat (first | rw [gm_up_same] | rw [gm_up_ne _ _ (by omega)])
        rw [hkr]
      have q2 : ∀ x, x ≠ j → I2 (r + 2) x = I (r + 2) x := fun x hx => by
        rw [eI2]; simp only [way3, way9]
        repeat (first | rw [gm_up_same] | rw [gm_up_ne _ _ (by omega)])
        rw [hkr]
      have q3 : I2 (r + 2) j = nI (m + 1) := by rw [eI2]; exact gm_up_same _ _ _ _
      have q7 : ∀ x, (x < 9 * (3 * j + m) ∨ 9 * (3 * j + m) + 8 < x) → I2 (r + 7) x = I (r + 7) x := fun x hx => by
        rw [eI2]; simp only [way3, way9]
        repeat (first | rw [gm_up_same] | rw [gm_up_ne _ _ (by omega)])
        rw [hkr]
      have q8 : ∀ x, (x < 3 * (3 * j + m) ∨ 3 * (3 * j + m) + 2 < x) → I2 (r + 8) x = I (r + 8) x := fun x hx => by
        rw [eI2]; simp only [way3, way9]
        repeat (first | rw [gm_up_same] | rw [gm_up_ne _ _ (by omega)])
        rw [hkr]
      have p7 : ∀ x, x < 9 → I2 (r + 7) (9 * (3 * j + m) + x) = if x % 4 = 0 then nI 1 else nI 0 := fun x hx => by
        rw [eI2]; simp only [way3, way9]
        rcases (show x = 0 ∨ x = 1 ∨ x = 2 ∨ x = 3 ∨ x = 4 ∨ x = 5 ∨ x = 6 ∨ x = 7 ∨ x = 8 by omega) with rfl | rfl | rfl | rfl | rfl | rfl | rfl | rfl | rfl
        all_goals repeat (first | rw [gm_up_same] | rw [gm_up_ne _ _ (by omega)])
        all_goals rfl
      have p8 : ∀ x, x < 3 → I2 (r + 8) (3 * (3 * j + m) + x) = nI 0 := fun x hx => by
        rw [eI2]; simp only [way3, way9]
        rcases (show x = 0 ∨ x = 1 ∨ x = 2 by omega) with rfl | rfl | rfl
        all_goals repeat (first | rw [gm_up_same] | rw [gm_up_ne _ _ (by omega)])
      refine ⟨hJ.1, fun i hi => ?_⟩
      rw [q0] at hi
      obtain ⟨g1, g2⟩ := hJ.2 i hi
      obtain ⟨mw, hmw, emw⟩ := h.2.2.1.2.2.1 i (by omega)
      rw [q1]
      refine ⟨g1, fun i2 hi2 hi3 => ⟨(g2 i2 hi2 hi3).1, fun k2 hk2 => ?_⟩⟩
      by_cases e : i = j
      · subst e
        rw [q3, nN_nI (by omega)] at hk2
        by_cases ek : k2 = m
        · subst ek
          refine ⟨fun c hc => ?_, p8 i2 hi3⟩
          rw [Nat.add_assoc, p7 (3 * i2 + c) (by omega)]
          by_cases eq : c = i2
          · rw [if_pos eq, if_pos (by omega)]
          · rw [if_neg eq, if_neg (by omega)]
        · have g := (g2 i2 hi2 hi3).2 k2 (by rw [em, nN_nI (by omega)]; omega)
          exact ⟨fun c hc => (q7 _ (by omega)).trans (g.1 c hc), (q8 _ (by omega)).trans g.2⟩
      · rw [q2 i e] at hk2
        have hk3 : k2 < 3 := by rw [emw, nN_nI (by omega)] at hk2; omega
        have g := (g2 i2 hi2 hi3).2 k2 hk2
        exact ⟨fun c hc => (q7 _ (by omega)).trans (g.1 c hc), (q8 _ (by omega)).trans g.2⟩
end SQ
