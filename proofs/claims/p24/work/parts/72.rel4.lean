section OPS4
variable {I I1 : gm_I} {J J1 : gm_J} {B r : Nat}
theorem wy_same {n : Nat} {v w : Int32} (h : SI I B r) (hn : n ≤ 8) (en : I B 1 = nI n) : wyB I r v w = fwB I B n v w := by
  unfold wyB fwB
  rw [lp_same (h.ent en)]
  cases e : inI v 0 (nI n - 1) with
  | false => rw [Bool.false_and, Bool.false_and]
  | true =>
    obtain ⟨j, hj, rfl⟩ := inI_nat (by omega) e
    have ej : (nI j).toNatClampNeg = j := nI_clamp (by omega)
    have ek := (h.2.2.2.2.2.1 j (by omega)).2.1
    simp only [nN, ej]
    rw [ek]
theorem nm_same {n : Nat} {v w : Int32} (h : SI I B r) (hn : n ≤ 8) (en : I B 1 = nI n) : nmB I r v w = fnB I B n v w := by
  unfold nmB fnB
  rw [lp_same (h.ent en)]
  cases e : inI v 0 (nI n - 1) with
  | false => rw [Bool.false_and, Bool.false_and]
  | true =>
    obtain ⟨j, hj, rfl⟩ := inI_nat (by omega) e
    have ej : (nI j).toNatClampNeg = j := nI_clamp (by omega)
    have ek := (h.2.2.2.2.2.1 j (by omega)).1
    simp only [nN, ej]
    rw [ek]
/-- the reference's tests look at its own cells alone -/
theorem lpB_k {I' : gm_I} {v : Int32} (hk : ∀ q, B + 216 ≤ q → I' q = I q) (hr : r = B + 216) : lpB I' r v = lpB I r v := by unfold lpB; rw [hk r (by omega)]
theorem wyB_k {I' : gm_I} {v w : Int32} (hk : ∀ q, B + 216 ≤ q → I' q = I q) (hr : r = B + 216) : wyB I' r v w = wyB I r v w := by unfold wyB; rw [lpB_k hk hr, hk (r + 2) (by omega)]
theorem nmB_k {I' : gm_I} {v w : Int32} (hk : ∀ q, B + 216 ≤ q → I' q = I q) (hr : r = B + 216) : nmB I' r v w = nmB I r v w := by unfold nmB; rw [lpB_k hk hr, hk (r + 1) (by omega)]
theorem fw_t {n j k m : Nat} (hn : n ≤ 8) (hj : j < n) (hk : k < m) (hm : m ≤ 3) (em : I (B + 12 + 21 * j) 3 = nI m) : fwB I B n (nI j) (nI k) = true := by
  unfold fwB
  rw [inI_in (by omega) hj, nN_nI (by omega), em, inI_in (by omega) hk]; rfl
theorem op_row {n : Nat} {v w a b c d x : Int32} (h : SI I B r) (hn : n ≤ 8) (en : I B 1 = nI n) (hc : rwP I J B n v w a b c d x (I1, J1)) : inv_Md I1 r ∧ ∀ (z : Int32) (I2 : gm_I) (J2 : gm_J), (z, I2, J2) = sp_row I1 J1 r v w a b c d → SI I2 B r ∧ x = z := by
  have en2 := h.ent en
  have hr := h.1
  rcases hc with ⟨c1, rfl, e⟩ | ⟨j, k, m, nm, g, hj, hkm, hm3, rfl, rfl, em3, enm, hnm, eg, hg, hc⟩
  · obtain ⟨rfl, rfl⟩ := Prod.mk.inj e
    refine ⟨h.2.2.1, fun z I2 J2 hm => ?_⟩
    unfold sp_row at hm
    rw [wy_same h hn en, if_neg (by rw [c1]; decide)] at hm
    obtain ⟨rfl, e⟩ := Prod.mk.inj hm
    obtain ⟨rfl, rfl⟩ := Prod.mk.inj e
    exact ⟨h, rfl⟩
  · have hL := h.2.2.2.2.2.1 j (by omega)
    have hW := h.2.2.2.2.2.2 j k (by omega) (by omega)
    have em : I (r + 1) j = nI nm := hL.1.symm.trans enm
    have eg2 : I (r + 5) (3 * j + k) = nI g := hW.1.symm.trans eg
    have hwy : wyB I r (nI j) (nI k) = true := by rw [wy_same h hn en]; exact fw_t hn hj hkm hm3 em3
    rcases hc with ⟨c1, rfl, e⟩ | ⟨c1, c2, rfl, e⟩ | ⟨c1, c2, rfl, e⟩
    · obtain ⟨rfl, rfl⟩ := Prod.mk.inj e
      refine ⟨h.2.2.1, fun z I2 J2 hm => ?_⟩
      unfold sp_row at hm
      rw [if_pos hwy, nN_nI (show j < 2 ^ 31 by omega), em, nN_nI (show nm < 2 ^ 31 by omega), if_neg (by rw [c1]; decide)] at hm
      obtain ⟨rfl, e⟩ := Prod.mk.inj hm
      obtain ⟨rfl, rfl⟩ := Prod.mk.inj e
      exact ⟨h, rfl⟩
    · obtain ⟨rfl, rfl⟩ := Prod.mk.inj e
      refine ⟨h.2.2.1, fun z I2 J2 hm => ?_⟩
      unfold sp_row at hm
      rw [if_pos hwy, nN_nI (show j < 2 ^ 31 by omega), em, nN_nI (show nm < 2 ^ 31 by omega), if_pos c1, nN_nI (show k < 2 ^ 31 by omega), eg2, nN_nI (show g < 2 ^ 31 by omega), if_pos c2] at hm
      obtain ⟨rfl, e⟩ := Prod.mk.inj hm
      obtain ⟨rfl, rfl⟩ := Prod.mk.inj e
      exact ⟨h, rfl⟩
    · have eI := (Prod.mk.inj e).1
      have hk : ∀ q, B + 216 ≤ q → I1 q = I q := fun q hq => by
        funext i
        rw [eI]
        simp only [lay4]
        repeat (first | rw [gm_up_same] | rw [gm_up_ne _ _ (by omega)])
      have hm0 := h.md hk
      have r0 : I1 r = I r := hk r (by omega)
      have hkr : ∀ c, I1 (r + c) = I (r + c) := fun c => hk _ (by omega)
      have hF1 : inv_FT I1 B := by
        rw [eI]
        refine h.2.1.lp (J := J) (J1 := J) (j := j) (((((offR.nil.upI (by omega)).upI (by omega)).upI (by omega)).upI (by omega)).upI (by omega)) (by omega) ?_
        have g1 := h.2.1.2.1 j (by omega)
        simp only [lay4]
        refine ⟨((((g1.1.up (by omega)).up (by omega)).up (by omega)).up (by omega)).up (by omega), ⟨?_, ((((g1.2.1.2.up (by omega)).up (by omega)).up (by omega)).up (by omega)).up (by omega)⟩, ((((g1.2.2.1.up (by omega)).up (by omega)).up (by omega)).up (by omega)).up (by omega), fun i hi => ⟨?_, ?_⟩⟩
        · repeat (first | rw [gm_up_same] | rw [gm_up_ne _ _ (by omega)])
          exact g1.2.1.1
        · repeat (first | rw [gm_up_same] | rw [gm_up_ne _ _ (by omega)])
          exact (g1.2.2.2 i hi).1
        · by_cases e : i = k
          · subst e; exact nle.set (by omega)
          · exact (((((g1.2.2.2 i hi).2.up (by omega)).up (by omega)).up (by omega)).up (by omega)).up (by omega)
      refine ⟨hm0.1, fun z I2 J2 hm => ?_⟩
      unfold sp_row at hm
      rw [if_pos (by rw [wyB_k hk hr]; exact hwy), nN_nI (show j < 2 ^ 31 by omega), hkr 1, em, nN_nI (show nm < 2 ^ 31 by omega), if_pos c1, nN_nI (show k < 2 ^ 31 by omega), hkr 5, eg2, nN_nI (show g < 2 ^ 31 by omega), if_neg (by omega)] at hm
      obtain ⟨rfl, e2⟩ := Prod.mk.inj hm
      obtain ⟨rfl, rfl⟩ := Prod.mk.inj e2
      refine ⟨⟨hr, hF1.ref (fun q hq => ?_), ?_, ?_, ?_⟩, rfl⟩
      · funext i
        simp only [lay4]
        repeat (first | rw [gm_up_same] | rw [gm_up_ne _ _ (by omega)])
      · obtain ⟨m1, m2, m3, m4, m5, m6⟩ := hm0.1
        simp only [lay4]
        refine ⟨((((m1.up (by omega)).up (by omega)).up (by omega)).up (by omega)).up (by omega), fun i hi => (((((m2 i hi).up (by omega)).up (by omega)).up (by omega)).up (by omega)).up (by omega), fun i hi => (((((m3 i hi).up (by omega)).up (by omega)).up (by omega)).up (by omega)).up (by omega), fun i hi => (((((m4 i hi).up (by omega)).up (by omega)).up (by omega)).up (by omega)).up (by omega), fun i hi => ?_, ((((m6.up (by omega)).up (by omega)).up (by omega)).up (by omega)).up (by omega)⟩
        by_cases e : i = 3 * j + k
        · subst e; exact nle.set (by omega)
        · exact (((((m5 i hi).up (by omega)).up (by omega)).up (by omega)).up (by omega)).up (by omega)
      · obtain ⟨b, hb⟩ := hm0.2
        refine ⟨b, ?_⟩
        rw [← hb]
        simp only [lay4]
        repeat (first | rw [gm_up_same] | rw [gm_up_ne _ _ (by omega)])
      · have hR := h.2.2.2.2
        refine hR.lp (j := j) ?_ (fun q h1 h2 h3 => ?_) (fun i hi hne => ⟨?_, ?_, ?_, fun a ha => ?_, fun p hp => ⟨?_, fun a ha => ?_, fun a ha => ?_, fun a ha => ?_⟩⟩) ⟨?_, ?_, ?_, fun i hi => ?_⟩ (fun p hp => ?_)
        all_goals simp only [lay4]
        · repeat (first | rw [gm_up_same] | rw [gm_up_ne _ _ (by omega)])
          rw [r0, en2, eI]
          simp only [lay4]
          repeat (first | rw [gm_up_same] | rw [gm_up_ne _ _ (by omega)])
          exact en
        · funext i
          repeat (first | rw [gm_up_same] | rw [gm_up_ne _ _ (by omega)])
          rw [eI]
          simp only [lay4]
          repeat (first | rw [gm_up_same] | rw [gm_up_ne _ _ (by omega)])
        · repeat (first | rw [gm_up_same] | rw [gm_up_ne _ _ (by omega)])
          rw [hkr]
        · repeat (first | rw [gm_up_same] | rw [gm_up_ne _ _ (by omega)])
          rw [hkr]
        · repeat (first | rw [gm_up_same] | rw [gm_up_ne _ _ (by omega)])
          rw [hkr]
        · repeat (first | rw [gm_up_same] | rw [gm_up_ne _ _ (by omega)])
          rw [hkr]
        · repeat (first | rw [gm_up_same] | rw [gm_up_ne _ _ (by omega)])
          rw [hkr]
        · repeat (first | rw [gm_up_same] | rw [gm_up_ne _ _ (by omega)])
          rw [hkr]
        · repeat (first | rw [gm_up_same] | rw [gm_up_ne _ _ (by omega)])
          rw [hkr]
        · repeat (first | rw [gm_up_same] | rw [gm_up_ne _ _ (by omega)])
          rw [hkr]
        · repeat (first | rw [gm_up_same] | rw [gm_up_ne _ _ (by omega)])
          rw [hkr, eI]
          simp only [lay4]
          repeat (first | rw [gm_up_same] | rw [gm_up_ne _ _ (by omega)])
          exact hL.1
        · repeat (first | rw [gm_up_same] | rw [gm_up_ne _ _ (by omega)])
          rw [hkr, eI]
          simp only [lay4]
          repeat (first | rw [gm_up_same] | rw [gm_up_ne _ _ (by omega)])
          exact hL.2.1
        · repeat (first | rw [gm_up_same] | rw [gm_up_ne _ _ (by omega)])
          rw [hkr, eI]
          simp only [lay4]
          repeat (first | rw [gm_up_same] | rw [gm_up_ne _ _ (by omega)])
          exact hL.2.2.1
        · repeat (first | rw [gm_up_same] | rw [gm_up_ne _ _ (by omega)])
          rw [hkr, eI]
          simp only [lay4]
          repeat (first | rw [gm_up_same] | rw [gm_up_ne _ _ (by omega)])
          exact hL.2.2.2 i hi
        · by_cases ep : p = k
          · subst ep
            refine ⟨?_, fun i hi => ?_, fun i hi => ?_, fun i hi => ?_⟩
            · repeat (first | rw [gm_up_same] | rw [gm_up_ne _ _ (by omega)])
              rw [eI]
              repeat (first | rw [gm_up_same] | rw [gm_up_ne _ _ (by omega)])
            · have q0 : i = 4 * g ∨ i = 4 * g + 1 ∨ i = 4 * g + 2 ∨ i = 4 * g + 3 ∨ (i ≠ 4 * g ∧ i ≠ 4 * g + 1 ∧ i ≠ 4 * g + 2 ∧ i ≠ 4 * g + 3) := by omega
              rcases q0 with rfl | rfl | rfl | rfl | ⟨w0, w1, w2, w3⟩
              · repeat (first | rw [gm_up_same] | rw [gm_up_ne _ _ (by omega)])
                rw [eI]; simp only [lay4]
                repeat (first | rw [gm_up_same] | rw [gm_up_ne _ _ (by omega)])
              · rw [show 8 * (3 * j + p) + (4 * g + 1) = 8 * (3 * j + p) + 4 * g + 1 from rfl]
                repeat (first | rw [gm_up_same] | rw [gm_up_ne _ _ (by omega)])
                rw [eI]; simp only [lay4]
                repeat (first | rw [gm_up_same] | rw [gm_up_ne _ _ (by omega)])
              · rw [show 8 * (3 * j + p) + (4 * g + 2) = 8 * (3 * j + p) + 4 * g + 2 from rfl]
                repeat (first | rw [gm_up_same] | rw [gm_up_ne _ _ (by omega)])
                rw [eI]; simp only [lay4]
                repeat (first | rw [gm_up_same] | rw [gm_up_ne _ _ (by omega)])
              · rw [show 8 * (3 * j + p) + (4 * g + 3) = 8 * (3 * j + p) + 4 * g + 3 from rfl]
                repeat (first | rw [gm_up_same] | rw [gm_up_ne _ _ (by omega)])
                rw [eI]; simp only [lay4]
                repeat (first | rw [gm_up_same] | rw [gm_up_ne _ _ (by omega)])
              · repeat (first | rw [gm_up_same] | rw [gm_up_ne _ _ (by omega)])
                rw [hkr, eI]; simp only [lay4]
                repeat (first | rw [gm_up_same] | rw [gm_up_ne _ _ (by omega)])
                exact hW.2.1 i hi
            · repeat (first | rw [gm_up_same] | rw [gm_up_ne _ _ (by omega)])
              rw [hkr, eI]; simp only [lay4]
              repeat (first | rw [gm_up_same] | rw [gm_up_ne _ _ (by omega)])
              exact hW.2.2.1 i hi
            · repeat (first | rw [gm_up_same] | rw [gm_up_ne _ _ (by omega)])
              rw [hkr, eI]; simp only [lay4]
              repeat (first | rw [gm_up_same] | rw [gm_up_ne _ _ (by omega)])
              exact hW.2.2.2 i hi
          · have hV := hR.2.2 j p (by omega) hp
            refine ⟨?_, fun i hi => ?_, fun i hi => ?_, fun i hi => ?_⟩
            · repeat (first | rw [gm_up_same] | rw [gm_up_ne _ _ (by omega)])
              rw [hkr, eI]; simp only [lay4]
              repeat (first | rw [gm_up_same] | rw [gm_up_ne _ _ (by omega)])
              exact hV.1
            · repeat (first | rw [gm_up_same] | rw [gm_up_ne _ _ (by omega)])
              rw [hkr, eI]; simp only [lay4]
              repeat (first | rw [gm_up_same] | rw [gm_up_ne _ _ (by omega)])
              exact hV.2.1 i hi
            · repeat (first | rw [gm_up_same] | rw [gm_up_ne _ _ (by omega)])
              rw [hkr, eI]; simp only [lay4]
              repeat (first | rw [gm_up_same] | rw [gm_up_ne _ _ (by omega)])
              exact hV.2.2.1 i hi
            · repeat (first | rw [gm_up_same] | rw [gm_up_ne _ _ (by omega)])
              rw [hkr, eI]; simp only [lay4]
              repeat (first | rw [gm_up_same] | rw [gm_up_ne _ _ (by omega)])
              exact hV.2.2.2 i hi
end OPS4
