section OPS3
variable {I I1 : gm_I} {J J1 : gm_J} {B r : Nat}
theorem SI.ent (h : SI I B r) {n : Nat} (en : I B 1 = nI n) : I r 0 = nI n := h.2.2.2.2.1.symm.trans en
theorem op_guard {n : Nat} {v a b c d x : Int32} (h : SI I B r) (hn : n ≤ 8) (en : I B 1 = nI n) (hc : gdP I J B n v a b c d x (I1, J1)) : inv_Md I1 r ∧ ∀ (z : Int32) (I2 : gm_I) (J2 : gm_J), (z, I2, J2) = sp_guard I1 J1 r v a b c d → SI I2 B r ∧ x = z := by
  have en2 := h.ent en
  have hr := h.1
  rcases hc with ⟨c1, rfl, e⟩ | ⟨j, nm, g, hj, rfl, enm, hnm, eg, hg, hc⟩
  · obtain ⟨rfl, rfl⟩ := Prod.mk.inj e
    refine ⟨h.2.2.1, fun z I2 J2 hm => ?_⟩
    unfold sp_guard at hm
    rw [lp_same en2, if_neg (by rw [c1]; decide)] at hm
    obtain ⟨rfl, e⟩ := Prod.mk.inj hm
    obtain ⟨rfl, rfl⟩ := Prod.mk.inj e
    exact ⟨h, rfl⟩
  · have hL := h.2.2.2.2.2.1 j (by omega)
    have em : I (r + 1) j = nI nm := hL.1.symm.trans enm
    have eg2 : I (r + 3) j = nI g := hL.2.2.1.symm.trans eg
    have hlp : lpB I r (nI j) = true := by rw [lp_same en2]; exact inI_in (by omega) hj
    rcases hc with ⟨c1, rfl, e⟩ | ⟨c1, c2, rfl, e⟩ | ⟨c1, c2, rfl, e⟩
    · obtain ⟨rfl, rfl⟩ := Prod.mk.inj e
      refine ⟨h.2.2.1, fun z I2 J2 hm => ?_⟩
      unfold sp_guard at hm
      rw [if_pos hlp, nN_nI (by omega), em, nN_nI (by omega), if_neg (by rw [c1]; decide)] at hm
      obtain ⟨rfl, e⟩ := Prod.mk.inj hm
      obtain ⟨rfl, rfl⟩ := Prod.mk.inj e
      exact ⟨h, rfl⟩
    · obtain ⟨rfl, rfl⟩ := Prod.mk.inj e
      refine ⟨h.2.2.1, fun z I2 J2 hm => ?_⟩
      unfold sp_guard at hm
      rw [if_pos hlp, nN_nI (by omega), em, nN_nI (by omega), if_pos c1, eg2, nN_nI (by omega), if_pos c2] at hm
      obtain ⟨rfl, e⟩ := Prod.mk.inj hm
      obtain ⟨rfl, rfl⟩ := Prod.mk.inj e
      exact ⟨h, rfl⟩
    · have eI := (Prod.mk.inj e).1
      have hk : ∀ q, B + 216 ≤ q → I1 q = I q := fun q hq => by
        funext k
        rw [eI]
        simp only [lay4]
        repeat (first | rw [gm_up_same] | rw [gm_up_ne _ _ (by omega)])
      have hm0 := h.md hk
      have r0 : I1 r = I r := hk r (by omega)
      have hkr : ∀ c, I1 (r + c) = I (r + c) := fun c => hk _ (by omega)
      have hF1 : inv_FT I1 B := by
        rw [eI]
        refine h.2.1.lp (J := J) (J1 := J) (j := j) (((((offR.nil.upI (by omega)).upI (by omega)).upI (by omega)).upI (by omega)).upI (by omega)) (by omega) ?_
        have g1 := h.2.1.2.1 j (by omega)
        simp only [lay4]
        refine ⟨((((g1.1.up (by omega)).up (by omega)).up (by omega)).up (by omega)).up (by omega), ⟨?_, nle.set (by omega)⟩, ((((g1.2.2.1.up (by omega)).up (by omega)).up (by omega)).up (by omega)).up (by omega), fun k hk => ⟨?_, (((((g1.2.2.2 k hk).2.up (by omega)).up (by omega)).up (by omega)).up (by omega)).up (by omega)⟩⟩
        · repeat (first | rw [gm_up_same] | rw [gm_up_ne _ _ (by omega)])
          exact g1.2.1.1
        · repeat (first | rw [gm_up_same] | rw [gm_up_ne _ _ (by omega)])
          exact (g1.2.2.2 k hk).1
      refine ⟨hm0.1, fun z I2 J2 hm => ?_⟩
      unfold sp_guard at hm
      rw [if_pos (by unfold lpB; rw [r0, en2]; exact inI_in (by omega) hj), nN_nI (by omega), hkr 1, em, nN_nI (by omega), if_pos c1, hkr 3, eg2, nN_nI (by omega), if_neg (by omega)] at hm
      obtain ⟨rfl, e2⟩ := Prod.mk.inj hm
      obtain ⟨rfl, rfl⟩ := Prod.mk.inj e2
      refine ⟨⟨hr, hF1.ref (fun q hq => ?_), ?_, ?_, ?_⟩, rfl⟩
      · funext k
        simp only [lay4]
        repeat (first | rw [gm_up_same] | rw [gm_up_ne _ _ (by omega)])
      · obtain ⟨m1, m2, m3, m4, m5, m6⟩ := hm0.1
        simp only [lay4]
        refine ⟨((((m1.up (by omega)).up (by omega)).up (by omega)).up (by omega)).up (by omega), fun i hi => (((((m2 i hi).up (by omega)).up (by omega)).up (by omega)).up (by omega)).up (by omega), fun i hi => (((((m3 i hi).up (by omega)).up (by omega)).up (by omega)).up (by omega)).up (by omega), fun i hi => ?_, fun i hi => (((((m5 i hi).up (by omega)).up (by omega)).up (by omega)).up (by omega)).up (by omega), ((((m6.up (by omega)).up (by omega)).up (by omega)).up (by omega)).up (by omega)⟩
        by_cases e : i = j
        · subst e; exact nle.set (by omega)
        · exact (((((m4 i hi).up (by omega)).up (by omega)).up (by omega)).up (by omega)).up (by omega)
      · obtain ⟨b, hb⟩ := hm0.2
        refine ⟨b, ?_⟩
        rw [← hb]
        simp only [lay4]
        repeat (first | rw [gm_up_same] | rw [gm_up_ne _ _ (by omega)])
      · have hR := h.2.2.2.2
        refine hR.lp (j := j) ?_ (fun q h1 h2 h3 => ?_) (fun i hi hne => ⟨?_, ?_, ?_, fun a ha => ?_, fun k hk => ⟨?_, fun a ha => ?_, fun a ha => ?_, fun a ha => ?_⟩⟩) ⟨?_, ?_, ?_, fun i hi => ?_⟩ (fun k hk => ⟨?_, fun a ha => ?_, fun a ha => ?_, fun a ha => ?_⟩)
        all_goals simp only [lay4]
        · repeat (first | rw [gm_up_same] | rw [gm_up_ne _ _ (by omega)])
          rw [r0, en2, eI]
          simp only [lay4]
          repeat (first | rw [gm_up_same] | rw [gm_up_ne _ _ (by omega)])
          exact en
        · funext k
          repeat (first | rw [gm_up_same] | rw [gm_up_ne _ _ (by omega)])
          rw [eI]
          simp only [lay4]
          repeat (first | rw [gm_up_same] | rw [gm_up_ne _ _ (by omega)])
        · repeat (first | rw [gm_up_same] | rw [gm_up_ne _ _ (by omega)])
          rw [hkr]
        · repeat (first | rw [gm_up_same] | rw [gm_up_ne _ _ (by omega)])
          rw [hkr]
        · repeat (first | rw [gm_up_same] | rw [gm_up_ne _ _ (by omega)])
          rw [hkr]
        · repeat (first | rw [gm_up_same] | rw [gm_up_ne _ _ (by omega)])
          rw [hkr]
        · repeat (first | rw [gm_up_same] | rw [gm_up_ne _ _ (by omega)])
          rw [hkr]
        · repeat (first | rw [gm_up_same] | rw [gm_up_ne _ _ (by omega)])
          rw [hkr]
        · repeat (first | rw [gm_up_same] | rw [gm_up_ne _ _ (by omega)])
          rw [hkr]
        · repeat (first | rw [gm_up_same] | rw [gm_up_ne _ _ (by omega)])
          rw [hkr]
        · repeat (first | rw [gm_up_same] | rw [gm_up_ne _ _ (by omega)])
          rw [hkr, eI]
          simp only [lay4]
          repeat (first | rw [gm_up_same] | rw [gm_up_ne _ _ (by omega)])
          exact hL.1
        · repeat (first | rw [gm_up_same] | rw [gm_up_ne _ _ (by omega)])
          rw [hkr, eI]
          simp only [lay4]
          repeat (first | rw [gm_up_same] | rw [gm_up_ne _ _ (by omega)])
          exact hL.2.1
        · repeat (first | rw [gm_up_same] | rw [gm_up_ne _ _ (by omega)])
          rw [eI]
          repeat (first | rw [gm_up_same] | rw [gm_up_ne _ _ (by omega)])
        · have q0 : i = 4 * g ∨ i = 4 * g + 1 ∨ i = 4 * g + 2 ∨ i = 4 * g + 3 ∨ (i ≠ 4 * g ∧ i ≠ 4 * g + 1 ∧ i ≠ 4 * g + 2 ∧ i ≠ 4 * g + 3) := by omega
          rcases q0 with rfl | rfl | rfl | rfl | ⟨w0, w1, w2, w3⟩
          · repeat (first | rw [gm_up_same] | rw [gm_up_ne _ _ (by omega)])
            rw [eI]; simp only [lay4]
            repeat (first | rw [gm_up_same] | rw [gm_up_ne _ _ (by omega)])
          · rw [show 16 * j + (4 * g + 1) = 16 * j + 4 * g + 1 from rfl]
            repeat (first | rw [gm_up_same] | rw [gm_up_ne _ _ (by omega)])
            rw [eI]; simp only [lay4]
            repeat (first | rw [gm_up_same] | rw [gm_up_ne _ _ (by omega)])
          · rw [show 16 * j + (4 * g + 2) = 16 * j + 4 * g + 2 from rfl]
            repeat (first | rw [gm_up_same] | rw [gm_up_ne _ _ (by omega)])
            rw [eI]; simp only [lay4]
            repeat (first | rw [gm_up_same] | rw [gm_up_ne _ _ (by omega)])
          · rw [show 16 * j + (4 * g + 3) = 16 * j + 4 * g + 3 from rfl]
            repeat (first | rw [gm_up_same] | rw [gm_up_ne _ _ (by omega)])
            rw [eI]; simp only [lay4]
            repeat (first | rw [gm_up_same] | rw [gm_up_ne _ _ (by omega)])
          · repeat (first | rw [gm_up_same] | rw [gm_up_ne _ _ (by omega)])
            rw [hkr, eI]; simp only [lay4]
            repeat (first | rw [gm_up_same] | rw [gm_up_ne _ _ (by omega)])
            exact hL.2.2.2 i hi
        · repeat (first | rw [gm_up_same] | rw [gm_up_ne _ _ (by omega)])
          rw [hkr, eI]; simp only [lay4]
          repeat (first | rw [gm_up_same] | rw [gm_up_ne _ _ (by omega)])
          exact (hR.2.2 j k (by omega) hk).1
        · repeat (first | rw [gm_up_same] | rw [gm_up_ne _ _ (by omega)])
          rw [hkr, eI]; simp only [lay4]
          repeat (first | rw [gm_up_same] | rw [gm_up_ne _ _ (by omega)])
          exact (hR.2.2 j k (by omega) hk).2.1 a ha
        · repeat (first | rw [gm_up_same] | rw [gm_up_ne _ _ (by omega)])
          rw [hkr, eI]; simp only [lay4]
          repeat (first | rw [gm_up_same] | rw [gm_up_ne _ _ (by omega)])
          exact (hR.2.2 j k (by omega) hk).2.2.1 a ha
        · repeat (first | rw [gm_up_same] | rw [gm_up_ne _ _ (by omega)])
          rw [hkr, eI]; simp only [lay4]
          repeat (first | rw [gm_up_same] | rw [gm_up_ne _ _ (by omega)])
          exact (hR.2.2 j k (by omega) hk).2.2.2 a ha
end OPS3
