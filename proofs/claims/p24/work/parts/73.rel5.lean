section OPS5
variable {I I1 : gm_I} {J J1 : gm_J} {B r : Nat}
theorem bgI_o (I : gm_I) {w q j : Nat} (h : q ≠ w + 1 ∧ q ≠ w + 3 ∧ q ≠ w + 4) : bgI I w q j = I q j := by
  unfold bgI
  rw [if_neg (by omega), if_neg (by omega), if_neg (by omega)]
theorem bgI_1 (I : gm_I) (w : Nat) : bgI I w (w + 1) 2 = nI 0 := by
  unfold bgI
  rw [if_pos ⟨rfl, rfl⟩]
theorem bgI_m (I : gm_I) (w : Nat) : bgI I w (w + 1) 1 = I (w + 1) 1 := by
  unfold bgI
  rw [if_neg (by omega), if_neg (by omega), if_neg (by omega)]
theorem bgI_3 (I : gm_I) {w i : Nat} (h : i < 9) : bgI I w (w + 3) i = if i % 4 = 0 then nI 1 else nI 0 := by
  unfold bgI
  rw [if_neg (by omega), if_neg (by omega), if_pos ⟨rfl, h⟩]
theorem bgI_4 (I : gm_I) {w i : Nat} (h : i < 3) : bgI I w (w + 4) i = nI 0 := by
  unfold bgI
  rw [if_neg (by omega), if_pos ⟨rfl, h⟩]
theorem offR.bg {lo hi w : Nat} (h : lo ≤ w + 1) (h2 : w + 4 ≤ hi) : offR lo hi I (bgI I w) J J := fun q hq => ⟨by funext k; exact bgI_o I (by omega), rfl⟩
theorem op_way {n : Nat} {v x : Int32} (h : SI I B r) (hn : n ≤ 8) (en : I B 1 = nI n) (hc : wyP I J B n v x (I1, J1)) : inv_Md I1 r ∧ ∀ (z : Int32) (I2 : gm_I) (J2 : gm_J), (z, I2, J2) = sp_way I1 J1 r v → SI I2 B r ∧ x = z := by
  have en2 := h.ent en
  have hr := h.1
  rcases hc with ⟨c1, rfl, e⟩ | ⟨j, m, hj, rfl, em3, hm3, hc⟩
  · obtain ⟨rfl, rfl⟩ := Prod.mk.inj e
    refine ⟨h.2.2.1, fun z I2 J2 hm => ?_⟩
    unfold sp_way at hm
    rw [lp_same en2, if_neg (by rw [c1]; decide)] at hm
    obtain ⟨rfl, e⟩ := Prod.mk.inj hm
    obtain ⟨rfl, rfl⟩ := Prod.mk.inj e
    exact ⟨h, rfl⟩
  · have hL := h.2.2.2.2.2.1 j (by omega)
    have em : I (r + 2) j = nI m := hL.2.1.symm.trans em3
    have hlp : lpB I r (nI j) = true := by rw [lp_same en2]; exact inI_in (by omega) hj
    rcases hc with ⟨c2, rfl, e⟩ | ⟨c2, rfl, e⟩
    · obtain ⟨rfl, rfl⟩ := Prod.mk.inj e
      refine ⟨h.2.2.1, fun z I2 J2 hm => ?_⟩
      unfold sp_way at hm
      rw [if_pos hlp, nN_nI (show j < 2 ^ 31 by omega), em, nN_nI (show m < 2 ^ 31 by omega), if_pos c2] at hm
      obtain ⟨rfl, e⟩ := Prod.mk.inj hm
      obtain ⟨rfl, rfl⟩ := Prod.mk.inj e
      exact ⟨h, rfl⟩
    · have eI := (Prod.mk.inj e).1
      have hk : ∀ q, B + 216 ≤ q → I1 q = I q := fun q hq => by
        funext i
        rw [eI]
        repeat (first | rw [gm_up_same] | rw [gm_up_ne _ _ (by omega)] | rw [bgI_o _ (by omega)])
      have hm0 := h.md hk
      have r0 : I1 r = I r := hk r (by omega)
      have hkr : ∀ c, I1 (r + c) = I (r + c) := fun c => hk _ (by omega)
      have hF1 : inv_FT I1 B := by
        rw [eI]
        refine h.2.1.lp (J := J) (J1 := J) (j := j) ((offR.bg (by omega) (by omega)).upI (by omega)) (by omega) ?_
        have g1 := h.2.1.2.1 j (by omega)
        refine ⟨?_, ⟨?_, ?_⟩, nle.set (by omega), fun i hi => ⟨?_, ?_⟩⟩
        · obtain ⟨g, hg, e⟩ := g1.1
          refine ⟨g, hg, ?_⟩
          repeat (first | rw [gm_up_same] | rw [gm_up_ne _ _ (by omega)] | rw [bgI_o _ (by omega)])
          exact e
        · repeat (first | rw [gm_up_same] | rw [gm_up_ne _ _ (by omega)] | rw [bgI_o _ (by omega)])
          exact g1.2.1.1
        · obtain ⟨g, hg, e⟩ := g1.2.1.2
          refine ⟨g, hg, ?_⟩
          repeat (first | rw [gm_up_same] | rw [gm_up_ne _ _ (by omega)] | rw [bgI_o _ (by omega)])
          exact e
        · by_cases e : i = m
          · subst e
            rw [gm_up_ne _ _ (by omega), bgI_m]
            exact (g1.2.2.2 i hi).1
          · repeat (first | rw [gm_up_same] | rw [gm_up_ne _ _ (by omega)] | rw [bgI_o _ (by omega)])
            exact (g1.2.2.2 i hi).1
        · by_cases e : i = m
          · subst e
            refine ⟨0, by omega, ?_⟩
            rw [gm_up_ne _ _ (by omega), bgI_1]
          · obtain ⟨g, hg, e⟩ := (g1.2.2.2 i hi).2
            refine ⟨g, hg, ?_⟩
            repeat (first | rw [gm_up_same] | rw [gm_up_ne _ _ (by omega)] | rw [bgI_o _ (by omega)])
            exact e
      refine ⟨hm0.1, fun z I2 J2 hm => ?_⟩
      unfold sp_way at hm
      rw [if_pos (by rw [lpB_k hk hr]; exact hlp), nN_nI (show j < 2 ^ 31 by omega), hkr 2, em, nN_nI (show m < 2 ^ 31 by omega), if_neg (by omega)] at hm
      obtain ⟨rfl, e2⟩ := Prod.mk.inj hm
      obtain ⟨rfl, rfl⟩ := Prod.mk.inj e2
      refine ⟨⟨hr, hF1.ref (fun q hq => ?_), ?_, ?_, ?_⟩, rfl⟩
      · funext i
        simp only [way3, way9]
        repeat (first | rw [gm_up_same] | rw [gm_up_ne _ _ (by omega)])
      · obtain ⟨m1, m2, m3, m4, m5, m6⟩ := hm0.1
        have ko : ∀ {q i b : Nat}, nle I1 q i b → ¬ (q = r + 5 ∧ i = 3 * j + m) → ¬ (q = r + 2 ∧ i = j) → q ≠ r + 7 → q ≠ r + 8 → nle (gm_up (way3 (way9 (gm_up I1 (r + 5) (3 * j + m) (nI 0)) (r + 7) (9 * (3 * j + m))) (r + 8) (3 * (3 * j + m))) (r + 2) j (nI (m + 1))) q i b := fun hn1 n1 n2 n3 n4 => by
          obtain ⟨g, hg, e⟩ := hn1
          refine ⟨g, hg, ?_⟩
          simp only [way3, way9]
          repeat (first | rw [gm_up_same] | rw [gm_up_ne _ _ (by omega)])
          exact e
        refine ⟨ko m1 (by omega) (by omega) (by omega) (by omega), fun i hi => ko (m2 i hi) (by omega) (by omega) (by omega) (by omega), fun i hi => ?_, fun i hi => ko (m4 i hi) (by omega) (by omega) (by omega) (by omega), fun i hi => ?_, ko m6 (by omega) (by omega) (by omega) (by omega)⟩
        · by_cases e : i = j
          · subst e; exact nle.set (by omega)
          · exact ko (m3 i hi) (by omega) (by omega) (by omega) (by omega)
        · by_cases e : i = 3 * j + m
          · subst e
            refine ⟨0, by omega, ?_⟩
            simp only [way3, way9]
            repeat (first | rw [gm_up_same] | rw [gm_up_ne _ _ (by omega)])
          · exact ko (m5 i hi) (by omega) (by omega) (by omega) (by omega)
      · obtain ⟨b, hb⟩ := hm0.2
        refine ⟨b, ?_⟩
        rw [← hb]
        simp only [way3, way9]
        repeat (first | rw [gm_up_same] | rw [gm_up_ne _ _ (by omega)])
      · have hR := h.2.2.2.2
        refine hR.lp (j := j) ?_ (fun q h1 h2 h3 => ?_) (fun i hi hne => ⟨?_, ?_, ?_, fun a ha => ?_, fun p hp => ⟨?_, fun a ha => ?_, fun a ha => ?_, fun a ha => ?_⟩⟩) ⟨?_, ?_, ?_, fun i hi => ?_⟩ (fun p hp => ?_)
        all_goals simp only [way3, way9]
        · repeat (first | rw [gm_up_same] | rw [gm_up_ne _ _ (by omega)])
          rw [r0, en2, eI]
          repeat (first | rw [gm_up_same] | rw [gm_up_ne _ _ (by omega)] | rw [bgI_o _ (by omega)])
          exact en
        · funext i
          repeat (first | rw [gm_up_same] | rw [gm_up_ne _ _ (by omega)])
          rw [eI]
          repeat (first | rw [gm_up_same] | rw [gm_up_ne _ _ (by omega)] | rw [bgI_o _ (by omega)])
        · repeat (first | rw [gm_up_same] | rw [gm_up_ne _ _ (by omega)])
          rw [hkr]
        · repeat (first | rw [gm_up_same] | rw [gm_up_ne _ _ (by omega)])
          rw [hkr]
        · repeat (first | rw [gm_up_same] | rw [gm_up_ne _ _ (by omega)])
          rw [hkr]
        · repeat (first | rw [gm_up_same] | rw [gm_up_ne _ _ (by omega)])
          rw [hkr]
        · repeat (first | rw [gm_up_same] | rw [gm_up_ne _ _ (by omega)])
          rw [hkr]
        · repeat (first | rw [gm_up_same] | rw [gm_up_ne _ _ (by omega)])
          rw [hkr]
        · repeat (first | rw [gm_up_same] | rw [gm_up_ne _ _ (by omega)])
          rw [hkr]
        · repeat (first | rw [gm_up_same] | rw [gm_up_ne _ _ (by omega)])
          rw [hkr]
        · repeat (first | rw [gm_up_same] | rw [gm_up_ne _ _ (by omega)])
          rw [hkr, eI]
          repeat (first | rw [gm_up_same] | rw [gm_up_ne _ _ (by omega)] | rw [bgI_o _ (by omega)])
          exact hL.1
        · repeat (first | rw [gm_up_same] | rw [gm_up_ne _ _ (by omega)])
          rw [eI]
          repeat (first | rw [gm_up_same] | rw [gm_up_ne _ _ (by omega)] | rw [bgI_o _ (by omega)])
        · repeat (first | rw [gm_up_same] | rw [gm_up_ne _ _ (by omega)])
          rw [hkr, eI]
          repeat (first | rw [gm_up_same] | rw [gm_up_ne _ _ (by omega)] | rw [bgI_o _ (by omega)])
          exact hL.2.2.1
        · repeat (first | rw [gm_up_same] | rw [gm_up_ne _ _ (by omega)])
          rw [hkr, eI]
          repeat (first | rw [gm_up_same] | rw [gm_up_ne _ _ (by omega)] | rw [bgI_o _ (by omega)])
          exact hL.2.2.2 i hi
        · have hV := hR.2.2 j p (by omega) hp
          by_cases ep : p = m
          · subst ep
            refine ⟨?_, fun i hi => ?_, fun i hi => ?_, fun i hi => ?_⟩
            · repeat (first | rw [gm_up_same] | rw [gm_up_ne _ _ (by omega)])
              rw [eI, gm_up_ne _ _ (by omega), bgI_1]
            · repeat (first | rw [gm_up_same] | rw [gm_up_ne _ _ (by omega)])
              rw [hkr, eI]
              repeat (first | rw [gm_up_same] | rw [gm_up_ne _ _ (by omega)] | rw [bgI_o _ (by omega)])
              exact hV.2.1 i hi
            · rw [eI]
              have q0 : i = 0 ∨ i = 1 ∨ i = 2 ∨ i = 3 ∨ i = 4 ∨ i = 5 ∨ i = 6 ∨ i = 7 ∨ i = 8 := by omega
              rcases q0 with rfl | rfl | rfl | rfl | rfl | rfl | rfl | rfl | rfl
              all_goals repeat (first | rw [gm_up_same] | rw [gm_up_ne _ _ (by omega)])
              all_goals rw [bgI_3 I (by omega)]
              all_goals rfl
            · rw [eI]
              have q0 : i = 0 ∨ i = 1 ∨ i = 2 := by omega
              rcases q0 with rfl | rfl | rfl
              all_goals repeat (first | rw [gm_up_same] | rw [gm_up_ne _ _ (by omega)])
              all_goals rw [bgI_4 I (by omega)]
          · refine ⟨?_, fun i hi => ?_, fun i hi => ?_, fun i hi => ?_⟩
            · repeat (first | rw [gm_up_same] | rw [gm_up_ne _ _ (by omega)])
              rw [hkr, eI]
              repeat (first | rw [gm_up_same] | rw [gm_up_ne _ _ (by omega)] | rw [bgI_o _ (by omega)])
              exact hV.1
            · repeat (first | rw [gm_up_same] | rw [gm_up_ne _ _ (by omega)])
              rw [hkr, eI]
              repeat (first | rw [gm_up_same] | rw [gm_up_ne _ _ (by omega)] | rw [bgI_o _ (by omega)])
              exact hV.2.1 i hi
            · repeat (first | rw [gm_up_same] | rw [gm_up_ne _ _ (by omega)])
              rw [hkr, eI]
              repeat (first | rw [gm_up_same] | rw [gm_up_ne _ _ (by omega)] | rw [bgI_o _ (by omega)])
              exact hV.2.2.1 i hi
            · repeat (first | rw [gm_up_same] | rw [gm_up_ne _ _ (by omega)])
              rw [hkr, eI]
              repeat (first | rw [gm_up_same] | rw [gm_up_ne _ _ (by omega)] | rw [bgI_o _ (by omega)])
              exact hV.2.2.2 i hi
end OPS5
