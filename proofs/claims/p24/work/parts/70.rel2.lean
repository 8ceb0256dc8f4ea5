section OPS
variable {I I1 : gm_I} {J J1 : gm_J} {B r : Nat}
theorem num3 {v : Int32} (h : inI v (nI 1) (nI 3) = true) : ∃ g, g ≤ 3 ∧ v = nI g := by
  have h := of_decide_eq_true h
  have h0 : ¬ v < 0 := by
    intro q
    apply h.1
    rw [Int32.lt_iff_toInt_lt] at q ⊢
    have e0 : (0 : Int32).toInt = 0 := rfl
    have e1 : (nI 1).toInt = 1 := rfl
    omega
  obtain ⟨j, hj, rfl⟩ := nI_of h0
  refine ⟨j, ?_, rfl⟩
  rcases Nat.lt_or_ge 3 j with q | q
  · exact absurd (nI_lt q hj) h.2
  · exact q
theorem inv_FT.ref {I2 : gm_I} (h : inv_FT I1 B) (hk : ∀ q, q < B + 216 → I2 q = I1 q) : inv_FT I2 B := by
  have hO : offR (B + 216) (B + 216) I1 I1 (fun _ _ => 0) (fun _ _ => 0) := offR.nil
  refine ⟨h.1.off (hk _ (by omega)), fun j hj => ?_, nle.off h.2.2.1 (hk _ (by omega)), nle.off h.2.2.2.1 (hk _ (by omega)), fun k hk' => ⟨(h.2.2.2.2.1 k hk').1.off (hk _ (by omega)), (h.2.2.2.2.1 k hk').2.off (hk _ (by omega))⟩, by rw [hk B (by omega)]; exact h.2.2.2.2.2⟩
  have g := h.2.1 j hj
  exact ⟨g.1.off (hk _ (by omega)), g.2.1.off (hk _ (by omega)), g.2.2.1.off (hk _ (by omega)), fun k hk' => (g.2.2.2 k hk').off (hk _ (by omega))⟩
theorem inv_Lp_lb {o : Nat} {v : Int32} (h : inv_Lp I o) (hv : ∃ g, g ≤ 3 ∧ v = nI g) : inv_Lp (lbI I o v) o := by
  obtain ⟨g, hg, rfl⟩ := hv
  unfold lbI
  refine ⟨((nle.set hg).up (by omega)).up (by omega), ⟨?_, (nle.set (by omega)).up (by omega)⟩, nle.set (by omega), fun k hk => ⟨?_, (((h.2.2.2 k hk).2.up (by omega)).up (by omega)).up (by omega)⟩⟩
  · rw [gm_up_ne _ _ (by omega), gm_up_ne _ _ (by omega), gm_up_ne _ _ (by omega)]; exact h.2.1.1
  · rw [gm_up_ne _ _ (by omega), gm_up_ne _ _ (by omega), gm_up_ne _ _ (by omega)]; exact (h.2.2.2 k hk).1

theorem op_loop {n : Nat} {v x : Int32} (h : SI I B r) (hn : n ≤ 8) (en : I B 1 = nI n) (hc : (inI v (nI 1) (nI 3) = false ∧ x = -3 ∧ (I1, J1) = (I, J)) ∨ (inI v (nI 1) (nI 3) = true ∧ n = 8 ∧ x = -4 ∧ (I1, J1) = (I, J)) ∨ (inI v (nI 1) (nI 3) = true ∧ n < 8 ∧ x = nI n ∧ (I1, J1) = (gm_up (lbI I (B + 12 + 21 * n) v) B 1 (nI (n + 1)), lbJ J (B + 12 + 21 * n)))) : inv_Md I1 r ∧ I1 r 0 = nI n ∧ ∀ (z : Int32) (I2 : gm_I) (J2 : gm_J), ((inI v (nI 1) (nI 3) = false ∧ z = -3 ∧ (I2, J2) = (I1, J1)) ∨ (inI v (nI 1) (nI 3) = true ∧ n = 8 ∧ z = -4 ∧ (I2, J2) = (I1, J1)) ∨ (inI v (nI 1) (nI 3) = true ∧ n < 8 ∧ z = nI n ∧ (I2, J2) = (gm_up (gm_up (gm_up (gm_up I1 (r + 1) n v) (r + 2) n (nI 0)) (r + 3) n (nI 0)) r 0 (nI (n + 1)), gm_up (gm_up (gm_up J1 (r + 9) (3 * n + 0) 0) (r + 9) (3 * n + 1) 0) (r + 9) (3 * n + 2) 0))) → SI I2 B r ∧ x = z := by
  have en2 : I r 0 = nI n := h.2.2.2.2.1.symm.trans en
  rcases hc with ⟨c1, rfl, e⟩ | ⟨c1, c2, rfl, e⟩ | ⟨c1, c2, rfl, e⟩
  · obtain ⟨rfl, rfl⟩ := Prod.mk.inj e
    refine ⟨h.2.2.1, en2, fun z I2 J2 hm => ?_⟩
    rcases hm with ⟨d1, rfl, e⟩ | ⟨d1, d2, rfl, e⟩ | ⟨d1, d2, rfl, e⟩
    · obtain ⟨rfl, rfl⟩ := Prod.mk.inj e
      exact ⟨h, rfl⟩
    · rw [c1] at d1; cases d1
    · rw [c1] at d1; cases d1
  · obtain ⟨rfl, rfl⟩ := Prod.mk.inj e
    refine ⟨h.2.2.1, en2, fun z I2 J2 hm => ?_⟩
    rcases hm with ⟨d1, rfl, e⟩ | ⟨d1, d2, rfl, e⟩ | ⟨d1, d2, rfl, e⟩
    · rw [c1] at d1; cases d1
    · obtain ⟨rfl, rfl⟩ := Prod.mk.inj e
      exact ⟨h, rfl⟩
    · omega
  · obtain ⟨rfl, rfl⟩ := Prod.mk.inj e
    have hr := h.1
    have hv := num3 c1
    have hk : ∀ q, B + 216 ≤ q → gm_up (lbI I (B + 12 + 21 * n) v) B 1 (nI (n + 1)) q = I q := fun q hq => by
      funext k
      simp only [lbI]
      repeat (first | rw [gm_up_same] | rw [gm_up_ne _ _ (by omega)])
    have hm0 := h.md hk
    have hF1 : inv_FT (gm_up (lbI I (B + 12 + 21 * n) v) B 1 (nI (n + 1))) B := (h.2.1.lp (J := J) (J1 := J) (j := n) (((offR.nil.upI (by omega)).upI (by omega)).upI (by omega)) c2 (inv_Lp_lb (h.2.1.2.1 n c2) hv)).b1 (by omega)
    have er : gm_up (lbI I (B + 12 + 21 * n) v) B 1 (nI (n + 1)) r = I r := hk r (by omega)
    refine ⟨hm0.1, by rw [er]; exact en2, fun z I2 J2 hm => ?_⟩
    rcases hm with ⟨d1, rfl, e⟩ | ⟨d1, d2, rfl, e⟩ | ⟨d1, d2, rfl, e⟩
    · rw [c1] at d1; cases d1
    · omega
    · obtain ⟨rfl, rfl⟩ := Prod.mk.inj e
      refine ⟨⟨hr, hF1.ref (fun q hq => ?_), ?_, ?_, ?_⟩, rfl⟩
      · funext k
        repeat (first | rw [gm_up_same] | rw [gm_up_ne _ _ (by omega)])
      · obtain ⟨m1, m2, m3, m4, m5, m6⟩ := hm0.1
        obtain ⟨g, hg, rfl⟩ := hv
        refine ⟨nle.set (by omega), fun j hj => ?_, fun j hj => ?_, fun j hj => ?_, fun j hj => ((((m5 j hj).up (by omega)).up (by omega)).up (by omega)).up (by omega), (((m6.up (by omega)).up (by omega)).up (by omega)).up (by omega)⟩
        · by_cases e : j = n
          · subst e; exact (((nle.set hg).up (by omega)).up (by omega)).up (by omega)
          · exact ((((m2 j hj).up (by omega)).up (by omega)).up (by omega)).up (by omega)
        · by_cases e : j = n
          · subst e; exact ((nle.set (by omega)).up (by omega)).up (by omega)
          · exact ((((m3 j hj).up (by omega)).up (by omega)).up (by omega)).up (by omega)
        · by_cases e : j = n
          · subst e; exact (nle.set (by omega)).up (by omega)
          · exact ((((m4 j hj).up (by omega)).up (by omega)).up (by omega)).up (by omega)
      · obtain ⟨b, hb⟩ := hm0.2
        refine ⟨b, ?_⟩
        rw [← hb]
        repeat (first | rw [gm_up_same] | rw [gm_up_ne _ _ (by omega)])
      · have hR := h.2.2.2.2
        refine hR.lp (j := n) ?_ (fun q h1 h2 h3 => ?_) (fun i hi hne => ⟨?_, ?_, ?_, fun a ha => ?_, fun k hk => ⟨?_, fun a ha => ?_, fun a ha => ?_, fun a ha => ?_⟩⟩) ⟨?_, ?_, ?_, fun a ha => ?_⟩ (fun k hk => ⟨?_, fun a ha => ?_, fun a ha => ?_, fun a ha => ?_⟩)
        · simp only [lbI]; repeat (first | rw [gm_up_same] | rw [gm_up_ne _ _ (by omega)])
        · funext k; simp only [lbI]; repeat (first | rw [gm_up_same] | rw [gm_up_ne _ _ (by omega)])
        all_goals simp only [lbI]
        all_goals repeat (first | rw [gm_up_same] | rw [gm_up_ne _ _ (by omega)])
        · exact (hR.2.1 n c2).2.2.2 a ha
        · exact (hR.2.2 n k c2 hk).1
        · exact (hR.2.2 n k c2 hk).2.1 a ha
        · exact (hR.2.2 n k c2 hk).2.2.1 a ha
        · exact (hR.2.2 n k c2 hk).2.2.2 a ha

theorem op_clear {x : Int32} (h : SI I B r) (hc : x = I B 1 ∧ (I1, J1) = (gm_up (gm_up (gm_up I B 1 (nI 0)) (B + 4) 1 (nI 0)) (B + 4) 2 (nI 0), J)) : inv_Md I1 r ∧ ∀ (z : Int32) (I2 : gm_I) (J2 : gm_J), (z = I1 r 0 ∧ (I2, J2) = (gm_up (gm_up (gm_up (gm_up I1 r 0 (nI 0)) r 10 (nI 0)) r 12 (nI 0)) r 13 (nI 0), J1)) → SI I2 B r ∧ x = z := by
  obtain ⟨rfl, e⟩ := hc
  obtain ⟨rfl, rfl⟩ := Prod.mk.inj e
  have hr := h.1
  have hk : ∀ q, B + 216 ≤ q → gm_up (gm_up (gm_up I B 1 (nI 0)) (B + 4) 1 (nI 0)) (B + 4) 2 (nI 0) q = I q := fun q hq => by
    funext k
    repeat (first | rw [gm_up_same] | rw [gm_up_ne _ _ (by omega)])
  have hm0 := h.md hk
  refine ⟨hm0.1, fun z I2 J2 hm => ?_⟩
  obtain ⟨rfl, e⟩ := hm
  obtain ⟨rfl, rfl⟩ := Prod.mk.inj e
  have hF0 := h.2.1.b1 (g := 0) (by omega)
  have hF1 : inv_FT (gm_up (gm_up (gm_up I B 1 (nI 0)) (B + 4) 1 (nI 0)) (B + 4) 2 (nI 0)) B := hF0.pf (J1 := fun _ _ => 0) (J2 := fun _ _ => 0) (p := B + 4) ⟨(offR.nil.upI (by omega)).upI (by omega), nle.up (nle.set (by omega)) (by omega)⟩ (Or.inl rfl)
  refine ⟨⟨hr, hF1.ref (fun q hq => ?_), ?_, ?_, ?_⟩, ?_⟩
  · funext k
    repeat (first | rw [gm_up_same] | rw [gm_up_ne _ _ (by omega)])
  · obtain ⟨m1, m2, m3, m4, m5, m6⟩ := hm0.1
    exact ⟨((((nle.set (by omega))).up (by omega)).up (by omega)).up (by omega), fun j hj => ((((m2 j hj).up (by omega)).up (by omega)).up (by omega)).up (by omega), fun j hj => ((((m3 j hj).up (by omega)).up (by omega)).up (by omega)).up (by omega), fun j hj => ((((m4 j hj).up (by omega)).up (by omega)).up (by omega)).up (by omega), fun j hj => ((((m5 j hj).up (by omega)).up (by omega)).up (by omega)).up (by omega), ((nle.set (by omega)).up (by omega)).up (by omega)⟩
  · obtain ⟨b, hb⟩ := hm0.2
    refine ⟨b, ?_⟩
    rw [← hb]
    repeat (first | rw [gm_up_same] | rw [gm_up_ne _ _ (by omega)])
  · have hR := h.2.2.2.2
    refine ⟨?_, fun j hj => ⟨?_, ?_, ?_, fun a ha => ?_⟩, fun j k hj hk => ⟨?_, fun a ha => ?_, fun a ha => ?_, fun a ha => ?_⟩⟩
    all_goals repeat (first | rw [gm_up_same] | rw [gm_up_ne _ _ (by omega)])
    · exact (hR.2.1 j hj).1
    · exact (hR.2.1 j hj).2.1
    · exact (hR.2.1 j hj).2.2.1
    · exact (hR.2.1 j hj).2.2.2 a ha
    · exact (hR.2.2 j k hj hk).1
    · exact (hR.2.2 j k hj hk).2.1 a ha
    · exact (hR.2.2 j k hj hk).2.2.1 a ha
    · exact (hR.2.2 j k hj hk).2.2.2 a ha
  · repeat (first | rw [gm_up_same] | rw [gm_up_ne _ _ (by omega)])
    exact h.2.2.2.2.1
end OPS
