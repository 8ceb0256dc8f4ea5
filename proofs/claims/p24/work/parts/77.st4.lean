section SM
variable {I I1 I2 : gm_I} {J J1 J2 : gm_J} {B r : Nat}

theorem mf_guard {v a b d e z : Int32} (hm : (z, I2, J2) = sp_guard I1 J1 r v a b d e) : J2 = J1 ∧ I2 r = I1 r ∧ ∀ c, c ≠ 0 → c ≠ 3 → c ≠ 4 → I2 (r + c) = I1 (r + c) := by
  unfold sp_guard at hm
  repeat' split at hm
  all_goals obtain ⟨_, e⟩ := Prod.mk.inj hm
  all_goals obtain ⟨rfl, rfl⟩ := Prod.mk.inj e
  all_goals refine ⟨rfl, ?_, fun c h0 h3 h4 => ?_⟩
  all_goals first | rfl | skip
  all_goals funext k
  all_goals simp only [lay4, way3, way9]
  all_goals repeat (first | rw [gm_up_same] | rw [gm_up_ne _ _ (by omega)])

theorem mf_row {v w a b d e z : Int32} (hm : (z, I2, J2) = sp_row I1 J1 r v w a b d e) : J2 = J1 ∧ I2 r = I1 r ∧ ∀ c, c ≠ 0 → c ≠ 5 → c ≠ 6 → I2 (r + c) = I1 (r + c) := by
  unfold sp_row at hm
  repeat' split at hm
  all_goals obtain ⟨_, e⟩ := Prod.mk.inj hm
  all_goals obtain ⟨rfl, rfl⟩ := Prod.mk.inj e
  all_goals refine ⟨rfl, ?_, fun c h0 h5 h6 => ?_⟩
  all_goals first | rfl | skip
  all_goals funext k
  all_goals simp only [lay4, way3, way9]
  all_goals repeat (first | rw [gm_up_same] | rw [gm_up_ne _ _ (by omega)])

theorem cf_guard {n : Nat} {v a b c d x : Int32} (hn : n ≤ 8) (hc : gdP I J B n v a b c d x (I1, J1)) : J1 = J ∧ ∀ q, B + 216 ≤ q → I1 q = I q := by
  rcases hc with ⟨_, _, e⟩ | ⟨j, nm, g, hj, _, _, _, _, hg, ⟨_, _, e⟩ | ⟨_, _, _, e⟩ | ⟨_, _, _, e⟩⟩
  all_goals obtain ⟨rfl, rfl⟩ := Prod.mk.inj e
  all_goals refine ⟨rfl, fun q hq => ?_⟩
  all_goals first | rfl | skip
  funext k
  simp only [lay4]
  repeat (first | rw [gm_up_same] | rw [gm_up_ne _ _ (by omega)])
theorem cf_row {n : Nat} {v w a b c d x : Int32} (hn : n ≤ 8) (hc : rwP I J B n v w a b c d x (I1, J1)) : J1 = J ∧ ∀ q, B + 216 ≤ q → I1 q = I q := by
  rcases hc with ⟨_, _, e⟩ | ⟨j, k, m, nm, g, hj, hk, hm, _, _, _, _, _, _, hg, ⟨_, _, e⟩ | ⟨_, _, _, e⟩ | ⟨_, _, _, e⟩⟩
  all_goals obtain ⟨rfl, rfl⟩ := Prod.mk.inj e
  all_goals refine ⟨rfl, fun q hq => ?_⟩
  all_goals first | rfl | skip
  funext i
  simp only [lay4]
  repeat (first | rw [gm_up_same] | rw [gm_up_ne _ _ (by omega)])
theorem sj_fr {s : List Nat} (hJ : SJ I J B r) (hr : r = B + 216) (hc : J1 = J ∧ ∀ q, B + 216 ≤ q → I1 q = I q) (h0 : J2 = J1 ∧ I2 r = I1 r) (h1 : I2 (r + 1) = I1 (r + 1)) (h2 : I2 (r + 2) = I1 (r + 2)) (h7 : I2 (r + 7) = I1 (r + 7)) (h8 : I2 (r + 8) = I1 (r + 8)) : SJ I2 J2 B r := by
  obtain ⟨rfl, hk⟩ := hc
  obtain ⟨rfl, h0⟩ := h0
  exact hJ.keep (by rw [h0, hk r (by omega)]) (h1.trans (hk _ (by omega))) (h2.trans (hk _ (by omega))) (h7.trans (hk _ (by omega))) (h8.trans (hk _ (by omega))) (fun _ _ => rfl) rfl
theorem sj_guard {n : Nat} {v a b c d x z : Int32} (h : SI I B r) (hJ : SJ I J B r) (hn : n ≤ 8) (hc : gdP I J B n v a b c d x (I1, J1)) (hm : (z, I2, J2) = sp_guard I1 J1 r v a b c d) : SJ I2 J2 B r := by
  obtain ⟨m1, m2, m3⟩ := mf_guard hm
  exact sj_fr (s := []) hJ h.1 (cf_guard hn hc) ⟨m1, m2⟩ (m3 1 (by omega) (by omega) (by omega)) (m3 2 (by omega) (by omega) (by omega)) (m3 7 (by omega) (by omega) (by omega)) (m3 8 (by omega) (by omega) (by omega))
theorem sj_row {n : Nat} {v w a b c d x z : Int32} (h : SI I B r) (hJ : SJ I J B r) (hn : n ≤ 8) (hc : rwP I J B n v w a b c d x (I1, J1)) (hm : (z, I2, J2) = sp_row I1 J1 r v w a b c d) : SJ I2 J2 B r := by
  obtain ⟨m1, m2, m3⟩ := mf_row hm
  exact sj_fr (s := []) hJ h.1 (cf_row hn hc) ⟨m1, m2⟩ (m3 1 (by omega) (by omega) (by omega)) (m3 2 (by omega) (by omega) (by omega)) (m3 7 (by omega) (by omega) (by omega)) (m3 8 (by omega) (by omega) (by omega))
theorem sj_loop {n : Nat} {v x z : Int32} (h : SI I B r) (hJ : SJ I J B r) (hn : n ≤ 8) (en : I B 1 = nI n) (hc : (inI v (nI 1) (nI 3) = false ∧ x = -3 ∧ (I1, J1) = (I, J)) ∨ (inI v (nI 1) (nI 3) = true ∧ n = 8 ∧ x = -4 ∧ (I1, J1) = (I, J)) ∨ (inI v (nI 1) (nI 3) = true ∧ n < 8 ∧ x = nI n ∧ (I1, J1) = (gm_up (lbI I (B + 12 + 21 * n) v) B 1 (nI (n + 1)), lbJ J (B + 12 + 21 * n)))) (hm : (inI v (nI 1) (nI 3) = false ∧ z = -3 ∧ (I2, J2) = (I1, J1)) ∨ (inI v (nI 1) (nI 3) = true ∧ n = 8 ∧ z = -4 ∧ (I2, J2) = (I1, J1)) ∨ (inI v (nI 1) (nI 3) = true ∧ n < 8 ∧ z = nI n ∧ (I2, J2) = (gm_up (gm_up (gm_up (gm_up I1 (r + 1) n v) (r + 2) n (nI 0)) (r + 3) n (nI 0)) r 0 (nI (n + 1)), gm_up (gm_up (gm_up J1 (r + 9) (3 * n + 0) 0) (r + 9) (3 * n + 1) 0) (r + 9) (3 * n + 2) 0))) : SJ I2 J2 B r := by
  have hr := h.1
  have h8 := h.n8 hn en
  rcases hc with ⟨c1, rfl, e⟩ | ⟨c1, c2, rfl, e⟩ | ⟨c1, c2, rfl, e⟩
  · obtain ⟨rfl, rfl⟩ := Prod.mk.inj e
    rcases hm with ⟨d1, rfl, e⟩ | ⟨d1, d2, rfl, e⟩ | ⟨d1, d2, rfl, e⟩
    · exact hJ.eq e
    · rw [c1] at d1; cases d1
    · rw [c1] at d1; cases d1
  · obtain ⟨rfl, rfl⟩ := Prod.mk.inj e
    rcases hm with ⟨d1, rfl, e⟩ | ⟨d1, d2, rfl, e⟩ | ⟨d1, d2, rfl, e⟩
    · rw [c1] at d1; cases d1
    · exact hJ.eq e
    · omega
  · rcases hm with ⟨d1, rfl, e2⟩ | ⟨d1, d2, rfl, e2⟩ | ⟨d1, d2, rfl, e2⟩
    · rw [c1] at d1; cases d1
    · omega
    · obtain ⟨rfl, rfl⟩ := Prod.mk.inj e
      obtain ⟨rfl, rfl⟩ := Prod.mk.inj e2
      obtain ⟨g, hg1, hg3, rfl⟩ := num13 c1
      refine ⟨fun j i hj hi => ?_, fun j hj => ?_⟩
      · simp only [lbJ]
        by_cases e : j = n
        · subst e
          rcases (show i = 0 ∨ i = 1 ∨ i = 2 by omega) with rfl | rfl | rfl
          all_goals repeat (first | rw [gm_up_same] | rw [gm_up_ne _ _ (by omega)])
        · repeat (first | rw [gm_up_same] | rw [gm_up_ne _ _ (by omega)])
          exact hJ.1 j i hj hi
      · have hj1 : j < n + 1 := by
          have q : nN (gm_up (gm_up (gm_up (gm_up (gm_up (lbI I (B + 12 + 21 * n) (nI g)) B 1 (nI (n + 1))) (r + 1) n (nI g)) (r + 2) n (nI 0)) (r + 3) n (nI 0)) r 0 (nI (n + 1)) r 0) = n + 1 := by rw [gm_up_same, nN_nI (by omega)]
          rw [q] at hj; exact hj
        clear hj
        unfold idn
        by_cases e : j = n
        · subst e
          simp only [lbI, lbJ]
          refine ⟨?_, fun i hi hi3 => ⟨?_, fun k hk => ?_⟩⟩
          · repeat (first | rw [gm_up_same] | rw [gm_up_ne _ _ (by omega)])
            rw [nN_nI (by omega)]; exact hg1
          · rcases (show i = 0 ∨ i = 1 ∨ i = 2 by omega) with rfl | rfl | rfl
            all_goals repeat (first | rw [gm_up_same] | rw [gm_up_ne _ _ (by omega)])
          · exfalso
            revert hk
            repeat (first | rw [gm_up_same] | rw [gm_up_ne _ _ (by omega)])
            rw [nN_nI (by omega)]
            omega
        · obtain ⟨g1, g2⟩ := hJ.2 j (by omega)
          unfold idn at g2
          simp only [lbI, lbJ]
          have q1 : ∀ i, gm_up (gm_up (gm_up (gm_up (gm_up (gm_up (gm_up (gm_up I (B + 12 + 21 * n) 0 (nI g)) (B + 12 + 21 * n + 1) 2 (nI 0)) (B + 12 + 21 * n) 3 (nI 0)) B 1 (nI (n + 1))) (r + 1) n (nI g)) (r + 2) n (nI 0)) (r + 3) n (nI 0)) r 0 (nI (n + 1)) (r + 7) i = I (r + 7) i := fun i => by
            repeat (first | rw [gm_up_same] | rw [gm_up_ne _ _ (by omega)])
          have q2 : ∀ i, gm_up (gm_up (gm_up (gm_up (gm_up (gm_up (gm_up (gm_up I (B + 12 + 21 * n) 0 (nI g)) (B + 12 + 21 * n + 1) 2 (nI 0)) (B + 12 + 21 * n) 3 (nI 0)) B 1 (nI (n + 1))) (r + 1) n (nI g)) (r + 2) n (nI 0)) (r + 3) n (nI 0)) r 0 (nI (n + 1)) (r + 8) i = I (r + 8) i := fun i => by
            repeat (first | rw [gm_up_same] | rw [gm_up_ne _ _ (by omega)])
          have q3 : gm_up (gm_up (gm_up (gm_up (gm_up (gm_up (gm_up (gm_up I (B + 12 + 21 * n) 0 (nI g)) (B + 12 + 21 * n + 1) 2 (nI 0)) (B + 12 + 21 * n) 3 (nI 0)) B 1 (nI (n + 1))) (r + 1) n (nI g)) (r + 2) n (nI 0)) (r + 3) n (nI 0)) r 0 (nI (n + 1)) (r + 1) j = I (r + 1) j := by
            repeat (first | rw [gm_up_same] | rw [gm_up_ne _ _ (by omega)])
          have q4 : gm_up (gm_up (gm_up (gm_up (gm_up (gm_up (gm_up (gm_up I (B + 12 + 21 * n) 0 (nI g)) (B + 12 + 21 * n + 1) 2 (nI 0)) (B + 12 + 21 * n) 3 (nI 0)) B 1 (nI (n + 1))) (r + 1) n (nI g)) (r + 2) n (nI 0)) (r + 3) n (nI 0)) r 0 (nI (n + 1)) (r + 2) j = I (r + 2) j := by
            repeat (first | rw [gm_up_same] | rw [gm_up_ne _ _ (by omega)])
          rw [q3, q4]
          refine ⟨g1, fun i hi hi3 => ⟨?_, fun k hk => ⟨fun c hc => ?_, ?_⟩⟩⟩
          · repeat (first | rw [gm_up_same] | rw [gm_up_ne _ _ (by omega)])
            exact (g2 i hi hi3).1
          · rw [q1]; exact ((g2 i hi hi3).2 k hk).1 c hc
          · rw [q2]; exact ((g2 i hi hi3).2 k hk).2
theorem sj_clear {x z : Int32} (h : SI I B r) (hJ : SJ I J B r) (hc : x = I B 1 ∧ (I1, J1) = (gm_up (gm_up (gm_up I B 1 (nI 0)) (B + 4) 1 (nI 0)) (B + 4) 2 (nI 0), J)) (hm : z = I1 r 0 ∧ (I2, J2) = (gm_up (gm_up (gm_up (gm_up I1 r 0 (nI 0)) r 10 (nI 0)) r 12 (nI 0)) r 13 (nI 0), J1)) : SJ I2 J2 B r := by
  obtain ⟨_, e⟩ := hc
  obtain ⟨_, e2⟩ := hm
  obtain ⟨rfl, rfl⟩ := Prod.mk.inj e
  obtain ⟨rfl, rfl⟩ := Prod.mk.inj e2
  refine ⟨hJ.1, fun j hj => ?_⟩
  exfalso
  revert hj
  repeat (first | rw [gm_up_same] | rw [gm_up_ne _ _ (by omega)])
  rw [nN_nI (by omega)]
  omega
end SM
