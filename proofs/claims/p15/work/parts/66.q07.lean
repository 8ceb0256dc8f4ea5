theorem bg_piv (J : gm_J) (a : Nat) : gm_up (gm_up (gm_up (gm_up J a 0 (nI 0).toInt64) a 1 (nI 0).toInt64) a 2 (nI 0).toInt64) a 3 (nI 1).toInt64 = sp_up4 J a 0 0 0 0 1 := by
  have e0 : (nI 0).toInt64 = 0 := by decide
  have e1 : (nI 1).toInt64 = 1 := by decide
  rw [e0, e1]; rfl
theorem bg_fin {I I1 I2 : gm_I} {J J7 J1 : gm_J} {q n k : Nat} {u : gm_M} (h1 : 1 ≤ n) (h3 : n ≤ 3) (hk : 4 * n ≤ k) (hb : bgJ J J7 q k) (e1 : I1 = gm_up (gm_up I q 1 (nI n)) q 3 (nI 0)) (e2 : J1 = sp_up4 J7 (q + 5) 0 0 0 0 1) (ha : apP q 0 (nI 0) I1 J1 (I2, u.2)) (hu : u.1 = gm_up I2 q 7 (nI 2)) : skP q (dd_ab n) [dd_e4] I J u := by
  have r := sp_ap (Z := []) (T := []) (p := dd_e4) (tt := 0) ha (by omega) rfl rfl (fun i v hv => absurd hv (by simp)) (fun i v hv => absurd hv (by simp)) (by rw [e2, sp_up4_vec]; rfl) rfl
  obtain ⟨r1, r2, r3, r4, r5, r6⟩ := r
  have r1 : I2 q 3 = nI 1 := r1
  have r3 : sp_T I2 (q + 3) [0] := r3
  have r4 : ∀ a, a ≠ q → a ≠ q + 3 → I2 a = I1 a := r4
  have r5 : ∀ k, k ≠ 3 → I2 q k = I1 q k := r5
  obtain ⟨b1, b2⟩ := bg_lines hb h1 h3 hk
  have e5 : ∀ a, a ≠ q + 2 → a ≠ q + 5 → u.2 a = J7 a := fun a x1 x2 => by rw [r6 a x1, e2, sp_up4_off x2]
  have len : ((dd_un2 n).map Prod.fst) = dd_un n := by
    have hn : n = 1 ∨ n = 2 ∨ n = 3 := by omega
    rcases hn with rfl | rfl | rfl <;> rfl
  refine ⟨fun a ha => ⟨?_, ?_⟩, dd_un2 n, [dd_e4], ⟨?_, ?_, ?_, ?_, r2, ?_⟩, Or.inl ⟨dd_Sp.start h1 h3, dd_e4, by simp, by decide⟩⟩
  · rw [hu, gm_up_off _ _ _ (by omega), r4 a (by omega) (by omega), e1, gm_up_off _ _ _ (by omega), gm_up_off _ _ _ (by omega)]
  · rw [e5 a (by omega) (by omega), hb.1 a (by omega)]
  · rw [hu, gm_up_ne _ _ (Or.inr (by omega)), r5 1 (by omega), e1, gm_up_ne _ _ (Or.inr (by omega)), gm_up_same, len, b2]
  · rw [hu, gm_up_ne _ _ (Or.inr (by omega)), r1]; rfl
  · rw [hu, gm_up_same]; rfl
  · rw [len]
    intro i v hv
    rw [sp_vec_off (e5 (q + 1) (by omega) (by omega))]; exact b1 i v hv
  · intro i t ht
    rw [hu, gm_up_ne _ _ (Or.inl (by omega))]; exact r3 i t ht
