theorem eqS_trans {r : Nat} {I I1 I2 : gm_I} {J J1 J2 : gm_J} (h1 : eqS r I J I1 J1) (h2 : eqS r I1 J1 I2 J2) : eqS r I J I2 J2 :=
  ⟨fun q k h => (h2.1 q k h).trans (h1.1 q k h), fun q k h => (h2.2.1 q k h).trans (h1.2.1 q k h), h2.2.2⟩
theorem nle_eqS {r : Nat} {I I1 : gm_I} {J J1 : gm_J} (h : eqS r I J I1 J1) {q k b : Nat} (hq : ¬ (q = r ∧ (k = 15 ∨ k = 20))) (hn : nle I q k b) : nle I1 q k b := by
  obtain ⟨g, hg, e⟩ := hn
  exact ⟨g, hg, (h.1 q k hq).trans e⟩
theorem inv_eqS {r : Nat} {I I1 : gm_I} {J J1 : gm_J} (h : eqS r I J I1 J1) (hV : inv_Md I r) : inv_Md I1 r :=
  ⟨nle_eqS h (by omega) hV.1, fun j hj => nle_eqS h (by omega) (hV.2.1 j hj), fun j hj => nle_eqS h (by omega) (hV.2.2.1 j hj), fun j hj => nle_eqS h (by omega) (hV.2.2.2.1 j hj), fun j hj => nle_eqS h (by omega) (hV.2.2.2.2.1 j hj), nle_eqS h (by omega) hV.2.2.2.2.2⟩
theorem rowF_eqS {r j k g t : Nat} {I I1 : gm_I} {J J1 : gm_J} (h : eqS r I J I1 J1) (c : Nat) (hc : c < 4) (i : Nat) : rowF I1 J1 r j k g t c i = rowF I J r j k g t c i := by
  simp only [rowF]
  rw [h.1 (r + 4) _ (by omega), h.1 (r + 6) _ (by omega), h.2.1 r (29 + c) (by omega)]
theorem chG_eqS {r w : Nat} {I I1 : gm_I} {J J1 : gm_J} (h : eqS r I J I1 J1) {a b c : Int64} : chG I1 r w a b c = chG I r w a b c := by
  have e : ∀ k, I1 (r + 7) k = I (r + 7) k := fun k => h.1 _ _ (by omega)
  simp only [chG, fc, e]
theorem chC_eqS {r w : Nat} {I I1 : gm_I} {J J1 : gm_J} (h : eqS r I J I1 J1) {a b c : Int64} : chC I1 r w a b c = chC I r w a b c := by
  have e : ∀ k, I1 (r + 8) k = I (r + 8) k := fun k => h.1 _ _ (by omega)
  simp only [chC, cn, e]
/-- the rows of a way, with one more or not -/
def rF (I : gm_I) (J : gm_J) (r j w : Nat) : Nat → Nat → Int64 := rowF I J r j w (nN (I (r + 3) j)) (nN (I (r + 5) (3 * j + w)))
def rN (I : gm_I) (r j w : Nat) (x : Bool) : Nat := nN (I (r + 3) j) + nN (I (r + 5) (3 * j + w)) + x.toNat
theorem rw_eq {r j w n : Nat} {I I1 : gm_I} {J J1 : gm_J} {g t : Nat} (h : eqS r I J I1 J1) (eg : I (r + 3) j = nI g) (et : I (r + 5) (3 * j + w) = nI t) (hg : g ≤ 4) (ht : t ≤ 2) : ∀ c, c < 4 → ∀ i, i < n → rwF (spJ J1 r n (rowF I1 J1 r j w g t)) r c i = rF I J r j w c i := fun c hc i hi => by
  rw [rw_sp c hc i hi, rowF_eqS h c hc i]
  unfold rF
  rw [eg, et, nN_nI (by omega), nN_nI (by omega)]
theorem rN_eq {r j w : Nat} {I : gm_I} {x : Bool} {g t : Nat} (eg : I (r + 3) j = nI g) (et : I (r + 5) (3 * j + w) = nI t) (hg : g ≤ 4) (ht : t ≤ 2) : rN I r j w x = g + t + x.toNat := by
  unfold rN
  rw [eg, et, nN_nI (by omega), nN_nI (by omega)]
def lastW (I : gm_I) (J : gm_J) (r j w : Nat) : Bool := nothB (rF I J r j w) (rN I r j w true) || leastT (rF I J r j w) (chG I r (3 * j + w) (J r 29) (J r 30) (J r 31)) (rN I r j w true) (J r 32 - chC I r (3 * j + w) (J r 29) (J r 30) (J r 31))
def lastN (I : gm_I) (J : gm_J) (r j : Nat) : Nat → Bool
  | 0 => true
  | w + 1 => lastN I J r j w && lastW I J r j w
theorem lastN_f {I : gm_I} {J : gm_J} {r j w n : Nat} (h : lastW I J r j w = false) (hw : w < n) : lastN I J r j n = false := by
  induction n with
  | zero => omega
  | succ n ih =>
    simp only [lastN]
    by_cases e : w = n
    · subst e; rw [h, Bool.and_false]
    · rw [ih (by omega), Bool.false_and]
