/-- the rows laid out: n of them, by f -/
def spJ (J : gm_J) (r n : Nat) (f : Nat → Nat → Int64) : gm_J := fun q i => if r + 12 ≤ q ∧ q ≤ r + 15 ∧ i < n then f (q - (r + 12)) i else J q i
theorem spJ_0 (J : gm_J) (r : Nat) (f : Nat → Nat → Int64) : spJ J r 0 f = J := by
  funext q i; simp [spJ]
theorem spJ_o {J : gm_J} {r n q i : Nat} {f : Nat → Nat → Int64} (h : q < r + 12 ∨ r + 15 < q ∨ n ≤ i) : spJ J r n f q i = J q i := by
  unfold spJ; rw [if_neg (by omega)]
theorem spJ_in {J : gm_J} {r n c i : Nat} {f : Nat → Nat → Int64} (hc : c < 4) (hi : i < n) : spJ J r n f (r + 12 + c) i = f c i := by
  unfold spJ; rw [if_pos (by omega), show r + 12 + c - (r + 12) = c by omega]
theorem spJ_up {J : gm_J} {r n : Nat} {f : Nat → Nat → Int64} {a b c d : Int64} (ha : a = f 0 n) (hb : b = f 1 n) (hc : c = f 2 n) (hd : d = f 3 n) : gm_up (gm_up (gm_up (gm_up (spJ J r n f) (r + 12) n a) (r + 13) n b) (r + 14) n c) (r + 15) n d = spJ J r (n + 1) f := by
  subst ha; subst hb; subst hc; subst hd
  funext q i
  simp only [gm_up, spJ]
  by_cases h15 : q = r + 15
  · subst h15
    by_cases hi : i = n
    · subst hi; simp
    · have : (i < n + 1) ↔ i < n := by omega
      simp [hi, this]
  · by_cases h14 : q = r + 14
    · subst h14
      by_cases hi : i = n
      · subst hi; simp
      · have : (i < n + 1) ↔ i < n := by omega
        simp [hi, this]
    · by_cases h13 : q = r + 13
      · subst h13
        by_cases hi : i = n
        · subst hi; simp
        · have : (i < n + 1) ↔ i < n := by omega
          simp [hi, this]
      · by_cases h12 : q = r + 12
        · subst h12
          by_cases hi : i = n
          · subst hi; simp
          · have : (i < n + 1) ↔ i < n := by omega
            simp [hi, this]
        · simp only [h12, h13, h14, h15, false_and, if_false]
          rw [if_neg (by omega), if_neg (by omega)]
def rowF (I : gm_I) (J : gm_J) (r j k g t : Nat) : Nat → Nat → Int64 := fun c i => if i < g then (I (r + 4) (16 * j + 4 * i + c)).toInt64 else if i < g + t then (I (r + 6) (8 * (3 * j + k) + 4 * (i - g) + c)).toInt64 else J r (29 + c)
