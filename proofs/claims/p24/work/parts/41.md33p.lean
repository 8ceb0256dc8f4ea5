/-- equal but for the scratch, and what is kept -/
def eqL (r : Nat) (I : gm_I) (J : gm_J) (I' : gm_I) (J' : gm_J) : Prop :=
  (∀ q k, ¬ (q = r ∧ (k = 15 ∨ k = 20 ∨ k = 33) ∨ q = r + 16) → I' q k = I q k) ∧ (∀ q k, ¬ (q = r ∧ (21 ≤ k ∧ k ≤ 28 ∨ 35 ≤ k ∧ k ≤ 37) ∨ r + 12 ≤ q ∧ q ≤ r + 15) → J' q k = J q k) ∧ ∃ b, I' r 20 = bI b
theorem eqL_S {r : Nat} {I I1 : gm_I} {J J1 : gm_J} (h : eqS r I J I1 J1) : eqL r I J I1 J1 := ⟨fun q k n => h.1 q k (by omega), h.2.1, h.2.2⟩
theorem eqL_trans {r : Nat} {I I1 I2 : gm_I} {J J1 J2 : gm_J} (h1 : eqL r I J I1 J1) (h2 : eqL r I1 J1 I2 J2) : eqL r I J I2 J2 :=
  ⟨fun q k h => (h2.1 q k h).trans (h1.1 q k h), fun q k h => (h2.2.1 q k h).trans (h1.2.1 q k h), h2.2.2⟩
theorem nle_eqL {r : Nat} {I I1 : gm_I} {J J1 : gm_J} (h : eqL r I J I1 J1) {q k b : Nat} (hq : ¬ (q = r ∧ (k = 15 ∨ k = 20 ∨ k = 33) ∨ q = r + 16)) (hn : nle I q k b) : nle I1 q k b := by
  obtain ⟨g, hg, e⟩ := hn
  exact ⟨g, hg, (h.1 q k hq).trans e⟩
theorem inv_eqL {r : Nat} {I I1 : gm_I} {J J1 : gm_J} (h : eqL r I J I1 J1) (hV : inv_Md I r) : inv_Md I1 r :=
  ⟨nle_eqL h (by omega) hV.1, fun j hj => nle_eqL h (by omega) (hV.2.1 j hj), fun j hj => nle_eqL h (by omega) (hV.2.2.1 j hj), fun j hj => nle_eqL h (by omega) (hV.2.2.2.1 j hj), fun j hj => nle_eqL h (by omega) (hV.2.2.2.2.1 j hj), nle_eqL h (by omega) hV.2.2.2.2.2⟩
theorem rF_eqL {r j w : Nat} {I I1 : gm_I} {J J1 : gm_J} (h : eqL r I J I1 J1) {n : Nat} : ∀ c, c < 4 → ∀ i, i < n → rF I1 J1 r j w c i = rF I J r j w c i := by
  intro c hc i _
  unfold rF
  rw [h.1 (r + 3) _ (by omega), h.1 (r + 5) _ (by omega)]
  simp only [rowF]
  rw [h.1 (r + 4) _ (by omega), h.1 (r + 6) _ (by omega), h.2.1 r (29 + c) (by omega)]
theorem rN_eqL {r j w : Nat} {x : Bool} {I I1 : gm_I} {J J1 : gm_J} (h : eqL r I J I1 J1) : rN I1 r j w x = rN I r j w x := by
  unfold rN
  rw [h.1 (r + 3) _ (by omega), h.1 (r + 5) _ (by omega)]
theorem chG_eqL {r w : Nat} {I I1 : gm_I} {J J1 : gm_J} (h : eqL r I J I1 J1) {a b c : Int64} : chG I1 r w a b c = chG I r w a b c := by
  have e : ∀ k, I1 (r + 7) k = I (r + 7) k := fun k => h.1 _ _ (by omega)
  simp only [chG, fc, e]
theorem chC_eqL {r w : Nat} {I I1 : gm_I} {J J1 : gm_J} (h : eqL r I J I1 J1) {a b c : Int64} : chC I1 r w a b c = chC I r w a b c := by
  have e : ∀ k, I1 (r + 8) k = I (r + 8) k := fun k => h.1 _ _ (by omega)
  simp only [chC, cn, e]
theorem howW_eqL {r j w : Nat} {x : Bool} {I I1 : gm_I} {J J1 : gm_J} (h : eqL r I J I1 J1) {a b c : Int32} : howW I1 J1 r j w x a b c = howW I J r j w x a b c := by
  unfold howW tmG
  rw [rN_eqL h, fallsV_congr (rF_eqL h), chG_eqL h, chC_eqL h]
theorem bndW_eqL {r j w : Nat} {x : Bool} {I I1 : gm_I} {J J1 : gm_J} (h : eqL r I J I1 J1) {a b c : Int32} : bndW I1 J1 r j w x a b c = bndW I J r j w x a b c := by
  unfold bndW
  rw [rN_eqL h, LQ_congr (rF_eqL h)]
theorem tkN_eqL {r j : Nat} {x : Bool} {o z n : Nat} {I I1 : gm_I} {J J1 : gm_J} (h : eqL r I J I1 J1) {a b c : Int32} : tkN I1 J1 r j x o z a b c n = tkN I J r j x o z a b c n := by
  induction n with
  | zero => rfl
  | succ n ih =>
    simp only [tkN]
    rw [ih]
    congr 1
    funext s
    unfold tkW
    rw [howW_eqL h, bndW_eqL h]
/-- the ways without anything in their spaces, as bits -/
def ztN (I : gm_I) (J : gm_J) (r j : Nat) (x : Bool) : Nat → Nat
  | 0 => 0
  | w + 1 => ztN I J r j x w + if nothB (rF I J r j w) (rN I r j w x) = true then 1 * 2 ^ w else 0
theorem ztN_lt (I : gm_I) (J : gm_J) (r j : Nat) (x : Bool) (n : Nat) : ztN I J r j x n < 2 ^ n := by
  induction n with
  | zero => simp [ztN]
  | succ n ih => simp only [ztN]; rw [Nat.pow_succ]; split <;> omega
def opN : Nat → Nat
  | 0 => 0
  | w + 1 => opN w + 1 * 2 ^ w
def tKa (k : Nat) : Int32 := nI (k / 25) - nI 2
def tKb (k : Nat) : Int32 := nI (k / 5 % 5) - nI 2
def tKc (k : Nat) : Int32 := nI (k % 5) - nI 2
/-- what the k-th term takes of the open ways -/
def tkk (I : gm_I) (J : gm_J) (r j : Nat) (x : Bool) (o k : Nat) : Nat := if numB (nN (I (r + 1) j)) (tKa k) (tKb k) (tKc k) (nI 2) = true then (tkN I J r j x o (ztN I J r j x (nN (I (r + 2) j))) (tKa k) (tKb k) (tKc k) (nN (I (r + 2) j))).getD 0 else 0
def fkN (T : Nat → Nat) : Nat → Nat → Option Nat
  | 0, _ => none
  | n + 1, k => if 0 < T k then some k else fkN T n (k + 1)
def lbN (T : Nat → Nat → Nat) : Nat → Nat → List (Nat × Nat) × Nat
  | 0, o => ([], o)
  | n + 1, o => if o = 0 then ([], o) else match fkN (T o) 125 0 with
    | none => ([], o)
    | some k => ((k, T o k) :: (lbN T n (o - T o k)).1, (lbN T n (o - T o k)).2)
def lay4f (f : Nat → Int32) (i : Nat) (a b c d : Int32) : Nat → Int32 := upd (upd (upd (upd f i a) (i + 1) b) (i + 2) c) (i + 3) d
def kA : List (Nat × Nat) → Nat → (Nat → Int32) → Nat → Int32
  | [], _, f => f
  | q :: l, i, f => kA l (i + 1) (lay4f f (4 * i) (tKa q.1) (tKb q.1) (tKc q.1) (nI q.2))
theorem kA_snoc (l : List (Nat × Nat)) (q : Nat × Nat) (i : Nat) (f : Nat → Int32) : kA (l ++ [q]) i f = lay4f (kA l i f) (4 * (i + l.length)) (tKa q.1) (tKb q.1) (tKc q.1) (nI q.2) := by
  induction l generalizing i f with
  | nil => rfl
  | cons a l ih =>
    show kA (l ++ [q]) (i + 1) _ = _
    rw [ih, show i + 1 + l.length = i + (a :: l).length by simp; omega]
    rfl
/-- bits of a number under 8 -/
def bc (o : Nat) : Nat := o % 2 + o / 2 % 2 + o / 4 % 2
theorem bc_sub : ∀ o, o < 8 → ∀ s, s < 8 → (∀ w, w < 3 → s / 2 ^ w % 2 = 1 → o / 2 ^ w % 2 = 1) → 0 < s → s ≤ o ∧ bc (o - s) + 1 ≤ bc o := by decide +kernel
theorem tk_sub {I : gm_I} {J : gm_J} {r j : Nat} {x : Bool} {o z n : Nat} {a b c : Int32} (hn : n ≤ 3) {s : Nat} (h : tkN I J r j x o z a b c n = some s) : ∀ w, w < 3 → s / 2 ^ w % 2 = 1 → o / 2 ^ w % 2 = 1 := by
  have key : ∀ n, n ≤ 3 → ∀ s, tkN I J r j x o z a b c n = some s → s < 2 ^ n ∧ ∀ w, w < 3 → s / 2 ^ w % 2 = 1 → o / 2 ^ w % 2 = 1 := by
    intro n
    induction n with
    | zero =>
      intro _ s hs
      simp only [tkN, Option.some.injEq] at hs
      subst hs
      exact ⟨by omega, fun w _ h => by simp at h⟩
    | succ n ih =>
      intro hn s hs
      have hlt := tkN_lt I J r j x o z a b c (n + 1) s hs
      simp only [tkN] at hs
      cases h1 : tkN I J r j x o z a b c n with
      | none => rw [h1] at hs; exact absurd hs (by simp)
      | some t =>
        rw [h1] at hs
        obtain ⟨ht, hb⟩ := ih (by omega) t h1
        have h2 : tkW I J r j x o z a b c n t = some s := hs
        refine ⟨hlt, ?_⟩
        unfold tkW at h2
        by_cases ho : o / 2 ^ n % 2 = 1
        · rw [if_pos ho] at h2
          have hs2 : s = t ∨ s = t + 2 ^ n := by
            repeat' split at h2
            all_goals simp only [Option.some.injEq, reduceCtorEq] at h2
            all_goals omega
          rcases hs2 with e | e
          · subst e; exact hb
          · subst e
            intro w hw hq
            by_cases hwn : w = n
            · subst hwn; exact ho
            · refine hb w hw ?_
              have hn3 : n < 3 := by omega
              match n, hn3, w, hw, hwn, ht, hq with
              | 0, _, 0, _, hwn, _, _ => exact absurd rfl hwn
              | 0, _, 1, _, _, ht, hq => simp at hq ht ⊢; omega
              | 0, _, 2, _, _, ht, hq => simp at hq ht ⊢; omega
              | 1, _, 0, _, _, ht, hq => simp at hq ht ⊢; omega
              | 1, _, 1, _, hwn, _, _ => exact absurd rfl hwn
              | 1, _, 2, _, _, ht, hq => simp at hq ht ⊢; omega
              | 2, _, 0, _, _, ht, hq => simp at hq ht ⊢; omega
              | 2, _, 1, _, _, ht, hq => simp at hq ht ⊢; omega
              | 2, _, 2, _, hwn, _, _ => exact absurd rfl hwn
        · rw [if_neg ho] at h2
          simp only [Option.some.injEq] at h2
          subst h2
          exact hb
  exact (key n hn s h).2
