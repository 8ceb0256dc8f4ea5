-- THE SEARCH FOR TERMS: what a term is on each way (bounded, stays, falls), what it takes, which is the first
abbrev zT : Type := Bool × Bool × Bool
def ckW (z : zT) (o w s : Nat) : Option Nat := if o / 2 ^ w % 2 = 1 then (if z.2.1 = true then (if z.1 = true ∧ z.2.2 = true then some (s + 1 * 2 ^ w) else some s) else none) else some s
def ckN (Z : Nat → zT) (o : Nat) : Nat → Option Nat
  | 0 => some 0
  | w + 1 => (ckN Z o w).bind (ckW (Z w) o w)
section CK
variable {Z : Nat → zT} {o w s t n : Nat}
theorem ckN_on (h : ckN Z o w = some s) (h0 : ckW (Z w) o w s = some t) : ckN Z o (w + 1) = some t := by
  simp only [ckN]; rw [h]; exact h0
theorem ckN_none (h : ckN Z o w = some s) (h0 : ckW (Z w) o w s = none) (hw : w < n) : ckN Z o n = none := by
  induction n with
  | zero => omega
  | succ n ih =>
    simp only [ckN]
    by_cases e : w = n
    · subst e; rw [h]; exact h0
    · rw [ih (by omega)]; rfl
theorem ckN_key (hn : n ≤ 3) (h : ckN Z o n = some s) : s < 2 ^ n ∧ ∀ w, w < 3 → s / 2 ^ w % 2 = 1 → o / 2 ^ w % 2 = 1 := by
  induction n generalizing s with
  | zero =>
    simp only [ckN, Option.some.injEq] at h
    subst h
    exact ⟨by omega, fun w _ h => by simp at h⟩
  | succ n ih =>
    simp only [ckN] at h
    cases h1 : ckN Z o n with
    | none => rw [h1] at h; exact absurd h (by simp)
    | some t =>
      rw [h1] at h
      obtain ⟨ht, hb⟩ := ih (by omega) h1
      have h2 : ckW (Z n) o n t = some s := h
      unfold ckW at h2
      by_cases ho : o / 2 ^ n % 2 = 1
      · rw [if_pos ho] at h2
        have hs2 : s = t ∨ s = t + 2 ^ n := by
          repeat' split at h2
          all_goals simp only [Option.some.injEq, reduceCtorEq] at h2
          all_goals omega
        rw [Nat.pow_succ]
        rcases hs2 with e | e
        · subst e; exact ⟨by omega, hb⟩
        · subst e
          refine ⟨by omega, ?_⟩
          intro w hw hq
          by_cases hwn : w = n
          · subst hwn; exact ho
          · refine hb w hw ?_
            have hn3 : n < 3 := by omega
            match n, hn3, w, hw, hwn, ht, hq with
            | 0, _, 0, _, hwn, _, _ => exact absurd rfl hwn
            | 0, _, 1, _, _, ht, hq => simp at hq ht ⊢; omega
            | 0, _, 2, _, _, ht, hq => simp at hq ht ⊢; omega
            | 1, _, 0, _, _, ht, hq => simp at hq ht ⊢; omega
            | 1, _, 1, _, hwn, _, _ => exact absurd rfl hwn
            | 1, _, 2, _, _, ht, hq => simp at hq ht ⊢; omega
            | 2, _, 0, _, _, ht, hq => simp at hq ht ⊢; omega
            | 2, _, 1, _, _, ht, hq => simp at hq ht ⊢; omega
            | 2, _, 2, _, hwn, _, _ => exact absurd rfl hwn
      · rw [if_neg ho] at h2
        simp only [Option.some.injEq] at h2
        subst h2
        rw [Nat.pow_succ]
        exact ⟨by omega, hb⟩
theorem ck_ok (hn : n ≤ 3) (ho : o < 8) : (ckN Z o n).getD 0 < 8 ∧ (∀ w, w < 3 → (ckN Z o n).getD 0 / 2 ^ w % 2 = 1 → o / 2 ^ w % 2 = 1) ∧ (0 < (ckN Z o n).getD 0 → (ckN Z o n).getD 0 ≤ o ∧ bc (o - (ckN Z o n).getD 0) + 1 ≤ bc o) := by
  cases h : ckN Z o n with
  | none => exact ⟨by simp, fun w _ q => by simp at q, fun q => absurd q (by simp)⟩
  | some s =>
    obtain ⟨h1, h3⟩ := ckN_key hn h
    have h2 : s < 8 := Nat.lt_of_lt_of_le h1 (Nat.pow_le_pow_right (by omega) hn)
    exact ⟨h2, h3, fun q => bc_sub o ho s h2 h3 q⟩
end CK
theorem ck_and : ∀ o, o < 8 → ∀ s, s < 8 → (∀ w, w < 3 → s / 2 ^ w % 2 = 1 → o / 2 ^ w % 2 = 1) → nI o &&& (nI s ^^^ (-1)) = nI (o - s) := by decide +kernel
/-- what a space says of a term that its way changes -/
def zok (I : gm_I) (J : gm_J) (wy q : Nat) (a b c : Int32) (z : zT) : Prop := ∃ ln n, I q 1 = nI ln ∧ ln ≤ 3 ∧ I q 3 = nI n ∧ n ≤ 32 ∧ (z.1 = true ↔ bndP J q ln n a b c) ∧ (z.2.1 = true ↔ impP J q ln n (a - wgt I wy 0 a b c) (b - wgt I wy 1 a b c) (c - wgt I wy 2 a b c) (nI 0 + cst I wy a b c)) ∧ (z.2.2 = true ↔ impP J q ln n (a - wgt I wy 0 a b c) (b - wgt I wy 1 a b c) (c - wgt I wy 2 a b c) (nI 1 + cst I wy a b c))
/-- what the k-th term takes of the open ways -/
def ckk (nm m : Nat) (Z : Int32 → Int32 → Int32 → Nat → zT) (o k : Nat) : Nat := if numB nm (tKa k) (tKb k) (tKc k) (nI 2) = true then (ckN (Z (tKa k) (tKb k) (tKc k)) o m).getD 0 else 0
theorem ckk_ok {nm m : Nat} {Z : Int32 → Int32 → Int32 → Nat → zT} {o k : Nat} (hm : m ≤ 3) (ho : o < 8) : ckk nm m Z o k < 8 ∧ (∀ w, w < 3 → ckk nm m Z o k / 2 ^ w % 2 = 1 → o / 2 ^ w % 2 = 1) ∧ (0 < ckk nm m Z o k → ckk nm m Z o k ≤ o ∧ bc (o - ckk nm m Z o k) + 1 ≤ bc o) := by
  unfold ckk
  split
  · exact ck_ok hm ho
  · exact ⟨by omega, fun w _ q => by simp at q, fun q => by omega⟩
theorem tK_int {k : Nat} (hk : k < 125) : (tKa k).toInt = (k / 25 : Nat) - (2 : Int) ∧ (tKb k).toInt = (k / 5 % 5 : Nat) - (2 : Int) ∧ (tKc k).toInt = (k % 5 : Nat) - (2 : Int) := by
  unfold tKa tKb tKc
  refine ⟨?_, ?_, ?_⟩
  · exact pk_sub_toInt (by omega) (by omega)
  · exact pk_sub_toInt (by omega) (by omega)
  · exact pk_sub_toInt (by omega) (by omega)
/-- the place of a term in the order -/
def tKx (a b c : Int32) : Nat := (25 * (a.toInt + 2) + 5 * (b.toInt + 2) + (c.toInt + 2)).toNat
theorem tKx_of {a b c : Int32} (ha : -2 ≤ a.toInt ∧ a.toInt ≤ 2) (hb : -2 ≤ b.toInt ∧ b.toInt ≤ 2) (hc : -2 ≤ c.toInt ∧ c.toInt ≤ 2) : tKx a b c < 125 ∧ ((tKx a b c : Nat) : Int) = 25 * (a.toInt + 2) + 5 * (b.toInt + 2) + (c.toInt + 2) ∧ tKa (tKx a b c) = a ∧ tKb (tKx a b c) = b ∧ tKc (tKx a b c) = c := by
  have h1 : ((tKx a b c : Nat) : Int) = 25 * (a.toInt + 2) + 5 * (b.toInt + 2) + (c.toInt + 2) := by unfold tKx; omega
  have h2 : tKx a b c < 125 := by omega
  obtain ⟨e1, e2, e3⟩ := tK_int h2
  refine ⟨h2, h1, Int32.toInt_inj.mp ?_, Int32.toInt_inj.mp ?_, Int32.toInt_inj.mp ?_⟩
  · rw [e1]; omega
  · rw [e2]; omega
  · rw [e3]; omega
/-- nothing is taken by the terms up to a place -/
def tz (T : Nat → Nat) (K : Int) : Prop := ∀ k : Nat, (k : Int) < K → k < 125 → T k = 0
section TZ
variable {nm m o gu gv : Nat} {Z : Int32 → Int32 → Int32 → Nat → zT} {a b c : Int}
theorem ckk_0 {k : Nat} (h : numB nm (tKa k) (tKb k) (tKc k) (nI 2) = false) : ckk nm m Z o k = 0 := by
  unfold ckk; rw [if_neg (by rw [h]; decide)]
theorem num_b {k : Nat} (hn : nm ≤ 1) (hk : k < 125) (h : ¬ k / 5 % 5 = 2) : numB nm (tKa k) (tKb k) (tKc k) (nI 2) = false := by
  cases e : numB nm (tKa k) (tKb k) (tKc k) (nI 2) with
  | false => rfl
  | true =>
    have q := (numB_int (m := 2) (by omega) e).2.2.2.2.1 (by omega)
    have r := (tK_int hk).2.1
    rw [q, show (0 : Int32).toInt = 0 from rfl] at r
    omega
theorem num_c {k : Nat} (hn : nm ≤ 2) (hk : k < 125) (h : ¬ k % 5 = 2) : numB nm (tKa k) (tKb k) (tKc k) (nI 2) = false := by
  cases e : numB nm (tKa k) (tKb k) (tKc k) (nI 2) with
  | false => rfl
  | true =>
    have q := (numB_int (m := 2) (by omega) e).2.2.2.2.2 (by omega)
    have r := (tK_int hk).2.2
    rw [q, show (0 : Int32).toInt = 0 from rfl] at r
    omega
theorem tz_0 {T : Nat → Nat} : tz T 0 := fun k h => by omega
theorem tz_b (h : tz (ckk nm m Z o) (25 * (a + 2))) (ha : -2 ≤ a) (hg : gu = if 1 < nm then 2 else 0) : tz (ckk nm m Z o) (25 * (a + 2) + 5 * (-(gu : Int) + 2)) := by
  intro k hk h125
  by_cases c : (k : Int) < 25 * (a + 2)
  · exact h k c h125
  · by_cases hn : 1 < nm
    · rw [if_pos hn] at hg; subst hg; omega
    · rw [if_neg hn] at hg; subst hg
      exact ckk_0 (num_b (by omega) h125 (by omega))
theorem tz_b2 (h : tz (ckk nm m Z o) (25 * (a + 2) + 5 * (b + 2))) (ha : -2 ≤ a) (hb : (gu : Int) < b) (hg : gu = if 1 < nm then 2 else 0) : tz (ckk nm m Z o) (25 * (a + 1 + 2)) := by
  intro k hk h125
  by_cases c : (k : Int) < 25 * (a + 2) + 5 * (b + 2)
  · exact h k c h125
  · by_cases hn : 1 < nm
    · rw [if_pos hn] at hg; subst hg; omega
    · rw [if_neg hn] at hg; subst hg
      exact ckk_0 (num_b (by omega) h125 (by omega))
theorem tz_c (h : tz (ckk nm m Z o) (25 * (a + 2) + 5 * (b + 2))) (ha : -2 ≤ a) (hb : -2 ≤ b) (hg : gv = if 2 < nm then 2 else 0) : tz (ckk nm m Z o) (25 * (a + 2) + 5 * (b + 2) + (-(gv : Int) + 2)) := by
  intro k hk h125
  by_cases c : (k : Int) < 25 * (a + 2) + 5 * (b + 2)
  · exact h k c h125
  · by_cases hn : 2 < nm
    · rw [if_pos hn] at hg; subst hg; omega
    · rw [if_neg hn] at hg; subst hg
      exact ckk_0 (num_c (by omega) h125 (by omega))
theorem tz_c2 (h : tz (ckk nm m Z o) (25 * (a + 2) + 5 * (b + 2) + (c + 2))) (ha : -2 ≤ a) (hb : -2 ≤ b) (hc : (gv : Int) < c) (hg : gv = if 2 < nm then 2 else 0) : tz (ckk nm m Z o) (25 * (a + 2) + 5 * (b + 1 + 2)) := by
  intro k hk h125
  by_cases e : (k : Int) < 25 * (a + 2) + 5 * (b + 2) + (c + 2)
  · exact h k e h125
  · by_cases hn : 2 < nm
    · rw [if_pos hn] at hg; subst hg; omega
    · rw [if_neg hn] at hg; subst hg
      exact ckk_0 (num_c (by omega) h125 (by omega))
theorem tz_on {T : Nat → Nat} {a b c : Int32} (h : tz T (25 * (a.toInt + 2) + 5 * (b.toInt + 2) + (c.toInt + 2))) (ha : -2 ≤ a.toInt ∧ a.toInt ≤ 2) (hb : -2 ≤ b.toInt ∧ b.toInt ≤ 2) (hc : -2 ≤ c.toInt ∧ c.toInt ≤ 2) (h0 : T (tKx a b c) = 0) : tz T (25 * (a.toInt + 2) + 5 * (b.toInt + 2) + (c.toInt + 1 + 2)) := by
  intro k hk h125
  by_cases e : (k : Int) < 25 * (a.toInt + 2) + 5 * (b.toInt + 2) + (c.toInt + 2)
  · exact h k e h125
  · have q := (tKx_of ha hb hc).2.1
    have : k = tKx a b c := by omega
    rw [this]; exact h0
end TZ
theorem fkN_of {T : Nat → Nat} {k : Nat} (hk : k < 125) (h0 : 0 < T k) (hz : ∀ i, i < k → T i = 0) : fkN T 125 0 = some k := by
  have key : ∀ d i, i + d = k → fkN T (125 - i) i = some k := by
    intro d
    induction d with
    | zero => intro i hi; rw [show 125 - i = (124 - i) + 1 by omega, show i = k by omega]; exact fkN_yes h0
    | succ d ih =>
      intro i hi
      rw [show 125 - i = (125 - (i + 1)) + 1 by omega, fkN_on (by rw [hz i (by omega)]; omega)]
      exact ih (i + 1) (by omega)
  exact key k 0 (by omega)
theorem fkN_no {T : Nat → Nat} (hz : ∀ i, i < 125 → T i = 0) : fkN T 125 0 = none := by
  have key : ∀ d i, i + d = 125 → fkN T d i = none := by
    intro d
    induction d with
    | zero => intro i _; rfl
    | succ d ih =>
      intro i hi
      rw [fkN_on (by rw [hz i (by omega)]; omega)]
      exact ih (i + 1) (by omega)
  exact key 125 0 (by omega)
/-- a term more, or none -/
def tmP (T : Nat → Nat) (f n : Nat) (I : gm_I) (J : gm_J) (x : Int32) (u : gm_M) : Prop := (x = 0 ∧ fkN T 125 0 = none ∧ u = (I, J)) ∨ (x = 1 ∧ ∃ k, k < 125 ∧ 0 < T k ∧ fkN T 125 0 = some k ∧ u = (gm_up (gm_up (lay4 I (f + 1) (4 * n) (tKa k) (tKb k) (tKc k) (nI (T k))) f 1 (nI (n + 1))) f 2 (I f 2 &&& (nI (T k) ^^^ (-1))), J))
theorem tm_no {T : Nat → Nat} {f n : Nat} {I : gm_I} {J : gm_J} {K : Int} (h : tz T K) (hK : 125 ≤ K) : tmP T f n I J 0 (I, J) := Or.inl ⟨rfl, fkN_no (fun i hi => h i (by omega) hi), rfl⟩
theorem tm_yes {nm m o f n tk : Nat} {Z : Int32 → Int32 → Int32 → Nat → zT} {I : gm_I} {J : gm_J} {a b c : Int32} {u : gm_M} (h : tz (ckk nm m Z o) (25 * (a.toInt + 2) + 5 * (b.toInt + 2) + (c.toInt + 2))) (ha : -2 ≤ a.toInt ∧ a.toInt ≤ 2) (hb : -2 ≤ b.toInt ∧ b.toInt ≤ 2) (hc : -2 ≤ c.toInt ∧ c.toInt ≤ 2) (hn : numB nm a b c (nI 2) = true) (et : tk = (ckN (Z a b c) o m).getD 0) (h0 : ¬ tk = 0) (hn3 : n < 3)
    (hu : (n = 3 ∧ u = (I, J)) ∨ (n < 3 ∧ u = (gm_up (gm_up (lay4 I (f + 1) (4 * n) a b c (nI tk)) f 1 (nI (n + 1))) f 2 (I f 2 &&& (nI tk ^^^ (-1))), J))) : tmP (ckk nm m Z o) f n I J 1 u := by
  obtain ⟨k1, k2, k3, k4, k5⟩ := tKx_of ha hb hc
  have eT : ckk nm m Z o (tKx a b c) = tk := by
    unfold ckk; rw [k3, k4, k5, if_pos hn, et]
  rcases hu with ⟨h3, _⟩ | ⟨_, e⟩
  · omega
  · refine Or.inr ⟨rfl, tKx a b c, k1, by omega, fkN_of k1 (by omega) (fun i hi => h i (by omega) (by omega)), ?_⟩
    rw [e, eT, k3, k4, k5]
theorem tz_skip {nm m o : Nat} {Z : Int32 → Int32 → Int32 → Nat → zT} {a b c : Int32} (ha : -2 ≤ a.toInt ∧ a.toInt ≤ 2) (hb : -2 ≤ b.toInt ∧ b.toInt ≤ 2) (hc : -2 ≤ c.toInt ∧ c.toInt ≤ 2) (h : numB nm a b c (nI 2) = false ∨ (ckN (Z a b c) o m).getD 0 = 0) : ckk nm m Z o (tKx a b c) = 0 := by
  obtain ⟨k1, k2, k3, k4, k5⟩ := tKx_of ha hb hc
  unfold ckk
  rw [k3, k4, k5]
  rcases h with h | h
  · rw [if_neg (by rw [h]; decide)]
  · split
    · exact h
    · rfl
theorem inI_mk {v : Int32} {m : Nat} (hm : m < 2 ^ 31) (h : -(m : Int) ≤ v.toInt ∧ v.toInt ≤ (m : Int)) : inI v (-(nI m)) (nI m) = true := by
  refine decide_eq_true ⟨?_, ?_⟩
  · rw [Int32.lt_iff_toInt_lt, sb_negT hm]; omega
  · rw [Int32.lt_iff_toInt_lt, nI_toInt hm]; omega
theorem num_mk {nm gu gv : Nat} {a b c : Int32} (ha : -2 ≤ a.toInt ∧ a.toInt ≤ 2) (hb : -(gu : Int) ≤ b.toInt ∧ b.toInt ≤ (gu : Int)) (hc : -(gv : Int) ≤ c.toInt ∧ c.toInt ≤ (gv : Int)) (hu : gu = if 1 < nm then 2 else 0) (hv : gv = if 2 < nm then 2 else 0) (h : ¬ (a = 0 ∧ b = 0 ∧ c = 0)) : numB nm a b c (nI 2) = true := by
  have u2 : gu ≤ 2 := by rw [hu]; split <;> omega
  have v2 : gv ≤ 2 := by rw [hv]; split <;> omega
  unfold numB
  simp only [Bool.and_eq_true, Bool.or_eq_true, Bool.not_eq_true', decide_eq_true_eq]
  refine ⟨⟨⟨⟨⟨inI_mk (by omega) (by omega), inI_mk (by omega) (by omega)⟩, inI_mk (by omega) (by omega)⟩, ?_⟩, ?_⟩, ?_⟩
  · cases e : (decide (a = 0) && decide (b = 0) && decide (c = 0)) with
    | false => rfl
    | true =>
      simp only [Bool.and_eq_true, decide_eq_true_eq] at e
      exact absurd ⟨e.1.1, e.1.2, e.2⟩ h
  · by_cases q : 1 < nm
    · exact Or.inr q
    · rw [if_neg q] at hu; subst hu
      exact Or.inl (Int32.toInt_inj.mp (show b.toInt = (0 : Int32).toInt by rw [show (0 : Int32).toInt = 0 from rfl]; omega))
  · by_cases q : 2 < nm
    · exact Or.inr q
    · rw [if_neg q] at hv; subst hv
      exact Or.inl (Int32.toInt_inj.mp (show c.toInt = (0 : Int32).toInt by rw [show (0 : Int32).toInt = 0 from rfl]; omega))
/-- in the midst of the search: the terms found so far, the ways left -/
def sS (T : Nat → Nat → Nat) (m f : Nat) (I I' : gm_I) (L : List (Nat × Nat)) (o fu : Nat) : Prop :=
  (∀ q, q ≠ f → q ≠ f + 1 → I' q = I q) ∧ I' f 0 = I f 0 ∧ I' f 1 = nI L.length ∧ I' f 2 = nI o ∧ I' (f + 1) = kA L 0 (I (f + 1)) ∧ o < 8 ∧ bc o + L.length ≤ 3 ∧ bc o < fu ∧ lbN T 4 (opN m) = (L ++ (lbN T fu o).1, (lbN T fu o).2)
theorem sS.start {T : Nat → Nat → Nat} {m f : Nat} {I : gm_I} (hm : m ≤ 3) : sS T m f I (gm_up (gm_up I f 1 (nI 0)) f 2 (nI (opN m))) [] (opN m) 4 := by
  have h1 := opN_lt m
  have h2 : 2 ^ m ≤ 2 ^ 3 := Nat.pow_le_pow_right (by omega) hm
  have h3 := bc_le (opN m) (by omega)
  refine ⟨fun q q1 q2 => ?_, ?_, ?_, gm_up_same _ _ _ _, ?_, by omega, by simp only [List.length_nil]; omega, by omega, rfl⟩
  · rw [gm_up_off _ _ _ q1, gm_up_off _ _ _ q1]
  · rw [gm_up_ne _ _ (by omega), gm_up_ne _ _ (by omega)]
  · rw [gm_up_ne _ _ (by omega), gm_up_same]; rfl
  · rw [gm_up_off _ _ _ (by omega), gm_up_off _ _ _ (by omega)]; rfl
theorem sS.step {T : Nat → Nat → Nat} {m f o fu k : Nat} {I I' : gm_I} {L : List (Nat × Nat)} (H : sS T m f I I' L o fu) (ho : ¬ o = 0) (hk : fkN (T o) 125 0 = some k) (h0 : 0 < T o k) (h8 : T o k < 8) (hs : ∀ w, w < 3 → T o k / 2 ^ w % 2 = 1 → o / 2 ^ w % 2 = 1) (hb : T o k ≤ o ∧ bc (o - T o k) + 1 ≤ bc o) :
    sS T m f I (gm_up (gm_up (lay4 I' (f + 1) (4 * L.length) (tKa k) (tKb k) (tKc k) (nI (T o k))) f 1 (nI (L.length + 1))) f 2 (I' f 2 &&& (nI (T o k) ^^^ (-1)))) (L ++ [(k, T o k)]) (o - T o k) (fu - 1) := by
  obtain ⟨h1, h2, h3, h4, h5, h6, h7, h9, h10⟩ := H
  have off : ∀ q, q ≠ f + 1 → lay4 I' (f + 1) (4 * L.length) (tKa k) (tKb k) (tKc k) (nI (T o k)) q = I' q := fun q hq => by
    unfold lay4; rw [gm_up_off _ _ _ hq, gm_up_off _ _ _ hq, gm_up_off _ _ _ hq, gm_up_off _ _ _ hq]
  refine ⟨fun q q1 q2 => ?_, ?_, ?_, ?_, ?_, by omega, ?_, by omega, ?_⟩
  · rw [gm_up_off _ _ _ q1, gm_up_off _ _ _ q1, off q q2]; exact h1 q q1 q2
  · rw [gm_up_ne _ _ (by omega), gm_up_ne _ _ (by omega), off f (by omega)]; exact h2
  · rw [gm_up_ne _ _ (by omega), gm_up_same, List.length_append]; rfl
  · rw [gm_up_same, h4]; exact ck_and o h6 _ h8 hs
  · rw [gm_up_off _ _ _ (by omega), gm_up_off _ _ _ (by omega), kA_snoc, Nat.zero_add, ← h5]
    unfold lay4
    rw [gm_up_i, gm_up_i, gm_up_i, gm_up_i]
    rfl
  · rw [List.length_append, List.length_singleton]; omega
  · rw [h10, show fu = (fu - 1) + 1 by omega, lbN_on ho hk]
    simp [List.append_assoc]
/-- the search's outcome -/
def seP (T : Nat → Nat → Nat) (m f : Nat) (I : gm_I) (J : gm_J) (u : gm_M) : Prop := offR f (f + 1) I u.1 J u.2 ∧ (lbN T 4 (opN m)).2 < 8 ∧ (lbN T 4 (opN m)).1.length ≤ 3 ∧ u.1 f 1 = nI (lbN T 4 (opN m)).1.length ∧ u.1 f 2 = nI (lbN T 4 (opN m)).2 ∧ u.1 (f + 1) = kA (lbN T 4 (opN m)).1 0 (I (f + 1))
theorem sS.fin {T : Nat → Nat → Nat} {m f o fu : Nat} {I I' : gm_I} {J : gm_J} {L : List (Nat × Nat)} (H : sS T m f I I' L o fu) (h : o = 0 ∨ L.length = 3 ∨ fkN (T o) 125 0 = none) : seP T m f I J (I', J) := by
  obtain ⟨h1, h2, h3, h4, h5, h6, h7, h9, h10⟩ := H
  have e : lbN T fu o = ([], o) := by
    rcases h with h | h | h
    · subst h; exact lbN_0
    · have := (bc_le o h6).2 (by omega)
      subst this; exact lbN_0
    · exact lbN_end h
  rw [e, List.append_nil] at h10
  unfold seP
  rw [h10]
  exact ⟨fun q hq => ⟨h1 q (by omega) (by omega), rfl⟩, h6, by show L.length ≤ 3; omega, h3, h4, h5⟩
theorem zok.off {I I' : gm_I} {J : gm_J} {wy q : Nat} {a b c : Int32} {z : zT} (h : zok I J wy q a b c z) (e1 : I' q = I q) (e2 : I' (wy + 3) = I (wy + 3)) (e3 : I' (wy + 4) = I (wy + 4)) : zok I' J wy q a b c z := by
  unfold zok wgt cst at *
  rw [e1, e2, e3]; exact h
theorem hiI {v : Int32} {m : Nat} (hm : m < 2 ^ 31) (h : nI m < v) : (m : Int) < v.toInt := by
  rw [Int32.lt_iff_toInt_lt, nI_toInt hm] at h; exact h
theorem num_0 {nm : Nat} : numB nm 0 0 0 (nI 2) = false := by
  cases e : numB nm 0 0 0 (nI 2) with
  | false => rfl
  | true => exact absurd ⟨rfl, rfl, rfl⟩ (numB_int (m := 2) (by omega) e).2.2.2.1
theorem tz_a0 {T : Nat → Nat} {x : Int32} (h : x.toInt = -2) : tz T (25 * (x.toInt + 2)) := by
  intro k hk; rw [h] at hk; omega
theorem op_pred (m : Nat) : 1 * 2 ^ m - 1 = opN m := by have := opN_lt m; omega
