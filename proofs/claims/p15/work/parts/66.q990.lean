-- A SPACE COPIED, AND WITH A ROW MORE
def cpJ (J J' : gm_J) (a b k : Nat) : Prop := (∀ p, p ≠ a → J' p = J p) ∧ ∀ i, i < k → J' a i = J b i
theorem cpJ.nil {J : gm_J} {a b : Nat} : cpJ J J a b 0 := ⟨fun _ _ => rfl, fun _ h => absurd h (Nat.not_lt_zero _)⟩
theorem cpJ.step {J J' : gm_J} {a b k : Nat} (H : cpJ J J' a b k) (hne : b ≠ a) : cpJ J (gm_up J' a k (J' b k)) a b (k + 1) := by
  refine ⟨fun p hp => (gm_up_off _ _ _ hp).trans (H.1 p hp), fun i hi => ?_⟩
  by_cases c : i = k
  · subst c; rw [gm_up_same, H.1 b hne]
  · rw [gm_up_ne _ _ (Or.inr c)]; exact H.2 i (by omega)
def cpI (I I' : gm_I) (a b k : Nat) : Prop := (∀ p, p ≠ a → I' p = I p) ∧ ∀ i, i < k → I' a i = I b i
theorem cpI.nil {I : gm_I} {a b : Nat} : cpI I I a b 0 := ⟨fun _ _ => rfl, fun _ h => absurd h (Nat.not_lt_zero _)⟩
theorem cpI.step {I I' : gm_I} {a b k : Nat} (H : cpI I I' a b k) (hne : b ≠ a) : cpI I (gm_up I' a k (I' b k)) a b (k + 1) := by
  refine ⟨fun p hp => (gm_up_off _ _ _ hp).trans (H.1 p hp), fun i hi => ?_⟩
  by_cases c : i = k
  · subst c; rw [gm_up_same, H.1 b hne]
  · rw [gm_up_ne _ _ (Or.inr c)]; exact H.2 i (by omega)
theorem cp_fin {I I1 I2 : gm_I} {J J1 J2 : gm_J} {q r k1 k2 k3 : Nat} {rows L R : List dd_V} (hd : r + 5 < q ∨ q + 5 < r) (hM : sp_M I J r rows L R) (e1 : I1 = gm_up (gm_up (gm_up I q 1 (nI L.length)) q 3 (nI R.length)) q 7 (nI (2 ^ rows.length))) (h1 : cpJ J J1 (q + 1) (r + 1) k1) (hk1 : 4 * L.length ≤ k1) (h2 : cpJ J1 J2 (q + 2) (r + 2) k2) (hk2 : 4 * R.length ≤ k2) (h3 : cpI I1 I2 (q + 3) (r + 3) k3) (hk3 : R.length ≤ k3) : offR q (q + 5) I I2 J J2 ∧ sp_M I2 J2 q rows L R := by
  obtain ⟨m1, m2, m3, m4, m5, m6⟩ := hM
  have eq : I2 q = I1 q := h3.1 q (by omega)
  refine ⟨fun p hp => ⟨?_, ?_⟩, ?_, ?_, ?_, fun i v hv => ?_, fun i v hv => ?_, fun i t ht => ?_⟩
  · rw [h3.1 p (by omega), e1, gm_up_off _ _ _ (by omega), gm_up_off _ _ _ (by omega), gm_up_off _ _ _ (by omega)]
  · rw [h2.1 p (by omega), h1.1 p (by omega)]
  · rw [eq, e1, gm_up_ne _ _ (by omega), gm_up_ne _ _ (by omega), gm_up_same]
  · rw [eq, e1, gm_up_ne _ _ (by omega), gm_up_same]
  · rw [eq, e1, gm_up_same]
  · have hl := sq_lt hv
    rw [sp_vec_off (h2.1 (q + 1) (by omega))]
    have e : sp_vec J1 (q + 1) (4 * i) = sp_vec J (r + 1) (4 * i) := by
      unfold sp_vec
      rw [h1.2 (4 * i) (by omega), h1.2 (4 * i + 1) (by omega), h1.2 (4 * i + 2) (by omega), h1.2 (4 * i + 3) (by omega)]
    rw [e]; exact m4 i v hv
  · have hl := sq_lt hv
    have e : sp_vec J2 (q + 2) (4 * i) = sp_vec J1 (r + 2) (4 * i) := by
      unfold sp_vec
      rw [h2.2 (4 * i) (by omega), h2.2 (4 * i + 1) (by omega), h2.2 (4 * i + 2) (by omega), h2.2 (4 * i + 3) (by omega)]
    rw [e, sp_vec_off (h1.1 (r + 2) (by omega))]; exact m5 i v hv
  · have hl := sq_lt ht
    rw [List.length_map] at hl
    rw [h3.2 i (by omega), e1, gm_up_ne _ _ (Or.inl (by omega)), gm_up_ne _ _ (Or.inl (by omega)), gm_up_ne _ _ (Or.inl (by omega))]
    exact m6 i t ht
theorem ns_step {B m k p : Nat} {A : List dd_V} {rs : Nat → List dd_V} {e : dd_V} {I I2 I3 : gm_I} {J J2 J3 : gm_J} (hS : ∀ w, w < m → sp_K I J (B + 180 + 12 * w) A (rs w)) (hN : ∀ w, w < k → sp_K I J (B + 186 + 12 * w) A (rs w ++ [e])) (hp : p = B + 186 + 12 * k) (h1 : offR p (p + 5) I I2 J J2) (h2 : skP p A (rs k ++ [e]) I2 J2 (I3, J3)) :
    (∀ w, w < m → sp_K I3 J3 (B + 180 + 12 * w) A (rs w)) ∧ ∀ w, w < k + 1 → sp_K I3 J3 (B + 186 + 12 * w) A (rs w ++ [e]) := by
  have off : ∀ q, (q < p ∨ p + 5 < q) → I3 q = I q ∧ J3 q = J q := fun q hq => ⟨(h2.1 q hq).1.trans (h1 q hq).1, (h2.1 q hq).2.trans (h1 q hq).2⟩
  refine ⟨fun w hw => (hS w hw).congr (fun a a1 a2 => off a (by omega)), fun w hw => ?_⟩
  by_cases c : w = k
  · subst c; rw [← hp]; exact h2.2
  · exact (hN w (by omega)).congr (fun a a1 a2 => off a (by omega))
/-- all ways say yes -/
def yN (Y : Nat → Bool) : Nat → Bool
  | 0 => true
  | w + 1 => yN Y w && Y w
theorem yN_f {Y : Nat → Bool} {w n : Nat} (h : Y w = false) (hw : w < n) : yN Y n = false := by
  induction n with
  | zero => omega
  | succ n ih =>
    simp only [yN]
    by_cases e : w = n
    · subst e; rw [h, Bool.and_false]
    · rw [ih (by omega), Bool.false_and]
/-- whether a row holds behind a way's change, in a space -/
def yok (I : gm_I) (J : gm_J) (wy q : Nat) (a b c d : Int32) (z : Bool) : Prop := ∃ ln n, I q 1 = nI ln ∧ ln ≤ 3 ∧ I q 3 = nI n ∧ n ≤ 32 ∧ (z = true ↔ impP J q ln n (wgt I wy 0 a b c) (wgt I wy 1 a b c) (wgt I wy 2 a b c) (d - cst I wy a b c))
-- A LESSER SPACE PROVES NO LESS: what the search leaves gets no more where the terms are more
theorem bt_sub (o : Nat) (ho : o < 8) (s : Nat) (hs : s < 8) (h : ∀ w, w < 3 → s / 2 ^ w % 2 = 1 → o / 2 ^ w % 2 = 1) (w : Nat) (hw : w < 3) : (o - s) / 2 ^ w % 2 = 1 ↔ o / 2 ^ w % 2 = 1 ∧ ¬ s / 2 ^ w % 2 = 1 := by
  have h0 : s / 1 % 2 = 1 → o / 1 % 2 = 1 := h 0 (by omega)
  have h1 : s / 2 % 2 = 1 → o / 2 % 2 = 1 := h 1 (by omega)
  have h2 : s / 4 % 2 = 1 → o / 4 % 2 = 1 := h 2 (by omega)
  match w, hw with
  | 0, _ => show (o - s) / 1 % 2 = 1 ↔ o / 1 % 2 = 1 ∧ ¬ s / 1 % 2 = 1; omega
  | 1, _ => show (o - s) / 2 % 2 = 1 ↔ o / 2 % 2 = 1 ∧ ¬ s / 2 % 2 = 1; omega
  | 2, _ => show (o - s) / 4 % 2 = 1 ↔ o / 4 % 2 = 1 ∧ ¬ s / 4 % 2 = 1; omega
theorem bt_0 : ∀ u, u < 8 → (∀ w, w < 3 → ¬ u / 2 ^ w % 2 = 1) → u = 0 := by decide +kernel
theorem bt_add : ∀ n, n < 3 → ∀ t, t < 2 ^ n → ∀ w, w < 3 → ((t + 1 * 2 ^ n) / 2 ^ w % 2 = 1 ↔ t / 2 ^ w % 2 = 1 ∨ w = n) := by decide +kernel
theorem bt_lt : ∀ n, n < 4 → ∀ t, t < 2 ^ n → ∀ w, w < 3 → t / 2 ^ w % 2 = 1 → w < n := by decide +kernel
section MONO
variable {Z Z' : Nat → zT} {o n s : Nat}
theorem ck_char (hn : n ≤ 3) (h : ckN Z o n = some s) : (∀ w, w < n → o / 2 ^ w % 2 = 1 → (Z w).2.1 = true) ∧ ∀ w, w < 3 → (s / 2 ^ w % 2 = 1 ↔ w < n ∧ o / 2 ^ w % 2 = 1 ∧ (Z w).1 = true ∧ (Z w).2.2 = true) := by
  induction n generalizing s with
  | zero =>
    simp only [ckN, Option.some.injEq] at h
    subst h
    exact ⟨fun w hw => by omega, fun w _ => ⟨fun q => by simp at q, fun q => by omega⟩⟩
  | succ n ih =>
    simp only [ckN] at h
    cases h1 : ckN Z o n with
    | none => rw [h1] at h; exact absurd h (by simp)
    | some t =>
      rw [h1] at h
      obtain ⟨i1, i2⟩ := ih (by omega) h1
      have ht := (ckN_key (by omega) h1).1
      have h2 : ckW (Z n) o n t = some s := h
      unfold ckW at h2
      by_cases ho : o / 2 ^ n % 2 = 1
      · rw [if_pos ho] at h2
        by_cases hs : (Z n).2.1 = true
        · rw [if_pos hs] at h2
          refine ⟨fun w hw q => ?_, fun w hw => ?_⟩
          · by_cases c : w = n
            · subst c; exact hs
            · exact i1 w (by omega) q
          · by_cases hb : (Z n).1 = true ∧ (Z n).2.2 = true
            · rw [if_pos hb] at h2
              have e := Option.some.inj h2
              rw [← e, bt_add n (by omega) t ht w hw]
              constructor
              · rintro (q | q)
                · have := (i2 w hw).mp q
                  exact ⟨by omega, this.2⟩
                · subst q; exact ⟨by omega, ho, hb⟩
              · rintro ⟨q1, q2, q3⟩
                by_cases c : w = n
                · exact Or.inr c
                · exact Or.inl ((i2 w hw).mpr ⟨by omega, q2, q3⟩)
            · rw [if_neg hb] at h2
              have e := Option.some.inj h2
              rw [← e, i2 w hw]
              constructor
              · rintro ⟨q1, q2⟩; exact ⟨by omega, q2⟩
              · rintro ⟨q1, q2, q3⟩
                by_cases c : w = n
                · subst c; exact absurd q3 hb
                · exact ⟨by omega, q2, q3⟩
        · rw [if_neg hs] at h2; cases h2
      · rw [if_neg ho] at h2
        have e := Option.some.inj h2
        refine ⟨fun w hw q => ?_, fun w hw => ?_⟩
        · by_cases c : w = n
          · subst c; exact absurd q ho
          · exact i1 w (by omega) q
        · rw [← e, i2 w hw]
          constructor
          · rintro ⟨q1, q2⟩; exact ⟨by omega, q2⟩
          · rintro ⟨q1, q2, q3⟩
            by_cases c : w = n
            · subst c; exact absurd q2 ho
            · exact ⟨by omega, q2, q3⟩
theorem ck_some (h : ∀ w, w < n → o / 2 ^ w % 2 = 1 → (Z w).2.1 = true) : ∃ s, ckN Z o n = some s := by
  induction n with
  | zero => exact ⟨0, rfl⟩
  | succ n ih =>
    obtain ⟨t, ht⟩ := ih (fun w hw => h w (by omega))
    have : ∃ s, ckW (Z n) o n t = some s := by
      unfold ckW
      by_cases ho : o / 2 ^ n % 2 = 1
      · rw [if_pos ho, if_pos (h n (by omega) ho)]
        split
        · exact ⟨_, rfl⟩
        · exact ⟨_, rfl⟩
      · rw [if_neg ho]; exact ⟨_, rfl⟩
    obtain ⟨s, hs⟩ := this
    exact ⟨s, ckN_on ht hs⟩
end MONO
theorem fkN_some {T : Nat → Nat} {k : Nat} : ∀ n i, fkN T n i = some k → 0 < T k ∧ i ≤ k ∧ k < i + n := by
  intro n
  induction n with
  | zero => intro i h; cases h
  | succ n ih =>
    intro i h
    simp only [fkN] at h
    split at h
    · have e := Option.some.inj h
      subst e
      exact ⟨by assumption, by omega, by omega⟩
    · have := ih (i + 1) h
      exact ⟨this.1, by omega, by omega⟩
theorem fkN_zero {T : Nat → Nat} : ∀ n i, fkN T n i = none → ∀ k, i ≤ k → k < i + n → T k = 0 := by
  intro n
  induction n with
  | zero => intro i _ k h1 h2; omega
  | succ n ih =>
    intro i h k h1 h2
    simp only [fkN] at h
    split at h
    · cases h
    · by_cases c : k = i
      · subst c; omega
      · exact ih (i + 1) h k (by omega) (by omega)
theorem lb_stuck {nm m : Nat} {Z : Int32 → Int32 → Int32 → Nat → zT} (hm : m ≤ 3) : ∀ f o, o < 8 → bc o < f → (lbN (ckk nm m Z) f o).2 < 8 ∧ ((lbN (ckk nm m Z) f o).2 = 0 ∨ fkN (ckk nm m Z (lbN (ckk nm m Z) f o).2) 125 0 = none) := by
  intro f
  induction f with
  | zero => intro o _ h; omega
  | succ f ih =>
    intro o ho hb
    simp only [lbN]
    by_cases h0 : o = 0
    · rw [if_pos h0]; exact ⟨ho, Or.inl h0⟩
    · rw [if_neg h0]
      cases e : fkN (ckk nm m Z o) 125 0 with
      | none => exact ⟨ho, Or.inr e⟩
      | some k =>
        obtain ⟨p, _, _⟩ := fkN_some 125 0 e
        obtain ⟨q1, q2⟩ := (ckk_ok (nm := nm) (Z := Z) (k := k) hm ho).2.2 p
        exact ih (o - ckk nm m Z o k) (by omega) (by omega)
theorem lb_mono {nm m : Nat} {Z Z' : Int32 → Int32 → Int32 → Nat → zT} (hm : m ≤ 3) (hZ : ∀ a b c, numB nm a b c (nI 2) = true → ∀ w, w < m → ((Z a b c w).1 = true → (Z' a b c w).1 = true) ∧ ((Z a b c w).2.1 = true → (Z' a b c w).2.1 = true) ∧ ((Z a b c w).2.2 = true → (Z' a b c w).2.2 = true))
    {o : Nat} (ho : o < 8) (h : (lbN (ckk nm m Z) 4 o).2 = 0) : (lbN (ckk nm m Z') 4 o).2 = 0 := by
  have hb := (bc_le o ho).1
  obtain ⟨u8, hu⟩ := lb_stuck (nm := nm) (Z := Z') hm 4 o ho (by omega)
  rcases hu with hu | hu
  · exact hu
  · generalize hU : (lbN (ckk nm m Z') 4 o).2 = U at u8 hu ⊢
    have stuck : ∀ k, k < 125 → ckk nm m Z' U k = 0 := fun k hk => fkN_zero 125 0 hu k (by omega) (by omega)
    have key : ∀ f o', o' < 8 → (∀ w, w < 3 → U / 2 ^ w % 2 = 1 → o' / 2 ^ w % 2 = 1) → ∀ w, w < 3 → U / 2 ^ w % 2 = 1 → (lbN (ckk nm m Z) f o').2 / 2 ^ w % 2 = 1 := by
      intro f
      induction f with
      | zero => intro o' _ hs; exact hs
      | succ f ih =>
        intro o' ho' hs
        simp only [lbN]
        by_cases h0 : o' = 0
        · rw [if_pos h0]; exact hs
        · rw [if_neg h0]
          cases e : fkN (ckk nm m Z o') 125 0 with
          | none => exact hs
          | some k =>
            obtain ⟨p, _, p3⟩ := fkN_some 125 0 e
            obtain ⟨c1, c2, c3⟩ := ckk_ok (nm := nm) (Z := Z) (k := k) hm ho'
            refine ih (o' - ckk nm m Z o' k) (by omega) (fun w hw q => ?_)
            refine (bt_sub o' ho' _ c1 c2 w hw).mpr ⟨hs w hw q, fun q2 => ?_⟩
            have st := stuck k (by omega)
            have hnum : numB nm (tKa k) (tKb k) (tKc k) (nI 2) = true := by
              cases e2 : numB nm (tKa k) (tKb k) (tKc k) (nI 2) with
              | true => rfl
              | false => rw [ckk_0 e2] at p; omega
            unfold ckk at st p q2
            rw [if_pos hnum] at st p q2
            cases e3 : ckN (Z (tKa k) (tKb k) (tKc k)) o' m with
            | none => rw [e3] at p; exact absurd p (by simp)
            | some s =>
              rw [e3] at q2
              obtain ⟨d1, d2⟩ := ck_char hm e3
              obtain ⟨g1, g2, g3, g4⟩ := (d2 w hw).mp q2
              obtain ⟨s', hs'⟩ := ck_some (Z := Z' (tKa k) (tKb k) (tKc k)) (o := U) (n := m) (fun w' hw' q' => (hZ _ _ _ hnum w' hw').2.1 (d1 w' hw' (hs w' (by omega) q')))
              have d3 := ((ck_char hm hs').2 w hw).mpr ⟨g1, q, (hZ _ _ _ hnum w g1).1 g3, (hZ _ _ _ hnum w g1).2.2 g4⟩
              rw [hs'] at st
              have st : s' = 0 := st
              subst st
              simp at d3
    have fin := key 4 o ho (fun w hw q => by
      have q1 := hU
      rcases Nat.lt_or_ge (o / 2 ^ w % 2) 1 with c | c
      · exfalso
        have sub : ∀ f o', o' < 8 → ∀ w, w < 3 → (lbN (ckk nm m Z') f o').2 / 2 ^ w % 2 = 1 → o' / 2 ^ w % 2 = 1 := by
          intro f
          induction f with
          | zero => intro o' _ w _ q; exact q
          | succ f ih =>
            intro o' ho' w hw q
            simp only [lbN] at q
            by_cases h0 : o' = 0
            · rw [if_pos h0] at q; exact q
            · rw [if_neg h0] at q
              cases e : fkN (ckk nm m Z' o') 125 0 with
              | none => rw [e] at q; exact q
              | some k =>
                rw [e] at q
                obtain ⟨c1, c2, c3⟩ := ckk_ok (nm := nm) (Z := Z') (k := k) hm ho'
                exact ((bt_sub o' ho' _ c1 c2 w hw).mp (ih (o' - ckk nm m Z' o' k) (by omega) w hw q)).1
        have := sub 4 o ho w hw (by rw [q1]; exact q)
        omega
      · omega)
    rw [h] at fin
    refine bt_0 U u8 (fun w hw q => ?_)
    have := fin w hw q
    simp at this
