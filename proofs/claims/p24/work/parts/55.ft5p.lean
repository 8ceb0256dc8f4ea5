theorem sw_out {x : Int32} (h0 : ¬ x = nI 0) (h1 : ¬ x = nI 1) (h2 : ¬ x = nI 2) : x.toInt < 0 ∨ 2 < x.toInt := by
  rcases Int.lt_or_le x.toInt 0 with h | h
  · exact Or.inl h
  · right
    rcases Int.lt_or_le 2 x.toInt with g | g
    · exact g
    · exfalso
      have e : ∀ k : Nat, k < 3 → x.toInt = (k : Int) → x = nI k := fun k hk e => Int32.toInt_inj.mp (by rw [e, nI_toInt (by omega)])
      have : x.toInt = 0 ∨ x.toInt = 1 ∨ x.toInt = 2 := by omega
      rcases this with e0 | e0 | e0
      · exact h0 (e 0 (by omega) e0)
      · exact h1 (e 1 (by omega) e0)
      · exact h2 (e 2 (by omega) e0)
theorem nI_or' : ∀ k, k < 3 → ∀ o, o < 2 ^ k → nI o ||| nI (1 * 2 ^ k) = nI (o + 1 * 2 ^ k) := by decide
theorem nI_or {o k : Nat} (hk : k < 3) (ho : o < 2 ^ k) : nI o ||| nI (1 * 2 ^ k) = nI (o + 1 * 2 ^ k) := nI_or' k hk o ho
theorem goB_f {v : V3} (h : nearB v.1 = false ∨ nearB v.2.1 = false ∨ nearB v.2.2 = false) : goB v = false := by
  unfold goB
  rcases h with h | h | h <;> rw [h] <;> simp
theorem goB_t {v : V3} (h1 : nearB v.1 = true) (h2 : nearB v.2.1 = true) (h3 : nearB v.2.2 = true) : goB v = true := by
  unfold goB
  rw [h1, h2, h3]; rfl
/-- a loop as it begins -/
def lbI (I : gm_I) (o : Nat) (v : Int32) : gm_I := gm_up (gm_up (gm_up I o 0 v) (o + 1) 2 (nI 0)) o 3 (nI 0)
def lbJ (J : gm_J) (o : Nat) : gm_J := gm_up (gm_up (gm_up J (o + 4) 0 0) (o + 4) 1 0) (o + 4) 2 0
theorem lbI_off (I : gm_I) {o q j : Nat} {v : Int32} (h : q < o ∨ o + 1 < q) : lbI I o v q j = I q j := by
  unfold lbI
  rw [gm_up_ne _ _ (by omega), gm_up_ne _ _ (by omega), gm_up_ne _ _ (by omega)]
/-- a way as it begins -/
def bgI (I : gm_I) (w : Nat) : gm_I := fun q j => if q = w + 1 ∧ j = 2 then nI 0 else if q = w + 4 ∧ j < 3 then nI 0 else if q = w + 3 ∧ j < 9 then (if j % 4 = 0 then nI 1 else nI 0) else I q j
theorem bgI_off (I : gm_I) {w q j : Nat} (h : q < w + 1 ∨ w + 4 < q) : bgI I w q j = I q j := by
  unfold bgI
  rw [if_neg (by omega), if_neg (by omega), if_neg (by omega)]
def gMt (I : gm_I) (o : Nat) (v : V3) : Bool := allMet I (o + 1 + 1) 0 (nN (I (o + 1) 2)) v.1 v.2.1 v.2.2
def wMt (I : gm_I) (p : Nat) (v : V3) : Bool := allMet I (p + 1 + 1) 0 (nN (I (p + 1) 2)) v.1 v.2.1 v.2.2
def cops (I : gm_I) (o : Nat) (v : V3) : Nat → Nat
  | 0 => 0
  | n + 1 => cops I o v n + if wMt I (o + 6 + 5 * n) v = true then 1 * 2 ^ n else 0
def copn (I : gm_I) (o : Nat) (v : V3) : Nat := if gMt I o v = true then cops I o v (nN (I o 3)) else 0
theorem cops_lt (I : gm_I) (o : Nat) (v : V3) (n : Nat) : cops I o v n < 2 ^ n := by
  induction n with
  | zero => simp [cops]
  | succ n ih =>
    simp only [cops]
    rw [Nat.pow_succ]
    split <;> omega
/-- the first open way from k on goes -/
def cwf (I : gm_I) (o : Nat) (v : V3) : Nat → Nat → Int32 × V3
  | 0, _ => (-1, v)
  | m + 1, k => if wMt I (o + 6 + 5 * k) v = true then (if goB (bh3 I (o + 6 + 5 * k) v) = true then (nI k, bh3 I (o + 6 + 5 * k) v) else (-5, v)) else cwf I o v m (k + 1)
def cw1 (I : gm_I) (o : Nat) (v : V3) : Int32 × V3 := if gMt I o v = true then cwf I o v (nN (I o 3)) 0 else (-1, v)
def adP (I : gm_I) (J : gm_J) (o t : Nat) (x : Int32) (u : gm_M) : Prop := ∃ J1, butJ (o + 5) J J1 ∧ x = (cw1 I o (get3 J t)).1 ∧ u = (I, set3 J1 t (cw1 I o (get3 J t)).2)
theorem set3_but {n t : Nat} {J J1 : gm_J} (h : butJ n J J1) (hne : t ≠ n) : set3 J1 t (get3 J t) = J1 := by
  have e : get3 J1 t = get3 J t := by unfold get3; rw [h t hne]
  rw [← e]; exact set3_id _ _
theorem cwf_yes {I : gm_I} {o m k : Nat} {v : V3} (h : wMt I (o + 6 + 5 * k) v = true) : cwf I o v (m + 1) k = if goB (bh3 I (o + 6 + 5 * k) v) = true then (nI k, bh3 I (o + 6 + 5 * k) v) else (-5, v) := by
  simp only [cwf]; rw [if_pos h]
theorem cwf_no {I : gm_I} {o m k : Nat} {v : V3} (h : wMt I (o + 6 + 5 * k) v = false) : cwf I o v (m + 1) k = cwf I o v m (k + 1) := by
  simp only [cwf]; rw [if_neg (by rw [h]; decide)]
theorem ad_no {I : gm_I} {J : gm_J} {o t : Nat} (h : cw1 I o (get3 J t) = (-1, get3 J t)) : adP I J o t (-1) (I, J) := by
  refine ⟨J, butJ.nil, ?_, ?_⟩
  · rw [h]
  · rw [h, set3_id]
theorem ad_yes {I : gm_I} {J : gm_J} {o t p k m : Nat} {x : Int32} {u : gm_M} (hp : p = o + 6 + 5 * k) (h : chP I J p t (o + 5) x u) (hm : cw1 I o (get3 J t) = cwf I o (get3 J t) (m + 1) k) (hw : wMt I p (get3 J t) = true) (hne : t ≠ o + 5) : (¬ x = 0 → adP I J o t (nI k) u) ∧ (x = 0 → adP I J o t (-5) u) := by
  subst hp
  rw [cwf_yes hw] at hm
  obtain ⟨J1, hb, h | h⟩ := h
  · obtain ⟨rfl, hg, rfl⟩ := h
    rw [if_pos hg] at hm
    refine ⟨fun _ => ⟨J1, hb, by rw [hm], by rw [hm]⟩, fun h => absurd h (by decide)⟩
  · obtain ⟨rfl, hg, rfl⟩ := h
    rw [if_neg (by rw [hg]; decide)] at hm
    refine ⟨fun h => absurd rfl h, fun _ => ⟨J1, hb, by rw [hm], ?_⟩⟩
    rw [hm, set3_but hb hne]
theorem bg_is (I : gm_I) (w : Nat) : gm_up (gm_up (gm_up (gm_up (gm_up (gm_up (gm_up (gm_up (gm_up (gm_up (gm_up (gm_up (gm_up I (w + 1) 2 (nI 0)) (w + 4) 0 (nI 0)) (w + 3) 0 (nI 1)) (w + 3) 1 (nI 0)) (w + 3) 2 (nI 0)) (w + 4) 1 (nI 0)) (w + 3) 3 (nI 0)) (w + 3) 4 (nI 1)) (w + 3) 5 (nI 0)) (w + 4) 2 (nI 0)) (w + 3) 6 (nI 0)) (w + 3) 7 (nI 0)) (w + 3) 8 (nI 1) = bgI I w := by
  funext q j
  by_cases h3 : q = w + 3
  · subst h3
    rcases j with _|_|_|_|_|_|_|_|_|j <;> simp [gm_up, bgI] <;> (intro h; omega)
  · by_cases h4 : q = w + 4
    · subst h4
      rcases j with _|_|_|j <;> simp [gm_up, bgI] <;> (intro h; omega)
    · simp [gm_up, bgI, h3, h4]
