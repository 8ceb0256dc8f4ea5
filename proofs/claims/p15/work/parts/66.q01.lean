-- SPACES IN MEMORY: lists of vectors, the cut
theorem sq_lt {α : Type} {X : List α} {i : Nat} {v : α} (h : X[i]? = some v) : i < X.length := (List.getElem?_eq_some_iff.mp h).1
theorem sq_get {α : Type} {X : List α} {i : Nat} (h : i < X.length) : ∃ v, X[i]? = some v := ⟨X[i], List.getElem?_eq_getElem h⟩
theorem sq_app {α : Type} {X : List α} {x v : α} {i : Nat} (h : (X ++ [x])[i]? = some v) : X[i]? = some v ∨ (i = X.length ∧ v = x) := by
  by_cases c : i < X.length
  · rw [List.getElem?_append_left c] at h; exact Or.inl h
  · rw [List.getElem?_append_right (by omega)] at h
    have hl : i - X.length < 1 := sq_lt h
    have e : i - X.length = 0 := by omega
    rw [e] at h
    have h' : some x = some v := h
    exact Or.inr ⟨by omega, (Option.some.inj h').symm⟩
theorem sq_map {α β : Type} {X : List α} {f : α → β} {w : β} {i : Nat} (h : (X.map f)[i]? = some w) : ∃ v, X[i]? = some v ∧ w = f v := by
  rw [List.getElem?_map] at h
  cases hX : X[i]? with
  | none => rw [hX] at h; cases h
  | some v =>
    rw [hX] at h
    have h' : some (f v) = some w := h
    exact ⟨v, rfl, (Option.some.inj h').symm⟩
theorem sq_inj {α : Type} {X : List α} (nd : X.Nodup) {i j : Nat} {v : α} (h1 : X[i]? = some v) (h2 : X[j]? = some v) : i = j := (List.getElem?_inj (sq_lt h1) nd).mp (h1.trans h2.symm)
def sp_L (J : gm_J) (a : Nat) (X : List dd_V) : Prop := ∀ i v, X[i]? = some v → sp_vec J a (4 * i) = v
def sp_T (I : gm_I) (a : Nat) (X : List Nat) : Prop := ∀ i t, X[i]? = some t → I a i = nI t
/-- a space in memory: rows so far, lines, rays -/
def sp_M (I : gm_I) (J : gm_J) (q : Nat) (rows L R : List dd_V) : Prop := I q 1 = nI L.length ∧ I q 3 = nI R.length ∧ I q 7 = nI (2 ^ rows.length) ∧ sp_L J (q + 1) L ∧ sp_L J (q + 2) R ∧ sp_T I (q + 3) (R.map (dd_mask rows))
/-- a row's vector -/
def rV (a b c d : Int32) : dd_V := (a.toInt, b.toInt, c.toInt, -d.toInt)
theorem sp_wor0 {x0 x1 x2 x3 : Int64} {a b c d : Int32} {A D : Int} (ha : -A ≤ a.toInt ∧ a.toInt ≤ A) (hb : -A ≤ b.toInt ∧ b.toInt ≤ A) (hc : -A ≤ c.toInt ∧ c.toInt ≤ A) (hd : -D ≤ d.toInt ∧ d.toInt ≤ D) (hA : A ≤ 40) (hD : D ≤ 5000) (hv : dd_bd (x0.toInt, x1.toInt, x2.toInt, x3.toInt)) :
    dd_R (a.toInt64 * x0 + b.toInt64 * x1 + c.toInt64 * x2) (a.toInt * x0.toInt + b.toInt * x1.toInt + c.toInt * x2.toInt) (A * 486000 + A * 486000 + A * 486000) ∧ dd_R (d.toInt64 * x3) (d.toInt * x3.toInt) (D * 4374) ∧ dd_R (a.toInt64 * x0 + b.toInt64 * x1 + c.toInt64 * x2 - d.toInt64 * x3) (dd_ev (rV a b c d) (x0.toInt, x1.toInt, x2.toInt, x3.toInt)) (A * 486000 + A * 486000 + A * 486000 + D * 4374) := by
  obtain ⟨v1, v2, v3, v4⟩ := hv
  have v1 : x0.toInt.natAbs ≤ 486000 := v1
  have v2 : x1.toInt.natAbs ≤ 486000 := v2
  have v3 : x2.toInt.natAbs ≤ 486000 := v3
  have v4 : x3.toInt.natAbs ≤ 4374 := v4
  have r0 : dd_R x0 x0.toInt 486000 := ⟨rfl, by omega, by omega⟩
  have r1 : dd_R x1 x1.toInt 486000 := ⟨rfl, by omega, by omega⟩
  have r2 : dd_R x2 x2.toInt 486000 := ⟨rfl, by omega, by omega⟩
  have r3 : dd_R x3 x3.toInt 4374 := ⟨rfl, by omega, by omega⟩
  have a0 : dd_R a.toInt64 a.toInt A := ⟨Int32.toInt_toInt64 a, ha⟩
  have b0 : dd_R b.toInt64 b.toInt A := ⟨Int32.toInt_toInt64 b, hb⟩
  have c0 : dd_R c.toInt64 c.toInt A := ⟨Int32.toInt_toInt64 c, hc⟩
  have d0 : dd_R d.toInt64 d.toInt D := ⟨Int32.toInt_toInt64 d, hd⟩
  have s := ((a0.mul r0 (by omega)).add (b0.mul r1 (by omega)) (by omega)).add (c0.mul r2 (by omega)) (by omega)
  have t := d0.mul r3 (by omega)
  have u := s.sub t (by omega)
  have e : dd_ev (rV a b c d) (x0.toInt, x1.toInt, x2.toInt, x3.toInt) = a.toInt * x0.toInt + b.toInt * x1.toInt + c.toInt * x2.toInt - d.toInt * x3.toInt := by
    show a.toInt * x0.toInt + b.toInt * x1.toInt + c.toInt * x2.toInt + -d.toInt * x3.toInt = _
    rw [Int.neg_mul]; omega
  exact ⟨s, t, by rw [e]; exact u⟩
theorem rV_sm {a b c d : Int32} (h : dd_sm (rV a b c d)) : (-9 ≤ a.toInt ∧ a.toInt ≤ 9) ∧ (-9 ≤ b.toInt ∧ b.toInt ≤ 9) ∧ (-9 ≤ c.toInt ∧ c.toInt ≤ 9) ∧ (-1000 ≤ d.toInt ∧ d.toInt ≤ 1000) := by
  obtain ⟨h1, h2, h3, h4⟩ := h
  have h4 : -1000 ≤ -d.toInt ∧ -d.toInt ≤ 1000 := h4
  exact ⟨h1, h2, h3, by omega, by omega⟩
theorem sp_wor {J : gm_J} {q i : Nat} {a b c d : Int32} {v : dd_V} (hs : dd_sm (rV a b c d)) (hv : sp_vec J (q + 2) (4 * i) = v) (hb : dd_bd v) : dd_R (wor J q i a b c d) (dd_ev (rV a b c d) v) 17496000 := by
  obtain ⟨h1, h2, h3, h4⟩ := rV_sm hs
  subst hv
  exact (sp_wor0 h1 h2 h3 h4 (by decide) (by decide) hb).2.2
theorem sp_rayH {J : gm_J} {q i : Nat} {a b c d : Int32} {A D : Int} {v : dd_V} (ha : -A ≤ a.toInt ∧ a.toInt ≤ A) (hb : -A ≤ b.toInt ∧ b.toInt ≤ A) (hc : -A ≤ c.toInt ∧ c.toInt ≤ A) (hd : -D ≤ d.toInt ∧ d.toInt ≤ D) (hA : A ≤ 40) (hD : D ≤ 5000) (hv : sp_vec J (q + 2) (4 * i) = v) (hbd : dd_bd v) : rayH J q i a b c d ↔ 0 ≤ dd_ev (rV a b c d) v := by
  subst hv
  obtain ⟨h1, h2, _⟩ := sp_wor0 ha hb hc hd hA hD hbd
  unfold rayH
  rw [h1.lt h2]
  have e : dd_ev (rV a b c d) (sp_vec J (q + 2) (4 * i)) = a.toInt * (J (q + 2) (4 * i)).toInt + b.toInt * (J (q + 2) (4 * i + 1)).toInt + c.toInt * (J (q + 2) (4 * i + 2)).toInt - d.toInt * (J (q + 2) (4 * i + 3)).toInt := by
    show a.toInt * (J (q + 2) (4 * i)).toInt + b.toInt * (J (q + 2) (4 * i + 1)).toInt + c.toInt * (J (q + 2) (4 * i + 2)).toInt + -d.toInt * (J (q + 2) (4 * i + 3)).toInt = _
    rw [Int.neg_mul]; omega
  rw [e]; omega
theorem sp_slo {J : gm_J} {q i : Nat} {a b c : Int32} {A : Int} {v : dd_V} (ha : -A ≤ a.toInt ∧ a.toInt ≤ A) (hb : -A ≤ b.toInt ∧ b.toInt ≤ A) (hc : -A ≤ c.toInt ∧ c.toInt ≤ A) (hA : A ≤ 40) (hv : sp_vec J (q + 1) (4 * i) = v) (hbd : dd_bd v) (h0 : v.2.2.2 = 0) (d : Int32) : dd_R (slo J q i a b c) (dd_ev (rV a b c d) v) (A * 486000 + A * 486000 + A * 486000) := by
  subst hv
  have h := (sp_wor0 (d := 0) (D := 0) ha hb hc ⟨by decide, by decide⟩ hA (by decide) hbd).1
  have e : dd_ev (rV a b c d) (sp_vec J (q + 1) (4 * i)) = a.toInt * (J (q + 1) (4 * i)).toInt + b.toInt * (J (q + 1) (4 * i + 1)).toInt + c.toInt * (J (q + 1) (4 * i + 2)).toInt := by
    have h0 : (J (q + 1) (4 * i + 3)).toInt = 0 := h0
    show a.toInt * (J (q + 1) (4 * i)).toInt + b.toInt * (J (q + 1) (4 * i + 1)).toInt + c.toInt * (J (q + 1) (4 * i + 2)).toInt + -d.toInt * (J (q + 1) (4 * i + 3)).toInt = _
    rw [h0, Int.mul_zero, Int.add_zero]
  rw [e]; exact h
-- the cut: by how much the row holds at each ray
def cA (J J' : gm_J) (q : Nat) (R : List dd_V) (h : dd_V) (k : Nat) : Prop := butJ (q + 4) J J' ∧ ∀ i v, i < k → R[i]? = some v → dd_R (J' (q + 4) i) (dd_ev h v) 17496000
theorem cA.nil {J : gm_J} {q : Nat} {R : List dd_V} {h : dd_V} : cA J J q R h 0 := ⟨butJ.nil, fun _ _ hi => absurd hi (Nat.not_lt_zero _)⟩
theorem cA.step {J J' : gm_J} {q k : Nat} {R : List dd_V} {a b c d : Int32} (hc : cA J J' q R (rV a b c d) k) (hR : sp_L J (q + 2) R) (bd : ∀ r ∈ R, dd_bd r) (hs : dd_sm (rV a b c d)) : cA J (gm_up J' (q + 4) k (wor J' q k a b c d)) q R (rV a b c d) (k + 1) := by
  refine ⟨hc.1.up, fun i v hi hv => ?_⟩
  by_cases e : i = k
  · subst e
    rw [gm_up_same]
    refine sp_wor hs ?_ (bd v (List.mem_of_getElem? hv))
    rw [sp_vec_off (hc.1 (q + 2) (by omega))]
    exact hR i v hv
  · rw [gm_up_ne _ _ (Or.inr e)]
    exact hc.2 i v (by omega) hv
/-- what the cut asks for of its rays -/
def dd_Ct (rows R : List dd_V) (h : dd_V) : Prop := (∀ r ∈ R, dd_bd r) ∧ R.Nodup ∧ (∀ a ∈ R, ∀ b ∈ R, 0 < dd_ev h a → dd_ev h b < 0 → dd_mask rows a &&& dd_mask rows b = dd_mask rows (dd_red (dd_comb h a b)) ∧ dd_ev h (dd_red (dd_comb h a b)) = 0) ∧ R.length + (dd_cutN rows R h).length ≤ 32 ∧ rows.length ≤ 7
theorem dd_Ct.nil {rows : List dd_V} {h : dd_V} (h7 : rows.length ≤ 7) : dd_Ct rows [] h := ⟨fun r hr => absurd hr (by simp), List.nodup_nil, fun a ha => absurd ha (by simp), by simp [dd_cutN], h7⟩
theorem dd_Sp.ct {A rows R : List dd_V} {LU : List (dd_V × dd_V)} (H : dd_Sp A rows LU R) {h : dd_V} (hs : dd_sm h) (h0 : h ≠ dd_0) (hL : ∀ a ∈ LU, dd_ev h a.1 = 0) (h7 : rows.length ≤ 7) : dd_Ct rows R h := by
  refine ⟨fun r hr => H.bdR hr, H.nd, fun a ha b hb ha0 hb0 => ⟨dd_mask_and (fun u hu => ?_), dd_red_z (dd_comb_h h a b)⟩, (H.cut hs h0 hL).2 h7, h7⟩
  exact (dd_red_0 (H.I.comb_ne ha hb ha0 hb0)).trans (dd_comb_0 ha0 hb0 (H.I.hR a ha u hu) (H.I.hR b hb u hu))
def dd_cutX (rows R : List dd_V) (h : dd_V) (i : Nat) : List dd_V := (R.take i).flatMap (dd_cutA rows R h)
def dd_cutP (rows R : List dd_V) (h a : dd_V) (j : Nat) : List dd_V := if 0 < dd_ev h a then ((R.take j).filter (fun b => decide (dd_ev h b < 0) && dd_nbB rows R a b)).map (fun b => dd_red (dd_comb h a b)) else []
section CutLists
variable {rows R : List dd_V} {h a b : dd_V} {i j : Nat}
theorem dd_cutX_0 : dd_cutX rows R h 0 = [] := by simp [dd_cutX]
theorem dd_cutX_n (hi : R.length ≤ i) : dd_cutX rows R h i = dd_cutN rows R h := by
  unfold dd_cutX dd_cutN; rw [List.take_of_length_le hi]
theorem dd_cutX_add (ha : R[i]? = some a) : dd_cutX rows R h (i + 1) = dd_cutX rows R h i ++ dd_cutA rows R h a := by
  unfold dd_cutX; rw [List.take_add_one, ha, List.flatMap_append]; simp
theorem dd_cutP_0 : dd_cutP rows R h a 0 = [] := by simp [dd_cutP]
theorem dd_cutP_no (h0 : ¬ 0 < dd_ev h a) : dd_cutP rows R h a j = dd_cutA rows R h a := by
  unfold dd_cutP dd_cutA; rw [if_neg h0, if_neg h0]
theorem dd_cutP_n (hj : R.length ≤ j) : dd_cutP rows R h a j = dd_cutA rows R h a := by
  unfold dd_cutP dd_cutA; rw [List.take_of_length_le hj]
theorem dd_cutP_skip (hb : R[j]? = some b) (h0 : ¬ dd_ev h b < 0 ∨ dd_nbB rows R a b = false) : dd_cutP rows R h a (j + 1) = dd_cutP rows R h a j := by
  unfold dd_cutP
  rw [List.take_add_one, hb, List.filter_append]
  have e : List.filter (fun b => decide (dd_ev h b < 0) && dd_nbB rows R a b) (some b).toList = [] := by
    show List.filter _ [b] = []
    rw [List.filter_cons]
    have : (decide (dd_ev h b < 0) && dd_nbB rows R a b) = false := by
      rcases h0 with h0 | h0
      · rw [decide_eq_false h0, Bool.false_and]
      · rw [h0, Bool.and_false]
    simp [this]
  rw [e, List.append_nil]
theorem dd_cutP_add (ha : 0 < dd_ev h a) (hb : R[j]? = some b) (h0 : dd_ev h b < 0) (h1 : dd_nbB rows R a b = true) : dd_cutP rows R h a (j + 1) = dd_cutP rows R h a j ++ [dd_red (dd_comb h a b)] := by
  unfold dd_cutP
  rw [if_pos ha, if_pos ha, List.take_add_one, hb, List.filter_append, List.map_append]
  have e : List.filter (fun b => decide (dd_ev h b < 0) && dd_nbB rows R a b) (some b).toList = [b] := by
    show List.filter _ [b] = [b]
    rw [List.filter_cons, if_pos (by rw [decide_eq_true h0, h1]; rfl)]; rfl
  rw [e]; rfl
theorem dd_cutP_len : (dd_cutP rows R h a j).length ≤ (dd_cutA rows R h a).length := by
  unfold dd_cutP dd_cutA
  split
  · rw [List.length_map, List.length_map]
    exact ((List.take_sublist j R).filter _).length_le
  · exact Nat.le_refl _
theorem dd_cutX_len (ha : R[i]? = some a) : (dd_cutX rows R h i).length + (dd_cutA rows R h a).length ≤ (dd_cutN rows R h).length := by
  have e : dd_cutN rows R h = dd_cutX rows R h (i + 1) ++ (R.drop (i + 1)).flatMap (dd_cutA rows R h) := by
    unfold dd_cutN dd_cutX; rw [← List.flatMap_append, List.take_append_drop]
  rw [e, dd_cutX_add ha, List.length_append, List.length_append]; omega
end CutLists
/-- in the midst of the cut: X is what came behind the rays so far -/
def cB (I I' : gm_I) (J J' : gm_J) (q : Nat) (rows R : List dd_V) (h : dd_V) (X : List dd_V) : Prop :=
  offR q (q + 5) I I' J J' ∧ I' q 1 = I q 1 ∧ I' q 7 = I q 7 ∧ J' (q + 1) = J (q + 1) ∧ I' q 3 = nI (R.length + X.length) ∧ (∀ i v, R[i]? = some v → dd_R (J' (q + 4) i) (dd_ev h v) 17496000) ∧ sp_L J' (q + 2) (R ++ X) ∧ sp_T I' (q + 3) (R.map (dd_mask rows) ++ X.map (dd_mask (rows ++ [h])))
theorem cB.start {I : gm_I} {J J' : gm_J} {q k : Nat} {rows L R : List dd_V} {h : dd_V} (hM : sp_M I J q rows L R) (hc : cA J J' q R h k) (hk : R.length ≤ k) : cB I I J J' q rows R h [] := by
  obtain ⟨h1, h2, h3, h4, h5, h6⟩ := hM
  refine ⟨fun p hp => ⟨rfl, hc.1 p (by omega)⟩, rfl, rfl, hc.1 (q + 1) (by omega), h2, fun i v hv => hc.2 i v (by have := sq_lt hv; omega) hv, ?_, ?_⟩
  · rw [List.append_nil]
    intro i v hv
    rw [sp_vec_off (hc.1 (q + 2) (by omega))]; exact h5 i v hv
  · rw [List.map_nil, List.append_nil]; exact h6
theorem sp_mask_l {rows : List dd_V} {v : dd_V} (h8 : rows.length ≤ 8) : dd_mask rows v < 256 := by
  have h1 := dd_mask_lt rows v
  have h2 : (2 : Nat) ^ rows.length ≤ 2 ^ 8 := Nat.pow_le_pow_right (by omega) h8
  omega
theorem cB.tight {I I' : gm_I} {J J' : gm_J} {q i : Nat} {rows R : List dd_V} {h v : dd_V} {X : List dd_V} (H : cB I I' J J' q rows R h X) (hv : R[i]? = some v) : I' (q + 3) i = nI (dd_mask rows v) := by
  refine H.2.2.2.2.2.2.2 i _ ?_
  rw [List.getElem?_append_left (by rw [List.length_map]; exact sq_lt hv), List.getElem?_map, hv]; rfl
theorem cB.ray {I I' : gm_I} {J J' : gm_J} {q i : Nat} {rows R : List dd_V} {h v : dd_V} {X : List dd_V} (H : cB I I' J J' q rows R h X) (hv : R[i]? = some v) : sp_vec J' (q + 2) (4 * i) = v := by
  refine H.2.2.2.2.2.2.1 i v ?_
  rw [List.getElem?_append_left (sq_lt hv)]; exact hv
theorem cB.nbr {I I' : gm_I} {J J' : gm_J} {q i j : Nat} {rows R : List dd_V} {h a b : dd_V} {X : List dd_V} (H : cB I I' J J' q rows R h X) (nd : R.Nodup) (h7 : rows.length ≤ 7) (ha : R[i]? = some a) (hb : R[j]? = some b) : nbrP I' q i j R.length ↔ dd_nbB rows R a b = true := by
  have m : ∀ v, dd_mask rows v < 256 := fun v => sp_mask_l (by omega)
  have key : ∀ k t, R[k]? = some t → (I' (q + 3) k &&& (I' (q + 3) i &&& I' (q + 3) j) = (I' (q + 3) i &&& I' (q + 3) j) ↔ dd_mask rows t &&& (dd_mask rows a &&& dd_mask rows b) = dd_mask rows a &&& dd_mask rows b) := by
    intro k t ht
    rw [H.tight ht, H.tight ha, H.tight hb, sp_and, sp_and]
    have l1 : dd_mask rows a &&& dd_mask rows b ≤ dd_mask rows a := Nat.and_le_left
    have l2 : dd_mask rows t &&& (dd_mask rows a &&& dd_mask rows b) ≤ dd_mask rows t := Nat.and_le_left
    have m1 := m a
    have m2 := m t
    exact nI_eq (by omega) (by omega)
  unfold dd_nbB
  simp only [List.all_eq_true, Bool.or_eq_true, beq_iff_eq, Bool.not_eq_true']
  constructor
  · intro hn t ht
    obtain ⟨k, hk⟩ := List.getElem?_of_mem ht
    by_cases c1 : k = i
    · subst c1; rw [ha] at hk; exact Or.inl (Or.inl (Option.some.inj hk).symm)
    · by_cases c2 : k = j
      · subst c2; rw [hb] at hk; exact Or.inl (Or.inr (Option.some.inj hk).symm)
      · refine Or.inr ?_
        rw [beq_eq_false_iff_ne]
        exact fun e => hn k (sq_lt hk) c1 c2 ((key k t hk).mpr e)
  · intro hn k hk c1 c2 e
    obtain ⟨t, ht⟩ := sq_get hk
    rcases hn t (List.mem_of_getElem? ht) with (q1 | q1) | q1
    · subst q1; exact c1 (sq_inj nd ht ha)
    · subst q1; exact c2 (sq_inj nd ht hb)
    · rw [beq_eq_false_iff_ne] at q1
      exact q1 ((key k t ht).mp e)
theorem sp_ap {q n : Nat} {t : Int32} {tt : Nat} {I : gm_I} {J : gm_J} {u : gm_M} {Z : List dd_V} {T : List Nat} {p : dd_V} (ha : apP q n t I J u) (hn : n < 32) (hZ : Z.length = n) (hT : T.length = n) (hL : sp_L J (q + 2) Z) (hI : sp_T I (q + 3) T) (hp : sp_vec J (q + 5) 0 = p) (ht : t = nI tt) :
    u.1 q 3 = nI (n + 1) ∧ sp_L u.2 (q + 2) (Z ++ [p]) ∧ sp_T u.1 (q + 3) (T ++ [tt]) ∧ (∀ a, a ≠ q → a ≠ q + 3 → u.1 a = I a) ∧ (∀ k, k ≠ 3 → u.1 q k = I q k) ∧ (∀ a, a ≠ q + 2 → u.2 a = J a) := by
  rcases ha with ⟨h32, _⟩ | ⟨_, e⟩
  · omega
  · subst e
    refine ⟨gm_up_same _ _ _ _, ?_, ?_, ?_, ?_, ?_⟩
    · show sp_L (sp_up4 J (q + 2) (4 * n) (J (q + 5) 0) (J (q + 5) 1) (J (q + 5) 2) (J (q + 5) 3)) (q + 2) (Z ++ [p])
      intro i v hv
      rcases sq_app hv with h | ⟨e, h⟩
      · have hl := sq_lt h
        rw [sp_vec_in (J := J) (fun k h1 h2 => sp_up4_in (by omega))]
        exact hL i v h
      · rw [e, hZ, sp_up4_vec, h, ← hp]; rfl
    · intro i x hx
      show gm_up (gm_up I (q + 3) n t) q 3 (nI (n + 1)) (q + 3) i = nI x
      rw [gm_up_ne _ _ (Or.inl (by omega))]
      rcases sq_app hx with h | ⟨e, h⟩
      · have hl := sq_lt h
        rw [gm_up_ne _ _ (Or.inr (by omega))]; exact hI i x h
      · rw [e, hT, gm_up_same, ht, h]
    · intro a h1 h2
      show gm_up (gm_up I (q + 3) n t) q 3 (nI (n + 1)) a = I a
      rw [gm_up_off _ _ _ h1, gm_up_off _ _ _ h2]
    · intro k hk
      show gm_up (gm_up I (q + 3) n t) q 3 (nI (n + 1)) q k = I q k
      rw [gm_up_ne _ _ (Or.inr hk), gm_up_ne _ _ (Or.inl (by omega))]
    · intro a h1
      show sp_up4 J (q + 2) (4 * n) (J (q + 5) 0) (J (q + 5) 1) (J (q + 5) 2) (J (q + 5) 3) a = J a
      exact sp_up4_off h1
theorem cB.add {I I' : gm_I} {J J' : gm_J} {q i j : Nat} {rows R : List dd_V} {h a b : dd_V} {X : List dd_V} {u : gm_M} (H : cB I I' J J' q rows R h X) (hC : dd_Ct rows R h) (hbit : I q 7 = nI (2 ^ rows.length)) (hn : R.length + X.length < 32) (ha : R[i]? = some a) (hb : R[j]? = some b) (ha0 : 0 < dd_ev h a) (hb0 : dd_ev h b < 0)
    (hu : btP I' J' q i j (R.length + X.length) (dd_ev h a) (dd_ev h b) u) : cB I u.1 J u.2 q rows R h (X ++ [dd_red (dd_comb h a b)]) := by
  obtain ⟨J1, o1, v1, hap⟩ := hu
  obtain ⟨H1, H2, H3, H4, H5, H6, H7, H8⟩ := id H
  have hv : sp_vec J1 (q + 5) 0 = dd_red (dd_comb h a b) := by rw [v1, H.ray ha, H.ray hb]; rfl
  obtain ⟨k1, k2⟩ := hC.2.2.1 a (List.mem_of_getElem? ha) b (List.mem_of_getElem? hb) ha0 hb0
  have ht : I' (q + 3) i &&& I' (q + 3) j ||| I' q 7 = nI (dd_mask (rows ++ [h]) (dd_red (dd_comb h a b))) := by
    rw [H.tight ha, H.tight hb, H3, hbit, sp_and, k1, sp_orp (dd_mask_lt _ _), dd_mask_app, if_pos k2]
  have r := sp_ap (Z := R ++ X) (T := R.map (dd_mask rows) ++ X.map (dd_mask (rows ++ [h]))) (p := dd_red (dd_comb h a b)) hap hn List.length_append (by rw [List.length_append, List.length_map, List.length_map]) (fun m v hm => by rw [sp_vec_off (o1 (q + 2) (by omega))]; exact H7 m v hm) H8 hv ht
  obtain ⟨r1, r2, r3, r4, r5, r6⟩ := r
  refine ⟨fun p hp => ⟨(r4 p (by omega) (by omega)).trans (H1 p hp).1, (r6 p (by omega)).trans ((o1 p (by omega)).trans (H1 p hp).2)⟩, (r5 1 (by omega)).trans H2, (r5 7 (by omega)).trans H3, (r6 (q + 1) (by omega)).trans ((o1 (q + 1) (by omega)).trans H4), ?_, fun m v hm => ?_, ?_, ?_⟩
  · rw [r1, List.length_append]; rfl
  · rw [r6 (q + 4) (by omega), o1 (q + 4) (by omega)]; exact H6 m v hm
  · rw [← List.append_assoc]; exact r2
  · rw [List.map_append, ← List.append_assoc]; exact r3
-- what is kept behind the cut
def dd_kp (n : Nat) (Z : List dd_V) (h : dd_V) : Nat → List dd_V
  | 0 => []
  | i + 1 => match Z[i]? with
    | some v => if i < n ∧ dd_ev h v < 0 then dd_kp n Z h i else dd_kp n Z h i ++ [v]
    | none => dd_kp n Z h i
section Kept
variable {n i : Nat} {Z R X : List dd_V} {h v : dd_V}
theorem dd_kp_drop (hv : Z[i]? = some v) (hi : i < n) (h0 : dd_ev h v < 0) : dd_kp n Z h (i + 1) = dd_kp n Z h i := by
  simp only [dd_kp, hv, if_pos (show i < n ∧ dd_ev h v < 0 from ⟨hi, h0⟩)]
theorem dd_kp_keep (hv : Z[i]? = some v) (h0 : ¬ (i < n ∧ dd_ev h v < 0)) : dd_kp n Z h (i + 1) = dd_kp n Z h i ++ [v] := by
  simp only [dd_kp, hv, if_neg h0]
theorem dd_kp_len (n : Nat) (Z : List dd_V) (h : dd_V) (i : Nat) : (dd_kp n Z h i).length ≤ i := by
  induction i with
  | zero => exact Nat.le_refl 0
  | succ i ih =>
    unfold dd_kp
    split
    · split
      · omega
      · rw [List.length_append, List.length_singleton]; omega
    · omega
theorem dd_kp_1 (hi : i ≤ R.length) : dd_kp R.length (R ++ X) h i = (R.take i).filter (fun v => decide (0 ≤ dd_ev h v)) := by
  induction i with
  | zero => simp [dd_kp]
  | succ i ih =>
    obtain ⟨v, hv⟩ := sq_get (X := R) (i := i) (by omega)
    have hz : (R ++ X)[i]? = some v := by rw [List.getElem?_append_left (by omega)]; exact hv
    rw [List.take_add_one, hv, List.filter_append]
    by_cases c : dd_ev h v < 0
    · rw [dd_kp_drop hz (by omega) c, ih (by omega)]
      show _ = _ ++ List.filter _ [v]
      rw [List.filter_cons, if_neg (by simp; omega)]; simp
    · rw [dd_kp_keep hz (fun q => c q.2), ih (by omega)]
      show _ = _ ++ List.filter _ [v]
      rw [List.filter_cons, if_pos (by simp; omega)]; simp
theorem dd_kp_2 (m : Nat) (hm : m ≤ X.length) : dd_kp R.length (R ++ X) h (R.length + m) = R.filter (fun v => decide (0 ≤ dd_ev h v)) ++ X.take m := by
  induction m with
  | zero => rw [Nat.add_zero, dd_kp_1 (Nat.le_refl _), List.take_length]; simp
  | succ m ih =>
    obtain ⟨v, hv⟩ := sq_get (X := X) (i := m) (by omega)
    have hz : (R ++ X)[R.length + m]? = some v := by
      rw [List.getElem?_append_right (by omega), show R.length + m - R.length = m by omega]; exact hv
    rw [← Nat.add_assoc, dd_kp_keep hz (by omega), ih (by omega), List.take_add_one, hv, List.append_assoc]; rfl
end Kept
theorem dd_kp_all (rows R : List dd_V) (h : dd_V) : dd_kp R.length (R ++ dd_cutN rows R h) h (R.length + (dd_cutN rows R h).length) = dd_cutR rows R h := by
  rw [dd_kp_2 _ (Nat.le_refl _), List.take_length]; rfl
/-- in the midst of the dropping -/
def dP (I I' : gm_I) (J J' : gm_J) (q n : Nat) (Z rows : List dd_V) (h : dd_V) (kp i : Nat) : Prop :=
  kp = (dd_kp n Z h i).length ∧ (∀ p, p ≠ q + 3 → I' p = I p) ∧ (∀ p, p ≠ q + 2 → J' p = J p) ∧ sp_L J' (q + 2) (dd_kp n Z h i) ∧ sp_T I' (q + 3) ((dd_kp n Z h i).map (dd_mask (rows ++ [h]))) ∧ (∀ m, i ≤ m → I' (q + 3) m = I (q + 3) m) ∧ (∀ m, 4 * i ≤ m → J' (q + 2) m = J (q + 2) m)
theorem dP.nil {I : gm_I} {J : gm_J} {q n : Nat} {Z rows : List dd_V} {h : dd_V} : dP I I J J q n Z rows h 0 0 :=
  ⟨rfl, fun _ _ => rfl, fun _ _ => rfl, fun i v hv => absurd hv (by simp [dd_kp]), fun i v hv => absurd hv (by simp [dd_kp]), fun _ _ => rfl, fun _ _ => rfl⟩
section DP
variable {I I' : gm_I} {J J' : gm_J} {q n kp i : Nat} {Z rows : List dd_V} {h v : dd_V}
theorem dP.le (H : dP I I' J J' q n Z rows h kp i) : kp ≤ i := by rw [H.1]; exact dd_kp_len n Z h i
theorem dP.drop (H : dP I I' J J' q n Z rows h kp i) (hv : Z[i]? = some v) (hi : i < n) (h0 : dd_ev h v < 0) : dP I I' J J' q n Z rows h kp (i + 1) := by
  obtain ⟨h1, h2, h3, h4, h5, h6, h7⟩ := H
  unfold dP
  rw [dd_kp_drop hv hi h0]
  exact ⟨h1, h2, h3, h4, h5, fun m hm => h6 m (by omega), fun m hm => h7 m (by omega)⟩
theorem dP.keep (H : dP I I' J J' q n Z rows h kp i) (hZ : sp_L J (q + 2) Z) (hv : Z[i]? = some v) (h0 : ¬ (i < n ∧ dd_ev h v < 0)) {t : Int32} (ht : t = nI (dd_mask (rows ++ [h]) v)) :
    dP I (gm_up I' (q + 3) kp t) J (sp_up4 J' (q + 2) (4 * kp) (J' (q + 2) (4 * i)) (J' (q + 2) (4 * i + 1)) (J' (q + 2) (4 * i + 2)) (J' (q + 2) (4 * i + 3))) q n Z rows h (kp + 1) (i + 1) := by
  have hle := H.le
  obtain ⟨h1, h2, h3, h4, h5, h6, h7⟩ := H
  have ev : sp_vec J' (q + 2) (4 * i) = v := by
    rw [sp_vec_in (J := J) (fun k hk _ => h7 k hk)]; exact hZ i v hv
  unfold dP
  rw [dd_kp_keep hv h0]
  refine ⟨by rw [List.length_append, ← h1]; rfl, fun p hp => ?_, fun p hp => ?_, fun m w hm => ?_, fun m w hm => ?_, fun m hm => ?_, fun m hm => ?_⟩
  · rw [gm_up_off _ _ _ hp]; exact h2 p hp
  · rw [sp_up4_off hp]; exact h3 p hp
  · rcases sq_app hm with e | ⟨e, e2⟩
    · have hl := sq_lt e
      rw [sp_vec_in (J := J') (fun k k1 k2 => sp_up4_in (by omega))]; exact h4 m w e
    · rw [e, ← h1, sp_up4_vec, e2, ← ev]; rfl
  · rw [List.map_append] at hm
    rcases sq_app hm with e | ⟨e, e2⟩
    · have hl := sq_lt e
      rw [List.length_map, ← h1] at hl
      rw [gm_up_ne _ _ (Or.inr (by omega))]; exact h5 m w e
    · rw [e, List.length_map, ← h1, gm_up_same, ht, e2]
  · rw [gm_up_ne _ _ (Or.inr (by omega))]; exact h6 m (by omega)
  · rw [sp_up4_in (by omega)]; exact h7 m (by omega)
end DP
/-- what the rays are behind the dropping -/
def drP (I : gm_I) (J : gm_J) (q n m : Nat) (Z rows : List dd_V) (h : dd_V) (u : gm_M) : Prop :=
  u.1 q 3 = nI (dd_kp n Z h m).length ∧ sp_L u.2 (q + 2) (dd_kp n Z h m) ∧ sp_T u.1 (q + 3) ((dd_kp n Z h m).map (dd_mask (rows ++ [h]))) ∧ (∀ p, p ≠ q → p ≠ q + 3 → u.1 p = I p) ∧ (∀ k, k ≠ 3 → u.1 q k = I q k) ∧ (∀ p, p ≠ q + 2 → u.2 p = J p)
theorem dP.fin {I I' : gm_I} {J J' : gm_J} {q n kp i m : Nat} {Z rows : List dd_V} {h : dd_V} (H : dP I I' J J' q n Z rows h kp i) (hi : i = m) : drP I J q n m Z rows h (gm_up I' q 3 (nI kp), J') := by
  subst hi
  obtain ⟨h1, h2, h3, h4, h5, h6, h7⟩ := H
  refine ⟨by rw [← h1]; exact gm_up_same _ _ _ _, h4, fun k t hk => ?_, fun p p1 p2 => ?_, fun k hk => ?_, h3⟩
  · show gm_up I' q 3 (nI kp) (q + 3) k = nI t
    rw [gm_up_ne _ _ (Or.inl (by omega))]; exact h5 k t hk
  · show gm_up I' q 3 (nI kp) p = I p
    rw [gm_up_off _ _ _ p1]; exact h2 p p2
  · show gm_up I' q 3 (nI kp) q k = I q k
    rw [gm_up_ne _ _ (Or.inr hk), h2 q (by omega)]
theorem sp_kt {rows : List dd_V} {h v : dd_V} {s : Int64} {B : Int} (hs : dd_R s (dd_ev h v) B) : (s = 0 → nI (dd_mask rows v) ||| nI (2 ^ rows.length) = nI (dd_mask (rows ++ [h]) v)) ∧ (¬ s = 0 → nI (dd_mask rows v) = nI (dd_mask (rows ++ [h]) v)) := by
  constructor
  · intro e
    rw [sp_orp (dd_mask_lt _ _), dd_mask_app, if_pos (hs.eq0.mp e)]
  · intro e
    rw [dd_mask_app, if_neg (fun q => e (hs.eq0.mpr q)), Nat.add_zero]
/-- the cut's outcome -/
def cuP (I : gm_I) (J : gm_J) (q : Nat) (rows R : List dd_V) (h : dd_V) (u : gm_M) : Prop :=
  offR q (q + 5) I u.1 J u.2 ∧ u.1 q 1 = I q 1 ∧ u.1 q 7 = I q 7 ∧ u.2 (q + 1) = J (q + 1) ∧ u.1 q 3 = nI (dd_cutR rows R h).length ∧ sp_L u.2 (q + 2) (dd_cutR rows R h) ∧ sp_T u.1 (q + 3) ((dd_cutR rows R h).map (dd_mask (rows ++ [h])))
theorem cB.fin {I I' : gm_I} {J J' : gm_J} {q n m : Nat} {rows R : List dd_V} {h : dd_V} {u : gm_M} (H : cB I I' J J' q rows R h (dd_cutN rows R h)) (hu : drP I' J' q n m (R ++ dd_cutN rows R h) rows h u) (hn : n = R.length) (hm : m = R.length + (dd_cutN rows R h).length) : cuP I J q rows R h u := by
  subst hn hm
  obtain ⟨H1, H2, H3, H4, _, _, _, _⟩ := H
  unfold drP at hu
  rw [dd_kp_all] at hu
  obtain ⟨r1, r2, r3, r4, r5, r6⟩ := hu
  exact ⟨fun p hp => ⟨(r4 p (by omega) (by omega)).trans (H1 p hp).1, (r6 p (by omega)).trans (H1 p hp).2⟩, (r5 1 (by omega)).trans H2, (r5 7 (by omega)).trans H3, (r6 (q + 1) (by omega)).trans H4, r1, r2, r3⟩
theorem bz_f {z : Bool} {P : Prop} (h : z = true ↔ P) (hz : z = false) : ¬ P := fun p => by rw [h.mpr p] at hz; cases hz
section CutSteps
variable {I I' : gm_I} {J J' : gm_J} {q i j : Nat} {rows R : List dd_V} {h a b : dd_V}
theorem cB.next (H : cB I I' J J' q rows R h (dd_cutX rows R h i ++ dd_cutP rows R h a j)) (ha : R[i]? = some a) (hx : ¬ 0 < J' (q + 4) i ∨ R.length ≤ j) : cB I I' J J' q rows R h (dd_cutX rows R h (i + 1)) := by
  rw [dd_cutX_add ha]
  rcases hx with hx | hx
  · rw [dd_cutP_no (fun p => hx ((H.2.2.2.2.2.1 i a ha).pos.mpr p))] at H; exact H
  · rw [dd_cutP_n hx] at H; exact H
theorem cB.skip {X : List dd_V} (H : cB I I' J J' q rows R h (X ++ dd_cutP rows R h a j)) (hC : dd_Ct rows R h) (ha : R[i]? = some a) (hj : j < R.length) (hx : ¬ J' (q + 4) j < 0 ∨ ¬ nbrP I' q i j R.length) : cB I I' J J' q rows R h (X ++ dd_cutP rows R h a (j + 1)) := by
  obtain ⟨b, hb⟩ := sq_get hj
  rw [dd_cutP_skip hb]
  · exact H
  · rcases hx with hx | hx
    · exact Or.inl (fun p => hx ((H.2.2.2.2.2.1 j b hb).neg'.mpr p))
    · refine Or.inr ?_
      cases e : dd_nbB rows R a b with
      | false => rfl
      | true => exact absurd ((H.nbr hC.2.1 hC.2.2.2.2 ha hb).mpr e) hx
theorem cB.room (hC : dd_Ct rows R h) (ha : R[i]? = some a) (hb : R[j]? = some b) (ha0 : 0 < dd_ev h a) (hb0 : dd_ev h b < 0) (hnb : dd_nbB rows R a b = true) : R.length + (dd_cutX rows R h i ++ dd_cutP rows R h a j).length < 32 := by
  have h1 := hC.2.2.2.1
  have h2 := dd_cutX_len (rows := rows) (h := h) ha
  have h3 := dd_cutP_len (rows := rows) (R := R) (h := h) (a := a) (j := j + 1)
  rw [dd_cutP_add ha0 hb hb0 hnb, List.length_append, List.length_singleton] at h3
  rw [List.length_append]; omega
theorem cB.put {u : gm_M} (H : cB I I' J J' q rows R h (dd_cutX rows R h i ++ dd_cutP rows R h a j)) (hC : dd_Ct rows R h) (hbit : I q 7 = nI (2 ^ rows.length)) (ha : R[i]? = some a) (hb : R[j]? = some b) (ha0 : 0 < dd_ev h a) (hb0 : dd_ev h b < 0) (hnb : dd_nbB rows R a b = true)
    (hu : btP I' J' q i j (R.length + (dd_cutX rows R h i ++ dd_cutP rows R h a j).length) (dd_ev h a) (dd_ev h b) u) : cB I u.1 J u.2 q rows R h (dd_cutX rows R h i ++ dd_cutP rows R h a (j + 1)) := by
  rw [dd_cutP_add ha0 hb hb0 hnb, ← List.append_assoc]
  exact H.add hC hbit (cB.room hC ha hb ha0 hb0 hnb) ha hb ha0 hb0 hu
theorem cB.tz {X : List dd_V} (H : cB I I' J J' q rows R h X) : ∀ m v, (R ++ X)[m]? = some v → I' (q + 3) m = nI (if m < R.length then dd_mask rows v else dd_mask (rows ++ [h]) v) := by
  intro m v hm
  refine H.2.2.2.2.2.2.2 m _ ?_
  by_cases c : m < R.length
  · rw [List.getElem?_append_left c] at hm
    rw [if_pos c, List.getElem?_append_left (by rw [List.length_map]; exact c), List.getElem?_map, hm]; rfl
  · rw [List.getElem?_append_right (by omega)] at hm
    rw [if_neg c, List.getElem?_append_right (by rw [List.length_map]; omega), List.length_map, List.getElem?_map, hm]; rfl
end CutSteps
section DropSteps
variable {I I' : gm_I} {J J' : gm_J} {q n m kp i : Nat} {Z rows : List dd_V} {h : dd_V}
theorem dq_drop (H : dP I I' J J' q n Z rows h kp i) (hZl : Z.length = m) (hSu : ∀ i v, i < n → Z[i]? = some v → dd_R (J (q + 4) i) (dd_ev h v) 17496000) (hi : i < m) (h1 : i < n) (h0 : J' (q + 4) i < 0) : dP I I' J J' q n Z rows h kp (i + 1) := by
  obtain ⟨v, hv⟩ := sq_get (X := Z) (i := i) (by omega)
  rw [H.2.2.1 (q + 4) (by omega)] at h0
  exact H.drop hv h1 ((hSu i v h1 hv).neg'.mp h0)
theorem dq_keep (H : dP I I' J J' q n Z rows h kp i) (hZl : Z.length = m) (hZ : sp_L J (q + 2) Z) (hSu : ∀ i v, i < n → Z[i]? = some v → dd_R (J (q + 4) i) (dd_ev h v) 17496000) (hTi : ∀ i v, Z[i]? = some v → I (q + 3) i = nI (if i < n then dd_mask rows v else dd_mask (rows ++ [h]) v)) (hbt : I q 7 = nI (2 ^ rows.length)) (hi : i < m) (hc : n ≤ i ∨ ¬ J' (q + 4) i < 0) {t : Int32}
    (ht : (i < n ∧ J' (q + 4) i = 0 ∧ t = I' (q + 3) i ||| I' q 7) ∨ (i < n ∧ ¬ J' (q + 4) i = 0 ∧ t = I' (q + 3) i) ∨ (n ≤ i ∧ t = I' (q + 3) i)) :
    dP I (gm_up I' (q + 3) kp t) J (sp_up4 J' (q + 2) (4 * kp) (J' (q + 2) (4 * i)) (J' (q + 2) (4 * i + 1)) (J' (q + 2) (4 * i + 2)) (J' (q + 2) (4 * i + 3))) q n Z rows h (kp + 1) (i + 1) := by
  obtain ⟨v, hv⟩ := sq_get (X := Z) (i := i) (by omega)
  have e4 := H.2.2.1 (q + 4) (by omega)
  have e3 := H.2.2.2.2.2.1 i (Nat.le_refl i)
  have e0 : I' q = I q := H.2.1 q (by omega)
  have et := hTi i v hv
  rw [e4] at hc ht
  rw [e3, e0, et, hbt] at ht
  refine H.keep hZ hv ?_ ?_
  · rintro ⟨h1, h2⟩
    rcases hc with hc | hc
    · omega
    · exact hc ((hSu i v h1 hv).neg'.mpr h2)
  · rcases ht with ⟨h1, h2, h3⟩ | ⟨h1, h2, h3⟩ | ⟨h1, h3⟩
    · rw [h3, if_pos h1]; exact (sp_kt (hSu i v h1 hv)).1 h2
    · rw [h3, if_pos h1]; exact (sp_kt (hSu i v h1 hv)).2 h2
    · rw [h3, if_neg (by omega)]
end DropSteps
