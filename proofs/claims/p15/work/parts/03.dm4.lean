-- the reference's search, in whole numbers
abbrev dd_St : Type := Bool × Int × Int
def dd_be (s : dd_St) (up dn : Int) : dd_St := if s.1 = false ∨ s.2.1 * dn < up * s.2.2 then (true, up, dn) else s
def dd_D (f : Nat → dd_V) (i : Nat) : Int := -(f i).2.2.2
def dd_o1 (f : Nat → dd_V) (g : dd_V3) (i : Nat) (s : dd_St) : dd_St :=
  if (g.2.1 * (f i).2.2.1 = g.2.2 * (f i).2.1 ∧ g.2.2 * (f i).1 = g.1 * (f i).2.2.1 ∧ g.1 * (f i).2.1 = g.2.1 * (f i).1) ∧ 0 < dd_d3 g (f i) then dd_be s (dd_d3 g (f i) * dd_D f i) (dd_sq3 (dd_w3 (f i))) else s
def dd_dd (u v : dd_V3) : Int := u.1 * v.1 + u.2.1 * v.2.1 + u.2.2 * v.2.2
def dd_upg (g : dd_V3) (v : dd_V) : dd_V3 := (g.2.1 * v.2.2.1 - g.2.2 * v.2.1, g.2.2 * v.1 - g.1 * v.2.2.1, g.1 * v.2.1 - g.2.1 * v.1)
def dd_gup (v : dd_V) (g : dd_V3) : dd_V3 := (v.2.1 * g.2.2 - v.2.2.1 * g.2.1, v.2.2.1 * g.1 - v.1 * g.2.2, v.1 * g.2.1 - v.2.1 * g.1)
def dd_o2 (f : Nat → dd_V) (g : dd_V3) (i j : Nat) (s : dd_St) : dd_St :=
  if dd_sq3 (dd_up (f i) (f j)) = 0 then s
  else if dd_dd g (dd_up (f i) (f j)) = 0 then
    if ¬ dd_dd (dd_upg g (f j)) (dd_up (f i) (f j)) < 0 ∧ ¬ dd_dd (dd_gup (f i) g) (dd_up (f i) (f j)) < 0 then dd_be s (dd_dd (dd_upg g (f j)) (dd_up (f i) (f j)) * dd_D f i + dd_dd (dd_gup (f i) g) (dd_up (f i) (f j)) * dd_D f j) (dd_sq3 (dd_up (f i) (f j))) else s
  else s
def dd_sg (x : Int) : Int := if 0 < x then 1 else -1
def dd_o3 (f : Nat → dd_V) (g : dd_V3) (i j k : Nat) (s : dd_St) : dd_St :=
  if dd_d3 (dd_up (f i) (f j)) (f k) = 0 then s
  else if ¬ dd_sg (dd_d3 (dd_up (f i) (f j)) (f k)) * dd_dd (dd_up (f j) (f k)) g < 0 ∧ ¬ dd_sg (dd_d3 (dd_up (f i) (f j)) (f k)) * dd_dd (dd_up (f k) (f i)) g < 0 ∧ ¬ dd_sg (dd_d3 (dd_up (f i) (f j)) (f k)) * dd_dd (dd_up (f i) (f j)) g < 0 then
    dd_be s (dd_sg (dd_d3 (dd_up (f i) (f j)) (f k)) * dd_dd (dd_up (f j) (f k)) g * dd_D f i + dd_sg (dd_d3 (dd_up (f i) (f j)) (f k)) * dd_dd (dd_up (f k) (f i)) g * dd_D f j + dd_sg (dd_d3 (dd_up (f i) (f j)) (f k)) * dd_dd (dd_up (f i) (f j)) g * dd_D f k) (dd_sg (dd_d3 (dd_up (f i) (f j)) (f k)) * dd_d3 (dd_up (f i) (f j)) (f k))
  else s
def dd_lC (f : Nat → dd_V) (g : dd_V3) (i j : Nat) : Nat → dd_St → dd_St
  | 0, s => s
  | k + 1, s => dd_o3 f g i j k (dd_lC f g i j k s)
def dd_lB (f : Nat → dd_V) (g : dd_V3) (i : Nat) : Nat → dd_St → dd_St
  | 0, s => s
  | j + 1, s => dd_lC f g i j j (dd_o2 f g i j (dd_lB f g i j s))
def dd_lA (f : Nat → dd_V) (g : dd_V3) : Nat → dd_St → dd_St
  | 0, s => s
  | i + 1, s => dd_lB f g i i (dd_o1 f g i (dd_lA f g i s))
/-- what is borne is borne: by all points -/
def dd_so (f : Nat → dd_V) (g : dd_V3) (n : Nat) (N D : Int) : Prop := 0 < D ∧ ∀ x : dd_V, (∀ i, i < n → 0 ≤ dd_ev (f i) x) → 0 ≤ D * dd_d3 g x - N * x.2.2.2
def dd_in (f : Nat → dd_V) (g : dd_V3) (n : Nat) (s : dd_St) : Prop := s.1 = true → dd_so f g n s.2.1 s.2.2
def dd_dom (s : dd_St) (N D : Int) : Prop := s.1 = true ∧ N * s.2.2 ≤ s.2.1 * D
/-- a step keeps what was borne and brings no more than is so -/
def dd_ok (f : Nat → dd_V) (g : dd_V3) (n : Nat) (F : dd_St → dd_St) : Prop := (∀ s, dd_in f g n s → dd_in f g n (F s)) ∧ (∀ s, dd_in f g n s → ∀ N D, 0 < D → dd_dom s N D → dd_dom (F s) N D)
theorem dd_ok.inv {f : Nat → dd_V} {g : dd_V3} {n : Nat} {F : dd_St → dd_St} (h_ : dd_ok f g n F) : ∀ s, dd_in f g n s → dd_in f g n (F s) := h_.1
theorem dd_ok.dom {f : Nat → dd_V} {g : dd_V3} {n : Nat} {F : dd_St → dd_St} (h_ : dd_ok f g n F) : ∀ s, dd_in f g n s → ∀ N D, 0 < D → dd_dom s N D → dd_dom (F s) N D := h_.2
theorem dd_be_ok {f : Nat → dd_V} {g : dd_V3} {n : Nat} {up dn : Int} (h : dd_so f g n up dn) : dd_ok f g n (fun s => dd_be s up dn) := by
  constructor
  · intro s hs
    show dd_in f g n (dd_be s up dn)
    unfold dd_be
    split
    · exact fun _ => h
    · exact hs
  · intro s hs N D hD hd
    show dd_dom (dd_be s up dn) N D
    unfold dd_be
    split
    · rename_i hc
      obtain ⟨h1, h2⟩ := hd
      have hp := (hs h1).1
      rcases hc with hc | hc
      · rw [h1] at hc; cases hc
      · refine ⟨rfl, ?_⟩
        show N * dn ≤ up * D
        have k1 := Int.mul_le_mul_of_nonneg_right h2 (Int.le_of_lt h.1)
        have k2 := Int.mul_le_mul_of_nonneg_right (Int.le_of_lt hc) (Int.le_of_lt hD)
        refine Int.le_of_mul_le_mul_right (a := s.2.2) ?_ hp
        grind
    · exact hd
theorem dd_be_dom {f : Nat → dd_V} {g : dd_V3} {n : Nat} {up dn : Int} {s : dd_St} : dd_in f g n s → dd_dom (dd_be s up dn) up dn := by
  intro _
  unfold dd_be
  split
  · exact ⟨rfl, Int.le_refl _⟩
  · rename_i hc
    have h1 : s.1 = true := by cases h : s.1 with | true => rfl | false => exact absurd (Or.inl h) hc
    exact ⟨h1, by have : ¬ s.2.1 * dn < up * s.2.2 := fun h => hc (Or.inr h); omega⟩
theorem dd_id_ok (f : Nat → dd_V) (g : dd_V3) (n : Nat) : dd_ok f g n (fun s => s) := ⟨fun _ h => h, fun _ _ _ _ _ h => h⟩
theorem dd_o1_ok {f : Nat → dd_V} {g : dd_V3} {n i : Nat} (hi : i < n) (hw : dd_sq3 (dd_w3 (f i)) ≠ 0) : dd_ok f g n (dd_o1 f g i) := by
  by_cases hc : (g.2.1 * (f i).2.2.1 = g.2.2 * (f i).2.1 ∧ g.2.2 * (f i).1 = g.1 * (f i).2.2.1 ∧ g.1 * (f i).2.1 = g.2.1 * (f i).1) ∧ 0 < dd_d3 g (f i)
  · have e : dd_o1 f g i = fun s => dd_be s (dd_d3 g (f i) * dd_D f i) (dd_sq3 (dd_w3 (f i))) := by funext s; exact if_pos hc
    rw [e]
    refine dd_be_ok ⟨by have := dd_sq3_p (dd_w3 (f i)); omega, fun x hx => ?_⟩
    have h1 := Int.mul_nonneg (Int.le_of_lt hc.2) (hx i hi)
    obtain ⟨⟨c1, c2, c3⟩, _⟩ := hc
    have e : dd_sq3 (dd_w3 (f i)) * dd_d3 g x - dd_d3 g (f i) * dd_D f i * x.2.2.2 = dd_d3 g (f i) * dd_ev (f i) x := by
      simp only [dd_sq3, dd_w3, dd_d3, dd_D, dd_ev] at *
      grind
    omega
  · have e : dd_o1 f g i = fun s => s := by funext s; exact if_neg hc
    rw [e]; exact dd_id_ok f g n
theorem dd_o2_ok {f : Nat → dd_V} {g : dd_V3} {n i j : Nat} (hi : i < n) (hj : j < n) : dd_ok f g n (dd_o2 f g i j) := by
  by_cases h0 : dd_sq3 (dd_up (f i) (f j)) = 0
  · have e : dd_o2 f g i j = fun s => s := by funext s; exact if_pos h0
    rw [e]; exact dd_id_ok f g n
  by_cases h1 : dd_dd g (dd_up (f i) (f j)) = 0
  · by_cases h2 : ¬ dd_dd (dd_upg g (f j)) (dd_up (f i) (f j)) < 0 ∧ ¬ dd_dd (dd_gup (f i) g) (dd_up (f i) (f j)) < 0
    · have e : dd_o2 f g i j = fun s => dd_be s (dd_dd (dd_upg g (f j)) (dd_up (f i) (f j)) * dd_D f i + dd_dd (dd_gup (f i) g) (dd_up (f i) (f j)) * dd_D f j) (dd_sq3 (dd_up (f i) (f j))) := by
        funext s; unfold dd_o2; rw [if_neg h0, if_pos h1, if_pos h2]
      rw [e]
      refine dd_be_ok ⟨by have := dd_sq3_p (dd_up (f i) (f j)); omega, fun x hx => ?_⟩
      have k1 := Int.mul_nonneg (show 0 ≤ dd_dd (dd_upg g (f j)) (dd_up (f i) (f j)) by omega) (hx i hi)
      have k2 := Int.mul_nonneg (show 0 ≤ dd_dd (dd_gup (f i) g) (dd_up (f i) (f j)) by omega) (hx j hj)
      have e : dd_sq3 (dd_up (f i) (f j)) * dd_d3 g x - (dd_dd (dd_upg g (f j)) (dd_up (f i) (f j)) * dd_D f i + dd_dd (dd_gup (f i) g) (dd_up (f i) (f j)) * dd_D f j) * x.2.2.2 = dd_dd (dd_upg g (f j)) (dd_up (f i) (f j)) * dd_ev (f i) x + dd_dd (dd_gup (f i) g) (dd_up (f i) (f j)) * dd_ev (f j) x := by
        simp only [dd_sq3, dd_d3, dd_D, dd_ev, dd_dd, dd_upg, dd_gup, dd_up] at *
        grind
      omega
    · have e : dd_o2 f g i j = fun s => s := by funext s; unfold dd_o2; rw [if_neg h0, if_pos h1, if_neg h2]
      rw [e]; exact dd_id_ok f g n
  · have e : dd_o2 f g i j = fun s => s := by funext s; unfold dd_o2; rw [if_neg h0, if_neg h1]
    rw [e]; exact dd_id_ok f g n
theorem dd_sg_2 (x : Int) : dd_sg x * dd_sg x = 1 := by unfold dd_sg; split <;> rfl
theorem dd_sg_p {x : Int} (h : x ≠ 0) : 0 < dd_sg x * x := by unfold dd_sg; split <;> omega
theorem dd_o3_ok {f : Nat → dd_V} {g : dd_V3} {n i j k : Nat} (hi : i < n) (hj : j < n) (hk : k < n) : dd_ok f g n (dd_o3 f g i j k) := by
  by_cases h0 : dd_d3 (dd_up (f i) (f j)) (f k) = 0
  · have e : dd_o3 f g i j k = fun s => s := by funext s; exact if_pos h0
    rw [e]; exact dd_id_ok f g n
  by_cases h2 : ¬ dd_sg (dd_d3 (dd_up (f i) (f j)) (f k)) * dd_dd (dd_up (f j) (f k)) g < 0 ∧ ¬ dd_sg (dd_d3 (dd_up (f i) (f j)) (f k)) * dd_dd (dd_up (f k) (f i)) g < 0 ∧ ¬ dd_sg (dd_d3 (dd_up (f i) (f j)) (f k)) * dd_dd (dd_up (f i) (f j)) g < 0
  · have e : dd_o3 f g i j k = fun s => dd_be s (dd_sg (dd_d3 (dd_up (f i) (f j)) (f k)) * dd_dd (dd_up (f j) (f k)) g * dd_D f i + dd_sg (dd_d3 (dd_up (f i) (f j)) (f k)) * dd_dd (dd_up (f k) (f i)) g * dd_D f j + dd_sg (dd_d3 (dd_up (f i) (f j)) (f k)) * dd_dd (dd_up (f i) (f j)) g * dd_D f k) (dd_sg (dd_d3 (dd_up (f i) (f j)) (f k)) * dd_d3 (dd_up (f i) (f j)) (f k)) := by
      funext s; unfold dd_o3; rw [if_neg h0, if_pos h2]
    rw [e]
    have sp := dd_sg_p h0
    generalize hsg : dd_sg (dd_d3 (dd_up (f i) (f j)) (f k)) = sg at *
    refine dd_be_ok ⟨sp, fun x hx => ?_⟩
    have k1 := Int.mul_nonneg (show 0 ≤ sg * dd_dd (dd_up (f j) (f k)) g by omega) (hx i hi)
    have k2 := Int.mul_nonneg (show 0 ≤ sg * dd_dd (dd_up (f k) (f i)) g by omega) (hx j hj)
    have k3 := Int.mul_nonneg (show 0 ≤ sg * dd_dd (dd_up (f i) (f j)) g by omega) (hx k hk)
    have e : sg * dd_d3 (dd_up (f i) (f j)) (f k) * dd_d3 g x - (sg * dd_dd (dd_up (f j) (f k)) g * dd_D f i + sg * dd_dd (dd_up (f k) (f i)) g * dd_D f j + sg * dd_dd (dd_up (f i) (f j)) g * dd_D f k) * x.2.2.2 = sg * dd_dd (dd_up (f j) (f k)) g * dd_ev (f i) x + sg * dd_dd (dd_up (f k) (f i)) g * dd_ev (f j) x + sg * dd_dd (dd_up (f i) (f j)) g * dd_ev (f k) x := by
      clear k1 k2 k3 h2 sp h0 hsg
      simp only [dd_d3, dd_D, dd_ev, dd_dd, dd_up]
      grind
    omega
  · have e : dd_o3 f g i j k = fun s => s := by funext s; unfold dd_o3; rw [if_neg h0, if_neg h2]
    rw [e]; exact dd_id_ok f g n

theorem dd_ok.comp {f : Nat → dd_V} {g : dd_V3} {n : Nat} {F G : dd_St → dd_St} (hF : dd_ok f g n F) (hG : dd_ok f g n G) : dd_ok f g n (fun s => G (F s)) :=
  ⟨fun s h => hG.inv _ (hF.inv s h), fun s h N D hD hd => hG.dom _ (hF.inv s h) N D hD (hF.dom s h N D hD hd)⟩
theorem dd_lC_ok {f : Nat → dd_V} {g : dd_V3} {n i j : Nat} (hi : i < n) (hj : j < n) (k : Nat) (hk : k ≤ n) : dd_ok f g n (dd_lC f g i j k) := by
  induction k with
  | zero => exact dd_id_ok f g n
  | succ k ih => exact (ih (by omega)).comp (dd_o3_ok hi hj (by omega))
theorem dd_lB_ok {f : Nat → dd_V} {g : dd_V3} {n i : Nat} (hi : i < n) (j : Nat) (hj : j ≤ n) : dd_ok f g n (dd_lB f g i j) := by
  induction j with
  | zero => exact dd_id_ok f g n
  | succ j ih => exact ((ih (by omega)).comp (dd_o2_ok hi (by omega))).comp (dd_lC_ok hi (by omega) j (by omega))
theorem dd_lA_ok {f : Nat → dd_V} {g : dd_V3} {n : Nat} (hw : ∀ i, i < n → dd_sq3 (dd_w3 (f i)) ≠ 0) (i : Nat) (hi : i ≤ n) : dd_ok f g n (dd_lA f g i) := by
  induction i with
  | zero => exact dd_id_ok f g n
  | succ i ih => exact ((ih (by omega)).comp (dd_o1_ok (by omega) (hw i (by omega)))).comp (dd_lB_ok (by omega) i (by omega))
theorem dd_so.mono {f : Nat → dd_V} {g : dd_V3} {n m : Nat} {N D : Int} (h : dd_so f g n N D) (hm : n ≤ m) : dd_so f g m N D := ⟨h.1, fun x hx => h.2 x (fun i hi => hx i (by omega))⟩
/-- what one step brings is borne in the end -/
theorem dd_lC_get {f : Nat → dd_V} {g : dd_V3} {n i j : Nat} (hi : i < n) (hj : j < n) {N D : Int} (hD : 0 < D) {k' : Nat} (h : ∀ s, dd_in f g n s → dd_dom (dd_o3 f g i j k' s) N D) (k : Nat) (hk : k ≤ n) (hk' : k' < k) {s : dd_St} (hs : dd_in f g n s) : dd_dom (dd_lC f g i j k s) N D := by
  induction k with
  | zero => omega
  | succ k ih =>
    have hin := (dd_lC_ok hi hj k (by omega)).inv s hs
    by_cases e : k' = k
    · subst e; exact h _ hin
    · exact (dd_o3_ok hi hj (by omega)).dom _ hin N D hD (ih (by omega) (by omega))
theorem dd_lB_get {f : Nat → dd_V} {g : dd_V3} {n i : Nat} (hi : i < n) {N D : Int} (hD : 0 < D) {j' : Nat} (h : ∀ s, dd_in f g n s → dd_dom (dd_lC f g i j' j' (dd_o2 f g i j' s)) N D) (j : Nat) (hj : j ≤ n) (hj' : j' < j) {s : dd_St} (hs : dd_in f g n s) : dd_dom (dd_lB f g i j s) N D := by
  induction j with
  | zero => omega
  | succ j ih =>
    have hin := (dd_lB_ok hi j (by omega)).inv s hs
    by_cases e : j' = j
    · subst e; exact h _ hin
    · have q := ((dd_o2_ok (f := f) (g := g) hi (show j < n by omega)).comp (dd_lC_ok hi (show j < n by omega) j (by omega)))
      exact q.dom _ hin N D hD (ih (by omega) (by omega))
theorem dd_lA_get {f : Nat → dd_V} {g : dd_V3} {n : Nat} (hw : ∀ i, i < n → dd_sq3 (dd_w3 (f i)) ≠ 0) {N D : Int} (hD : 0 < D) {i' : Nat} (h : ∀ s, dd_in f g n s → dd_dom (dd_lB f g i' i' (dd_o1 f g i' s)) N D) (i : Nat) (hi : i ≤ n) (hi' : i' < i) {s : dd_St} (hs : dd_in f g n s) : dd_dom (dd_lA f g i s) N D := by
  induction i with
  | zero => omega
  | succ i ih =>
    have hin := (dd_lA_ok hw i (by omega)).inv s hs
    by_cases e : i' = i
    · subst e; exact h _ hin
    · have q := ((dd_o1_ok (f := f) (g := g) (show i < n by omega) (hw i (by omega))).comp (dd_lB_ok (show i < n by omega) i (by omega)))
      exact q.dom _ hin N D hD (ih (by omega) (by omega))
theorem dd_dom.eqv {s : dd_St} {N D V m : Int} (hD : 0 < D) (h : dd_dom s N D) (e : V * D = N * m) (hm : 0 < m) : dd_dom s V m := by
  refine ⟨h.1, ?_⟩
  have k := Int.mul_le_mul_of_nonneg_right h.2 (Int.le_of_lt hm)
  refine Int.le_of_mul_le_mul_right (a := D) ?_ hD
  grind
theorem dd_pos_of {a b c d : Int} (h : a * b = c * d) (ha : 0 < a) (hc : 0 < c) (hd : 0 < d) : 0 < b := by
  have := Int.mul_pos hc hd
  rw [← h] at this
  exact Int.pos_of_mul_pos_right this (by omega)
/-- the sum of few rows is borne -/
theorem dd_bas_dom {f : Nat → dd_V} {g : dd_V3} {n : Nat} (hw : ∀ i, i < n → dd_sq3 (dd_w3 (f i)) ≠ 0) (hg0 : ¬ (g.1 = 0 ∧ g.2.1 = 0 ∧ g.2.2 = 0)) {ds : List (Nat × Int)} (hd : dd_good n ds) (hb : dd_bas f ds) {m : Int} (hm : 0 < m)
    (e1 : (dd_cs f ds).1 = m * g.1) (e2 : (dd_cs f ds).2.1 = m * g.2.1) (e3 : (dd_cs f ds).2.2.1 = m * g.2.2) {s : dd_St} (hs : dd_in f g n s) : dd_dom (dd_lA f g n s) (-(dd_cs f ds).2.2.2) m := by
  match ds, hd, hb, e1, e2, e3 with
  | [], _, _, e1, e2, e3 =>
    exfalso
    have z : ∀ t : Int, (0 : Int) = m * t → t = 0 := fun t h => by
      rcases Int.mul_eq_zero.mp h.symm with c | c <;> omega
    exact hg0 ⟨z _ e1, z _ e2, z _ e3⟩
  | [(i, l)], hd, _, e1, e2, e3 =>
    have hi : i < n := hd.lt (i, l) (by simp)
    have hl : 0 < l := hd.pos (i, l) (by simp)
    have hwi := hw i hi
    have hwp : 0 < dd_sq3 (dd_w3 (f i)) := by have := dd_sq3_p (dd_w3 (f i)); omega
    simp only [dd_cs, dd_add_0] at *
    simp only [dd_mul] at *
    have t1 : m * dd_d3 g (f i) = l * dd_sq3 (dd_w3 (f i)) := by
      simp only [dd_d3, dd_sq3, dd_w3]; grind
    have tp : 0 < dd_d3 g (f i) := dd_pos_of t1 hm hl hwp
    have cm : ∀ a b : Int, m * a = m * b → a = b := fun a b h => Int.eq_of_mul_eq_mul_left (by omega) h
    have al : (g.2.1 * (f i).2.2.1 = g.2.2 * (f i).2.1 ∧ g.2.2 * (f i).1 = g.1 * (f i).2.2.1 ∧ g.1 * (f i).2.1 = g.2.1 * (f i).1) ∧ 0 < dd_d3 g (f i) := by
      refine ⟨⟨cm _ _ ?_, cm _ _ ?_, cm _ _ ?_⟩, tp⟩ <;> grind
    refine dd_dom.eqv (N := dd_d3 g (f i) * dd_D f i) hwp ?_ (by simp only [dd_D]; grind) hm
    refine dd_lA_get hw hwp (i' := i) (fun s hs => ?_) n (Nat.le_refl n) hi hs
    have h1 : dd_o1 f g i s = dd_be s (dd_d3 g (f i) * dd_D f i) (dd_sq3 (dd_w3 (f i))) := if_pos al
    refine (dd_lB_ok hi i (by omega)).dom _ ((dd_o1_ok hi hwi).inv s hs) _ _ hwp ?_
    rw [h1]; exact dd_be_dom hs
  | [(i, l), (j, q)], hd, hb, e1, e2, e3 =>
    have hi : i < n := hd.lt (i, l) (by simp)
    have hj : j < n := hd.lt (j, q) (by simp)
    have hl : 0 < l := hd.pos (i, l) (by simp)
    have hq : 0 < q := hd.pos (j, q) (by simp)
    have hji : j < i := by have := hd.dec; simp at this; exact this
    have hb' : dd_sq3 (dd_up (f i) (f j)) ≠ 0 := hb
    have hup : 0 < dd_sq3 (dd_up (f i) (f j)) := by have := dd_sq3_p (dd_up (f i) (f j)); omega
    simp only [dd_cs, dd_add_0] at *
    simp only [dd_mul, dd_add] at *
    have t1 : m * dd_dd (dd_upg g (f j)) (dd_up (f i) (f j)) = l * dd_sq3 (dd_up (f i) (f j)) := by
      clear hb hb' hup hg0
      simp only [dd_dd, dd_upg, dd_sq3, dd_up]; grind
    have t2 : m * dd_dd (dd_gup (f i) g) (dd_up (f i) (f j)) = q * dd_sq3 (dd_up (f i) (f j)) := by
      clear hb hb' hup hg0 t1
      simp only [dd_dd, dd_gup, dd_sq3, dd_up]; grind
    have t3 : dd_dd g (dd_up (f i) (f j)) = 0 := by
      have : m * dd_dd g (dd_up (f i) (f j)) = 0 := by
        clear hb hb' hup hg0 t1 t2
        simp only [dd_dd, dd_up]; grind
      rcases Int.mul_eq_zero.mp this with c | c <;> omega
    have p1 := dd_pos_of t1 hm hl hup
    have p2 := dd_pos_of t2 hm hq hup
    refine dd_dom.eqv (N := dd_dd (dd_upg g (f j)) (dd_up (f i) (f j)) * dd_D f i + dd_dd (dd_gup (f i) g) (dd_up (f i) (f j)) * dd_D f j) hup ?_ (by
      simp only [dd_D]
      generalize dd_dd (dd_upg g (f j)) (dd_up (f i) (f j)) = A at *
      generalize dd_dd (dd_gup (f i) g) (dd_up (f i) (f j)) = B at *
      generalize dd_sq3 (dd_up (f i) (f j)) = C at *
      clear e1 e2 e3 hg0 hb
      grind) hm
    have h1 : ∀ s, dd_o2 f g i j s = dd_be s (dd_dd (dd_upg g (f j)) (dd_up (f i) (f j)) * dd_D f i + dd_dd (dd_gup (f i) g) (dd_up (f i) (f j)) * dd_D f j) (dd_sq3 (dd_up (f i) (f j))) := fun s => by
      unfold dd_o2; rw [if_neg hb', if_pos t3, if_pos ⟨by omega, by omega⟩]
    refine dd_lA_get hw hup (i' := i) (fun s hs => ?_) n (Nat.le_refl n) hi hs
    refine dd_lB_get hi hup (j' := j) (fun s hs => ?_) i (by omega) hji ((dd_o1_ok hi (hw i hi)).inv s hs)
    refine (dd_lC_ok hi hj j (by omega)).dom _ ((dd_o2_ok hi hj).inv s hs) _ _ hup ?_
    rw [h1]; exact dd_be_dom hs
  | [(i, l), (j, q), (k, p)], hd, hb, e1, e2, e3 =>
    have hi : i < n := hd.lt (i, l) (by simp)
    have hj : j < n := hd.lt (j, q) (by simp)
    have hk : k < n := hd.lt (k, p) (by simp)
    have hl : 0 < l := hd.pos (i, l) (by simp)
    have hq : 0 < q := hd.pos (j, q) (by simp)
    have hp : 0 < p := hd.pos (k, p) (by simp)
    obtain ⟨hji, hkj⟩ : j < i ∧ k < j := by have := hd.dec; simp at this; exact ⟨this.1.1, this.2⟩
    have hb' : dd_d3 (dd_up (f i) (f j)) (f k) ≠ 0 := hb
    have sp := dd_sg_p hb'
    simp only [dd_cs, dd_add_0] at *
    simp only [dd_mul, dd_add] at *
    have t1 : m * dd_dd (dd_up (f j) (f k)) g = l * dd_d3 (dd_up (f i) (f j)) (f k) := by
      clear hb hb' sp hg0
      simp only [dd_dd, dd_d3, dd_up]; grind
    have t2 : m * dd_dd (dd_up (f k) (f i)) g = q * dd_d3 (dd_up (f i) (f j)) (f k) := by
      clear hb hb' sp hg0 t1
      simp only [dd_dd, dd_d3, dd_up]; grind
    have t3 : m * dd_dd (dd_up (f i) (f j)) g = p * dd_d3 (dd_up (f i) (f j)) (f k) := by
      clear hb hb' sp hg0 t1 t2
      simp only [dd_dd, dd_d3, dd_up]; grind
    have h1 : ∀ s, dd_o3 f g i j k s = dd_be s (dd_sg (dd_d3 (dd_up (f i) (f j)) (f k)) * dd_dd (dd_up (f j) (f k)) g * dd_D f i + dd_sg (dd_d3 (dd_up (f i) (f j)) (f k)) * dd_dd (dd_up (f k) (f i)) g * dd_D f j + dd_sg (dd_d3 (dd_up (f i) (f j)) (f k)) * dd_dd (dd_up (f i) (f j)) g * dd_D f k) (dd_sg (dd_d3 (dd_up (f i) (f j)) (f k)) * dd_d3 (dd_up (f i) (f j)) (f k)) := fun s => by
      unfold dd_o3
      have q1 := dd_pos_of (a := m) (b := dd_sg (dd_d3 (dd_up (f i) (f j)) (f k)) * dd_dd (dd_up (f j) (f k)) g) (c := l) (by rw [Int.mul_left_comm, t1, Int.mul_left_comm]) hm hl sp
      have q2 := dd_pos_of (a := m) (b := dd_sg (dd_d3 (dd_up (f i) (f j)) (f k)) * dd_dd (dd_up (f k) (f i)) g) (c := q) (by rw [Int.mul_left_comm, t2, Int.mul_left_comm]) hm hq sp
      have q3 := dd_pos_of (a := m) (b := dd_sg (dd_d3 (dd_up (f i) (f j)) (f k)) * dd_dd (dd_up (f i) (f j)) g) (c := p) (by rw [Int.mul_left_comm, t3, Int.mul_left_comm]) hm hp sp
      rw [if_neg hb', if_pos ⟨by omega, by omega, by omega⟩]
    refine dd_dom.eqv (N := dd_sg (dd_d3 (dd_up (f i) (f j)) (f k)) * dd_dd (dd_up (f j) (f k)) g * dd_D f i + dd_sg (dd_d3 (dd_up (f i) (f j)) (f k)) * dd_dd (dd_up (f k) (f i)) g * dd_D f j + dd_sg (dd_d3 (dd_up (f i) (f j)) (f k)) * dd_dd (dd_up (f i) (f j)) g * dd_D f k) sp ?_ (by
      simp only [dd_D]
      generalize dd_dd (dd_up (f j) (f k)) g = A at *
      generalize dd_dd (dd_up (f k) (f i)) g = B at *
      generalize dd_dd (dd_up (f i) (f j)) g = C at *
      generalize dd_sg (dd_d3 (dd_up (f i) (f j)) (f k)) = S at *
      generalize dd_d3 (dd_up (f i) (f j)) (f k) = E at *
      clear e1 e2 e3 hg0 hb h1
      grind) hm
    refine dd_lA_get hw sp (i' := i) (fun s hs => ?_) n (Nat.le_refl n) hi hs
    refine dd_lB_get hi sp (j' := j) (fun s hs => ?_) i (by omega) hji ((dd_o1_ok hi (hw i hi)).inv s hs)
    refine dd_lC_get hi hj sp (k' := k) (fun s hs => ?_) j (by omega) hkj ((dd_o2_ok hi hj).inv s hs)
    rw [h1]; exact dd_be_dom hs

-- what the search says of the points
def dd_pf (f : Nat → dd_V) (n : Nat) (x : dd_V) : Prop := (∀ i, i < n → 0 ≤ dd_ev (f i) x) ∧ 0 < x.2.2.2
def dd_lst (f : Nat → dd_V) (g : dd_V3) (n : Nat) (s : dd_St) : dd_St := if g.1 = 0 ∧ g.2.1 = 0 ∧ g.2.2 = 0 then (true, 0, 1) else dd_lA f g n s
theorem dd_lst_in {f : Nat → dd_V} {g : dd_V3} {n : Nat} (hw : ∀ i, i < n → dd_sq3 (dd_w3 (f i)) ≠ 0) {s : dd_St} (hs : s.1 = false) : dd_in f g n (dd_lst f g n s) := by
  unfold dd_lst
  split
  · rename_i h
    intro _
    refine ⟨by decide, fun x _ => ?_⟩
    simp only [dd_d3, h.1, h.2.1, h.2.2]; omega
  · exact (dd_lA_ok hw n (Nat.le_refl n)).inv s (fun h => by rw [hs] at h; cases h)
/-- a sum of rows that is the goal is borne -/
theorem dd_lst_dom {f : Nat → dd_V} {g : dd_V3} {n : Nat} (hw : ∀ i, i < n → dd_sq3 (dd_w3 (f i)) ≠ 0) {s : dd_St} (hs : s.1 = false) {p : dd_V} (hp : dd_pf f n p) {cs : List (Nat × Int)} (hc : dd_good n cs) {m : Int} (hm : 0 < m)
    (e1 : (dd_cs f cs).1 = m * g.1) (e2 : (dd_cs f cs).2.1 = m * g.2.1) (e3 : (dd_cs f cs).2.2.1 = m * g.2.2) : dd_dom (dd_lst f g n s) (-(dd_cs f cs).2.2.2) m := by
  unfold dd_lst
  split
  · rename_i h
    refine ⟨rfl, ?_⟩
    -- at the point the sum is 0 or more
    have h1 := dd_cs_nn hc hp.1
    simp only [dd_ev, e1, e2, e3, h.1, h.2.1, h.2.2] at h1
    have h2 : 0 ≤ (dd_cs f cs).2.2.2 := by
      refine Classical.byContradiction fun h2 => ?_
      have := Int.mul_neg_of_neg_of_pos (show (dd_cs f cs).2.2.2 < 0 by omega) hp.2
      omega
    show -(dd_cs f cs).2.2.2 * 1 ≤ 0 * m
    omega
  · rename_i h
    obtain ⟨k, hk, ds, d1, d2, d3, d4, d5, d6⟩ := dd_few hw hp.1 hp.2 _ cs (Nat.le_refl _) hc
    have q := dd_bas_dom hw h d1 d2 (m := k * m) (Int.mul_pos hk hm) (by rw [d3, e1, Int.mul_assoc]) (by rw [d4, e2, Int.mul_assoc]) (by rw [d5, e3, Int.mul_assoc]) (s := s) (fun h => by rw [hs] at h; cases h)
    refine ⟨q.1, ?_⟩
    have hin := (dd_lA_ok hw n (Nat.le_refl n)).inv s (fun h => by rw [hs] at h; cases h) q.1
    have k1 := q.2
    have k2 := Int.mul_le_mul_of_nonneg_right (show k * -(dd_cs f cs).2.2.2 ≤ -(dd_cs f ds).2.2.2 by rw [Int.mul_neg]; omega) (Int.le_of_lt hin.1)
    refine Int.le_of_mul_le_mul_left (a := k) ?_ hk
    have e : (dd_lA f g n s).2.1 * (k * m) = k * ((dd_lA f g n s).2.1 * m) := by rw [Int.mul_left_comm]
    rw [e] at k1
    rw [Int.mul_assoc] at k2
    omega
theorem dd_Gen.mu {f : Nat → dd_V} {n : Nat} {y : dd_V} (h : dd_Gen dd_N (fun v => (∃ i, i < n ∧ v = f i) ∨ v = dd_e4) y) : ∃ mu : Int, 0 ≤ mu ∧ dd_Gen dd_N (fun v => ∃ i, i < n ∧ v = f i) (dd_add y (dd_mul (-mu) dd_e4)) := by
  refine h (fun y => ∃ mu : Int, 0 ≤ mu ∧ dd_Gen dd_N (fun v => ∃ i, i < n ∧ v = f i) (dd_add y (dd_mul (-mu) dd_e4))) ⟨0, by omega, by rw [dd_0_add, Int.neg_zero, dd_0_mul]; exact dd_Gen.zero⟩ ?_ (fun v hv => hv.elim) ?_
  · rintro x y ⟨a, ha, h1⟩ ⟨b, hb, h2⟩
    refine ⟨a + b, by omega, ?_⟩
    rw [show -(a + b) = -a + -b by omega, dd_add_mul, dd_add_swap]; exact h1.add h2
  · rintro v (hv | rfl) k hk
    · refine ⟨0, by omega, ?_⟩
      rw [Int.neg_zero, dd_0_mul, dd_add_0]; exact dd_Gen.ray hv hk
    · refine ⟨k, hk, ?_⟩
      rw [← dd_add_mul, show k + -k = 0 by omega, dd_0_mul]; exact dd_Gen.zero
/-- what holds at all points (and directions) is a sum of rows, or less -/
theorem dd_fk {f : Nat → dd_V} {n : Nat} (w : dd_V) : (∃ k mu : Int, 0 < k ∧ 0 ≤ mu ∧ ∃ cs, dd_good n cs ∧ dd_cs f cs = dd_add (dd_mul k w) (dd_mul (-mu) dd_e4)) ∨ ∃ x, (∀ i, i < n → 0 ≤ dd_ev (f i) x) ∧ 0 ≤ x.2.2.2 ∧ dd_ev w x < 0 := by
  rcases dd_farkas _ ((List.range n).map f ++ [dd_e4]) rfl w with ⟨k, hk, hg⟩ | ⟨x, hx, hn⟩
  · left
    obtain ⟨mu, hmu, h2⟩ := dd_Gen.mu (f := f) (n := n) (hg.mono (fun _ h => h) (fun v hv => by
      rcases List.mem_append.mp hv with h | h
      · obtain ⟨i, hi, rfl⟩ := List.mem_map.mp h
        exact Or.inl ⟨i, List.mem_range.mp hi, rfl⟩
      · exact Or.inr (List.mem_singleton.mp h)))
    obtain ⟨k', hk', cs, h3, h4⟩ := (dd_Q.of h2).cs
    refine ⟨k' * k, k' * mu, Int.mul_pos hk' hk, Int.mul_nonneg (by omega) hmu, cs, h3, ?_⟩
    rw [h4, dd_mul_add, dd_mul_mul, dd_mul_mul, Int.mul_neg]
  · right
    refine ⟨x, fun i hi => hx (f i) (List.mem_append_left _ (List.mem_map.mpr ⟨i, List.mem_range.mpr hi, rfl⟩)), ?_, hn⟩
    have := hx dd_e4 (by simp)
    rwa [(dd_e_ev x).2.2.2] at this
/-- the least that the search says is the least -/
theorem dd_least_iff {f : Nat → dd_V} {g : dd_V3} {n : Nat} (hw : ∀ i, i < n → dd_sq3 (dd_w3 (f i)) ≠ 0) {s : dd_St} (hs : s.1 = false) (hp : ∃ p, dd_pf f n p) (d : Int) :
    ((dd_lst f g n s).1 = true ∧ d * (dd_lst f g n s).2.2 ≤ (dd_lst f g n s).2.1) ↔ ∀ x, dd_pf f n x → d * x.2.2.2 ≤ dd_d3 g x := by
  obtain ⟨p, hp⟩ := hp
  constructor
  · rintro ⟨h1, h2⟩ x hx
    obtain ⟨hD, hso⟩ := dd_lst_in (g := g) hw hs h1
    have h3 := hso x hx.1
    have h4 := Int.mul_le_mul_of_nonneg_right h2 (Int.le_of_lt hx.2)
    refine Int.le_of_mul_le_mul_left (a := (dd_lst f g n s).2.2) ?_ hD
    rw [show (dd_lst f g n s).2.2 * (d * x.2.2.2) = d * (dd_lst f g n s).2.2 * x.2.2.2 by grind]
    omega
  · intro hall
    rcases dd_fk (f := f) (n := n) (g.1, g.2.1, g.2.2, -d) with ⟨k, mu, hk, hmu, cs, h1, h2⟩ | ⟨x, h1, h2, h3⟩
    · have e4 : (dd_cs f cs).2.2.2 = -(k * d) - mu := by rw [h2]; simp only [dd_add, dd_mul, dd_e4, Int.mul_neg]; omega
      have q := dd_lst_dom (g := g) hw hs hp h1 hk (by rw [h2]; simp [dd_add, dd_mul, dd_e4]) (by rw [h2]; simp [dd_add, dd_mul, dd_e4]) (by rw [h2]; simp [dd_add, dd_mul, dd_e4])
      have hD := (dd_lst_in (g := g) hw hs q.1).1
      refine ⟨q.1, ?_⟩
      have q2 := q.2
      rw [e4] at q2
      have k2 := Int.mul_nonneg hmu (Int.le_of_lt hD)
      refine Int.le_of_mul_le_mul_left (a := k) ?_ hk
      rw [show -(-(k * d) - mu) * (dd_lst f g n s).2.2 = k * (d * (dd_lst f g n s).2.2) + mu * (dd_lst f g n s).2.2 by grind, Int.mul_comm _ k] at q2
      omega
    · exfalso
      have e : dd_ev (g.1, g.2.1, g.2.2, -d) x = dd_d3 g x - d * x.2.2.2 := by simp only [dd_ev, dd_d3]; grind
      rw [e] at h3
      by_cases h4 : 0 < x.2.2.2
      · have := hall x ⟨h1, h4⟩; omega
      · have h5 : x.2.2.2 = 0 := by omega
        rw [h5] at h3
        have b0 := dd_lin1 (a := dd_d3 g p - d * p.2.2.2) (b := dd_d3 g x) (fun k hk => by
          have := hall (dd_add p (dd_mul k x)) ⟨fun i hi => by
            rw [dd_ev_add, dd_ev_mul]; have := hp.1 i hi; have := Int.mul_nonneg hk (h1 i hi); omega, by
            simp only [dd_add, dd_mul, h5]; have := hp.2; omega⟩
          have e2 : dd_d3 g (dd_add p (dd_mul k x)) = dd_d3 g p + k * dd_d3 g x := by simp only [dd_d3, dd_add, dd_mul]; grind
          have e3 : (dd_add p (dd_mul k x)).2.2.2 = p.2.2.2 := by simp only [dd_add, dd_mul, h5]; omega
          rw [e2, e3] at this
          omega)
        omega
theorem dd_borne_iff {f : Nat → dd_V} {g : dd_V3} {n : Nat} (hw : ∀ i, i < n → dd_sq3 (dd_w3 (f i)) ≠ 0) {s : dd_St} (hs : s.1 = false) (hp : ∃ p, dd_pf f n p) :
    (dd_lst f g n s).1 = true ↔ ∃ M : Int, ∀ x, dd_pf f n x → -M * x.2.2.2 ≤ dd_d3 g x := by
  constructor
  · intro h1
    obtain ⟨hD, hso⟩ := dd_lst_in (g := g) hw hs h1
    refine ⟨((dd_lst f g n s).2.1).natAbs, (dd_least_iff hw hs hp _).mp ⟨h1, ?_⟩⟩
    have := Int.mul_le_mul_of_nonneg_left (show 1 ≤ (dd_lst f g n s).2.2 by omega) (show 0 ≤ (((dd_lst f g n s).2.1).natAbs : Int) by omega)
    rw [Int.neg_mul]; omega
  · rintro ⟨M, hM⟩
    exact ((dd_least_iff hw hs hp (-M)).mpr hM).1
def dd_nT (f : Nat → dd_V) (s : dd_St) (k : Nat) : Prop := (dd_lst f (-(f k).1, -(f k).2.1, -(f k).2.2.1) k s).1 = true ∧ -(dd_D f k) * (dd_lst f (-(f k).1, -(f k).2.1, -(f k).2.2.1) k s).2.2 < (dd_lst f (-(f k).1, -(f k).2.1, -(f k).2.2.1) k s).2.1
theorem dd_noth_iff {f : Nat → dd_V} {s : dd_St} (hs : s.1 = false) (n : Nat) (hw : ∀ i, i < n → dd_sq3 (dd_w3 (f i)) ≠ 0) : (∃ k, k < n ∧ dd_nT f s k) ↔ ¬ ∃ p, dd_pf f n p := by
  induction n with
  | zero =>
    constructor
    · rintro ⟨k, hk, _⟩; omega
    · intro h; exact absurd ⟨dd_e4, fun i hi => by omega, by decide⟩ h
  | succ n ih =>
    have hw' : ∀ i, i < n → dd_sq3 (dd_w3 (f i)) ≠ 0 := fun i hi => hw i (by omega)
    have up : ∀ p, dd_pf f (n + 1) p → dd_pf f n p := fun p h => ⟨fun i hi => h.1 i (by omega), h.2⟩
    by_cases hno : ∃ p, dd_pf f n p
    · have hbef : ¬ ∃ k, k < n ∧ dd_nT f s k := fun h => (ih hw').mp h hno
      have hT : (∃ k, k < n + 1 ∧ dd_nT f s k) ↔ dd_nT f s n := by
        constructor
        · rintro ⟨k, hk, h⟩
          by_cases e : k = n
          · rwa [← e]
          · exact absurd ⟨k, by omega, h⟩ hbef
        · exact fun h => ⟨n, by omega, h⟩
      rw [hT]
      obtain ⟨p, hp⟩ := hno
      constructor
      · rintro ⟨h1, h2⟩ ⟨x, hx⟩
        obtain ⟨hD, hso⟩ := dd_lst_in (g := (-(f n).1, -(f n).2.1, -(f n).2.2.1)) hw' hs h1
        have h3 := hso x (up x hx).1
        have h4 := Int.mul_lt_mul_of_pos_right h2 hx.2
        have h5 := Int.mul_nonneg (Int.le_of_lt hD) (hx.1 n (by omega))
        simp only [dd_d3, dd_ev, dd_D] at *
        grind
      · intro hempty
        rcases dd_fk (f := f) (n := n + 1) (dd_mul (-1) dd_e4) with ⟨k, mu, hk, hmu, cs, h1, h2⟩ | ⟨x, h1, h2, h3⟩
        · match cs, h1, h2 with
          | [], _, h2 =>
            exfalso
            have := congrArg (fun v => v.2.2.2) h2
            simp [dd_cs, dd_0, dd_add, dd_mul, dd_e4] at this
            omega
          | (i, l) :: t, h1, h2 =>
            have hl : 0 < l := h1.pos (i, l) (by simp)
            have hi : i < n + 1 := h1.lt (i, l) (by simp)
            have ht : dd_good i t := ⟨h1.dec.of_cons, fun e he => (List.pairwise_cons.mp h1.dec).1 e he, fun e he => h1.pos e (List.mem_cons_of_mem _ he)⟩
            by_cases e : i = n
            · subst e
              simp only [dd_cs] at h2
              have c1 := congrArg (fun v => v.1) h2
              have c2 := congrArg (fun v => v.2.1) h2
              have c3 := congrArg (fun v => v.2.2.1) h2
              have c4 := congrArg (fun v => v.2.2.2) h2
              simp [dd_add, dd_mul, dd_e4] at c1 c2 c3 c4
              have q := dd_lst_dom (g := (-(f i).1, -(f i).2.1, -(f i).2.2.1)) hw' hs hp ht hl (by show _ = l * -(f i).1; rw [Int.mul_neg]; omega) (by show _ = l * -(f i).2.1; rw [Int.mul_neg]; omega) (by show _ = l * -(f i).2.2.1; rw [Int.mul_neg]; omega)
              refine ⟨q.1, ?_⟩
              have hD := (dd_lst_in (g := (-(f i).1, -(f i).2.1, -(f i).2.2.1)) hw' hs q.1).1
              have q2 := q.2
              have e5 : (dd_cs f t).2.2.2 = -(l * (f i).2.2.2) - k - mu := by omega
              rw [e5] at q2
              have k2 := Int.mul_pos (show 0 < k + mu by omega) hD
              generalize (dd_lst f (-(f i).1, -(f i).2.1, -(f i).2.2.1) i s).2.2 = DD at *
              generalize (dd_lst f (-(f i).1, -(f i).2.1, -(f i).2.2.1) i s).2.1 = NN at *
              simp only [dd_D]
              refine Int.lt_of_mul_lt_mul_left (a := l) ?_ (Int.le_of_lt hl)
              rw [show -(-(l * (f i).2.2.2) - k - mu) * DD = l * (- -(f i).2.2.2 * DD) + (k + mu) * DD by grind, Int.mul_comm NN l] at q2
              omega
            · exfalso
              have hg : dd_good n ((i, l) :: t) := ⟨h1.dec, fun e he => by
                rcases List.mem_cons.mp he with rfl | he
                · show i < n; omega
                · have := ht.lt e he; omega, h1.pos⟩
              have h3 := dd_cs_nn hg hp.1
              rw [h2, dd_add_ev, dd_mul_ev, dd_mul_ev, dd_mul_ev, (dd_e_ev p).2.2.2] at h3
              have := Int.mul_pos hk hp.2
              have := Int.mul_nonneg hmu (Int.le_of_lt hp.2)
              have e1 : k * (-1 * p.2.2.2) + -mu * p.2.2.2 = -(k * p.2.2.2) - mu * p.2.2.2 := by grind
              omega
        · exfalso
          rw [dd_mul_ev, (dd_e_ev x).2.2.2] at h3
          exact hempty ⟨x, h1, by omega⟩
    · constructor
      · intro _ ⟨p, hp⟩; exact hno ⟨p, up p hp⟩
      · intro _
        obtain ⟨k, hk, h⟩ := (ih hw').mpr hno
        exact ⟨k, by omega, h⟩
