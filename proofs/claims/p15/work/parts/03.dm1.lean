-- Farkas
theorem dd_ev_comm (u x : dd_V) : dd_ev u x = dd_ev x u := by
  simp only [dd_ev]; grind
theorem dd_add_ev (u v x : dd_V) : dd_ev (dd_add u v) x = dd_ev u x + dd_ev v x := by
  simp only [dd_ev, dd_add]; grind
theorem dd_mul_ev (k : Int) (u x : dd_V) : dd_ev (dd_mul k u) x = k * dd_ev u x := by
  simp only [dd_ev, dd_mul]; grind
theorem dd_sq (u : dd_V) : 0 ≤ dd_ev u u ∧ (dd_ev u u = 0 → u = dd_0) := by
  obtain ⟨a, b, c, d⟩ := u
  have h : ∀ t : Int, 0 ≤ t * t := fun t => by
    rcases Int.le_total 0 t with h | h
    · exact Int.mul_nonneg h h
    · have := Int.mul_nonneg (show 0 ≤ -t by omega) (show 0 ≤ -t by omega)
      rwa [Int.neg_mul_neg] at this
  have h1 := h a; have h2 := h b; have h3 := h c; have h4 := h d
  have z : ∀ t : Int, t * t = 0 → t = 0 := fun t ht => by
    rcases Int.mul_eq_zero.mp ht with h | h <;> exact h
  simp only [dd_ev, dd_0, Prod.mk.injEq]
  exact ⟨by omega, fun h0 => ⟨z a (by omega), z b (by omega), z c (by omega), z d (by omega)⟩⟩
abbrev dd_N : dd_V → Prop := fun _ => False
theorem dd_farkas (n : Nat) : ∀ (rows : List dd_V), rows.length = n → ∀ w : dd_V, dd_Q dd_N (fun v => v ∈ rows) w ∨ ∃ x, (∀ u ∈ rows, 0 ≤ dd_ev u x) ∧ dd_ev w x < 0 := by
  induction n with
  | zero =>
    intro rows hr w
    obtain rfl : rows = [] := List.eq_nil_of_length_eq_zero hr
    by_cases h : dd_ev w w = 0
    · left; rw [(dd_sq w).2 h]; exact dd_Q.of dd_Gen.zero
    · right
      refine ⟨dd_mul (-1) w, fun u hu => absurd hu (by simp), ?_⟩
      rw [dd_ev_mul]; have := (dd_sq w).1; omega
  | succ n ih =>
    intro rows hr w
    obtain ⟨a, rs, rfl⟩ : ∃ a rs, rows = a :: rs := by
      cases rows with
      | nil => simp at hr
      | cons a rs => exact ⟨a, rs, rfl⟩
    have hl : rs.length = n := by simpa using hr
    rcases ih rs hl w with h | ⟨x, hx, hw⟩
    · left
      exact h.transG (fun v hv => dd_Q.of (dd_Gen.ray1 (List.mem_cons_of_mem _ hv)))
    · by_cases ha : 0 ≤ dd_ev a x
      · right
        refine ⟨x, fun u hu => ?_, hw⟩
        rcases List.mem_cons.mp hu with rfl | h
        · exact ha
        · exact hx u h
      · have hs : 0 < -(dd_ev a x) := by omega
        rcases ih (rs.map (fun u => dd_add (dd_mul (-(dd_ev a x)) u) (dd_mul (dd_ev u x) a))) (by simpa using hl) (dd_add (dd_mul (-(dd_ev a x)) w) (dd_mul (dd_ev w x) a)) with h | ⟨y, hy, hyw⟩
        · left
          have h2 : dd_Q dd_N (fun v => v ∈ a :: rs) (dd_add (dd_mul (-(dd_ev a x)) w) (dd_mul (dd_ev w x) a)) := by
            refine h.transG (fun v hv => ?_)
            obtain ⟨u, hu, rfl⟩ := List.mem_map.mp hv
            refine dd_Q.add ?_ ?_
            · exact dd_Q.of (dd_Gen.ray (List.mem_cons_of_mem _ hu) (by omega))
            · exact dd_Q.of (dd_Gen.ray (List.mem_cons_self) (hx u hu))
          have h3 := h2.add (dd_Q.of (dd_Gen.ray (L := dd_N) (G := fun v => v ∈ a :: rs) (v := a) List.mem_cons_self (k := -(dd_ev w x)) (by omega)))
          refine dd_Q.div hs ?_
          have e : dd_add (dd_add (dd_mul (-(dd_ev a x)) w) (dd_mul (dd_ev w x) a)) (dd_mul (-(dd_ev w x)) a) = dd_mul (-(dd_ev a x)) w := by
            rw [dd_add_assoc, ← dd_add_mul, show dd_ev w x + -(dd_ev w x) = 0 by omega, dd_0_mul, dd_add_0]
          rwa [e] at h3
        · right
          refine ⟨dd_add (dd_mul (-(dd_ev a x)) y) (dd_mul (dd_ev a y) x), fun u hu => ?_, ?_⟩
          · rcases List.mem_cons.mp hu with rfl | h
            · rw [dd_ev_add, dd_ev_mul, dd_ev_mul]
              have : -(dd_ev u x) * dd_ev u y + dd_ev u y * dd_ev u x = 0 := by grind
              omega
            · have := hy _ (List.mem_map.mpr ⟨u, h, rfl⟩)
              rw [dd_add_ev, dd_mul_ev, dd_mul_ev] at this
              rw [dd_ev_add, dd_ev_mul, dd_ev_mul, Int.mul_comm (dd_ev a y)]; exact this
          · rw [dd_add_ev, dd_mul_ev, dd_mul_ev] at hyw
            rw [dd_ev_add, dd_ev_mul, dd_ev_mul, Int.mul_comm (dd_ev a y)]; exact hyw

-- the cut with neighbours alone
def dd_tt (rows : List dd_V) (r x : dd_V) : Prop := ∀ w ∈ rows, dd_ev w r = 0 → dd_ev w x = 0
def dd_nt (rows : List dd_V) (x : dd_V) : Nat := rows.countP (fun w => decide (dd_ev w x ≠ 0))
theorem dd_nt_le {rows : List dd_V} {x y : dd_V} (h : dd_tt rows y x) : dd_nt rows x ≤ dd_nt rows y := by
  unfold dd_nt
  refine List.countP_mono_left (fun w hw h1 => ?_)
  simp only [decide_eq_true_eq] at *
  exact fun h2 => h1 (h w hw h2)
theorem dd_nt_lt {rows : List dd_V} {x y : dd_V} (h : dd_tt rows y x) {w : dd_V} (hw : w ∈ rows) (h1 : dd_ev w y ≠ 0) (h2 : dd_ev w x = 0) : dd_nt rows x < dd_nt rows y := by
  induction rows with
  | nil => cases hw
  | cons a rs ih =>
    have hrs : dd_tt rs y x := fun v hv => h v (List.mem_cons_of_mem _ hv)
    simp only [dd_nt, List.countP_cons, decide_eq_true_eq] at *
    rcases List.mem_cons.mp hw with e | hw'
    · subst e
      have := dd_nt_le hrs
      simp only [dd_nt] at this
      simp only [h1, h2, ne_eq, not_true_eq_false, not_false_eq_true, if_true, if_false]
      simp only [ne_eq] at this
      omega
    · have := ih hrs hw'
      by_cases ha : dd_ev a y = 0
      · have hb := h a List.mem_cons_self ha
        simp only [ha, hb, ne_eq, not_true_eq_false, if_false]
        simp only [ne_eq] at this
        omega
      · by_cases hb : dd_ev a x = 0
        · simp only [ha, hb, ne_eq, not_true_eq_false, not_false_eq_true, if_true, if_false]
          simp only [ne_eq] at this
          omega
        · simp only [ha, hb, ne_eq, not_false_eq_true, if_true]
          simp only [ne_eq] at this
          omega
theorem dd_min {rows : List dd_V} (y c : dd_V) : (∃ w ∈ rows, 0 < dd_ev w c) → ∃ w ∈ rows, 0 < dd_ev w c ∧ ∀ v ∈ rows, 0 < dd_ev v c → dd_ev w y * dd_ev v c ≤ dd_ev v y * dd_ev w c := by
  induction rows with
  | nil => rintro ⟨w, hw, _⟩; cases hw
  | cons a rs ih =>
    intro hex
    by_cases hr : ∃ w ∈ rs, 0 < dd_ev w c
    · obtain ⟨w, hw, hpos, hmin⟩ := ih hr
      by_cases ha : 0 < dd_ev a c ∧ dd_ev a y * dd_ev w c ≤ dd_ev w y * dd_ev a c
      · refine ⟨a, List.mem_cons_self, ha.1, fun v hv hvc => ?_⟩
        rcases List.mem_cons.mp hv with rfl | hv'
        · exact Int.le_refl _
        · have h1 := Int.mul_le_mul_of_nonneg_right ha.2 (Int.le_of_lt hvc)
          have h2 := Int.mul_le_mul_of_nonneg_right (hmin v hv' hvc) (Int.le_of_lt ha.1)
          refine Int.le_of_mul_le_mul_right (a := dd_ev w c) ?_ hpos
          grind
      · refine ⟨w, List.mem_cons_of_mem _ hw, hpos, fun v hv hvc => ?_⟩
        rcases List.mem_cons.mp hv with rfl | hv'
        · have : ¬ dd_ev v y * dd_ev w c ≤ dd_ev w y * dd_ev v c := fun h => ha ⟨hvc, h⟩
          omega
        · exact hmin v hv' hvc
    · obtain ⟨w, hw, hpos⟩ := hex
      rcases List.mem_cons.mp hw with rfl | hw'
      · refine ⟨w, List.mem_cons_self, hpos, fun v hv hvc => ?_⟩
        rcases List.mem_cons.mp hv with rfl | hv'
        · exact Int.le_refl _
        · exact absurd ⟨v, hv', hvc⟩ hr
      · exact absurd ⟨w, hw', hpos⟩ hr
/-- what is left of y when c is taken away as far as it goes -/
theorem dd_take {rows : List dd_V} {y c : dd_V} (hy : ∀ w ∈ rows, 0 ≤ dd_ev w y) (hc : ∀ w ∈ rows, 0 ≤ dd_ev w c) (ht : dd_tt rows y c) (hex : ∃ w ∈ rows, 0 < dd_ev w c) :
    ∃ al be : Int, 0 < al ∧ 0 < be ∧ (∀ w ∈ rows, 0 ≤ dd_ev w (dd_add (dd_mul al y) (dd_mul (-be) c))) ∧ dd_tt rows y (dd_add (dd_mul al y) (dd_mul (-be) c)) ∧ dd_nt rows (dd_add (dd_mul al y) (dd_mul (-be) c)) < dd_nt rows y := by
  obtain ⟨w, hw, hpos, hmin⟩ := dd_min y c hex
  have hwy : dd_ev w y ≠ 0 := fun h => by have := ht w hw h; omega
  have hwy' : 0 < dd_ev w y := by have := hy w hw; omega
  have htt : dd_tt rows y (dd_add (dd_mul (dd_ev w c) y) (dd_mul (-(dd_ev w y)) c)) := fun v hv h0 => by
    rw [dd_ev_add, dd_ev_mul, dd_ev_mul, h0, ht v hv h0]; omega
  refine ⟨dd_ev w c, dd_ev w y, hpos, hwy', fun v hv => ?_, htt, dd_nt_lt htt hw hwy ?_⟩
  · rw [dd_ev_add, dd_ev_mul, dd_ev_mul]
    by_cases h0 : dd_ev v c = 0
    · rw [h0]; have := Int.mul_nonneg (Int.le_of_lt hpos) (hy v hv); omega
    · have := hmin v hv (by have := hc v hv; omega)
      have e : -(dd_ev w y) * dd_ev v c = -(dd_ev w y * dd_ev v c) := Int.neg_mul _ _
      rw [e, Int.mul_comm (dd_ev w c)]; omega
  · rw [dd_ev_add, dd_ev_mul, dd_ev_mul]; grind
/-- lines and rays of a space (rows: all that hold; A: names that there are not) -/
def dd_I (A rows L R : List dd_V) : Prop := (∀ l ∈ L, ∀ u ∈ A, dd_ev u l = 0) ∧ (∀ r ∈ R, ∀ u ∈ A, dd_ev u r = 0) ∧ (∀ l ∈ L, ∀ w ∈ rows, dd_ev w l = 0) ∧ (∀ r ∈ R, ∀ w ∈ rows, 0 ≤ dd_ev w r) ∧ (∀ r ∈ R, ∃ w ∈ rows, 0 < dd_ev w r) ∧ (∀ r ∈ R, ∀ s ∈ R, dd_tt rows r s → r = s) ∧ (∀ x, (∀ u ∈ A, dd_ev u x = 0) → (∀ w ∈ rows, 0 ≤ dd_ev w x) → dd_Q (fun v => v ∈ L) (fun v => v ∈ R) x)
theorem dd_I.pL {A rows L R : List dd_V} (h_ : dd_I A rows L R) : ∀ l ∈ L, ∀ u ∈ A, dd_ev u l = 0 := h_.1
theorem dd_I.pR {A rows L R : List dd_V} (h_ : dd_I A rows L R) : ∀ r ∈ R, ∀ u ∈ A, dd_ev u r = 0 := h_.2.1
theorem dd_I.hL {A rows L R : List dd_V} (h_ : dd_I A rows L R) : ∀ l ∈ L, ∀ w ∈ rows, dd_ev w l = 0 := h_.2.2.1
theorem dd_I.hR {A rows L R : List dd_V} (h_ : dd_I A rows L R) : ∀ r ∈ R, ∀ w ∈ rows, 0 ≤ dd_ev w r := h_.2.2.2.1
theorem dd_I.hN {A rows L R : List dd_V} (h_ : dd_I A rows L R) : ∀ r ∈ R, ∃ w ∈ rows, 0 < dd_ev w r := h_.2.2.2.2.1
theorem dd_I.hA {A rows L R : List dd_V} (h_ : dd_I A rows L R) : ∀ r ∈ R, ∀ s ∈ R, dd_tt rows r s → r = s := h_.2.2.2.2.2.1
theorem dd_I.hC {A rows L R : List dd_V} (h_ : dd_I A rows L R) : ∀ x, (∀ u ∈ A, dd_ev u x = 0) → (∀ w ∈ rows, 0 ≤ dd_ev w x) → dd_Q (fun v => v ∈ L) (fun v => v ∈ R) x := h_.2.2.2.2.2.2
/-- x by the rays of its own side -/
theorem dd_I.face {A rows L R : List dd_V} (H : dd_I A rows L R) {x : dd_V} (hP : ∀ u ∈ A, dd_ev u x = 0) (hx : ∀ w ∈ rows, 0 ≤ dd_ev w x) : ∃ k : Int, 0 < k ∧ dd_Gen (fun v => v ∈ L) (fun v => v ∈ R ∧ dd_tt rows x v) (dd_mul k x) := by
  obtain ⟨k, hk, hg⟩ := H.hC x hP hx
  refine ⟨k, hk, ((dd_Gen.face (rows := rows) H.hL H.hR hg).2).mono (fun _ h => h) (fun v hv => ⟨hv.1, fun w hw h0 => hv.2 w hw ?_⟩)⟩
  rw [dd_ev_mul, h0]; omega
theorem dd_Gen.sign {L G : dd_V → Prop} {h x : dd_V} (hL : ∀ v, L v → dd_ev h v = 0) (hG : ∀ v, G v → dd_ev h v ≤ 0) (hx : dd_Gen L G x) : dd_ev h x ≤ 0 := by
  refine hx (fun x => dd_ev h x ≤ 0) (by rw [dd_ev_0]; omega) (fun x y h1 h2 => by rw [dd_ev_add]; omega) (fun v hv k => by rw [dd_ev_mul, hL v hv]; omega) (fun v hv k hk => ?_)
  rw [dd_ev_mul]
  have := Int.mul_nonneg hk (show 0 ≤ -(dd_ev h v) by have := hG v hv; omega)
  rw [Int.mul_neg] at this; omega
theorem dd_Gen.ev0 {L G : dd_V → Prop} {h x : dd_V} (hL : ∀ v, L v → dd_ev h v = 0) (hG : ∀ v, G v → dd_ev h v = 0) (hx : dd_Gen L G x) : dd_ev h x = 0 := by
  refine hx (fun x => dd_ev h x = 0) (dd_ev_0 h) (fun x y h1 h2 => by rw [dd_ev_add]; omega) (fun v hv k => by rw [dd_ev_mul, hL v hv]; omega) (fun v hv k _ => by rw [dd_ev_mul, hG v hv]; omega)
/-- where all rays of it are below h (strictly) and it is not, none is used -/
theorem dd_Gen.strict {L G : dd_V → Prop} {h x : dd_V} (hL : ∀ v, L v → dd_ev h v = 0) (hG : ∀ v, G v → dd_ev h v < 0) (hx : dd_Gen L G x) : dd_ev h x ≤ 0 ∧ (dd_ev h x = 0 → dd_Gen L dd_N x) := by
  refine hx (fun x => dd_ev h x ≤ 0 ∧ (dd_ev h x = 0 → dd_Gen L dd_N x)) ⟨by rw [dd_ev_0]; omega, fun _ => dd_Gen.zero⟩ (fun x y h1 h2 => ?_) (fun v hv k => ⟨by rw [dd_ev_mul, hL v hv]; omega, fun _ => dd_Gen.line hv k⟩) (fun v hv k hk => ?_)
  · rw [dd_ev_add]
    exact ⟨by omega, fun h0 => (h1.2 (by omega)).add (h2.2 (by omega))⟩
  · rw [dd_ev_mul]
    have h1 := hG v hv
    by_cases h0 : k = 0
    · subst h0; rw [dd_0_mul]; exact ⟨by omega, fun _ => dd_Gen.zero⟩
    · have := Int.mul_neg_of_pos_of_neg (show 0 < k by omega) h1
      exact ⟨by omega, fun h2 => by omega⟩
def dd_nb (rows R : List dd_V) (r s : dd_V) : Prop := ∀ t ∈ R, (∀ w ∈ rows, dd_ev w r = 0 → dd_ev w s = 0 → dd_ev w t = 0) → t = r ∨ t = s
/-- what a cut by h leaves -/
def dd_G' (rows R : List dd_V) (h v : dd_V) : Prop := (v ∈ R ∧ 0 ≤ dd_ev h v) ∨ ∃ r s, r ∈ R ∧ s ∈ R ∧ 0 < dd_ev h r ∧ dd_ev h s < 0 ∧ dd_nb rows R r s ∧ v = dd_comb h r s
theorem dd_neg_h (h x : dd_V) : dd_ev (dd_mul (-1) h) x = -(dd_ev h x) := by rw [dd_mul_ev]; omega
theorem dd_comb_nn {w h r s : dd_V} (hr : 0 < dd_ev h r) (hs : dd_ev h s < 0) (h1 : 0 ≤ dd_ev w r) (h2 : 0 ≤ dd_ev w s) : 0 ≤ dd_ev w (dd_comb h r s) := by
  rw [dd_comb_ev]
  have := Int.mul_nonneg (Int.le_of_lt hr) h2
  have := Int.mul_nonneg (show 0 ≤ -(dd_ev h s) by omega) h1
  omega
theorem dd_comb_0 {w h r s : dd_V} (hr : 0 < dd_ev h r) (hs : dd_ev h s < 0) (h1 : 0 ≤ dd_ev w r) (h2 : 0 ≤ dd_ev w s) : dd_ev w (dd_comb h r s) = 0 ↔ dd_ev w r = 0 ∧ dd_ev w s = 0 := by
  rw [dd_comb_ev]
  have a1 := Int.mul_nonneg (Int.le_of_lt hr) h2
  have a2 := Int.mul_nonneg (show 0 ≤ -(dd_ev h s) by omega) h1
  constructor
  · intro h0
    have b1 : dd_ev h r * dd_ev w s = 0 := by omega
    have b2 : -(dd_ev h s) * dd_ev w r = 0 := by omega
    refine ⟨?_, ?_⟩
    · rcases Int.mul_eq_zero.mp b2 with c | c <;> omega
    · rcases Int.mul_eq_zero.mp b1 with c | c <;> omega
  · rintro ⟨e1, e2⟩; rw [e1, e2]; omega

theorem dd_tt_comb {rows : List dd_V} {r s t : dd_V} {al be g1 : Int} (hal : 0 < al) (hbe : 0 < be)
    (e : ∀ w ∈ rows, be * dd_ev w t = al * dd_ev w r + g1 * dd_ev w s) (hr : ∀ w ∈ rows, 0 ≤ dd_ev w r) (hs : ∀ w ∈ rows, 0 ≤ dd_ev w s) (ht : ∀ w ∈ rows, 0 ≤ dd_ev w t) :
    dd_tt rows t r ∨ dd_tt rows r t := by
  by_cases hg : 0 ≤ g1
  · left
    intro w hw h0
    have h1 := e w hw
    rw [h0] at h1
    have h2 := Int.mul_nonneg (Int.le_of_lt hal) (hr w hw)
    have h3 := Int.mul_nonneg hg (hs w hw)
    have h4 : al * dd_ev w r = 0 := by omega
    rcases Int.mul_eq_zero.mp h4 with c | c <;> omega
  · right
    intro w hw h0
    have h1 := e w hw
    rw [h0] at h1
    have h2 := Int.mul_nonneg (Int.le_of_lt hbe) (ht w hw)
    have h3 := Int.mul_nonneg (show 0 ≤ -g1 by omega) (hs w hw)
    rw [Int.neg_mul] at h3
    have h4 : be * dd_ev w t = 0 := by omega
    rcases Int.mul_eq_zero.mp h4 with c | c <;> omega
/-- behind a cut every point has a ray of its own side -/
theorem dd_I.side {A rows L R : List dd_V} (H : dd_I A rows L R) {h : dd_V} (hLh : ∀ l ∈ L, dd_ev h l = 0) (n : Nat) :
    ∀ x, dd_nt rows x ≤ n → (∀ u ∈ A, dd_ev u x = 0) → (∀ w ∈ rows, 0 ≤ dd_ev w x) → 0 ≤ dd_ev h x → (∃ w ∈ rows, 0 < dd_ev w x) →
    ∃ g, dd_G' rows R h g ∧ dd_tt rows x g ∧ (dd_ev h x = 0 → dd_ev h g = 0) := by
  induction n with
  | zero =>
    intro x hn hP hx hh ⟨w, hw, h0⟩
    have : dd_nt rows x ≠ 0 := by
      unfold dd_nt
      have := List.countP_pos_iff (p := fun w => decide (dd_ev w x ≠ 0)) (l := rows) |>.mpr ⟨w, hw, by simp; omega⟩
      omega
    omega
  | succ n ih =>
    intro x hn hP hx hh hex
    obtain ⟨k, hk, hg⟩ := H.face hP hx
    have ekx : dd_ev h (dd_mul k x) = k * dd_ev h x := dd_ev_mul h k x
    by_cases h1 : 0 < dd_ev h x
    · by_cases hq : ∃ g, (g ∈ R ∧ dd_tt rows x g) ∧ 0 < dd_ev h g
      · obtain ⟨g, ⟨g1, g2⟩, g3⟩ := hq
        exact ⟨g, Or.inl ⟨g1, by omega⟩, g2, fun h0 => by omega⟩
      · have := dd_Gen.sign hLh (h := h) (fun v hv => by
          by_cases h2 : 0 < dd_ev h v
          · exact absurd ⟨v, hv, h2⟩ hq
          · omega) hg
        rw [ekx] at this
        have := Int.mul_pos hk h1
        omega
    · have h0 : dd_ev h x = 0 := by omega
      rw [h0, Int.mul_zero] at ekx
      by_cases hq : ∃ g, (g ∈ R ∧ dd_tt rows x g) ∧ dd_ev h g = 0
      · obtain ⟨g, ⟨g1, g2⟩, g3⟩ := hq
        exact ⟨g, Or.inl ⟨g1, by omega⟩, g2, fun _ => g3⟩
      · have nz : ∀ v, (v ∈ R ∧ dd_tt rows x v) → dd_ev h v ≠ 0 := fun v hv h2 => hq ⟨v, hv, h2⟩
        have nolin : ¬ dd_Gen (fun v => v ∈ L) dd_N (dd_mul k x) := fun hl => by
          obtain ⟨w, hw, hp⟩ := hex
          have := dd_Gen.ev0 (h := w) (fun v hv => H.hL v hv w hw) (fun v hv => hv.elim) hl
          rw [dd_ev_mul] at this
          have := Int.mul_pos hk hp
          omega
        have hr : ∃ r, (r ∈ R ∧ dd_tt rows x r) ∧ 0 < dd_ev h r := by
          refine Classical.byContradiction fun hno => nolin ?_
          exact (dd_Gen.strict hLh (h := h) (fun v hv => by
            have := nz v hv
            by_cases h2 : 0 < dd_ev h v
            · exact absurd ⟨v, hv, h2⟩ hno
            · omega) hg).2 ekx
        have hs : ∃ s, (s ∈ R ∧ dd_tt rows x s) ∧ dd_ev h s < 0 := by
          refine Classical.byContradiction fun hno => nolin ?_
          refine (dd_Gen.strict (h := dd_mul (-1) h) (fun v hv => by rw [dd_neg_h, hLh v hv]; omega) (fun v hv => ?_) hg).2 (by rw [dd_neg_h, ekx]; omega)
          have := nz v hv
          rw [dd_neg_h]
          by_cases h2 : dd_ev h v < 0
          · exact absurd ⟨v, hv, h2⟩ hno
          · omega
        obtain ⟨r, ⟨r1, r2⟩, r3⟩ := hr
        obtain ⟨s, ⟨s1, s2⟩, s3⟩ := hs
        have xy : dd_tt rows x (dd_comb h r s) := fun w hw e0 => (dd_comb_0 r3 s3 (H.hR r r1 w hw) (H.hR s s1 w hw)).mpr ⟨r2 w hw e0, s2 w hw e0⟩
        by_cases hb : dd_nb rows R r s
        · exact ⟨dd_comb h r s, Or.inr ⟨r, s, r1, s1, r3, s3, hb, rfl⟩, xy, fun _ => dd_comb_h h r s⟩
        · have : ∃ t ∈ R, (∀ w ∈ rows, dd_ev w r = 0 → dd_ev w s = 0 → dd_ev w t = 0) ∧ t ≠ r ∧ t ≠ s := by
            refine Classical.byContradiction fun hno => hb (fun t ht h2 => ?_)
            refine Classical.byContradiction fun h3 => hno ⟨t, ht, h2, fun h4 => h3 (Or.inl h4), fun h4 => h3 (Or.inr h4)⟩
          obtain ⟨t, t1, t2, t3, t4⟩ := this
          have t5 : dd_tt rows x t := fun w hw e0 => t2 w hw (r2 w hw e0) (s2 w hw e0)
          have t6 := nz t ⟨t1, t5⟩
          have ynn : ∀ w ∈ rows, 0 ≤ dd_ev w (dd_comb h r s) := fun w hw => dd_comb_nn r3 s3 (H.hR r r1 w hw) (H.hR s s1 w hw)
          have pc : ∀ a b, a ∈ R → b ∈ R → ∀ u ∈ A, dd_ev u (dd_comb h a b) = 0 := fun a b ha hb u hu => by
            rw [dd_comb_ev, H.pR a ha u hu, H.pR b hb u hu]; omega
          -- one common end for both sorts of third rays
          have fin : ∀ c, (∀ u ∈ A, dd_ev u c = 0) → (∀ w ∈ rows, 0 ≤ dd_ev w c) → dd_ev h c = 0 → dd_tt rows (dd_comb h r s) c → (∃ w ∈ rows, 0 < dd_ev w c) →
              (∀ al be : Int, 0 < al → 0 < be → ¬ ∀ w ∈ rows, al * dd_ev w (dd_comb h r s) = be * dd_ev w c) →
              ∃ g, dd_G' rows R h g ∧ dd_tt rows x g ∧ (dd_ev h x = 0 → dd_ev h g = 0) := by
            intro c cP cn ch ct cx cno
            obtain ⟨al, be, p1, p2, p3, p4, p5⟩ := dd_take ynn cn ct cx
            have eh : dd_ev h (dd_add (dd_mul al (dd_comb h r s)) (dd_mul (-be) c)) = 0 := by
              rw [dd_ev_add, dd_ev_mul, dd_ev_mul, ch, dd_comb_h]; omega
            have hex' : ∃ w ∈ rows, 0 < dd_ev w (dd_add (dd_mul al (dd_comb h r s)) (dd_mul (-be) c)) := by
              refine Classical.byContradiction fun hno => cno al be p1 p2 (fun w hw => ?_)
              have h5 := p3 w hw
              have h6 : ¬ 0 < dd_ev w (dd_add (dd_mul al (dd_comb h r s)) (dd_mul (-be) c)) := fun h7 => hno ⟨w, hw, h7⟩
              rw [dd_ev_add, dd_ev_mul, dd_ev_mul, Int.neg_mul] at h5 h6
              omega
            obtain ⟨g, g1, g2, g3⟩ := ih _ (by have := dd_nt_le xy; omega) (fun u hu => by
              rw [dd_ev_add, dd_ev_mul, dd_ev_mul, cP u hu, pc r s r1 s1 u hu]; omega) p3 (by omega) hex'
            exact ⟨g, g1, fun w hw e0 => g2 w hw (p4 w hw (xy w hw e0)), fun _ => g3 eh⟩
          by_cases t7 : 0 < dd_ev h t
          · refine fin (dd_comb h t s) (pc t s t1 s1) (fun w hw => dd_comb_nn t7 s3 (H.hR t t1 w hw) (H.hR s s1 w hw)) (dd_comb_h h t s) (fun w hw e0 => ?_) ?_ (fun al be ha hb0 hall => ?_)
            · obtain ⟨e1, e2⟩ := (dd_comb_0 r3 s3 (H.hR r r1 w hw) (H.hR s s1 w hw)).mp e0
              exact (dd_comb_0 t7 s3 (H.hR t t1 w hw) (H.hR s s1 w hw)).mpr ⟨t2 w hw e1 e2, e2⟩
            · obtain ⟨w, hw, hp⟩ := H.hN t t1
              refine ⟨w, hw, ?_⟩
              have h8 := dd_comb_nn t7 s3 (H.hR t t1 w hw) (H.hR s s1 w hw)
              have h9 : dd_ev w (dd_comb h t s) ≠ 0 := fun h9 => by
                have := ((dd_comb_0 t7 s3 (H.hR t t1 w hw) (H.hR s s1 w hw)).mp h9).1
                omega
              omega
            · rcases dd_tt_comb (r := r) (s := s) (t := t) (al := al * -(dd_ev h s)) (be := be * -(dd_ev h s)) (g1 := al * dd_ev h r - be * dd_ev h t) (Int.mul_pos ha (by omega)) (Int.mul_pos hb0 (by omega)) (fun w hw => by
                have := hall w hw
                rw [dd_comb_ev, dd_comb_ev] at this
                grind) (H.hR r r1) (H.hR s s1) (H.hR t t1) with h5 | h5
              · exact t3 (H.hA t t1 r r1 h5)
              · exact t3 (H.hA r r1 t t1 h5).symm
          · have t8 : dd_ev h t < 0 := by omega
            refine fin (dd_comb h r t) (pc r t r1 t1) (fun w hw => dd_comb_nn r3 t8 (H.hR r r1 w hw) (H.hR t t1 w hw)) (dd_comb_h h r t) (fun w hw e0 => ?_) ?_ (fun al be ha hb0 hall => ?_)
            · obtain ⟨e1, e2⟩ := (dd_comb_0 r3 s3 (H.hR r r1 w hw) (H.hR s s1 w hw)).mp e0
              exact (dd_comb_0 r3 t8 (H.hR r r1 w hw) (H.hR t t1 w hw)).mpr ⟨e1, t2 w hw e1 e2⟩
            · obtain ⟨w, hw, hp⟩ := H.hN t t1
              refine ⟨w, hw, ?_⟩
              have h8 := dd_comb_nn r3 t8 (H.hR r r1 w hw) (H.hR t t1 w hw)
              have h9 : dd_ev w (dd_comb h r t) ≠ 0 := fun h9 => by
                have := ((dd_comb_0 r3 t8 (H.hR r r1 w hw) (H.hR t t1 w hw)).mp h9).2
                omega
              omega
            · rcases dd_tt_comb (r := s) (s := r) (t := t) (al := al * dd_ev h r) (be := be * dd_ev h r) (g1 := al * -(dd_ev h s) - be * -(dd_ev h t)) (Int.mul_pos ha (by omega)) (Int.mul_pos hb0 (by omega)) (fun w hw => by
                have := hall w hw
                rw [dd_comb_ev, dd_comb_ev] at this
                grind) (H.hR s s1) (H.hR r r1) (H.hR t t1) with h5 | h5
              · exact t4 (H.hA t t1 s s1 h5)
              · exact t4 (H.hA s s1 t t1 h5).symm

theorem dd_tt_app {rows : List dd_V} {h x y : dd_V} : dd_tt (rows ++ [h]) x y ↔ dd_tt rows x y ∧ (dd_ev h x = 0 → dd_ev h y = 0) := by
  constructor
  · intro H
    exact ⟨fun w hw => H w (List.mem_append_left _ hw), H h (by simp)⟩
  · rintro ⟨h1, h2⟩ w hw
    rcases List.mem_append.mp hw with a | a
    · exact h1 w a
    · rw [List.mem_singleton.mp a]; exact h2
theorem dd_nn_app {rows : List dd_V} {h x : dd_V} : (∀ w ∈ rows ++ [h], 0 ≤ dd_ev w x) ↔ (∀ w ∈ rows, 0 ≤ dd_ev w x) ∧ 0 ≤ dd_ev h x := by
  constructor
  · intro H
    exact ⟨fun w hw => H w (List.mem_append_left _ hw), H h (by simp)⟩
  · rintro ⟨h1, h2⟩ w hw
    rcases List.mem_append.mp hw with a | a
    · exact h1 w a
    · rw [List.mem_singleton.mp a]; exact h2
theorem dd_I.g'nn {A rows L R : List dd_V} (H : dd_I A rows L R) {h g : dd_V} (hg : dd_G' rows R h g) : (∀ u ∈ A, dd_ev u g = 0) ∧ (∀ w ∈ rows, 0 ≤ dd_ev w g) ∧ 0 ≤ dd_ev h g ∧ ∃ w ∈ rows, 0 < dd_ev w g := by
  rcases hg with ⟨h1, h2⟩ | ⟨r, s, r1, s1, r2, s2, _, rfl⟩
  · exact ⟨H.pR g h1, H.hR g h1, h2, H.hN g h1⟩
  · refine ⟨fun u hu => by rw [dd_comb_ev, H.pR r r1 u hu, H.pR s s1 u hu]; omega, fun w hw => dd_comb_nn r2 s2 (H.hR r r1 w hw) (H.hR s s1 w hw), by rw [dd_comb_h]; omega, ?_⟩
    obtain ⟨w, hw, hp⟩ := H.hN r r1
    refine ⟨w, hw, ?_⟩
    have h8 := dd_comb_nn r2 s2 (H.hR r r1 w hw) (H.hR s s1 w hw)
    have h9 : dd_ev w (dd_comb h r s) ≠ 0 := fun h9 => by
      have := ((dd_comb_0 r2 s2 (H.hR r r1 w hw) (H.hR s s1 w hw)).mp h9).1
      omega
    omega
/-- behind a cut nothing is lost -/
theorem dd_I.full {A rows L R : List dd_V} (H : dd_I A rows L R) {h : dd_V} (hLh : ∀ l ∈ L, dd_ev h l = 0) (n : Nat) :
    ∀ x, dd_nt (rows ++ [h]) x ≤ n → (∀ u ∈ A, dd_ev u x = 0) → (∀ w ∈ rows, 0 ≤ dd_ev w x) → 0 ≤ dd_ev h x → dd_Q (fun v => v ∈ L) (dd_G' rows R h) x := by
  induction n with
  | zero =>
    intro x hn hP hx hh
    have h0 : ∀ w ∈ rows ++ [h], dd_ev w x = 0 := fun w hw => by
      refine Classical.byContradiction fun h1 => ?_
      have := List.countP_pos_iff (p := fun w => decide (dd_ev w x ≠ 0)) (l := rows ++ [h]) |>.mpr ⟨w, hw, by simpa using h1⟩
      unfold dd_nt at hn; omega
    obtain ⟨k, hk, hg⟩ := H.face hP hx
    refine ⟨k, hk, hg.mono (fun _ h => h) (fun v hv => ?_)⟩
    obtain ⟨w, hw, hp⟩ := H.hN v hv.1
    have := hv.2 w hw (h0 w (List.mem_append_left _ hw))
    omega
  | succ n ih =>
    intro x hn hP hx hh
    by_cases hex : ∃ w ∈ rows, 0 < dd_ev w x
    · obtain ⟨g, g1, g2, g3⟩ := H.side hLh _ x (Nat.le_refl _) hP hx hh hex
      obtain ⟨q1, q2, q3, q4⟩ := H.g'nn g1
      obtain ⟨al, be, p1, p2, p3, p4, p5⟩ := dd_take (rows := rows ++ [h]) (y := x) (c := g) (dd_nn_app.mpr ⟨hx, hh⟩) (dd_nn_app.mpr ⟨q2, q3⟩) (dd_tt_app.mpr ⟨g2, g3⟩) (by
        obtain ⟨w, hw, hp⟩ := q4
        exact ⟨w, List.mem_append_left _ hw, hp⟩)
      have := ih _ (by omega) (fun u hu => by rw [dd_ev_add, dd_ev_mul, dd_ev_mul, hP u hu, q1 u hu]; omega) (dd_nn_app.mp p3).1 (dd_nn_app.mp p3).2
      refine dd_Q.div p1 ?_
      have h2 := this.add (dd_Q.of (dd_Gen.ray (L := fun v => v ∈ L) g1 (k := be) (by omega)))
      have e : dd_add (dd_add (dd_mul al x) (dd_mul (-be) g)) (dd_mul be g) = dd_mul al x := by
        rw [dd_add_assoc, ← dd_add_mul, show -be + be = 0 by omega, dd_0_mul, dd_add_0]
      rwa [e] at h2
    · have h0 : ∀ w ∈ rows, dd_ev w x = 0 := fun w hw => by
        have := hx w hw
        have : ¬ 0 < dd_ev w x := fun h1 => hex ⟨w, hw, h1⟩
        omega
      obtain ⟨k, hk, hg⟩ := H.face hP hx
      refine ⟨k, hk, hg.mono (fun _ h => h) (fun v hv => ?_)⟩
      obtain ⟨w, hw, hp⟩ := H.hN v hv.1
      have := hv.2 w hw (h0 w hw)
      omega
-- divided by what divides all
def dd_g (x : dd_V) : Nat := Nat.gcd (Nat.gcd (Nat.gcd x.1.natAbs x.2.1.natAbs) x.2.2.1.natAbs) x.2.2.2.natAbs
def dd_red (x : dd_V) : dd_V := (x.1 / (dd_g x : Int), x.2.1 / (dd_g x : Int), x.2.2.1 / (dd_g x : Int), x.2.2.2 / (dd_g x : Int))
theorem dd_g_dvd (x : dd_V) : (dd_g x : Int) ∣ x.1 ∧ (dd_g x : Int) ∣ x.2.1 ∧ (dd_g x : Int) ∣ x.2.2.1 ∧ (dd_g x : Int) ∣ x.2.2.2 := by
  have h4 : dd_g x ∣ x.2.2.2.natAbs := Nat.gcd_dvd_right _ _
  have h3 : dd_g x ∣ x.2.2.1.natAbs := Nat.dvd_trans (Nat.gcd_dvd_left _ _) (Nat.gcd_dvd_right _ _)
  have h2 : dd_g x ∣ x.2.1.natAbs := Nat.dvd_trans (Nat.dvd_trans (Nat.gcd_dvd_left _ _) (Nat.gcd_dvd_left _ _)) (Nat.gcd_dvd_right _ _)
  have h1 : dd_g x ∣ x.1.natAbs := Nat.dvd_trans (Nat.dvd_trans (Nat.gcd_dvd_left _ _) (Nat.gcd_dvd_left _ _)) (Nat.gcd_dvd_left _ _)
  exact ⟨Int.ofNat_dvd_left.mpr h1, Int.ofNat_dvd_left.mpr h2, Int.ofNat_dvd_left.mpr h3, Int.ofNat_dvd_left.mpr h4⟩
theorem dd_red_mul (x : dd_V) : dd_mul (dd_g x : Int) (dd_red x) = x := by
  obtain ⟨h1, h2, h3, h4⟩ := dd_g_dvd x
  obtain ⟨a, b, c, d⟩ := x
  simp only [dd_mul, dd_red, Prod.mk.injEq]
  exact ⟨Int.mul_ediv_cancel' h1, Int.mul_ediv_cancel' h2, Int.mul_ediv_cancel' h3, Int.mul_ediv_cancel' h4⟩
theorem dd_g_pos {x : dd_V} (hx : x ≠ dd_0) : 0 < dd_g x := by
  refine Nat.pos_of_ne_zero fun h => hx ?_
  have := dd_red_mul x
  rw [h] at this
  rw [← this]; exact dd_0_mul _
theorem dd_red_ev (w x : dd_V) : dd_ev w x = (dd_g x : Int) * dd_ev w (dd_red x) := by
  rw [← dd_ev_mul, dd_red_mul]
theorem dd_ne_0 {w x : dd_V} (h : dd_ev w x ≠ 0) : x ≠ dd_0 := fun h1 => h (by rw [h1, dd_ev_0])
theorem dd_red_0 {w x : dd_V} (hx : x ≠ dd_0) : dd_ev w (dd_red x) = 0 ↔ dd_ev w x = 0 := by
  have := dd_g_pos hx
  rw [dd_red_ev w x]
  constructor
  · intro h; rw [h]; omega
  · intro h; rcases Int.mul_eq_zero.mp h with c | c <;> omega
theorem dd_red_pos {w x : dd_V} (hx : x ≠ dd_0) : 0 < dd_ev w (dd_red x) ↔ 0 < dd_ev w x := by
  have h0 := dd_g_pos hx
  rw [dd_red_ev w x]
  constructor
  · intro h; exact Int.mul_pos (by omega) h
  · intro h; exact Int.pos_of_mul_pos_right h (by omega)
theorem dd_red_nn {w x : dd_V} (hx : x ≠ dd_0) : 0 ≤ dd_ev w (dd_red x) ↔ 0 ≤ dd_ev w x := by
  have := dd_red_0 (w := w) hx
  have := dd_red_pos (w := w) hx
  omega
theorem dd_red_1 {x : dd_V} (hx : x ≠ dd_0) : dd_g (dd_red x) = 1 := by
  have h0 := dd_g_pos hx
  have e := dd_red_mul x
  have h1 : dd_g (dd_mul (dd_g x : Int) (dd_red x)) = dd_g x * dd_g (dd_red x) := by
    simp only [dd_g, dd_mul, Int.natAbs_mul, Int.natAbs_natCast, Nat.gcd_mul_left]
  rw [e] at h1
  exact Nat.eq_of_mul_eq_mul_left h0 (by omega)
theorem dd_red_ne {x : dd_V} (hx : x ≠ dd_0) : dd_red x ≠ dd_0 := fun h => by
  have := dd_red_mul x
  rw [h, dd_mul_0] at this
  exact hx this.symm
theorem dd_I.cut {A rows L R R' : List dd_V} (H : dd_I A rows L R) {h : dd_V} (hLh : ∀ l ∈ L, dd_ev h l = 0)
    (hR' : ∀ v, v ∈ R' ↔ (v ∈ R ∧ 0 ≤ dd_ev h v) ∨ ∃ r s, r ∈ R ∧ s ∈ R ∧ 0 < dd_ev h r ∧ dd_ev h s < 0 ∧ dd_nb rows R r s ∧ v = dd_red (dd_comb h r s)) :
    dd_I A (rows ++ [h]) L R' := by
  have ne : ∀ r s, r ∈ R → s ∈ R → 0 < dd_ev h r → dd_ev h s < 0 → dd_comb h r s ≠ dd_0 := fun r s r1 s1 r2 s2 => by
    obtain ⟨w, hw, hp⟩ := H.hN r r1
    refine dd_ne_0 (w := w) fun h9 => ?_
    have := ((dd_comb_0 r2 s2 (H.hR r r1 w hw) (H.hR s s1 w hw)).mp h9).1
    omega
  refine ⟨H.pL, ?_, ?_, ?_, ?_, ?_, ?_⟩
  · intro v hv u hu
    rcases (hR' v).mp hv with ⟨h1, _⟩ | ⟨r, s, r1, s1, r2, s2, _, rfl⟩
    · exact H.pR v h1 u hu
    · rw [dd_red_0 (ne r s r1 s1 r2 s2), dd_comb_ev, H.pR r r1 u hu, H.pR s s1 u hu]; omega
  · intro l hl w hw
    rcases List.mem_append.mp hw with a | a
    · exact H.hL l hl w a
    · rw [List.mem_singleton.mp a]; exact hLh l hl
  · intro v hv
    refine dd_nn_app.mpr ?_
    rcases (hR' v).mp hv with ⟨h1, h2⟩ | ⟨r, s, r1, s1, r2, s2, _, rfl⟩
    · exact ⟨H.hR v h1, h2⟩
    · refine ⟨fun w hw => (dd_red_nn (ne r s r1 s1 r2 s2)).mpr (dd_comb_nn r2 s2 (H.hR r r1 w hw) (H.hR s s1 w hw)), ?_⟩
      rw [dd_red_nn (ne r s r1 s1 r2 s2), dd_comb_h]; omega
  · intro v hv
    rcases (hR' v).mp hv with ⟨h1, _⟩ | ⟨r, s, r1, s1, r2, s2, nb, rfl⟩
    · obtain ⟨w, hw, hp⟩ := H.hN v h1
      exact ⟨w, List.mem_append_left _ hw, hp⟩
    · obtain ⟨w, hw, hp⟩ := (H.g'nn (Or.inr ⟨r, s, r1, s1, r2, s2, nb, rfl⟩)).2.2.2
      exact ⟨w, List.mem_append_left _ hw, (dd_red_pos (ne r s r1 s1 r2 s2)).mpr hp⟩
  · intro a ha b hb ht
    obtain ⟨t1, t2⟩ := dd_tt_app.mp ht
    rcases (hR' a).mp ha with ⟨a1, a2⟩ | ⟨r, s, r1, s1, r2, s2, nb, rfl⟩
    · rcases (hR' b).mp hb with ⟨b1, _⟩ | ⟨r, s, r1, s1, r2, s2, nb, rfl⟩
      · exact H.hA a a1 b b1 t1
      · have q : ∀ w ∈ rows, dd_ev w a = 0 → dd_ev w r = 0 ∧ dd_ev w s = 0 := fun w hw h0 =>
          (dd_comb_0 r2 s2 (H.hR r r1 w hw) (H.hR s s1 w hw)).mp ((dd_red_0 (ne r s r1 s1 r2 s2)).mp (t1 w hw h0))
        have e1 := H.hA a a1 r r1 (fun w hw h0 => (q w hw h0).1)
        have e2 := H.hA a a1 s s1 (fun w hw h0 => (q w hw h0).2)
        rw [← e1] at r2; rw [← e2] at s2; omega
    · have n1 := ne r s r1 s1 r2 s2
      have hz : dd_ev h (dd_red (dd_comb h r s)) = 0 := by rw [dd_red_0 n1, dd_comb_h]
      rcases (hR' b).mp hb with ⟨b1, _⟩ | ⟨r', s', r1', s1', r2', s2', nb', rfl⟩
      · have hb0 := t2 hz
        rcases nb b b1 (fun w hw e1 e2 => t1 w hw ((dd_red_0 n1).mpr ((dd_comb_0 r2 s2 (H.hR r r1 w hw) (H.hR s s1 w hw)).mpr ⟨e1, e2⟩))) with e | e
        · rw [e] at hb0; omega
        · rw [e] at hb0; omega
      · have n2 := ne r' s' r1' s1' r2' s2'
        have q : ∀ w ∈ rows, dd_ev w r = 0 → dd_ev w s = 0 → dd_ev w r' = 0 ∧ dd_ev w s' = 0 := fun w hw e1 e2 =>
          (dd_comb_0 r2' s2' (H.hR r' r1' w hw) (H.hR s' s1' w hw)).mp ((dd_red_0 n2).mp (t1 w hw ((dd_red_0 n1).mpr ((dd_comb_0 r2 s2 (H.hR r r1 w hw) (H.hR s s1 w hw)).mpr ⟨e1, e2⟩))))
        have e1 : r' = r := by
          rcases nb r' r1' (fun w hw e1 e2 => (q w hw e1 e2).1) with e | e
          · exact e
          · rw [e] at r2'; omega
        have e2 : s' = s := by
          rcases nb s' s1' (fun w hw e1 e2 => (q w hw e1 e2).2) with e | e
          · rw [e] at s2'; omega
          · exact e
        rw [e1, e2]
  · intro x hP hx
    obtain ⟨h1, h2⟩ := dd_nn_app.mp hx
    refine (H.full hLh _ x (Nat.le_refl _) hP h1 h2).transG (fun v hv => ?_)
    rcases hv with ⟨v1, v2⟩ | ⟨r, s, r1, s1, r2, s2, nb, rfl⟩
    · exact dd_Q.of (dd_Gen.ray1 ((hR' v).mpr (Or.inl ⟨v1, v2⟩)))
    · have := dd_Gen.ray (L := fun v => v ∈ L) (G := fun v => v ∈ R') ((hR' _).mpr (Or.inr ⟨r, s, r1, s1, r2, s2, nb, rfl⟩)) (k := (dd_g (dd_comb h r s) : Int)) (by omega)
      rw [dd_red_mul] at this
      exact dd_Q.of this
