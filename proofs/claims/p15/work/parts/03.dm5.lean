-- which rows just hold, as bits
def dd_mask : List dd_V → dd_V → Nat
  | [], _ => 0
  | w :: t, v => (if dd_ev w v = 0 then 1 else 0) + 2 * dd_mask t v
theorem dd_mask_lt (rows : List dd_V) (v : dd_V) : dd_mask rows v < 2 ^ rows.length := by
  induction rows with
  | nil => simp [dd_mask]
  | cons w t ih => simp only [dd_mask, List.length_cons, Nat.pow_succ]; split <;> omega
theorem dd_mask_app (rows : List dd_V) (h v : dd_V) : dd_mask (rows ++ [h]) v = dd_mask rows v + (if dd_ev h v = 0 then 2 ^ rows.length else 0) := by
  induction rows with
  | nil => simp [dd_mask]
  | cons w t ih =>
    simp only [List.cons_append, dd_mask, ih, List.length_cons, Nat.pow_succ]
    split <;> split <;> omega
theorem dd_mask_bit (rows : List dd_V) (v : dd_V) (i : Nat) : (dd_mask rows v).testBit i = true ↔ ∃ h : i < rows.length, dd_ev rows[i] v = 0 := by
  induction rows generalizing i with
  | nil => simp [dd_mask]
  | cons w t ih =>
    cases i with
    | zero =>
      simp only [dd_mask, Nat.testBit_zero, List.getElem_cons_zero, List.length_cons, Nat.zero_lt_succ, exists_true_left, decide_eq_true_eq]
      split <;> constructor <;> intro h <;> first | omega | assumption | (exact absurd h (by assumption)) | skip
    | succ i =>
      rw [dd_mask, Nat.testBit_succ]
      have e : ((if dd_ev w v = 0 then 1 else 0) + 2 * dd_mask t v) / 2 = dd_mask t v := by split <;> omega
      rw [e, ih]
      simp only [List.length_cons, List.getElem_cons_succ, Nat.succ_lt_succ_iff]
theorem dd_mask_nb (rows : List dd_V) (a b t : dd_V) : dd_mask rows t &&& (dd_mask rows a &&& dd_mask rows b) = dd_mask rows a &&& dd_mask rows b ↔ ∀ w ∈ rows, dd_ev w a = 0 → dd_ev w b = 0 → dd_ev w t = 0 := by
  constructor
  · intro h w hw ha hb
    obtain ⟨i, hi, rfl⟩ := List.mem_iff_getElem.mp hw
    have q := congrArg (fun n => n.testBit i) h
    simp only [Nat.testBit_and] at q
    rw [(dd_mask_bit rows a i).mpr ⟨hi, ha⟩, (dd_mask_bit rows b i).mpr ⟨hi, hb⟩] at q
    simp only [Bool.and_true, Bool.and_self] at q
    exact ((dd_mask_bit rows t i).mp q).2
  · intro h
    refine Nat.eq_of_testBit_eq fun i => ?_
    simp only [Nat.testBit_and]
    cases ha : (dd_mask rows a).testBit i with
    | false => simp
    | true =>
      cases hb : (dd_mask rows b).testBit i with
      | false => simp
      | true =>
        obtain ⟨hi, e1⟩ := (dd_mask_bit rows a i).mp ha
        obtain ⟨_, e2⟩ := (dd_mask_bit rows b i).mp hb
        rw [(dd_mask_bit rows t i).mpr ⟨hi, h _ (List.getElem_mem hi) e1 e2⟩]; rfl
theorem dd_mask_all {rows : List dd_V} {v : dd_V} (h : ∀ w ∈ rows, dd_ev w v = 0) : dd_mask rows v = 2 ^ rows.length - 1 := by
  induction rows with
  | nil => rfl
  | cons w t ih =>
    have := ih (fun u hu => h u (List.mem_cons_of_mem _ hu))
    have p : 0 < 2 ^ t.length := Nat.pow_pos (by omega)
    simp only [dd_mask, h w List.mem_cons_self, if_true, List.length_cons, Nat.pow_succ, this]; omega
theorem dd_mask_congr {rows : List dd_V} {v w : dd_V} (h : ∀ u ∈ rows, dd_ev u v = 0 ↔ dd_ev u w = 0) : dd_mask rows v = dd_mask rows w := by
  induction rows with
  | nil => rfl
  | cons u t ih =>
    have := ih (fun u hu => h u (List.mem_cons_of_mem _ hu))
    have e := h u List.mem_cons_self
    simp only [dd_mask, this]
    by_cases c : dd_ev u v = 0
    · rw [if_pos c, if_pos (e.mp c)]
    · rw [if_neg c, if_neg (fun q => c (e.mpr q))]
theorem dd_mask_and {rows : List dd_V} {a b c : dd_V} (h : ∀ u ∈ rows, dd_ev u c = 0 ↔ dd_ev u a = 0 ∧ dd_ev u b = 0) : dd_mask rows a &&& dd_mask rows b = dd_mask rows c := by
  refine Nat.eq_of_testBit_eq fun i => ?_
  rw [Nat.testBit_and]
  by_cases hi : i < rows.length
  · have e := h _ (List.getElem_mem hi)
    have f : ∀ v, (dd_mask rows v).testBit i = decide (dd_ev rows[i] v = 0) := fun v => by
      by_cases c : dd_ev rows[i] v = 0
      · rw [(dd_mask_bit rows v i).mpr ⟨hi, c⟩, decide_eq_true c]
      · cases q : (dd_mask rows v).testBit i with
        | true => exact absurd ((dd_mask_bit rows v i).mp q).2 c
        | false => rw [decide_eq_false c]
    rw [f a, f b, f c, ← Bool.decide_and]
    exact decide_eq_decide.mpr e.symm
  · have f : ∀ v, (dd_mask rows v).testBit i = false := fun v => by
      cases q : (dd_mask rows v).testBit i with
      | true => exact absurd ((dd_mask_bit rows v i).mp q).1 hi
      | false => rfl
    rw [f a, f b, f c]; rfl

-- the space of the program: lines with their names, rays in their order
def dd_nbB (rows R : List dd_V) (a b : dd_V) : Bool := R.all (fun t => t == a || t == b || !(dd_mask rows t &&& (dd_mask rows a &&& dd_mask rows b) == dd_mask rows a &&& dd_mask rows b))
theorem dd_nbB_iff (rows R : List dd_V) (a b : dd_V) : dd_nbB rows R a b = true ↔ dd_nb rows R a b := by
  simp only [dd_nbB, List.all_eq_true, Bool.or_eq_true, beq_iff_eq, Bool.not_eq_true', dd_nb]
  constructor
  · intro h t ht h1
    rcases h t ht with (e | e) | e
    · exact Or.inl e
    · exact Or.inr e
    · rw [beq_eq_false_iff_ne] at e
      exact absurd ((dd_mask_nb rows a b t).mpr h1) e
  · intro h t ht
    by_cases c : dd_mask rows t &&& (dd_mask rows a &&& dd_mask rows b) = dd_mask rows a &&& dd_mask rows b
    · exact Or.inl (h t ht ((dd_mask_nb rows a b t).mp c))
    · exact Or.inr (by rw [beq_eq_false_iff_ne]; exact c)
def dd_cutA (rows R : List dd_V) (h a : dd_V) : List dd_V := if 0 < dd_ev h a then (R.filter (fun b => decide (dd_ev h b < 0) && dd_nbB rows R a b)).map (fun b => dd_red (dd_comb h a b)) else []
def dd_cutN (rows R : List dd_V) (h : dd_V) : List dd_V := R.flatMap (dd_cutA rows R h)
def dd_cutR (rows R : List dd_V) (h : dd_V) : List dd_V := R.filter (fun v => decide (0 ≤ dd_ev h v)) ++ dd_cutN rows R h
theorem dd_cutN_mem {rows R : List dd_V} {h v : dd_V} : v ∈ dd_cutN rows R h ↔ ∃ r s, r ∈ R ∧ s ∈ R ∧ 0 < dd_ev h r ∧ dd_ev h s < 0 ∧ dd_nb rows R r s ∧ v = dd_red (dd_comb h r s) := by
  simp only [dd_cutN, List.mem_flatMap, dd_cutA]
  constructor
  · rintro ⟨a, ha, hv⟩
    by_cases c : 0 < dd_ev h a
    · rw [if_pos c] at hv
      obtain ⟨b, hb, rfl⟩ := List.mem_map.mp hv
      obtain ⟨b1, b2⟩ := List.mem_filter.mp hb
      rw [Bool.and_eq_true, decide_eq_true_eq, dd_nbB_iff] at b2
      exact ⟨a, b, ha, b1, c, b2.1, b2.2, rfl⟩
    · rw [if_neg c] at hv; cases hv
  · rintro ⟨r, s, r1, s1, r2, s2, nb, rfl⟩
    refine ⟨r, r1, ?_⟩
    rw [if_pos r2]
    refine List.mem_map.mpr ⟨s, List.mem_filter.mpr ⟨s1, ?_⟩, rfl⟩
    rw [Bool.and_eq_true, decide_eq_true_eq, dd_nbB_iff]; exact ⟨s2, nb⟩
theorem dd_cutR_mem {rows R : List dd_V} {h v : dd_V} : v ∈ dd_cutR rows R h ↔ (v ∈ R ∧ 0 ≤ dd_ev h v) ∨ ∃ r s, r ∈ R ∧ s ∈ R ∧ 0 < dd_ev h r ∧ dd_ev h s < 0 ∧ dd_nb rows R r s ∧ v = dd_red (dd_comb h r s) := by
  rw [dd_cutR, List.mem_append, dd_cutN_mem, List.mem_filter, decide_eq_true_eq]
theorem dd_I.comb_ne {A rows L R : List dd_V} (H : dd_I A rows L R) {h r s : dd_V} (r1 : r ∈ R) (s1 : s ∈ R) (r2 : 0 < dd_ev h r) (s2 : dd_ev h s < 0) : dd_comb h r s ≠ dd_0 := by
  obtain ⟨w, hw, hp⟩ := H.hN r r1
  refine dd_ne_0 (w := w) fun h9 => ?_
  have := ((dd_comb_0 r2 s2 (H.hR r r1 w hw) (H.hR s s1 w hw)).mp h9).1
  omega
/-- two rays between are one only where both ends are -/
theorem dd_I.comb_inj {A rows L R : List dd_V} (H : dd_I A rows L R) {h r s r' s' : dd_V} (r1 : r ∈ R) (s1 : s ∈ R) (r2 : 0 < dd_ev h r) (s2 : dd_ev h s < 0) (nb : dd_nb rows R r s) (r1' : r' ∈ R) (s1' : s' ∈ R) (r2' : 0 < dd_ev h r') (s2' : dd_ev h s' < 0) (e : dd_red (dd_comb h r s) = dd_red (dd_comb h r' s')) : r = r' ∧ s = s' := by
  have n1 := H.comb_ne r1 s1 r2 s2
  have n2 := H.comb_ne r1' s1' r2' s2'
  have q : ∀ w ∈ rows, dd_ev w r = 0 → dd_ev w s = 0 → dd_ev w r' = 0 ∧ dd_ev w s' = 0 := fun w hw e1 e2 =>
    (dd_comb_0 r2' s2' (H.hR r' r1' w hw) (H.hR s' s1' w hw)).mp ((dd_red_0 n2).mp (e ▸ ((dd_red_0 n1).mpr ((dd_comb_0 r2 s2 (H.hR r r1 w hw) (H.hR s s1 w hw)).mpr ⟨e1, e2⟩))))
  constructor
  · rcases nb r' r1' (fun w hw e1 e2 => (q w hw e1 e2).1) with c | c
    · exact c.symm
    · rw [c] at r2'; omega
  · rcases nb s' s1' (fun w hw e1 e2 => (q w hw e1 e2).2) with c | c
    · rw [c] at s2'; omega
    · exact c.symm
theorem dd_I.cutN_nd {A rows L R : List dd_V} (H : dd_I A rows L R) (nd : R.Nodup) (h : dd_V) : (dd_cutN rows R h).Nodup := by
  unfold dd_cutN List.Nodup
  rw [List.pairwise_flatMap]
  refine ⟨fun a ha => ?_, ?_⟩
  · unfold dd_cutA
    by_cases c : 0 < dd_ev h a
    · rw [if_pos c, List.pairwise_map]
      refine List.Pairwise.imp_of_mem ?_ (List.Pairwise.filter _ nd)
      intro b b' hb hb' hne e
      obtain ⟨b1, b2⟩ := List.mem_filter.mp hb
      obtain ⟨b1', b2'⟩ := List.mem_filter.mp hb'
      rw [Bool.and_eq_true, decide_eq_true_eq, dd_nbB_iff] at b2 b2'
      exact hne (H.comb_inj ha b1 c b2.1 b2.2 ha b1' c b2'.1 e).2
    · rw [if_neg c]; exact List.Pairwise.nil
  · refine List.Pairwise.imp_of_mem ?_ nd
    intro a a' ha ha' hne x hx y hy e
    unfold dd_cutA at hx hy
    by_cases c : 0 < dd_ev h a
    · by_cases c' : 0 < dd_ev h a'
      · rw [if_pos c] at hx; rw [if_pos c'] at hy
        obtain ⟨b, hb, rfl⟩ := List.mem_map.mp hx
        obtain ⟨b', hb', rfl⟩ := List.mem_map.mp hy
        obtain ⟨b1, b2⟩ := List.mem_filter.mp hb
        obtain ⟨b1', b2'⟩ := List.mem_filter.mp hb'
        rw [Bool.and_eq_true, decide_eq_true_eq, dd_nbB_iff] at b2 b2'
        exact hne (H.comb_inj ha b1 c b2.1 b2.2 ha' b1' c' b2'.1 e).1
      · rw [if_neg c'] at hy; cases hy
    · rw [if_neg c] at hx; cases hx
theorem dd_I.cutR_nd {A rows L R : List dd_V} (H : dd_I A rows L R) (nd : R.Nodup) (h : dd_V) : (dd_cutR rows R h).Nodup := by
  unfold dd_cutR
  refine List.nodup_append.mpr ⟨List.Pairwise.filter _ nd, H.cutN_nd nd h, ?_⟩
  intro a ha b hb e
  subst e
  obtain ⟨a1, _⟩ := List.mem_filter.mp ha
  obtain ⟨r, s, r1, s1, r2, s2, nb, e⟩ := dd_cutN_mem.mp hb
  have n1 := H.comb_ne r1 s1 r2 s2
  have hz : dd_ev h a = 0 := by rw [e, dd_red_0 n1, dd_comb_h]
  rcases nb a a1 (fun w hw e1 e2 => by rw [e]; exact (dd_red_0 n1).mpr ((dd_comb_0 r2 s2 (H.hR r r1 w hw) (H.hR s s1 w hw)).mpr ⟨e1, e2⟩)) with c | c
  · rw [c] at hz; omega
  · rw [c] at hz; omega
def dd_Sp (A rows : List dd_V) (LU : List (dd_V × dd_V)) (R : List dd_V) : Prop := (dd_I A rows (LU.map Prod.fst) R) ∧ (dd_UL LU) ∧ (∀ u ∈ A, dd_sm u ∧ u ≠ dd_0) ∧ (∀ a ∈ LU, dd_sm a.2 ∧ a.2 ≠ dd_0) ∧ (∀ w ∈ rows, dd_sm w) ∧ (∀ r ∈ R, ∀ a ∈ LU, dd_ev a.2 r = 0) ∧ (∀ r ∈ R, dd_g r = 1) ∧ (∀ a ∈ LU, dd_g a.1 = 1) ∧ (R.Nodup) ∧ (A.length + LU.length ≤ 3) ∧ (4 ≤ rows.length + (A.length + LU.length)) ∧ (A.length + LU.length = 0 → 2 * R.length + 10 ≤ rows.length * (rows.length + 1))
theorem dd_Sp.I {A rows : List dd_V} {LU : List (dd_V × dd_V)} {R : List dd_V} (h_ : dd_Sp A rows LU R) : dd_I A rows (LU.map Prod.fst) R := h_.1
theorem dd_Sp.U {A rows : List dd_V} {LU : List (dd_V × dd_V)} {R : List dd_V} (h_ : dd_Sp A rows LU R) : dd_UL LU := h_.2.1
theorem dd_Sp.smA {A rows : List dd_V} {LU : List (dd_V × dd_V)} {R : List dd_V} (h_ : dd_Sp A rows LU R) : ∀ u ∈ A, dd_sm u ∧ u ≠ dd_0 := h_.2.2.1
theorem dd_Sp.smU {A rows : List dd_V} {LU : List (dd_V × dd_V)} {R : List dd_V} (h_ : dd_Sp A rows LU R) : ∀ a ∈ LU, dd_sm a.2 ∧ a.2 ≠ dd_0 := h_.2.2.2.1
theorem dd_Sp.smR {A rows : List dd_V} {LU : List (dd_V × dd_V)} {R : List dd_V} (h_ : dd_Sp A rows LU R) : ∀ w ∈ rows, dd_sm w := h_.2.2.2.2.1
theorem dd_Sp.zr {A rows : List dd_V} {LU : List (dd_V × dd_V)} {R : List dd_V} (h_ : dd_Sp A rows LU R) : ∀ r ∈ R, ∀ a ∈ LU, dd_ev a.2 r = 0 := h_.2.2.2.2.2.1
theorem dd_Sp.pr {A rows : List dd_V} {LU : List (dd_V × dd_V)} {R : List dd_V} (h_ : dd_Sp A rows LU R) : ∀ r ∈ R, dd_g r = 1 := h_.2.2.2.2.2.2.1
theorem dd_Sp.pl {A rows : List dd_V} {LU : List (dd_V × dd_V)} {R : List dd_V} (h_ : dd_Sp A rows LU R) : ∀ a ∈ LU, dd_g a.1 = 1 := h_.2.2.2.2.2.2.2.1
theorem dd_Sp.nd {A rows : List dd_V} {LU : List (dd_V × dd_V)} {R : List dd_V} (h_ : dd_Sp A rows LU R) : R.Nodup := h_.2.2.2.2.2.2.2.2.1
theorem dd_Sp.n3 {A rows : List dd_V} {LU : List (dd_V × dd_V)} {R : List dd_V} (h_ : dd_Sp A rows LU R) : A.length + LU.length ≤ 3 := h_.2.2.2.2.2.2.2.2.2.1
theorem dd_Sp.n4 {A rows : List dd_V} {LU : List (dd_V × dd_V)} {R : List dd_V} (h_ : dd_Sp A rows LU R) : 4 ≤ rows.length + (A.length + LU.length) := h_.2.2.2.2.2.2.2.2.2.2.1
theorem dd_Sp.n0 {A rows : List dd_V} {LU : List (dd_V × dd_V)} {R : List dd_V} (h_ : dd_Sp A rows LU R) : A.length + LU.length = 0 → 2 * R.length + 10 ≤ rows.length * (rows.length + 1) := h_.2.2.2.2.2.2.2.2.2.2.2
theorem dd_Sp.bdR {A rows R : List dd_V} {LU : List (dd_V × dd_V)} (H : dd_Sp A rows LU R) {r : dd_V} (hr : r ∈ R) : dd_bd r := by
  refine (H.I.uq H.U hr (H.zr r hr)).bd (fun w hw => ?_) (fun w hw => ?_) (H.pr r hr)
  · rcases hw with ⟨_, h⟩ | h | h
    · exact h
    · exact H.I.pR r hr w h
    · obtain ⟨a, ha, rfl⟩ := List.mem_map.mp h; exact H.zr r hr a ha
  · rcases hw with ⟨h, _⟩ | h | h
    · exact H.smR w h
    · exact (H.smA w h).1
    · obtain ⟨a, ha, rfl⟩ := List.mem_map.mp h; exact (H.smU a ha).1
theorem dd_Sp.bdL {A rows R : List dd_V} {LU : List (dd_V × dd_V)} (H : dd_Sp A rows LU R) {a : dd_V × dd_V} (ha : a ∈ LU) : dd_bd a.1 := by
  refine (H.I.uqL H.U ha).bd (fun w hw => ?_) (fun w hw => ?_) (H.pl a ha)
  · rcases hw with h | h | ⟨b, hb, hne, rfl⟩
    · exact H.I.hL a.1 (List.mem_map.mpr ⟨a, ha, rfl⟩) w h
    · exact H.I.pL a.1 (List.mem_map.mpr ⟨a, ha, rfl⟩) w h
    · exact H.U.oth b hb a ha hne
  · rcases hw with h | h | ⟨b, hb, hne, rfl⟩
    · exact H.smR w h
    · exact (H.smA w h).1
    · exact (H.smU b hb).1
theorem dd_Sp.few {A rows R : List dd_V} {LU : List (dd_V × dd_V)} (H : dd_Sp A rows LU R) (h : A.length + LU.length ≠ 0) : R.length ≤ rows.length + (A.length + LU.length) := by
  have : ∃ u, u ≠ dd_0 ∧ ∀ r ∈ R, dd_ev u r = 0 := by
    match hA : A, hL : LU with
    | u :: _, _ => exact ⟨u, (H.smA u (by simp)).2, fun r hr => H.I.pR r hr u (by simp)⟩
    | [], a :: _ => exact ⟨a.2, (H.smU a (by simp)).2, fun r hr => H.zr r hr a (by simp)⟩
    | [], [] => simp at h
  obtain ⟨u, h0, h1⟩ := this
  exact H.I.count H.U H.zr h0 (fun r hr => ⟨hr, h1 r hr⟩) H.nd

theorem dd_filter_le {R : List dd_V} (p : dd_V → Bool) : (R.filter p).length ≤ R.length := List.length_filter_le p R
/-- the cut keeps all, and there are never more than 32 -/
theorem dd_Sp.cut {A rows R : List dd_V} {LU : List (dd_V × dd_V)} (H : dd_Sp A rows LU R) {h : dd_V} (hs : dd_sm h) (h0 : h ≠ dd_0) (hL : ∀ a ∈ LU, dd_ev h a.1 = 0) :
    dd_Sp A (rows ++ [h]) LU (dd_cutR rows R h) ∧ (rows.length ≤ 7 → R.length + (dd_cutN rows R h).length ≤ 32) := by
  have hLh : ∀ l ∈ LU.map Prod.fst, dd_ev h l = 0 := fun l hl => by
    obtain ⟨a, ha, rfl⟩ := List.mem_map.mp hl; exact hL a ha
  have I' := H.I.cut hLh (R' := dd_cutR rows R h) (fun v => dd_cutR_mem)
  have zr' : ∀ r ∈ dd_cutR rows R h, ∀ a ∈ LU, dd_ev a.2 r = 0 := fun r hr a ha => by
    rcases dd_cutR_mem.mp hr with ⟨h1, _⟩ | ⟨r, s, r1, s1, r2, s2, _, rfl⟩
    · exact H.zr r h1 a ha
    · exact dd_red_z (by rw [dd_comb_ev, H.zr r r1 a ha, H.zr s s1 a ha]; omega)
  have nd' := H.I.cutR_nd H.nd h
  have few : (dd_cutN rows R h).length ≤ rows.length + 1 + (A.length + LU.length) := by
    have := I'.count H.U zr' h0 (S := dd_cutN rows R h) (fun r hr => ⟨List.mem_append_right _ hr, by
      obtain ⟨r', s, r1, s1, r2, s2, _, rfl⟩ := dd_cutN_mem.mp hr
      exact dd_red_z (dd_comb_h h r' s)⟩) (H.I.cutN_nd H.nd h)
    simpa using this
  have len : (dd_cutR rows R h).length ≤ R.length + (dd_cutN rows R h).length := by
    unfold dd_cutR
    rw [List.length_append]
    have := dd_filter_le (R := R) (fun v => decide (0 ≤ dd_ev h v))
    omega
  refine ⟨⟨I', H.U, H.smA, H.smU, ?_, zr', ?_, H.pl, nd', H.n3, by have := H.n4; simp; omega, ?_⟩, ?_⟩
  · intro w hw
    rcases List.mem_append.mp hw with a | a
    · exact H.smR w a
    · rw [List.mem_singleton.mp a]; exact hs
  · intro r hr
    rcases dd_cutR_mem.mp hr with ⟨h1, _⟩ | ⟨r, s, r1, s1, r2, s2, _, rfl⟩
    · exact H.pr r h1
    · exact dd_red_1 (H.I.comb_ne r1 s1 r2 s2)
  · intro hz
    have := H.n0 hz
    rw [List.length_append, List.length_singleton]
    have e : (rows.length + 1) * (rows.length + 1 + 1) = rows.length * (rows.length + 1) + 2 * (rows.length + 1) := by
      rw [Nat.add_mul, Nat.mul_add, Nat.mul_add]; omega
    omega
  · intro h7
    by_cases hz : A.length + LU.length = 0
    · have h1 := H.n0 hz
      have h2 : rows.length * (rows.length + 1) ≤ 7 * 8 := Nat.mul_le_mul h7 (by omega)
      omega
    · have h1 := H.few hz
      have := H.n3
      omega
theorem dd_g_neg (x : dd_V) {sg : Int} (h : sg = 1 ∨ sg = -1) : dd_g (dd_mul sg x) = dd_g x := by
  rcases h with rfl | rfl
  · rw [dd_1_mul]
  · simp only [dd_g, dd_mul, Int.natAbs_mul, Int.natAbs_neg, Int.natAbs_one, Nat.one_mul]
def dd_shU (p h : dd_V) (a : dd_V × dd_V) : dd_V × dd_V := (dd_red (dd_sh p h a.1), a.2)
/-- the turn of a line keeps all -/
theorem dd_Sp.turn {A rows R : List dd_V} {LU LUr : List (dd_V × dd_V)} (H : dd_Sp A rows LU R) {h p : dd_V} {a0 : dd_V × dd_V} {sg : Int} (hs : dd_sm h) (hsg : sg = 1 ∨ sg = -1) (hp : p = dd_mul sg a0.1) (hst : 0 < dd_ev h p)
    (hperm : LU.Perm (a0 :: LUr)) : dd_Sp A (rows ++ [h]) (LUr.map (dd_shU p h)) (R.map (fun r => dd_red (dd_sh p h r)) ++ [p]) := by
  have m0 : a0 ∈ LU := hperm.mem_iff.mpr List.mem_cons_self
  have mr : ∀ a ∈ LUr, a ∈ LU := fun a ha => hperm.mem_iff.mpr (List.mem_cons_of_mem _ ha)
  have nd0 : (a0 :: LUr).Nodup := hperm.nodup_iff.mp H.U.nd
  have na : ∀ a ∈ LUr, a ≠ a0 := fun a ha e => (List.nodup_cons.mp nd0).1 (e ▸ ha)
  have hlen : LU.length = LUr.length + 1 := by have := hperm.length_eq; simpa using this
  have I' := H.I.turn (h := h) (p := p) (l := a0.1) (sg := sg) (Lr := LUr.map Prod.fst) (L' := (LUr.map (dd_shU p h)).map Prod.fst) (R' := R.map (fun r => dd_red (dd_sh p h r)) ++ [p]) (List.mem_map.mpr ⟨a0, m0, rfl⟩) hsg hp hst (fun v hv => by
      obtain ⟨a, ha, rfl⟩ := List.mem_map.mp hv
      rcases List.mem_cons.mp (hperm.mem_iff.mp ha) with e | e
      · exact Or.inl (by rw [e])
      · exact Or.inr (List.mem_map.mpr ⟨a, e, rfl⟩)) (fun v hv => by
      obtain ⟨a, ha, rfl⟩ := List.mem_map.mp hv
      exact List.mem_map.mpr ⟨a, mr a ha, rfl⟩) (fun v => by
      simp only [List.mem_map]
      constructor
      · rintro ⟨b, ⟨a, ha, rfl⟩, rfl⟩; exact ⟨a.1, ⟨a, ha, rfl⟩, rfl⟩
      · rintro ⟨u, ⟨a, ha, rfl⟩, rfl⟩; exact ⟨dd_shU p h a, ⟨a, ha, rfl⟩, rfl⟩) (fun v => by
      simp only [List.mem_append, List.mem_map, List.mem_singleton]
      constructor
      · rintro (⟨r, hr, rfl⟩ | e)
        · exact Or.inr ⟨r, hr, rfl⟩
        · exact Or.inl e
      · rintro (e | ⟨r, hr, rfl⟩)
        · exact Or.inr e
        · exact Or.inl ⟨r, hr, rfl⟩)
  have up : ∀ a ∈ LUr, dd_ev a.2 p = 0 := fun a ha => by rw [hp, dd_ev_mul, H.U.oth a (mr a ha) a0 m0 (na a ha)]; omega
  have own : ∀ a ∈ LUr, dd_ev a.2 (dd_sh p h a.1) ≠ 0 := fun a ha => by
    rw [dd_sh_ev (up a ha)]; exact Int.mul_ne_zero (by omega) (H.U.own a (mr a ha))
  have pw : ∀ w ∈ rows, dd_ev w p = 0 := fun w hw => by rw [hp, dd_ev_mul, H.I.hL a0.1 (List.mem_map.mpr ⟨a0, m0, rfl⟩) w hw]; omega
  have ne : ∀ r ∈ R, dd_sh p h r ≠ dd_0 := fun r hr => by
    obtain ⟨w, hw, h0⟩ := H.I.hN r hr
    refine dd_ne_0 (w := w) ?_
    rw [dd_sh_ev (pw w hw)]
    have := Int.mul_pos hst h0
    omega
  have und : ∀ a ∈ LUr, ∀ b ∈ LUr, a ≠ b → a.2 ≠ b.2 := fun a ha b hb hne e => by
    have h1 := H.U.oth a (mr a ha) b (mr b hb) hne
    rw [e] at h1
    exact H.U.own b (mr b hb) h1
  refine ⟨I', ⟨?_, ?_, ?_⟩, H.smA, ?_, ?_, ?_, ?_, ?_, ?_, ?_, ?_, ?_⟩
  · show List.Pairwise _ _
    rw [List.pairwise_map]
    refine List.Pairwise.imp_of_mem ?_ (List.nodup_cons.mp nd0).2
    intro a b ha hb hne e
    have e2 := congrArg Prod.snd e
    exact und a ha b hb hne e2
  · intro b hb
    obtain ⟨a, ha, rfl⟩ := List.mem_map.mp hb
    have n := own a ha
    exact fun e => n ((dd_red_0 (dd_ne_0 n)).mp e)
  · intro b hb c hc hne
    obtain ⟨a, ha, rfl⟩ := List.mem_map.mp hb
    obtain ⟨d, hd, rfl⟩ := List.mem_map.mp hc
    have hne' : a ≠ d := fun e => hne (by rw [e])
    refine dd_red_z ?_
    show dd_ev a.2 (dd_sh p h d.1) = 0
    rw [dd_sh_ev (up a ha), H.U.oth a (mr a ha) d (mr d hd) hne']; omega
  · intro b hb
    obtain ⟨a, ha, rfl⟩ := List.mem_map.mp hb
    exact H.smU a (mr a ha)
  · intro w hw
    rcases List.mem_append.mp hw with a | a
    · exact H.smR w a
    · rw [List.mem_singleton.mp a]; exact hs
  · intro r hr b hb
    obtain ⟨a, ha, rfl⟩ := List.mem_map.mp hb
    show dd_ev a.2 r = 0
    rcases List.mem_append.mp hr with q | q
    · obtain ⟨r', hr', rfl⟩ := List.mem_map.mp q
      exact dd_red_z (by rw [dd_sh_ev (up a ha), H.zr r' hr' a (mr a ha)]; omega)
    · rw [List.mem_singleton.mp q]; exact up a ha
  · intro r hr
    rcases List.mem_append.mp hr with q | q
    · obtain ⟨r', hr', rfl⟩ := List.mem_map.mp q
      exact dd_red_1 (ne r' hr')
    · rw [List.mem_singleton.mp q, hp, dd_g_neg _ hsg]; exact H.pl a0 m0
  · intro b hb
    obtain ⟨a, ha, rfl⟩ := List.mem_map.mp hb
    exact dd_red_1 (dd_ne_0 (own a ha))
  · refine List.nodup_append.mpr ⟨?_, by simp, ?_⟩
    · show List.Pairwise _ _
      rw [List.pairwise_map]
      refine List.Pairwise.imp_of_mem ?_ H.nd
      intro r s hr hs hne e
      refine hne (H.I.hA r hr s hs (fun w hw h0 => ?_))
      have h1 : dd_ev w (dd_red (dd_sh p h r)) = 0 := dd_red_z (by rw [dd_sh_ev (pw w hw), h0]; omega)
      rw [e, dd_red_0 (ne s hs), dd_sh_ev (pw w hw)] at h1
      rcases Int.mul_eq_zero.mp h1 with c | c <;> omega
    · intro a ha b hb e
      obtain ⟨r, hr, rfl⟩ := List.mem_map.mp ha
      have e2 : dd_ev h (dd_red (dd_sh p h r)) = 0 := dd_red_z (dd_sh_h p h r)
      rw [e, List.mem_singleton.mp hb] at e2
      omega
  · have := H.n3; rw [List.length_map]; omega
  · have := H.n4; rw [List.length_map, List.length_append, List.length_singleton]; omega
  · intro hz
    rw [List.length_map] at hz
    have h1 := H.few (by omega)
    have h4 := H.n4
    rw [List.length_append, List.length_append, List.length_map, List.length_singleton, List.length_singleton]
    have e : (rows.length + 1) * (rows.length + 1 + 1) = rows.length * rows.length + 3 * rows.length + 2 := by
      rw [Nat.add_mul, Nat.mul_add, Nat.mul_add]; omega
    have h5 := Nat.mul_le_mul (show 3 ≤ rows.length by omega) (Nat.le_refl rows.length)
    omega

-- from the beginning on; nothing left
def dd_un2 (n : Nat) : List (dd_V × dd_V) := (dd_un n).map (fun u => (u, u))
theorem dd_Sp.start {n : Nat} (h1 : 1 ≤ n) (h3 : n ≤ 3) : dd_Sp (dd_ab n) [dd_e4] (dd_un2 n) [dd_e4] := by
  have hn : n = 1 ∨ n = 2 ∨ n = 3 := by omega
  have I := dd_I.start h1 h3
  have e : (dd_un2 n).map Prod.fst = dd_un n := by
    rcases hn with rfl | rfl | rfl <;> rfl
  rw [← e] at I
  refine ⟨I, ⟨?_, ?_, ?_⟩, ?_, ?_, ?_, ?_, ?_, ?_, ?_, ?_, ?_, ?_⟩
  · rcases hn with rfl | rfl | rfl <;> decide
  · rcases hn with rfl | rfl | rfl <;> decide
  · rcases hn with rfl | rfl | rfl <;> decide
  · unfold dd_sm; rcases hn with rfl | rfl | rfl <;> decide
  · unfold dd_sm; rcases hn with rfl | rfl | rfl <;> decide
  · unfold dd_sm; decide
  · rcases hn with rfl | rfl | rfl <;> decide
  · decide
  · rcases hn with rfl | rfl | rfl <;> decide
  · decide
  · rcases hn with rfl | rfl | rfl <;> decide
  · rcases hn with rfl | rfl | rfl <;> decide
  · rcases hn with rfl | rfl | rfl <;> decide
/-- a space as it stands between two rows: with a point, or nothing -/
def dd_Ok (A rows : List dd_V) (LU : List (dd_V × dd_V)) (R : List dd_V) : Prop :=
  (dd_Sp A rows LU R ∧ ∃ r ∈ R, 0 < dd_ev dd_e4 r) ∨ (LU = [] ∧ R = [] ∧ ∀ x, ¬ dd_pt A rows x)
theorem dd_pt_app {A rows : List dd_V} {h x : dd_V} (hx : dd_pt A (rows ++ [h]) x) : dd_pt A rows x := ⟨hx.1, (dd_nn_app.mp hx.2.1).1, hx.2.2⟩
theorem dd_Ok.drop {A rows R : List dd_V} {LU : List (dd_V × dd_V)} (H : dd_Sp A rows LU R) (h4 : dd_e4 ∈ rows) (hno : ∀ r ∈ R, ¬ 0 < dd_ev dd_e4 r) : dd_Ok A rows [] [] :=
  Or.inr ⟨rfl, rfl, H.I.nopoint h4 hno⟩
theorem dd_Ok.nothing {A rows R : List dd_V} {LU : List (dd_V × dd_V)} (H : dd_Ok A rows LU R) (_h4 : dd_e4 ∈ rows) : R = [] ↔ ¬ ∃ x, dd_pt A rows x := by
  rcases H with ⟨H, r, hr, hq⟩ | ⟨_, h2, h3⟩
  · constructor
    · intro e; rw [e] at hr; cases hr
    · intro h; exact absurd ⟨r, H.I.point hr hq⟩ h
  · exact ⟨fun _ ⟨x, hx⟩ => h3 x hx, fun _ => h2⟩
theorem dd_Ok.implies {A rows R : List dd_V} {LU : List (dd_V × dd_V)} (H : dd_Ok A rows LU R) (h4 : dd_e4 ∈ rows) (g : dd_V) : ((∀ a ∈ LU, dd_ev g a.1 = 0) ∧ ∀ r ∈ R, 0 ≤ dd_ev g r) ↔ ∀ x, dd_pt A rows x → 0 ≤ dd_ev g x := by
  rcases H with ⟨H, r, hr, hq⟩ | ⟨h1, h2, h3⟩
  · rw [← H.I.implies h4 ⟨r, H.I.point hr hq⟩ g]
    constructor
    · rintro ⟨a, b⟩
      exact ⟨fun l hl => by obtain ⟨c, hc, rfl⟩ := List.mem_map.mp hl; exact a c hc, b⟩
    · rintro ⟨a, b⟩
      exact ⟨fun c hc => a c.1 (List.mem_map.mpr ⟨c, hc, rfl⟩), b⟩
  · subst h1; subst h2
    exact ⟨fun _ x hx => absurd hx (h3 x), fun _ => ⟨fun a ha => absurd ha (by simp), fun r hr => absurd hr (by simp)⟩⟩
theorem dd_Ok.bounds {A rows R : List dd_V} {LU : List (dd_V × dd_V)} (H : dd_Ok A rows LU R) (h4 : dd_e4 ∈ rows) (t : dd_V) : ((∀ a ∈ LU, dd_ev t a.1 = 0) ∧ ∀ r ∈ R, dd_ev dd_e4 r = 0 → 0 ≤ dd_ev t r) ↔ ∃ M : Int, ∀ x, dd_pt A rows x → 0 ≤ dd_ev (dd_add t (dd_mul M dd_e4)) x := by
  rcases H with ⟨H, r, hr, hq⟩ | ⟨h1, h2, h3⟩
  · rw [← H.I.bounds h4 ⟨r, H.I.point hr hq⟩ t]
    constructor
    · rintro ⟨a, b⟩
      exact ⟨fun l hl => by obtain ⟨c, hc, rfl⟩ := List.mem_map.mp hl; exact a c hc, b⟩
    · rintro ⟨a, b⟩
      exact ⟨fun c hc => a c.1 (List.mem_map.mpr ⟨c, hc, rfl⟩), b⟩
  · subst h1; subst h2
    exact ⟨fun _ => ⟨0, fun x hx => absurd hx (h3 x)⟩, fun _ => ⟨fun a ha => absurd ha (by simp), fun r hr => absurd hr (by simp)⟩⟩
/-- the last line comes into the place of the one that is turned -/
theorem dd_swap_perm {α : Type} (l : List α) (i : Nat) (hi : i < l.length) : l.Perm (l[i] :: (l.set i (l[l.length - 1]'(by omega))).dropLast) := by
  have hne : l ≠ [] := fun e => by subst e; simp at hi
  obtain ⟨X, z, rfl⟩ : ∃ X z, l = X ++ [z] := ⟨l.dropLast, l.getLast hne, (List.dropLast_concat_getLast hne).symm⟩
  have e1 : (X ++ [z])[(X ++ [z]).length - 1]'(by simp) = z := by simp
  rw [e1]
  by_cases c : i < X.length
  · have e2 : (X ++ [z])[i] = X[i] := List.getElem_append_left c
    have e3 : ((X ++ [z]).set i z).dropLast = X.set i z := by
      rw [List.set_append_left _ _ c, List.dropLast_concat]
    rw [e2, e3]
    -- X ++ [z] ~ X[i] :: X.set i z
    have e4 : X = X.take i ++ X[i] :: X.drop (i + 1) := by simp
    have e5 : X.set i z = X.take i ++ z :: X.drop (i + 1) := List.set_eq_take_append_cons_drop.trans (by rw [if_pos c])
    rw [e5]
    conv => lhs; rw [e4]
    refine List.Perm.trans (List.perm_append_singleton z _) ?_
    refine List.Perm.trans (List.Perm.cons z (List.perm_middle)) ?_
    refine List.Perm.trans (List.Perm.swap _ _ _) ?_
    exact List.Perm.cons _ (List.perm_middle.symm)
  · have e0 : i = X.length := by simp at hi; omega
    subst e0
    have e2 : (X ++ [z])[X.length] = z := by simp
    have e3 : ((X ++ [z]).set X.length z).dropLast = X := by
      rw [List.set_append_right _ _ (Nat.le_refl _)]; simp
    rw [e2, e3]
    exact List.perm_append_singleton z X

-- Euclid's way, in at most 100 rounds
def dd_eu : Nat → Int → Int → Int
  | 0, c, _ => c
  | k + 1, c, o => if o = 0 then c else dd_eu k o (c.tmod o)
theorem dd_tmod_abs (a b : Int) : (a.tmod b).natAbs = a.natAbs % b.natAbs := by
  rw [Int.natAbs_tmod]
theorem dd_eu_gcd (j : Nat) : ∀ (k : Nat) (c o : Int), 2 * j ≤ k → o.natAbs < 2 ^ j → (dd_eu k c o).natAbs = Nat.gcd c.natAbs o.natAbs := by
  induction j with
  | zero =>
    intro k c o _ ho
    have h0 : o = 0 := by simp at ho; omega
    subst h0
    cases k with
    | zero => simp [dd_eu]
    | succ k => simp [dd_eu]
  | succ j ih =>
    intro k c o hk ho
    obtain ⟨k, rfl⟩ : ∃ m, k = m + 2 := ⟨k - 2, by omega⟩
    by_cases h0 : o = 0
    · subst h0; simp [dd_eu]
    · rw [dd_eu, if_neg h0]
      have e1 := dd_tmod_abs c o
      have g1 : Nat.gcd c.natAbs o.natAbs = Nat.gcd o.natAbs (c.natAbs % o.natAbs) := by
        rw [Nat.gcd_comm, Nat.gcd_rec, Nat.gcd_comm]
      rw [g1, ← e1]
      have hlt : (c.tmod o).natAbs < o.natAbs := by rw [e1]; exact Nat.mod_lt _ (by omega)
      generalize c.tmod o = r at *
      by_cases hr : r = 0
      · subst hr; simp [dd_eu]
      · rw [dd_eu, if_neg hr]
        have e2 := dd_tmod_abs o r
        have g2 : Nat.gcd o.natAbs r.natAbs = Nat.gcd r.natAbs (o.natAbs % r.natAbs) := by
          rw [Nat.gcd_comm, Nat.gcd_rec, Nat.gcd_comm]
        rw [g2, ← e2]
        refine ih k r _ (by omega) ?_
        have hm : o.natAbs % r.natAbs < r.natAbs := Nat.mod_lt _ (by omega)
        have hd := Nat.div_add_mod o.natAbs r.natAbs
        have hq : 1 ≤ o.natAbs / r.natAbs := (Nat.one_le_div_iff (by omega)).mpr (by omega)
        have hmul := Nat.mul_le_mul (Nat.le_refl r.natAbs) hq
        rw [Nat.pow_succ] at ho
        rw [e2]
        omega
theorem dd_eu_100 {c o : Int} (h : o.natAbs < 2 ^ 50) : (dd_eu 100 c o).natAbs = Nat.gcd c.natAbs o.natAbs := dd_eu_gcd 50 100 c o (by omega) h
def dd_red4 (x : dd_V) : Int := dd_eu 100 (dd_eu 100 (dd_eu 100 (dd_eu 100 0 x.1) x.2.1) x.2.2.1) x.2.2.2
theorem dd_red4_g {x : dd_V} (h1 : x.1.natAbs < 2 ^ 50) (h2 : x.2.1.natAbs < 2 ^ 50) (h3 : x.2.2.1.natAbs < 2 ^ 50) (h4 : x.2.2.2.natAbs < 2 ^ 50) : (dd_red4 x).natAbs = dd_g x := by
  unfold dd_red4 dd_g
  rw [dd_eu_100 h4, dd_eu_100 h3, dd_eu_100 h2, dd_eu_100 h1]
  simp
