-- THE DOUBLE DESCRIPTION, as whole numbers: vectors of four, rows as vectors, generators
abbrev dd_V : Type := Int × Int × Int × Int
def dd_add (x y : dd_V) : dd_V := (x.1 + y.1, x.2.1 + y.2.1, x.2.2.1 + y.2.2.1, x.2.2.2 + y.2.2.2)
def dd_mul (k : Int) (x : dd_V) : dd_V := (k * x.1, k * x.2.1, k * x.2.2.1, k * x.2.2.2)
def dd_ev (w x : dd_V) : Int := w.1 * x.1 + w.2.1 * x.2.1 + w.2.2.1 * x.2.2.1 + w.2.2.2 * x.2.2.2
def dd_0 : dd_V := (0, 0, 0, 0)
theorem dd_ev_add (w x y : dd_V) : dd_ev w (dd_add x y) = dd_ev w x + dd_ev w y := by
  simp only [dd_ev, dd_add]; grind
theorem dd_ev_mul (w : dd_V) (k : Int) (x : dd_V) : dd_ev w (dd_mul k x) = k * dd_ev w x := by
  simp only [dd_ev, dd_mul]; grind
theorem dd_ev_0 (w : dd_V) : dd_ev w dd_0 = 0 := by
  simp [dd_ev, dd_0]
theorem dd_mul_add (k : Int) (x y : dd_V) : dd_mul k (dd_add x y) = dd_add (dd_mul k x) (dd_mul k y) := by
  simp only [dd_mul, dd_add, Int.mul_add]
theorem dd_mul_mul (k j : Int) (x : dd_V) : dd_mul k (dd_mul j x) = dd_mul (k * j) x := by
  simp only [dd_mul, Int.mul_assoc]
theorem dd_mul_0 (k : Int) : dd_mul k dd_0 = dd_0 := by simp [dd_mul, dd_0]
theorem dd_0_mul (x : dd_V) : dd_mul 0 x = dd_0 := by simp [dd_mul, dd_0]
theorem dd_1_mul (x : dd_V) : dd_mul 1 x = x := by simp [dd_mul]
theorem dd_add_0 (x : dd_V) : dd_add x dd_0 = x := by simp [dd_add, dd_0]
theorem dd_0_add (x : dd_V) : dd_add dd_0 x = x := by simp [dd_add, dd_0]
theorem dd_add_mul (j k : Int) (x : dd_V) : dd_mul (j + k) x = dd_add (dd_mul j x) (dd_mul k x) := by
  simp only [dd_mul, dd_add, Int.add_mul]
theorem dd_add_swap (a b c d : dd_V) : dd_add (dd_add a b) (dd_add c d) = dd_add (dd_add a c) (dd_add b d) := by
  simp only [dd_add, Prod.mk.injEq]; omega
theorem dd_add_comm (a b : dd_V) : dd_add a b = dd_add b a := by
  simp only [dd_add, Prod.mk.injEq]; omega
theorem dd_add_assoc (a b c : dd_V) : dd_add (dd_add a b) c = dd_add a (dd_add b c) := by
  simp only [dd_add, Prod.mk.injEq]; omega
/-- what lines (any number of times) and rays (0 times or more) make together -/
def dd_Gen (L G : dd_V → Prop) (x : dd_V) : Prop := ∀ P : dd_V → Prop, P dd_0 → (∀ x y, P x → P y → P (dd_add x y)) → (∀ v, L v → ∀ k : Int, P (dd_mul k v)) → (∀ v, G v → ∀ k : Int, 0 ≤ k → P (dd_mul k v)) → P x
theorem dd_Gen.zero {L G : dd_V → Prop} : dd_Gen L G dd_0 := fun _ h0 _ _ _ => h0
theorem dd_Gen.add {L G : dd_V → Prop} {x y : dd_V} (hx : dd_Gen L G x) (hy : dd_Gen L G y) : dd_Gen L G (dd_add x y) := fun P h0 ha hl hg => ha x y (hx P h0 ha hl hg) (hy P h0 ha hl hg)
theorem dd_Gen.line {L G : dd_V → Prop} {v : dd_V} (hv : L v) (k : Int) : dd_Gen L G (dd_mul k v) := fun _ _ _ hl _ => hl v hv k
theorem dd_Gen.ray {L G : dd_V → Prop} {v : dd_V} (hv : G v) {k : Int} (hk : 0 ≤ k) : dd_Gen L G (dd_mul k v) := fun _ _ _ _ hg => hg v hv k hk
theorem dd_Gen.ray1 {L G : dd_V → Prop} {v : dd_V} (hv : G v) : dd_Gen L G v := by
  have h := dd_Gen.ray (L := L) hv (k := 1) (by omega)
  rwa [dd_1_mul] at h
theorem dd_Gen.mono {L L' G G' : dd_V → Prop} {x : dd_V} (hL : ∀ v, L v → L' v) (hG : ∀ v, G v → G' v) (h : dd_Gen L G x) : dd_Gen L' G' x := fun P h0 ha hl hg => h P h0 ha (fun v hv => hl v (hL v hv)) (fun v hv => hg v (hG v hv))
theorem dd_Gen.mul {L G : dd_V → Prop} {x : dd_V} {k : Int} (hk : 0 ≤ k) (h : dd_Gen L G x) : dd_Gen L G (dd_mul k x) := by
  refine h (fun y => dd_Gen L G (dd_mul k y)) ?_ ?_ ?_ ?_
  · rw [dd_mul_0]; exact dd_Gen.zero
  · intro x y hx hy
    rw [dd_mul_add]; exact hx.add hy
  · intro v hv j
    rw [dd_mul_mul]; exact dd_Gen.line hv _
  · intro v hv j hj
    rw [dd_mul_mul]; exact dd_Gen.ray hv (Int.mul_nonneg hk hj)
/-- some multiple of it is made -/
def dd_Q (L G : dd_V → Prop) (x : dd_V) : Prop := ∃ k : Int, 0 < k ∧ dd_Gen L G (dd_mul k x)
theorem dd_Q.of {L G : dd_V → Prop} {x : dd_V} (h : dd_Gen L G x) : dd_Q L G x := ⟨1, by omega, by rw [dd_1_mul]; exact h⟩
theorem dd_Q.add {L G : dd_V → Prop} {x y : dd_V} (hx : dd_Q L G x) (hy : dd_Q L G y) : dd_Q L G (dd_add x y) := by
  obtain ⟨j, hj, h1⟩ := hx
  obtain ⟨k, hk, h2⟩ := hy
  refine ⟨j * k, Int.mul_pos hj hk, ?_⟩
  rw [dd_mul_add]
  refine dd_Gen.add ?_ ?_
  · rw [Int.mul_comm, ← dd_mul_mul]; exact h1.mul (by omega)
  · rw [← dd_mul_mul]; exact h2.mul (by omega)
theorem dd_Q.mul {L G : dd_V → Prop} {x : dd_V} {k : Int} (hk : 0 ≤ k) (h : dd_Q L G x) : dd_Q L G (dd_mul k x) := by
  obtain ⟨j, hj, h1⟩ := h
  refine ⟨j, hj, ?_⟩
  rw [dd_mul_mul, Int.mul_comm, ← dd_mul_mul]
  exact h1.mul hk
theorem dd_Q.div {L G : dd_V → Prop} {x : dd_V} {k : Int} (hk : 0 < k) (h : dd_Q L G (dd_mul k x)) : dd_Q L G x := by
  obtain ⟨j, hj, h1⟩ := h
  exact ⟨j * k, Int.mul_pos hj hk, by rw [← dd_mul_mul]; exact h1⟩
theorem dd_Q.trans {L G L' G' : dd_V → Prop} {x : dd_V} (hL : ∀ v, L v → ∀ k : Int, dd_Q L' G' (dd_mul k v)) (hG : ∀ v, G v → dd_Q L' G' v) (h : dd_Q L G x) : dd_Q L' G' x := by
  obtain ⟨k, hk, h⟩ := h
  refine dd_Q.div hk (h (dd_Q L' G') (dd_Q.of dd_Gen.zero) (fun x y hx hy => hx.add hy) hL (fun v hv j hj => (hG v hv).mul hj))
theorem dd_Q.transG {L G G' : dd_V → Prop} {x : dd_V} (hG : ∀ v, G v → dd_Q L G' v) (h : dd_Q L G x) : dd_Q L G' x :=
  h.trans (fun v hv k => dd_Q.of (dd_Gen.line hv k)) hG
/-- only generators that just hold where it just holds are needed -/
theorem dd_Gen.face {L G : dd_V → Prop} {rows : List dd_V} (hL : ∀ v, L v → ∀ w ∈ rows, dd_ev w v = 0) (hG : ∀ v, G v → ∀ w ∈ rows, 0 ≤ dd_ev w v) {x : dd_V} (h : dd_Gen L G x) :
    (∀ w ∈ rows, 0 ≤ dd_ev w x) ∧ dd_Gen L (fun v => G v ∧ ∀ w ∈ rows, dd_ev w x = 0 → dd_ev w v = 0) x := by
  refine h (fun x => (∀ w ∈ rows, 0 ≤ dd_ev w x) ∧ dd_Gen L (fun v => G v ∧ ∀ w ∈ rows, dd_ev w x = 0 → dd_ev w v = 0) x) ?_ ?_ ?_ ?_
  · exact ⟨fun w _ => by rw [dd_ev_0]; omega, dd_Gen.zero⟩
  · intro x y hx hy
    refine ⟨fun w hw => by rw [dd_ev_add]; have := hx.1 w hw; have := hy.1 w hw; omega, dd_Gen.add ?_ ?_⟩
    · refine hx.2.mono (fun _ h => h) (fun v hv => ⟨hv.1, fun w hw h0 => hv.2 w hw ?_⟩)
      rw [dd_ev_add] at h0; have := hx.1 w hw; have := hy.1 w hw; omega
    · refine hy.2.mono (fun _ h => h) (fun v hv => ⟨hv.1, fun w hw h0 => hv.2 w hw ?_⟩)
      rw [dd_ev_add] at h0; have := hx.1 w hw; have := hy.1 w hw; omega
  · intro v hv k
    exact ⟨fun w hw => by rw [dd_ev_mul, hL v hv w hw]; omega, dd_Gen.line hv k⟩
  · intro v hv k hk
    refine ⟨fun w hw => by rw [dd_ev_mul]; exact Int.mul_nonneg hk (hG v hv w hw), ?_⟩
    by_cases h0 : k = 0
    · subst h0; rw [dd_0_mul]; exact dd_Gen.zero
    · refine dd_Gen.ray ⟨hv, fun w hw h1 => ?_⟩ hk
      rw [dd_ev_mul] at h1
      rcases Int.mul_eq_zero.mp h1 with h2 | h2
      · exact absurd h2 h0
      · exact h2
/-- the ray between one within and one beyond, where h just holds -/
def dd_comb (h r s : dd_V) : dd_V := dd_add (dd_mul (dd_ev h r) s) (dd_mul (-(dd_ev h s)) r)
theorem dd_comb_ev (w h r s : dd_V) : dd_ev w (dd_comb h r s) = dd_ev h r * dd_ev w s + (-(dd_ev h s)) * dd_ev w r := by
  simp only [dd_comb, dd_ev_add, dd_ev_mul]
theorem dd_comb_h (h r s : dd_V) : dd_ev h (dd_comb h r s) = 0 := by
  rw [dd_comb_ev]; grind
def dd_GA (h : dd_V) (G : dd_V → Prop) : dd_V → Prop := fun v => (G v ∧ 0 ≤ dd_ev h v) ∨ ∃ r s, G r ∧ G s ∧ 0 < dd_ev h r ∧ dd_ev h s < 0 ∧ v = dd_comb h r s
theorem dd_neg {G : dd_V → Prop} {h b : dd_V} (hb : dd_Gen (fun _ => False) (fun v => G v ∧ dd_ev h v < 0) b) : b = dd_0 ∨ dd_ev h b < 0 := by
  refine hb (fun b => b = dd_0 ∨ dd_ev h b < 0) (Or.inl rfl) ?_ (fun _ h => h.elim) ?_
  · intro x y hx hy
    rcases hx with rfl | hx
    · rw [dd_0_add]; exact hy
    · rcases hy with rfl | hy
      · rw [dd_add_0]; exact Or.inr hx
      · right; rw [dd_ev_add]; omega
  · intro v hv k hk
    by_cases h0 : k = 0
    · subst h0; left; exact dd_0_mul v
    · right; rw [dd_ev_mul]; exact Int.mul_neg_of_pos_of_neg (by omega) hv.2
theorem dd_split {L G : dd_V → Prop} {h x : dd_V} (hx : dd_Gen L G x) : ∃ a b, x = dd_add a b ∧ dd_Gen L (fun v => G v ∧ 0 ≤ dd_ev h v) a ∧ dd_Gen (fun _ => False) (fun v => G v ∧ dd_ev h v < 0) b := by
  refine hx (fun x => ∃ a b, x = dd_add a b ∧ dd_Gen L (fun v => G v ∧ 0 ≤ dd_ev h v) a ∧ dd_Gen (fun _ => False) (fun v => G v ∧ dd_ev h v < 0) b) ?_ ?_ ?_ ?_
  · exact ⟨dd_0, dd_0, (dd_0_add _).symm, dd_Gen.zero, dd_Gen.zero⟩
  · rintro x y ⟨a, b, rfl, h1, h2⟩ ⟨a', b', rfl, h3, h4⟩
    exact ⟨dd_add a a', dd_add b b', dd_add_swap a b a' b', h1.add h3, h2.add h4⟩
  · intro v hv k
    exact ⟨_, dd_0, (dd_add_0 _).symm, dd_Gen.line hv k, dd_Gen.zero⟩
  · intro v hv k hk
    by_cases h0 : 0 ≤ dd_ev h v
    · exact ⟨_, dd_0, (dd_add_0 _).symm, dd_Gen.ray ⟨hv, h0⟩ hk, dd_Gen.zero⟩
    · exact ⟨dd_0, _, (dd_0_add _).symm, dd_Gen.zero, dd_Gen.ray ⟨hv, by omega⟩ hk⟩
theorem dd_mix {L G : dd_V → Prop} {h a b : dd_V} (hL : ∀ v, L v → dd_ev h v = 0) (ha : dd_Gen L (fun v => G v ∧ 0 ≤ dd_ev h v) a) (hb : dd_Gen (fun _ => False) (fun v => G v ∧ dd_ev h v < 0) b) :
    dd_Gen L (dd_GA h G) (dd_comb h a b) := by
  refine hb (fun b => dd_Gen L (dd_GA h G) (dd_comb h a b)) ?_ ?_ (fun _ h => h.elim) ?_
  · have e : dd_comb h a dd_0 = dd_0 := by
      simp only [dd_comb, dd_ev_0, dd_mul_0, Int.neg_zero, dd_0_mul, dd_0_add]
    rw [e]; exact dd_Gen.zero
  · intro x y hx hy
    have e : dd_comb h a (dd_add x y) = dd_add (dd_comb h a x) (dd_comb h a y) := by
      simp only [dd_comb, dd_ev_add, dd_mul_add]
      rw [dd_add_swap, show (-(dd_ev h x + dd_ev h y)) = (-(dd_ev h x)) + (-(dd_ev h y)) by omega, dd_add_mul]
    rw [e]; exact hx.add hy
  · intro s hs k hk
    refine ha (fun a => dd_Gen L (dd_GA h G) (dd_comb h a (dd_mul k s))) ?_ ?_ ?_ ?_
    · have e : dd_comb h dd_0 (dd_mul k s) = dd_0 := by
        simp only [dd_comb, dd_ev_0, dd_mul_0, dd_0_mul, dd_0_add]
      rw [e]; exact dd_Gen.zero
    · intro x y hx hy
      have e : dd_comb h (dd_add x y) (dd_mul k s) = dd_add (dd_comb h x (dd_mul k s)) (dd_comb h y (dd_mul k s)) := by
        simp only [dd_comb, dd_ev_add, dd_mul_add]
        rw [dd_add_swap, dd_add_mul]
      rw [e]; exact hx.add hy
    · intro v hv j
      have e : dd_comb h (dd_mul j v) (dd_mul k s) = dd_mul ((-(dd_ev h (dd_mul k s))) * j) v := by
        simp only [dd_comb]
        rw [dd_ev_mul h j v, hL v hv, Int.mul_zero, dd_0_mul, dd_0_add, dd_mul_mul]
      rw [e]; exact dd_Gen.line hv _
    · intro r hr j hj
      have hs' : 0 < -(dd_ev h s) := by have := hs.2; omega
      rcases Int.lt_or_eq_of_le hr.2 with h1 | h1
      · have e : dd_comb h (dd_mul j r) (dd_mul k s) = dd_mul (j * k) (dd_comb h r s) := by
          simp only [dd_comb, dd_ev_mul, dd_mul_add, dd_mul_mul]
          congr 2 <;> grind
        rw [e]
        exact dd_Gen.ray (Or.inr ⟨r, s, hr.1, hs.1, h1, hs.2, rfl⟩) (Int.mul_nonneg hj hk)
      · have e : dd_comb h (dd_mul j r) (dd_mul k s) = dd_mul ((-(dd_ev h (dd_mul k s))) * j) r := by
          simp only [dd_comb]
          rw [dd_ev_mul h j r, ← h1, Int.mul_zero, dd_0_mul, dd_0_add, dd_mul_mul]
        rw [e]
        refine dd_Gen.ray (Or.inl ⟨hr.1, by omega⟩) (Int.mul_nonneg ?_ hj)
        rw [dd_ev_mul, ← Int.mul_neg]
        exact Int.mul_nonneg hk (by omega)
/-- with ALL rays between, nothing is lost -/
theorem dd_all {L G : dd_V → Prop} {h x : dd_V} (hL : ∀ v, L v → dd_ev h v = 0) (hx : dd_Q L G x) (h0 : 0 ≤ dd_ev h x) : dd_Q L (dd_GA h G) x := by
  obtain ⟨k, hk, hg⟩ := hx
  refine dd_Q.div hk ?_
  obtain ⟨a, b, e, ha, hb⟩ := dd_split (h := h) hg
  have hsum : 0 ≤ dd_ev h a + dd_ev h b := by
    have := dd_ev_mul h k x
    rw [e, dd_ev_add] at this
    rw [this]; exact Int.mul_nonneg (by omega) h0
  have hmix := dd_mix hL ha hb
  have ha' : dd_Gen L (dd_GA h G) a := ha.mono (fun _ h => h) (fun v hv => Or.inl hv)
  rw [e]
  rcases dd_neg hb with rfl | hneg
  · rw [dd_add_0]; exact dd_Q.of ha'
  · refine ⟨dd_ev h a, by omega, ?_⟩
    have e2 : dd_mul (dd_ev h a) (dd_add a b) = dd_add (dd_comb h a b) (dd_mul (dd_ev h a + dd_ev h b) a) := by
      simp only [dd_comb, dd_mul, dd_add, Prod.mk.injEq]
      refine ⟨?_, ?_, ?_, ?_⟩ <;> grind
    rw [e2]
    exact hmix.add (ha'.mul hsum)
