-- a line is turned
def dd_sh (p h x : dd_V) : dd_V := dd_add (dd_mul (dd_ev h p) x) (dd_mul (-(dd_ev h x)) p)
theorem dd_sh_h (p h x : dd_V) : dd_ev h (dd_sh p h x) = 0 := by
  simp only [dd_sh, dd_ev_add, dd_ev_mul]; grind
theorem dd_sh_ev {w p h x : dd_V} (hw : dd_ev w p = 0) : dd_ev w (dd_sh p h x) = dd_ev h p * dd_ev w x := by
  simp only [dd_sh, dd_ev_add, dd_ev_mul, hw]; omega
theorem dd_sh_add (p h x y : dd_V) : dd_sh p h (dd_add x y) = dd_add (dd_sh p h x) (dd_sh p h y) := by
  simp only [dd_sh, dd_ev_add, dd_mul_add]
  rw [dd_add_swap, ← dd_add_mul]
  congr 2; omega
theorem dd_sh_mul (p h x : dd_V) (k : Int) : dd_sh p h (dd_mul k x) = dd_mul k (dd_sh p h x) := by
  simp only [dd_sh, dd_ev_mul, dd_mul_add, dd_mul_mul]
  congr 2 <;> grind
theorem dd_sh_0 (p h : dd_V) : dd_sh p h dd_0 = dd_0 := by
  simp only [dd_sh, dd_mul_0, dd_ev_0, Int.neg_zero, dd_0_mul, dd_add_0]
theorem dd_sh_p (p h : dd_V) : dd_sh p h p = dd_0 := by
  simp only [dd_sh]
  rw [← dd_add_mul, show dd_ev h p + -(dd_ev h p) = 0 by omega, dd_0_mul]
theorem dd_red_z {w x : dd_V} (h : dd_ev w x = 0) : dd_ev w (dd_red x) = 0 := by
  by_cases hx : x = dd_0
  · have : dd_red x = dd_0 := by rw [hx]; decide
    rw [this, dd_ev_0]
  · exact (dd_red_0 hx).mpr h
theorem dd_I.turn {A rows L R Lr L' R' : List dd_V} (H : dd_I A rows L R) {h p l : dd_V} {sg : Int} (hl : l ∈ L) (hsg : sg = 1 ∨ sg = -1) (hp : p = dd_mul sg l) (hst : 0 < dd_ev h p)
    (hLr : ∀ v ∈ L, v = l ∨ v ∈ Lr) (hLr' : ∀ v ∈ Lr, v ∈ L)
    (hL' : ∀ v, v ∈ L' ↔ ∃ u ∈ Lr, v = dd_red (dd_sh p h u)) (hR' : ∀ v, v ∈ R' ↔ v = p ∨ ∃ r ∈ R, v = dd_red (dd_sh p h r)) :
    dd_I A (rows ++ [h]) L' R' := by
  have pw : ∀ w ∈ rows, dd_ev w p = 0 := fun w hw => by rw [hp, dd_ev_mul, H.hL l hl w hw]; omega
  have pA : ∀ u ∈ A, dd_ev u p = 0 := fun w hw => by rw [hp, dd_ev_mul, H.pL l hl w hw]; omega
  have ne : ∀ r ∈ R, dd_sh p h r ≠ dd_0 := fun r hr => by
    obtain ⟨w, hw, h0⟩ := H.hN r hr
    refine dd_ne_0 (w := w) ?_
    rw [dd_sh_ev (pw w hw)]
    have := Int.mul_pos hst h0
    omega
  have z : ∀ r ∈ R, ∀ w ∈ rows, dd_ev w (dd_red (dd_sh p h r)) = 0 ↔ dd_ev w r = 0 := fun r hr w hw => by
    rw [dd_red_0 (ne r hr), dd_sh_ev (pw w hw)]
    constructor
    · intro h0; rcases Int.mul_eq_zero.mp h0 with c | c <;> omega
    · intro h0; rw [h0]; omega
  have hz : ∀ r, dd_ev h (dd_red (dd_sh p h r)) = 0 := fun r => dd_red_z (dd_sh_h p h r)
  refine ⟨?_, ?_, ?_, ?_, ?_, ?_, ?_⟩
  · intro v hv u hu
    obtain ⟨k, hk, rfl⟩ := (hL' v).mp hv
    exact dd_red_z (by rw [dd_sh_ev (pA u hu), H.pL k (hLr' k hk) u hu]; omega)
  · intro v hv u hu
    rcases (hR' v).mp hv with rfl | ⟨r, hr, rfl⟩
    · exact pA u hu
    · exact dd_red_z (by rw [dd_sh_ev (pA u hu), H.pR r hr u hu]; omega)
  · intro v hv w hw
    obtain ⟨k, hk, rfl⟩ := (hL' v).mp hv
    rcases List.mem_append.mp hw with a | a
    · exact dd_red_z (by rw [dd_sh_ev (pw w a), H.hL k (hLr' k hk) w a]; omega)
    · rw [List.mem_singleton.mp a]; exact hz k
  · intro v hv
    refine dd_nn_app.mpr ?_
    rcases (hR' v).mp hv with rfl | ⟨r, hr, rfl⟩
    · exact ⟨fun w hw => by rw [pw w hw]; omega, by omega⟩
    · refine ⟨fun w hw => ?_, by rw [hz]; omega⟩
      rw [dd_red_nn (ne r hr), dd_sh_ev (pw w hw)]
      exact Int.mul_nonneg (by omega) (H.hR r hr w hw)
  · intro v hv
    rcases (hR' v).mp hv with rfl | ⟨r, hr, rfl⟩
    · exact ⟨h, by simp, hst⟩
    · obtain ⟨w, hw, h0⟩ := H.hN r hr
      refine ⟨w, List.mem_append_left _ hw, ?_⟩
      rw [dd_red_pos (ne r hr), dd_sh_ev (pw w hw)]
      exact Int.mul_pos hst h0
  · intro a ha b hb ht
    obtain ⟨t1, t2⟩ := dd_tt_app.mp ht
    rcases (hR' a).mp ha with rfl | ⟨r, hr, rfl⟩
    · rcases (hR' b).mp hb with rfl | ⟨s, hs, rfl⟩
      · rfl
      · obtain ⟨w, hw, h0⟩ := H.hN s hs
        have := (z s hs w hw).mp (t1 w hw (pw w hw))
        omega
    · rcases (hR' b).mp hb with rfl | ⟨s, hs, rfl⟩
      · have := t2 (hz r); omega
      · have := H.hA r hr s hs (fun w hw h0 => (z s hs w hw).mp (t1 w hw ((z r hr w hw).mpr h0)))
        rw [this]
  · intro x hP hx
    obtain ⟨h1, h2⟩ := dd_nn_app.mp hx
    obtain ⟨k, hk, hg⟩ := H.hC x hP h1
    have hs : dd_Gen (fun v => v ∈ L') (fun v => v ∈ R') (dd_sh p h (dd_mul k x)) := by
      refine hg (fun y => dd_Gen (fun v => v ∈ L') (fun v => v ∈ R') (dd_sh p h y)) ?_ ?_ ?_ ?_
      · show dd_Gen _ _ (dd_sh p h dd_0)
        rw [dd_sh_0]; exact dd_Gen.zero
      · intro a b ha hb
        show dd_Gen _ _ (dd_sh p h (dd_add a b))
        rw [dd_sh_add]; exact ha.add hb
      · intro v hv j
        show dd_Gen _ _ (dd_sh p h (dd_mul j v))
        rw [dd_sh_mul]
        rcases hLr v hv with rfl | hv'
        · have e : dd_sh p h v = dd_0 := by
            have : v = dd_mul sg p := by
              rw [hp, dd_mul_mul]
              rcases hsg with rfl | rfl
              · exact (dd_1_mul v).symm
              · exact (dd_1_mul v).symm
            rw [this, dd_sh_mul, dd_sh_p, dd_mul_0]
          rw [e, dd_mul_0]; exact dd_Gen.zero
        · have := dd_Gen.line (L := fun v => v ∈ L') (G := fun v => v ∈ R') ((hL' _).mpr ⟨v, hv', rfl⟩) (j * (dd_g (dd_sh p h v) : Int))
          rwa [← dd_mul_mul, dd_red_mul] at this
      · intro v hv j hj
        show dd_Gen _ _ (dd_sh p h (dd_mul j v))
        rw [dd_sh_mul]
        have := dd_Gen.ray (L := fun v => v ∈ L') (G := fun v => v ∈ R') ((hR' _).mpr (Or.inr ⟨v, hv, rfl⟩)) (k := j * (dd_g (dd_sh p h v) : Int)) (Int.mul_nonneg hj (by omega))
        rwa [← dd_mul_mul, dd_red_mul] at this
    have hp' : dd_Gen (fun v => v ∈ L') (fun v => v ∈ R') (dd_mul (dd_ev h (dd_mul k x)) p) := dd_Gen.ray ((hR' p).mpr (Or.inl rfl)) (by rw [dd_ev_mul]; exact Int.mul_nonneg (by omega) h2)
    have h3 := hs.add hp'
    refine ⟨dd_ev h p * k, Int.mul_pos hst hk, ?_⟩
    have e : dd_add (dd_sh p h (dd_mul k x)) (dd_mul (dd_ev h (dd_mul k x)) p) = dd_mul (dd_ev h p * k) x := by
      simp only [dd_sh]
      rw [dd_add_assoc, ← dd_add_mul, show -(dd_ev h (dd_mul k x)) + dd_ev h (dd_mul k x) = 0 by omega, dd_0_mul, dd_add_0, dd_mul_mul]
    rwa [e] at h3
-- the beginning: all points
def dd_e1 : dd_V := (1, 0, 0, 0)
def dd_e2 : dd_V := (0, 1, 0, 0)
def dd_e3 : dd_V := (0, 0, 1, 0)
def dd_e4 : dd_V := (0, 0, 0, 1)
def dd_un : Nat → List dd_V
  | 0 => []
  | 1 => [dd_e1]
  | 2 => [dd_e1, dd_e2]
  | _ => [dd_e1, dd_e2, dd_e3]
def dd_ab : Nat → List dd_V
  | 0 => [dd_e1, dd_e2, dd_e3]
  | 1 => [dd_e2, dd_e3]
  | 2 => [dd_e3]
  | _ => []
theorem dd_e_ev (x : dd_V) : dd_ev dd_e1 x = x.1 ∧ dd_ev dd_e2 x = x.2.1 ∧ dd_ev dd_e3 x = x.2.2.1 ∧ dd_ev dd_e4 x = x.2.2.2 := by
  simp [dd_ev, dd_e1, dd_e2, dd_e3, dd_e4]
theorem dd_sum4 (x : dd_V) : x = dd_add (dd_mul x.1 dd_e1) (dd_add (dd_mul x.2.1 dd_e2) (dd_add (dd_mul x.2.2.1 dd_e3) (dd_mul x.2.2.2 dd_e4))) := by
  simp [dd_add, dd_mul, dd_e1, dd_e2, dd_e3, dd_e4]
theorem dd_I.start {n : Nat} (h1 : 1 ≤ n) (h3 : n ≤ 3) : dd_I (dd_ab n) [dd_e4] (dd_un n) [dd_e4] := by
  have hn : n = 1 ∨ n = 2 ∨ n = 3 := by omega
  refine ⟨?_, ?_, ?_, ?_, ?_, ?_, ?_⟩
  · rcases hn with rfl | rfl | rfl <;> decide
  · rcases hn with rfl | rfl | rfl <;> decide
  · rcases hn with rfl | rfl | rfl <;> decide
  · decide
  · decide
  · intro r hr s hs _
    rw [List.mem_singleton.mp hr, List.mem_singleton.mp hs]
  · intro x hP hx
    have hq : 0 ≤ x.2.2.2 := by
      have := hx dd_e4 (by simp)
      rwa [(dd_e_ev x).2.2.2] at this
    refine dd_Q.of ?_
    rw [dd_sum4 x]
    have key : ∀ (e : dd_V) (c : Int), (e ∈ dd_ab n ∧ c = 0) ∨ e ∈ dd_un n → dd_Gen (fun v => v ∈ dd_un n) (fun v => v ∈ [dd_e4]) (dd_mul c e) := fun e c h => by
      rcases h with ⟨_, rfl⟩ | h
      · rw [dd_0_mul]; exact dd_Gen.zero
      · exact dd_Gen.line h c
    have k4 : dd_Gen (fun v => v ∈ dd_un n) (fun v => v ∈ [dd_e4]) (dd_mul x.2.2.2 dd_e4) := dd_Gen.ray (by simp) hq
    rcases hn with rfl | rfl | rfl
    · have a2 := hP dd_e2 (by simp [dd_ab]); have a3 := hP dd_e3 (by simp [dd_ab])
      rw [(dd_e_ev x).2.1] at a2; rw [(dd_e_ev x).2.2.1] at a3
      exact (key dd_e1 _ (Or.inr (by simp [dd_un]))).add ((key dd_e2 _ (Or.inl ⟨by simp [dd_ab], a2⟩)).add ((key dd_e3 _ (Or.inl ⟨by simp [dd_ab], a3⟩)).add k4))
    · have a3 := hP dd_e3 (by simp [dd_ab])
      rw [(dd_e_ev x).2.2.1] at a3
      exact (key dd_e1 _ (Or.inr (by simp [dd_un]))).add ((key dd_e2 _ (Or.inr (by simp [dd_un]))).add ((key dd_e3 _ (Or.inl ⟨by simp [dd_ab], a3⟩)).add k4))
    · exact (key dd_e1 _ (Or.inr (by simp [dd_un]))).add ((key dd_e2 _ (Or.inr (by simp [dd_un]))).add ((key dd_e3 _ (Or.inr (by simp [dd_un]))).add k4))

-- what is asked of a space
def dd_pt (A rows : List dd_V) (x : dd_V) : Prop := (∀ u ∈ A, dd_ev u x = 0) ∧ (∀ w ∈ rows, 0 ≤ dd_ev w x) ∧ 0 < dd_ev dd_e4 x
theorem dd_I.point {A rows L R : List dd_V} (H : dd_I A rows L R) {r : dd_V} (hr : r ∈ R) (hq : 0 < dd_ev dd_e4 r) : dd_pt A rows r := ⟨H.pR r hr, H.hR r hr, hq⟩
theorem dd_I.nopoint {A rows L R : List dd_V} (H : dd_I A rows L R) (h4 : dd_e4 ∈ rows) (hno : ∀ r ∈ R, ¬ 0 < dd_ev dd_e4 r) (x : dd_V) : ¬ dd_pt A rows x := fun ⟨h1, h2, h3⟩ => by
  obtain ⟨k, hk, hg⟩ := H.hC x h1 h2
  have := dd_Gen.sign (h := dd_e4) (fun v hv => H.hL v hv dd_e4 h4) (fun v hv => by have := hno v hv; omega) hg
  rw [dd_ev_mul] at this
  have := Int.mul_pos hk h3
  omega
theorem dd_I.far {A rows L R : List dd_V} (H : dd_I A rows L R) (h4 : dd_e4 ∈ rows) {p : dd_V} (hp : dd_pt A rows p) : (∀ l ∈ L, ∀ k : Int, dd_pt A rows (dd_add p (dd_mul k l))) ∧ ∀ r ∈ R, ∀ k : Int, 0 ≤ k → dd_pt A rows (dd_add p (dd_mul k r)) := by
  obtain ⟨h1, h2, h3⟩ := hp
  refine ⟨fun l hl k => ⟨fun u hu => ?_, fun w hw => ?_, ?_⟩, fun r hr k hk => ⟨fun u hu => ?_, fun w hw => ?_, ?_⟩⟩
  · rw [dd_ev_add, dd_ev_mul, h1 u hu, H.pL l hl u hu]; omega
  · rw [dd_ev_add, dd_ev_mul, H.hL l hl w hw]; have := h2 w hw; omega
  · rw [dd_ev_add, dd_ev_mul, H.hL l hl _ h4]; omega
  · rw [dd_ev_add, dd_ev_mul, h1 u hu, H.pR r hr u hu]; omega
  · rw [dd_ev_add, dd_ev_mul]; have := h2 w hw; have := Int.mul_nonneg hk (H.hR r hr w hw); omega
  · rw [dd_ev_add, dd_ev_mul]; have := Int.mul_nonneg hk (H.hR r hr _ h4); omega
theorem dd_lin0 {a b : Int} (h : ∀ k : Int, 0 ≤ a + k * b) : b = 0 := by
  have h1 := h (a + 1)
  have h2 := h (-(a + 1))
  have h0 := h 0
  rcases Int.lt_trichotomy b 0 with c | c | c
  · have := Int.mul_le_mul_of_nonneg_left (show b ≤ -1 by omega) (show 0 ≤ a + 1 by omega)
    omega
  · exact c
  · have := Int.mul_le_mul_of_nonneg_left (show 1 ≤ b by omega) (show 0 ≤ a + 1 by omega)
    rw [Int.neg_mul] at h2
    omega
theorem dd_lin1 {a b : Int} (h : ∀ k : Int, 0 ≤ k → 0 ≤ a + k * b) : 0 ≤ b := by
  refine Classical.byContradiction fun c => ?_
  have h0 := h 0 (by omega)
  have h1 := h (a + 1) (by omega)
  have := Int.mul_le_mul_of_nonneg_left (show b ≤ -1 by omega) (show 0 ≤ a + 1 by omega)
  omega
theorem dd_I.implies {A rows L R : List dd_V} (H : dd_I A rows L R) (h4 : dd_e4 ∈ rows) (hp : ∃ p, dd_pt A rows p) (g : dd_V) : ((∀ l ∈ L, dd_ev g l = 0) ∧ ∀ r ∈ R, 0 ≤ dd_ev g r) ↔ ∀ x, dd_pt A rows x → 0 ≤ dd_ev g x := by
  constructor
  · rintro ⟨a1, a2⟩ x ⟨h1, h2, _⟩
    obtain ⟨k, hk, hg⟩ := H.hC x h1 h2
    have := dd_Gen.sign (h := dd_mul (-1) g) (fun v hv => by rw [dd_neg_h, a1 v hv]; omega) (fun v hv => by rw [dd_neg_h]; have := a2 v hv; omega) hg
    rw [dd_neg_h, dd_ev_mul] at this
    refine Classical.byContradiction fun c => ?_
    have := Int.mul_neg_of_pos_of_neg hk (show dd_ev g x < 0 by omega)
    omega
  · intro hall
    obtain ⟨p, hp⟩ := hp
    obtain ⟨f1, f2⟩ := H.far h4 hp
    refine ⟨fun l hl => dd_lin0 (a := dd_ev g p) (fun k => ?_), fun r hr => dd_lin1 (a := dd_ev g p) (fun k hk => ?_)⟩
    · have := hall _ (f1 l hl k); rwa [dd_ev_add, dd_ev_mul] at this
    · have := hall _ (f2 r hr k hk); rwa [dd_ev_add, dd_ev_mul] at this
theorem dd_big (t : dd_V) (R : List dd_V) : ∃ M : Int, 0 ≤ M ∧ ∀ r ∈ R, -M ≤ dd_ev t r := by
  induction R with
  | nil => exact ⟨0, by omega, fun r hr => by cases hr⟩
  | cons a R ih =>
    obtain ⟨M, h0, h1⟩ := ih
    refine ⟨M + (dd_ev t a).natAbs, by omega, fun r hr => ?_⟩
    rcases List.mem_cons.mp hr with rfl | h
    · omega
    · have := h1 r h; omega
theorem dd_I.bounds {A rows L R : List dd_V} (H : dd_I A rows L R) (h4 : dd_e4 ∈ rows) (hp : ∃ p, dd_pt A rows p) (t : dd_V) : ((∀ l ∈ L, dd_ev t l = 0) ∧ ∀ r ∈ R, dd_ev dd_e4 r = 0 → 0 ≤ dd_ev t r) ↔ ∃ M : Int, ∀ x, dd_pt A rows x → 0 ≤ dd_ev (dd_add t (dd_mul M dd_e4)) x := by
  constructor
  · rintro ⟨a1, a2⟩
    obtain ⟨M, m0, m1⟩ := dd_big t R
    refine ⟨M, (H.implies h4 hp _).mp ⟨fun l hl => ?_, fun r hr => ?_⟩⟩
    · rw [dd_add_ev, dd_mul_ev, a1 l hl, H.hL l hl _ h4]; omega
    · rw [dd_add_ev, dd_mul_ev]
      by_cases h0 : dd_ev dd_e4 r = 0
      · rw [h0]; have := a2 r hr h0; omega
      · have h5 := H.hR r hr _ h4
        have := Int.mul_le_mul_of_nonneg_left (show 1 ≤ dd_ev dd_e4 r by omega) m0
        have := m1 r hr
        omega
  · rintro ⟨M, hM⟩
    obtain ⟨b1, b2⟩ := (H.implies h4 hp _).mpr hM
    refine ⟨fun l hl => ?_, fun r hr h0 => ?_⟩
    · have := b1 l hl; rw [dd_add_ev, dd_mul_ev, H.hL l hl _ h4] at this; omega
    · have := b2 r hr; rw [dd_add_ev, dd_mul_ev, h0] at this; omega
-- only one ray is just there (up to lines)
theorem dd_Gen.one {L G : dd_V → Prop} {r x : dd_V} (hG : ∀ v, G v → v = r) (hx : dd_Gen L G x) : ∃ j : Int, dd_Gen L dd_N (dd_add x (dd_mul j r)) := by
  refine hx (fun x => ∃ j : Int, dd_Gen L dd_N (dd_add x (dd_mul j r))) ⟨0, by rw [dd_0_mul, dd_add_0]; exact dd_Gen.zero⟩ ?_ ?_ ?_
  · rintro x y ⟨i, hi⟩ ⟨j, hj⟩
    refine ⟨i + j, ?_⟩
    rw [dd_add_mul, dd_add_swap]; exact hi.add hj
  · intro v hv k
    exact ⟨0, by rw [dd_0_mul, dd_add_0]; exact dd_Gen.line hv k⟩
  · intro v hv k _
    refine ⟨-k, ?_⟩
    rw [hG v hv, ← dd_add_mul, show k + -k = 0 by omega, dd_0_mul]; exact dd_Gen.zero
theorem dd_I.only {A rows L R : List dd_V} (H : dd_I A rows L R) {r x : dd_V} (hr : r ∈ R) (hP : ∀ u ∈ A, dd_ev u x = 0) (ht : dd_tt rows r x) : ∃ k : Int, 0 < k ∧ ∃ j : Int, dd_Gen (fun v => v ∈ L) dd_N (dd_add (dd_mul k x) (dd_mul j r)) := by
  have big : ∃ M : Int, 0 ≤ M ∧ ∀ w ∈ rows, -M ≤ dd_ev w x := by
    obtain ⟨M, h0, h1⟩ := dd_big x rows
    exact ⟨M, h0, fun w hw => by rw [dd_ev_comm]; exact h1 w hw⟩
  obtain ⟨M, m0, m1⟩ := big
  have hnn : ∀ w ∈ rows, 0 ≤ dd_ev w (dd_add (dd_mul M r) x) := fun w hw => by
    rw [dd_ev_add, dd_ev_mul]
    by_cases h0 : dd_ev w r = 0
    · rw [h0, ht w hw h0]; omega
    · have := H.hR r hr w hw
      have := Int.mul_le_mul_of_nonneg_left (show 1 ≤ dd_ev w r by omega) m0
      have := m1 w hw
      omega
  obtain ⟨k, hk, hg⟩ := H.face (x := dd_add (dd_mul M r) x) (fun u hu => by rw [dd_ev_add, dd_ev_mul, H.pR r hr u hu, hP u hu]; omega) hnn
  obtain ⟨j, hj⟩ := dd_Gen.one (r := r) (fun v hv => (H.hA r hr v hv.1 (fun w hw h0 => hv.2 w hw (by
    rw [dd_ev_add, dd_ev_mul, h0, ht w hw h0]; omega))).symm) hg
  refine ⟨k, hk, k * M + j, ?_⟩
  have e : dd_add (dd_mul k (dd_add (dd_mul M r) x)) (dd_mul j r) = dd_add (dd_mul k x) (dd_mul (k * M + j) r) := by
    simp only [dd_add, dd_mul, Prod.mk.injEq]
    refine ⟨?_, ?_, ?_, ?_⟩ <;> grind
  rwa [e] at hj
theorem dd_I.onlyL {A rows L R : List dd_V} (H : dd_I A rows L R) {x : dd_V} (hP : ∀ u ∈ A, dd_ev u x = 0) (hx : ∀ w ∈ rows, dd_ev w x = 0) : ∃ k : Int, 0 < k ∧ dd_Gen (fun v => v ∈ L) dd_N (dd_mul k x) := by
  obtain ⟨k, hk, hg⟩ := H.face hP (fun w hw => by rw [hx w hw]; omega)
  refine ⟨k, hk, hg.mono (fun _ h => h) (fun v hv => ?_)⟩
  obtain ⟨w, hw, h0⟩ := H.hN v hv.1
  have := hv.2 w hw (hx w hw)
  omega

-- lines, each with a name of its own
def dd_UL (LU : List (dd_V × dd_V)) : Prop := (LU.Nodup) ∧ (∀ a ∈ LU, dd_ev a.2 a.1 ≠ 0) ∧ (∀ a ∈ LU, ∀ b ∈ LU, a ≠ b → dd_ev a.2 b.1 = 0)
theorem dd_UL.nd {LU : List (dd_V × dd_V)} (h_ : dd_UL LU) : LU.Nodup := h_.1
theorem dd_UL.own {LU : List (dd_V × dd_V)} (h_ : dd_UL LU) : ∀ a ∈ LU, dd_ev a.2 a.1 ≠ 0 := h_.2.1
theorem dd_UL.oth {LU : List (dd_V × dd_V)} (h_ : dd_UL LU) : ∀ a ∈ LU, ∀ b ∈ LU, a ≠ b → dd_ev a.2 b.1 = 0 := h_.2.2
theorem dd_UL.tail {a : dd_V × dd_V} {LU : List (dd_V × dd_V)} (h : dd_UL (a :: LU)) : dd_UL LU :=
  ⟨(List.nodup_cons.mp h.nd).2, fun b hb => h.own b (List.mem_cons_of_mem _ hb), fun b hb c hc => h.oth b (List.mem_cons_of_mem _ hb) c (List.mem_cons_of_mem _ hc)⟩
theorem dd_Gen.split1 {l : dd_V} {L : List dd_V} {y : dd_V} (h : dd_Gen (fun v => v ∈ l :: L) dd_N y) : ∃ (c : Int) (z : dd_V), y = dd_add (dd_mul c l) z ∧ dd_Gen (fun v => v ∈ L) dd_N z := by
  refine h (fun y => ∃ (c : Int) (z : dd_V), y = dd_add (dd_mul c l) z ∧ dd_Gen (fun v => v ∈ L) dd_N z) ⟨0, dd_0, by rw [dd_0_mul, dd_0_add], dd_Gen.zero⟩ ?_ ?_ (fun v hv => hv.elim)
  · rintro x y ⟨c, z, rfl, h1⟩ ⟨c', z', rfl, h2⟩
    exact ⟨c + c', dd_add z z', by rw [dd_add_swap, dd_add_mul], h1.add h2⟩
  · intro v hv k
    rcases List.mem_cons.mp hv with rfl | hv'
    · exact ⟨k, dd_0, by rw [dd_add_0], dd_Gen.zero⟩
    · exact ⟨0, dd_mul k v, by rw [dd_0_mul, dd_0_add], dd_Gen.line hv' k⟩
theorem dd_UL.zero {LU : List (dd_V × dd_V)} : dd_UL LU → ∀ y, dd_Gen (fun v => v ∈ LU.map Prod.fst) dd_N y → (∀ a ∈ LU, dd_ev a.2 y = 0) → y = dd_0 := by
  induction LU with
  | nil =>
    intro _ y hy _
    exact hy (fun y => y = dd_0) rfl (fun x y h1 h2 => by rw [h1, h2]; rfl) (fun v hv => by cases hv) (fun v hv => hv.elim)
  | cons a LU ih =>
    intro hU y hy h0
    rw [List.map_cons] at hy
    obtain ⟨c, z, rfl, hz⟩ := hy.split1
    have na := (List.nodup_cons.mp hU.nd).1
    have e1 : dd_ev a.2 z = 0 := dd_Gen.ev0 (fun v hv => by
      obtain ⟨b, hb, rfl⟩ := List.mem_map.mp hv
      exact hU.oth a List.mem_cons_self b (List.mem_cons_of_mem _ hb) (fun e => na (e ▸ hb))) (fun v hv => hv.elim) hz
    have e2 := h0 a List.mem_cons_self
    rw [dd_ev_add, dd_ev_mul, e1] at e2
    have e3 : c = 0 := by
      rcases Int.mul_eq_zero.mp (show c * dd_ev a.2 a.1 = 0 by omega) with c0 | c0
      · exact c0
      · exact absurd c0 (hU.own a List.mem_cons_self)
    subst e3
    rw [dd_0_mul, dd_0_add]
    refine ih hU.tail z hz (fun b hb => ?_)
    have := h0 b (List.mem_cons_of_mem _ hb)
    rwa [dd_0_mul, dd_0_add] at this
def dd_par (x v : dd_V) : Prop := ∃ k j : Int, k ≠ 0 ∧ dd_mul k x = dd_mul j v
theorem dd_add_eq0 {x y : dd_V} {k j : Int} (h : dd_add (dd_mul k x) (dd_mul j y) = dd_0) : dd_mul k x = dd_mul (-j) y := by
  simp only [dd_add, dd_mul, dd_0, Prod.mk.injEq] at *
  obtain ⟨h1, h2, h3, h4⟩ := h
  simp only [Int.neg_mul]
  exact ⟨by omega, by omega, by omega, by omega⟩
def dd_uq (W : dd_V → Prop) (r : dd_V) : Prop := ∀ x, (∀ w, W w → dd_ev w x = 0) → dd_par x r
theorem dd_I.uq {A rows R : List dd_V} {LU : List (dd_V × dd_V)} (H : dd_I A rows (LU.map Prod.fst) R) (hU : dd_UL LU) {r : dd_V} (hr : r ∈ R) (hru : ∀ a ∈ LU, dd_ev a.2 r = 0) :
    dd_uq (fun w => (w ∈ rows ∧ dd_ev w r = 0) ∨ w ∈ A ∨ w ∈ LU.map Prod.snd) r := by
  intro x hx
  obtain ⟨k, hk, j, hg⟩ := H.only hr (fun u hu => hx u (Or.inr (Or.inl hu))) (fun w hw h0 => hx w (Or.inl ⟨hw, h0⟩))
  have := hU.zero _ hg (fun a ha => by
    rw [dd_ev_add, dd_ev_mul, dd_ev_mul, hru a ha, hx a.2 (Or.inr (Or.inr (List.mem_map.mpr ⟨a, ha, rfl⟩)))]; omega)
  exact ⟨k, -j, by omega, dd_add_eq0 this⟩
theorem dd_I.uqL {A rows R : List dd_V} {LU : List (dd_V × dd_V)} (H : dd_I A rows (LU.map Prod.fst) R) (hU : dd_UL LU) {a : dd_V × dd_V} (ha : a ∈ LU) :
    dd_uq (fun w => w ∈ rows ∨ w ∈ A ∨ ∃ b ∈ LU, b ≠ a ∧ w = b.2) a.1 := by
  intro x hx
  obtain ⟨k, hk, hg⟩ := H.onlyL (fun u hu => hx u (Or.inr (Or.inl hu))) (fun w hw => hx w (Or.inl hw))
  have hm : dd_Gen (fun v => v ∈ LU.map Prod.fst) dd_N (dd_add (dd_mul (dd_ev a.2 a.1) (dd_mul k x)) (dd_mul (-(dd_ev a.2 (dd_mul k x))) a.1)) := by
    refine dd_Gen.add ?_ (dd_Gen.line (List.mem_map.mpr ⟨a, ha, rfl⟩) _)
    refine hg (fun y => dd_Gen (fun v => v ∈ LU.map Prod.fst) dd_N (dd_mul (dd_ev a.2 a.1) y)) (by show dd_Gen _ _ (dd_mul _ dd_0); rw [dd_mul_0]; exact dd_Gen.zero) (fun x y h1 h2 => by show dd_Gen _ _ (dd_mul _ (dd_add x y)); rw [dd_mul_add]; exact h1.add h2) (fun v hv j => by show dd_Gen _ _ (dd_mul _ (dd_mul j v)); rw [dd_mul_mul]; exact dd_Gen.line hv _) (fun v hv => hv.elim)
  have := hU.zero _ hm (fun b hb => by
    rw [dd_ev_add, dd_ev_mul, dd_ev_mul, dd_ev_mul, dd_ev_mul]
    by_cases hba : b = a
    · subst hba; grind
    · rw [hx b.2 (Or.inr (Or.inr ⟨b, hb, hba, rfl⟩)), hU.oth b hb a ha hba]; omega)
  have e := dd_add_eq0 this
  rw [dd_mul_mul] at e
  exact ⟨dd_ev a.2 a.1 * k, _, Int.mul_ne_zero (hU.own a ha) (by omega), e⟩
-- three rows and where they just hold
def dd_cr (u v w : dd_V) : dd_V :=
  (u.2.1 * (v.2.2.1 * w.2.2.2 - v.2.2.2 * w.2.2.1) - u.2.2.1 * (v.2.1 * w.2.2.2 - v.2.2.2 * w.2.1) + u.2.2.2 * (v.2.1 * w.2.2.1 - v.2.2.1 * w.2.1),
   -(u.1 * (v.2.2.1 * w.2.2.2 - v.2.2.2 * w.2.2.1) - u.2.2.1 * (v.1 * w.2.2.2 - v.2.2.2 * w.1) + u.2.2.2 * (v.1 * w.2.2.1 - v.2.2.1 * w.1)),
   u.1 * (v.2.1 * w.2.2.2 - v.2.2.2 * w.2.1) - u.2.1 * (v.1 * w.2.2.2 - v.2.2.2 * w.1) + u.2.2.2 * (v.1 * w.2.1 - v.2.1 * w.1),
   -(u.1 * (v.2.1 * w.2.2.1 - v.2.2.1 * w.2.1) - u.2.1 * (v.1 * w.2.2.1 - v.2.2.1 * w.1) + u.2.2.1 * (v.1 * w.2.1 - v.2.1 * w.1)))
theorem dd_cr_1 (u v w : dd_V) : dd_ev u (dd_cr u v w) = 0 := by
  obtain ⟨a, b, c, d⟩ := u; obtain ⟨a', b', c', d'⟩ := v; obtain ⟨a'', b'', c'', d''⟩ := w
  simp only [dd_ev, dd_cr]; grind
theorem dd_cr_2 (u v w : dd_V) : dd_ev v (dd_cr u v w) = 0 := by
  obtain ⟨a, b, c, d⟩ := u; obtain ⟨a', b', c', d'⟩ := v; obtain ⟨a'', b'', c'', d''⟩ := w
  simp only [dd_ev, dd_cr]; grind
theorem dd_cr_3 (u v w z : dd_V) : dd_ev z (dd_cr u v w) = -(dd_ev w (dd_cr u v z)) := by
  obtain ⟨a, b, c, d⟩ := u; obtain ⟨a', b', c', d'⟩ := v; obtain ⟨a'', b'', c'', d''⟩ := w; obtain ⟨x, y, z, t⟩ := z
  simp only [dd_ev, dd_cr]; grind
theorem dd_cr_4 (u v w z : dd_V) : dd_ev z (dd_cr u v w) = -(dd_ev v (dd_cr u z w)) := by
  obtain ⟨a, b, c, d⟩ := u; obtain ⟨a', b', c', d'⟩ := v; obtain ⟨a'', b'', c'', d''⟩ := w; obtain ⟨x, y, z, t⟩ := z
  simp only [dd_ev, dd_cr]; grind
theorem dd_cr_33 (u v w : dd_V) : dd_ev w (dd_cr u v w) = 0 := by have := dd_cr_3 u v w w; omega
/-- whatever just holds there too is a multiple -/
theorem dd_cr_uq {u v w x : dd_V} (hu : dd_ev u x = 0) (hv : dd_ev v x = 0) (hw : dd_ev w x = 0) :
    (dd_cr u v w).1 * x.2.1 = (dd_cr u v w).2.1 * x.1 ∧ (dd_cr u v w).1 * x.2.2.1 = (dd_cr u v w).2.2.1 * x.1 ∧ (dd_cr u v w).1 * x.2.2.2 = (dd_cr u v w).2.2.2 * x.1 ∧
    (dd_cr u v w).2.1 * x.2.2.1 = (dd_cr u v w).2.2.1 * x.2.1 ∧ (dd_cr u v w).2.1 * x.2.2.2 = (dd_cr u v w).2.2.2 * x.2.1 ∧ (dd_cr u v w).2.2.1 * x.2.2.2 = (dd_cr u v w).2.2.2 * x.2.2.1 := by
  obtain ⟨a, b, c, d⟩ := u; obtain ⟨a', b', c', d'⟩ := v; obtain ⟨a'', b'', c'', d''⟩ := w; obtain ⟨x, y, z, t⟩ := x
  simp only [dd_ev, dd_cr] at *
  refine ⟨?_, ?_, ?_, ?_, ?_, ?_⟩ <;> grind

theorem dd_eq0 {x : dd_V} (h : ∀ z, dd_ev z x = 0) : x = dd_0 := (dd_sq x).2 (h x)
theorem dd_mul_eq0 {k : Int} {x : dd_V} (hk : k ≠ 0) (h : dd_mul k x = dd_0) : x = dd_0 := by
  refine dd_eq0 (fun z => ?_)
  have := dd_ev_mul z k x
  rw [h, dd_ev_0] at this
  rcases Int.mul_eq_zero.mp this.symm with c | c
  · exact absurd c hk
  · exact c
/-- two multiples of one that are upright to each other: one is 0 -/
theorem dd_par_up {c x r : dd_V} (hc : dd_par c r) (hx : dd_par x r) (h0 : c ≠ dd_0) (hcx : dd_ev c x = 0) : x = dd_0 := by
  obtain ⟨k, j, hk, e⟩ := hc
  obtain ⟨k', j', hk', e'⟩ := hx
  have e1 : dd_mul (j * k') x = dd_mul (j' * k) c := by
    rw [← dd_mul_mul, e', ← dd_mul_mul, e, dd_mul_mul, dd_mul_mul, Int.mul_comm]
  have e2 := congrArg (dd_ev c) e1
  rw [dd_ev_mul, dd_ev_mul, hcx] at e2
  have hcc : dd_ev c c ≠ 0 := fun h => h0 ((dd_sq c).2 h)
  have e3 : j' * k = 0 := by
    rcases Int.mul_eq_zero.mp (show j' * k * dd_ev c c = 0 by omega) with q | q
    · exact q
    · exact absurd q hcc
  have e4 : j' = 0 := by
    rcases Int.mul_eq_zero.mp e3 with q | q
    · exact q
    · exact absurd q hk
  subst e4
  rw [dd_0_mul] at e'
  exact dd_mul_eq0 hk' e'
theorem dd_uq.third {W : dd_V → Prop} {r : dd_V} (H : dd_uq W r) {u v z : dd_V} (hz : dd_cr u v z ≠ dd_0) : ∃ w, W w ∧ dd_cr u v w ≠ dd_0 := by
  refine Classical.byContradiction fun hno => ?_
  have hall : ∀ w, W w → dd_cr u v w = dd_0 := fun w hw => Classical.byContradiction fun h => hno ⟨w, hw, h⟩
  have hx : ∀ y, dd_par (dd_cr u v y) r := fun y => H _ (fun w hw => by
    rw [dd_cr_3, hall w hw, dd_ev_0]; omega)
  have e := dd_par_up (hx z) (hx (dd_cr u v z)) hz (dd_cr_33 u v _)
  have e1 := dd_cr_3 u v (dd_cr u v z) z
  rw [e, dd_ev_0] at e1
  exact hz ((dd_sq _).2 (by omega))
theorem dd_uq.second {W : dd_V → Prop} {r : dd_V} (H : dd_uq W r) {u a b : dd_V} (hz : dd_cr u a b ≠ dd_0) : ∃ v, W v ∧ ∃ z, dd_cr u v z ≠ dd_0 := by
  refine Classical.byContradiction fun hno => ?_
  have hall : ∀ w, W w → ∀ z, dd_cr u w z = dd_0 := fun w hw z => Classical.byContradiction fun h => hno ⟨w, hw, z, h⟩
  have hx : ∀ y, dd_par (dd_cr u a y) r := fun y => H _ (fun w hw => by
    rw [dd_cr_4, hall w hw, dd_ev_0]; omega)
  have e := dd_par_up (hx b) (hx (dd_cr u a b)) hz (dd_cr_33 u a _)
  have e1 := dd_cr_3 u a (dd_cr u a b) b
  rw [e, dd_ev_0] at e1
  exact hz ((dd_sq _).2 (by omega))
theorem dd_cr_ne {u : dd_V} (hu : u ≠ dd_0) : ∃ a b, dd_cr u a b ≠ dd_0 := by
  obtain ⟨x, y, z, t⟩ := u
  have : x ≠ 0 ∨ y ≠ 0 ∨ z ≠ 0 ∨ t ≠ 0 := by
    refine Classical.byContradiction fun h => hu ?_
    simp only [dd_0, Prod.mk.injEq]; omega
  rcases this with h | h | h | h
  · refine ⟨dd_e2, dd_e3, fun e => h ?_⟩
    simp [dd_cr, dd_e2, dd_e3, dd_0] at e; omega
  · refine ⟨dd_e1, dd_e3, fun e => h ?_⟩
    simp [dd_cr, dd_e1, dd_e3, dd_0] at e; omega
  · refine ⟨dd_e1, dd_e2, fun e => h ?_⟩
    simp [dd_cr, dd_e1, dd_e2, dd_0] at e; omega
  · refine ⟨dd_e1, dd_e2, fun e => h ?_⟩
    simp [dd_cr, dd_e1, dd_e2, dd_0] at e; omega
theorem dd_uq.first {W : dd_V → Prop} {r : dd_V} (H : dd_uq W r) : ∃ u, W u ∧ u ≠ dd_0 := by
  refine Classical.byContradiction fun hno => ?_
  have hall : ∀ w, W w → w = dd_0 := fun w hw => Classical.byContradiction fun h => hno ⟨w, hw, h⟩
  have hx : ∀ y, dd_par y r := fun y => H y (fun w hw => by rw [hall w hw, dd_ev_comm, dd_ev_0])
  have := dd_par_up (hx dd_e1) (hx dd_e2) (by decide) (by decide)
  exact absurd this (by decide)
theorem dd_uq.three {W : dd_V → Prop} {r : dd_V} (H : dd_uq W r) : ∃ u v w, W u ∧ W v ∧ W w ∧ dd_cr u v w ≠ dd_0 := by
  obtain ⟨u, hu, h0⟩ := H.first
  obtain ⟨a, b, hab⟩ := dd_cr_ne h0
  obtain ⟨v, hv, z, hz⟩ := H.second hab
  obtain ⟨w, hw, h⟩ := H.third hz
  exact ⟨u, v, w, hu, hv, hw, h⟩
-- how large
def dd_sm (w : dd_V) : Prop := (-9 ≤ w.1 ∧ w.1 ≤ 9) ∧ (-9 ≤ w.2.1 ∧ w.2.1 ≤ 9) ∧ (-9 ≤ w.2.2.1 ∧ w.2.2.1 ≤ 9) ∧ (-1000 ≤ w.2.2.2 ∧ w.2.2.2 ≤ 1000)
theorem dd_mulb {x y A B : Int} (hx : -A ≤ x ∧ x ≤ A) (hy : -B ≤ y ∧ y ≤ B) : -(A * B) ≤ x * y ∧ x * y ≤ A * B := by
  have h : (x * y).natAbs ≤ (A * B).natAbs := by
    rw [Int.natAbs_mul, Int.natAbs_mul]
    exact Nat.mul_le_mul (by omega) (by omega)
  have : 0 ≤ A * B := Int.mul_nonneg (by omega) (by omega)
  omega
theorem dd_detb {p q r a b c a' b' c' X Y Z : Int} (hp : -X ≤ p ∧ p ≤ X) (hq : -Y ≤ q ∧ q ≤ Y) (hr : -Z ≤ r ∧ r ≤ Z) (ha : -X ≤ a ∧ a ≤ X) (hb : -Y ≤ b ∧ b ≤ Y) (hc : -Z ≤ c ∧ c ≤ Z) (ha' : -X ≤ a' ∧ a' ≤ X) (hb' : -Y ≤ b' ∧ b' ≤ Y) (hc' : -Z ≤ c' ∧ c' ≤ Z) :
    -(6 * (X * (Y * Z))) ≤ p * (b * c' - c * b') - q * (a * c' - c * a') + r * (a * b' - b * a') ∧ p * (b * c' - c * b') - q * (a * c' - c * a') + r * (a * b' - b * a') ≤ 6 * (X * (Y * Z)) := by
  have h1 := dd_mulb hb hc'; have h2 := dd_mulb hc hb'; have h3 := dd_mulb ha hc'; have h4 := dd_mulb hc ha'; have h5 := dd_mulb ha hb'; have h6 := dd_mulb hb ha'
  have e2 : Z * Y = Y * Z := Int.mul_comm _ _
  have e4 : Z * X = X * Z := Int.mul_comm _ _
  have e6 : Y * X = X * Y := Int.mul_comm _ _
  rw [e2] at h2; rw [e4] at h4; rw [e6] at h6
  have k1 := dd_mulb (y := b * c' - c * b') (B := 2 * (Y * Z)) hp ⟨by omega, by omega⟩
  have k2 := dd_mulb (y := a * c' - c * a') (B := 2 * (X * Z)) hq ⟨by omega, by omega⟩
  have k3 := dd_mulb (y := a * b' - b * a') (B := 2 * (X * Y)) hr ⟨by omega, by omega⟩
  have f1 : X * (2 * (Y * Z)) = 2 * (X * (Y * Z)) := by grind
  have f2 : Y * (2 * (X * Z)) = 2 * (X * (Y * Z)) := by grind
  have f3 : Z * (2 * (X * Y)) = 2 * (X * (Y * Z)) := by grind
  rw [f1] at k1; rw [f2] at k2; rw [f3] at k3
  omega
theorem dd_cr_b {u v w : dd_V} (hu : dd_sm u) (hv : dd_sm v) (hw : dd_sm w) : (dd_cr u v w).1.natAbs ≤ 486000 ∧ (dd_cr u v w).2.1.natAbs ≤ 486000 ∧ (dd_cr u v w).2.2.1.natAbs ≤ 486000 ∧ (dd_cr u v w).2.2.2.natAbs ≤ 4374 := by
  obtain ⟨u1, u2, u3, u4⟩ := hu
  obtain ⟨v1, v2, v3, v4⟩ := hv
  obtain ⟨w1, w2, w3, w4⟩ := hw
  have a1 := dd_detb u2 u3 u4 v2 v3 v4 w2 w3 w4
  have a2 := dd_detb u1 u3 u4 v1 v3 v4 w1 w3 w4
  have a3 := dd_detb u1 u2 u4 v1 v2 v4 w1 w2 w4
  have a4 := dd_detb u1 u2 u3 v1 v2 v3 w1 w2 w3
  simp only [dd_cr]
  exact ⟨by omega, by omega, by omega, by omega⟩
theorem dd_dvd_le {r c : Int} {x : dd_V} (hg : dd_g x = 1) (h1 : r ∣ c * x.1) (h2 : r ∣ c * x.2.1) (h3 : r ∣ c * x.2.2.1) (h4 : r ∣ c * x.2.2.2) : r ∣ c := by
  have k : r.natAbs ∣ Nat.gcd (Nat.gcd (Nat.gcd (c.natAbs * x.1.natAbs) (c.natAbs * x.2.1.natAbs)) (c.natAbs * x.2.2.1.natAbs)) (c.natAbs * x.2.2.2.natAbs) := by
    refine Nat.dvd_gcd (Nat.dvd_gcd (Nat.dvd_gcd ?_ ?_) ?_) ?_
    · rw [← Int.natAbs_mul]; exact Int.natAbs_dvd_natAbs.mpr h1
    · rw [← Int.natAbs_mul]; exact Int.natAbs_dvd_natAbs.mpr h2
    · rw [← Int.natAbs_mul]; exact Int.natAbs_dvd_natAbs.mpr h3
    · rw [← Int.natAbs_mul]; exact Int.natAbs_dvd_natAbs.mpr h4
  rw [Nat.gcd_mul_left, Nat.gcd_mul_left, Nat.gcd_mul_left] at k
  have e : Nat.gcd (Nat.gcd (Nat.gcd x.1.natAbs x.2.1.natAbs) x.2.2.1.natAbs) x.2.2.2.natAbs = 1 := hg
  rw [e, Nat.mul_one] at k
  exact Int.natAbs_dvd_natAbs.mp k
def dd_bd (r : dd_V) : Prop := r.1.natAbs ≤ 486000 ∧ r.2.1.natAbs ≤ 486000 ∧ r.2.2.1.natAbs ≤ 486000 ∧ r.2.2.2.natAbs ≤ 4374
theorem dd_uq.bd {W : dd_V → Prop} {r : dd_V} (H : dd_uq W r) (hW : ∀ w, W w → dd_ev w r = 0) (hs : ∀ w, W w → dd_sm w) (hg : dd_g r = 1) : dd_bd r := by
  obtain ⟨u, v, w, hu, hv, hw, h0⟩ := H.three
  obtain ⟨e1, e2, e3, e4, e5, e6⟩ := dd_cr_uq (hW u hu) (hW v hv) (hW w hw)
  obtain ⟨b1, b2, b3, b4⟩ := dd_cr_b (hs u hu) (hs v hv) (hs w hw)
  generalize hcc : dd_cr u v w = c at *
  -- each number of r divides that of c; and none of c is 0 where that of r is not
  have d1 : r.1 ∣ c.1 := dd_dvd_le hg ⟨c.1, Int.mul_comm _ _⟩ ⟨c.2.1, by rw [e1, Int.mul_comm]⟩ ⟨c.2.2.1, by rw [e2, Int.mul_comm]⟩ ⟨c.2.2.2, by rw [e3, Int.mul_comm]⟩
  have d2 : r.2.1 ∣ c.2.1 := dd_dvd_le hg ⟨c.1, by rw [← e1, Int.mul_comm]⟩ ⟨c.2.1, Int.mul_comm _ _⟩ ⟨c.2.2.1, by rw [e4, Int.mul_comm]⟩ ⟨c.2.2.2, by rw [e5, Int.mul_comm]⟩
  have d3 : r.2.2.1 ∣ c.2.2.1 := dd_dvd_le hg ⟨c.1, by rw [← e2, Int.mul_comm]⟩ ⟨c.2.1, by rw [← e4, Int.mul_comm]⟩ ⟨c.2.2.1, Int.mul_comm _ _⟩ ⟨c.2.2.2, by rw [e6, Int.mul_comm]⟩
  have d4 : r.2.2.2 ∣ c.2.2.2 := dd_dvd_le hg ⟨c.1, by rw [← e3, Int.mul_comm]⟩ ⟨c.2.1, by rw [← e5, Int.mul_comm]⟩ ⟨c.2.2.1, by rw [← e6, Int.mul_comm]⟩ ⟨c.2.2.2, Int.mul_comm _ _⟩
  have le : ∀ a b : Int, a ∣ b → (b = 0 → a = 0) → a.natAbs ≤ b.natAbs := fun a b hd hz => by
    by_cases hb : b = 0
    · rw [hz hb, hb]; omega
    · exact Nat.le_of_dvd (by omega) (Int.natAbs_dvd_natAbs.mpr hd)
  have z : ∀ a b : Int, a * b = 0 → a ≠ 0 → b = 0 := fun a b h h1 => by
    rcases Int.mul_eq_zero.mp h with q | q
    · exact absurd q h1
    · exact q
  have hne : c.1 ≠ 0 ∨ c.2.1 ≠ 0 ∨ c.2.2.1 ≠ 0 ∨ c.2.2.2 ≠ 0 := by
    refine Classical.byContradiction fun h => h0 ?_
    obtain ⟨x, y, zz, t⟩ := c
    simp only [dd_0, Prod.mk.injEq] at *; omega
  have f1 : c.1 = 0 → r.1 = 0 := fun h => by
    rcases hne with q | q | q | q
    · exact absurd h q
    · exact z _ _ (by rw [← e1, h]; omega) q
    · exact z _ _ (by rw [← e2, h]; omega) q
    · exact z _ _ (by rw [← e3, h]; omega) q
  have f2 : c.2.1 = 0 → r.2.1 = 0 := fun h => by
    rcases hne with q | q | q | q
    · exact z _ _ (by rw [e1, h]; omega) q
    · exact absurd h q
    · exact z _ _ (by rw [← e4, h]; omega) q
    · exact z _ _ (by rw [← e5, h]; omega) q
  have f3 : c.2.2.1 = 0 → r.2.2.1 = 0 := fun h => by
    rcases hne with q | q | q | q
    · exact z _ _ (by rw [e2, h]; omega) q
    · exact z _ _ (by rw [e4, h]; omega) q
    · exact absurd h q
    · exact z _ _ (by rw [← e6, h]; omega) q
  have f4 : c.2.2.2 = 0 → r.2.2.2 = 0 := fun h => by
    rcases hne with q | q | q | q
    · exact z _ _ (by rw [e3, h]; omega) q
    · exact z _ _ (by rw [e5, h]; omega) q
    · exact z _ _ (by rw [e6, h]; omega) q
    · exact absurd h q
  have l1 := le _ _ d1 f1; have l2 := le _ _ d2 f2; have l3 := le _ _ d3 f3; have l4 := le _ _ d4 f4
  exact ⟨by omega, by omega, by omega, by omega⟩
