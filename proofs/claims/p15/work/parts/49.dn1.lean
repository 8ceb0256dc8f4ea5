-- longs that stand for whole numbers
def dd_R (x : Int64) (z B : Int) : Prop := x.toInt = z ∧ -B ≤ z ∧ z ≤ B
theorem dd_R.nn {x : Int64} {z B : Int} (h : dd_R x z B) : 0 ≤ B := by have := h.2; omega
theorem dd_bm {z : Int} (h1 : -9223372036854775808 ≤ z) (h2 : z < 9223372036854775808) : z.bmod (2 ^ 64) = z := by
  rw [Int.bmod_eq_of_le] <;> omega
theorem dd_R.add {x y : Int64} {a b A B : Int} (hx : dd_R x a A) (hy : dd_R y b B) (h : A + B < 9223372036854775808) : dd_R (x + y) (a + b) (A + B) := by
  obtain ⟨h1, h2, h3⟩ := hx
  obtain ⟨k1, k2, k3⟩ := hy
  refine ⟨?_, by omega, by omega⟩
  rw [Int64.toInt_add, h1, k1]; exact dd_bm (by omega) (by omega)
theorem dd_R.sub {x y : Int64} {a b A B : Int} (hx : dd_R x a A) (hy : dd_R y b B) (h : A + B < 9223372036854775808) : dd_R (x - y) (a - b) (A + B) := by
  obtain ⟨h1, h2, h3⟩ := hx
  obtain ⟨k1, k2, k3⟩ := hy
  refine ⟨?_, by omega, by omega⟩
  rw [Int64.toInt_sub, h1, k1]; exact dd_bm (by omega) (by omega)
theorem dd_R.neg {x : Int64} {a A : Int} (hx : dd_R x a A) (h : A < 9223372036854775808) : dd_R (-x) (-a) A := by
  obtain ⟨h1, h2, h3⟩ := hx
  refine ⟨?_, by omega, by omega⟩
  rw [Int64.toInt_neg, h1]; exact dd_bm (by omega) (by omega)
theorem dd_R.mul {x y : Int64} {a b A B : Int} (hx : dd_R x a A) (hy : dd_R y b B) (h : A * B < 9223372036854775808) : dd_R (x * y) (a * b) (A * B) := by
  obtain ⟨h1, h2, h3⟩ := hx
  obtain ⟨k1, k2, k3⟩ := hy
  have := dd_mulb ⟨h2, h3⟩ ⟨k2, k3⟩
  refine ⟨?_, this⟩
  rw [Int64.toInt_mul, h1, k1]; exact dd_bm (by omega) (by omega)
theorem dd_R.le {x : Int64} {a A B : Int} (hx : dd_R x a A) (h : A ≤ B) : dd_R x a B := ⟨hx.1, by have := hx.2; omega, by have := hx.2; omega⟩
theorem dd_R.lt {x y : Int64} {a b A B : Int} (hx : dd_R x a A) (hy : dd_R y b B) : x < y ↔ a < b := by
  rw [Int64.lt_iff_toInt_lt, hx.1, hy.1]
theorem dd_R.lei {x y : Int64} {a b A B : Int} (hx : dd_R x a A) (hy : dd_R y b B) : x ≤ y ↔ a ≤ b := by
  rw [Int64.le_iff_toInt_le, hx.1, hy.1]
theorem dd_R.eq {x y : Int64} {a b A B : Int} (hx : dd_R x a A) (hy : dd_R y b B) : x = y ↔ a = b := by
  rw [← Int64.toInt_inj, hx.1, hy.1]
theorem dd_R0 : dd_R 0 0 0 := ⟨rfl, by omega, by omega⟩
theorem dd_R1 : dd_R 1 1 1 := ⟨rfl, by omega, by omega⟩
theorem dd_R.pos {x : Int64} {a A : Int} (hx : dd_R x a A) : 0 < x ↔ 0 < a := dd_R0.lt hx
theorem dd_R.neg' {x : Int64} {a A : Int} (hx : dd_R x a A) : x < 0 ↔ a < 0 := hx.lt dd_R0
theorem dd_R.eq0 {x : Int64} {a A : Int} (hx : dd_R x a A) : x = 0 ↔ a = 0 := hx.eq dd_R0

-- the reference's search in longs is the one in whole numbers
def dd_RF (f : Nat → Nat → Int64) (F : Nat → dd_V) (n : Nat) : Prop := (∀ i, i < n → dd_R (f 0 i) (F i).1 9) ∧ (∀ i, i < n → dd_R (f 1 i) (F i).2.1 9) ∧ (∀ i, i < n → dd_R (f 2 i) (F i).2.2.1 9) ∧ (∀ i, i < n → dd_R (f 3 i) (dd_D F i) 1000)
theorem dd_RF.a {f : Nat → Nat → Int64} {F : Nat → dd_V} {n : Nat} (h_ : dd_RF f F n) : ∀ i, i < n → dd_R (f 0 i) (F i).1 9 := h_.1
theorem dd_RF.b {f : Nat → Nat → Int64} {F : Nat → dd_V} {n : Nat} (h_ : dd_RF f F n) : ∀ i, i < n → dd_R (f 1 i) (F i).2.1 9 := h_.2.1
theorem dd_RF.c {f : Nat → Nat → Int64} {F : Nat → dd_V} {n : Nat} (h_ : dd_RF f F n) : ∀ i, i < n → dd_R (f 2 i) (F i).2.2.1 9 := h_.2.2.1
theorem dd_RF.d {f : Nat → Nat → Int64} {F : Nat → dd_V} {n : Nat} (h_ : dd_RF f F n) : ∀ i, i < n → dd_R (f 3 i) (dd_D F i) 1000 := h_.2.2.2
def dd_RG (g : V3) (G : dd_V3) : Prop := (dd_R g.1 G.1 40) ∧ (dd_R g.2.1 G.2.1 40) ∧ (dd_R g.2.2 G.2.2 40)
theorem dd_RG.a {g : V3} {G : dd_V3} (h_ : dd_RG g G) : dd_R g.1 G.1 40 := h_.1
theorem dd_RG.b {g : V3} {G : dd_V3} (h_ : dd_RG g G) : dd_R g.2.1 G.2.1 40 := h_.2.1
theorem dd_RG.c {g : V3} {G : dd_V3} (h_ : dd_RG g G) : dd_R g.2.2 G.2.2 40 := h_.2.2
def dd_RS (s : LSt) (z : dd_St) : Prop := s.1 = z.1 ∧ (z.1 = true → dd_R s.2.1 z.2.1 1000000000 ∧ dd_R s.2.2 z.2.2 100000)
theorem dd_bear_R {s : LSt} {z : dd_St} (h : dd_RS s z) {up dn : Int64} {N D : Int} (hu : dd_R up N 1000000000) (hd : dd_R dn D 100000) : dd_RS (bear s up dn) (dd_be z N D) := by
  obtain ⟨h1, h2⟩ := h
  unfold bear dd_be
  cases hz : z.1 with
  | false =>
    rw [if_pos (Or.inl (h1.trans hz)), if_pos (Or.inl rfl)]
    exact ⟨rfl, fun _ => ⟨hu, hd⟩⟩
  | true =>
    obtain ⟨k1, k2⟩ := h2 hz
    have e := (k1.mul hd (by decide)).lt (hu.mul k2 (by decide))
    by_cases hc : z.2.1 * D < N * z.2.2
    · rw [if_pos (Or.inr (e.mpr hc)), if_pos (Or.inr hc)]
      exact ⟨rfl, fun _ => ⟨hu, hd⟩⟩
    · rw [if_neg (fun q => by
        rcases q with q | q
        · rw [h1, hz] at q; cases q
        · exact hc (e.mp q)), if_neg (fun q => by
        rcases q with q | q
        · cases q
        · exact hc q)]
      exact ⟨h1, h2⟩
theorem dd_cJ (f : Nat → Nat → Int64) (g : V3) (i : Nat) : cJ f g 0 23 = g.1 ∧ cJ f g 0 24 = g.2.1 ∧ cJ f g 0 25 = g.2.2 ∧ cJ f g (0 + 12) i = f 0 i ∧ cJ f g (0 + 13) i = f 1 i ∧ cJ f g (0 + 14) i = f 2 i ∧ cJ f g (0 + 15) i = f 3 i := ⟨rfl, rfl, rfl, rfl, rfl, rfl, rfl⟩
theorem dd_one_R {f : Nat → Nat → Int64} {F : Nat → dd_V} {n : Nat} (hF : dd_RF f F n) {g : V3} {G : dd_V3} (hG : dd_RG g G) {i : Nat} (hi : i < n) {s : LSt} {z : dd_St} (hs : dd_RS s z) : dd_RS (one (cJ f g) 0 i s) (dd_o1 F G i z) := by
  have a := hF.a i hi; have b := hF.b i hi; have c := hF.c i hi; have d := hF.d i hi
  unfold one dd_o1
  obtain ⟨e1, e2, e3, e4, e5, e6, e7⟩ := dd_cJ f g i
  rw [e1, e2, e3, e4, e5, e6, e7]
  have t := (((hG.a.mul a (by decide)).add (hG.b.mul b (by decide)) (by decide)).add (hG.c.mul c (by decide)) (by decide))
  have q : ((g.2.1 * f 2 i = g.2.2 * f 1 i ∧ g.2.2 * f 0 i = g.1 * f 2 i ∧ g.1 * f 1 i = g.2.1 * f 0 i) ∧ 0 < g.1 * f 0 i + g.2.1 * f 1 i + g.2.2 * f 2 i) ↔ ((G.2.1 * (F i).2.2.1 = G.2.2 * (F i).2.1 ∧ G.2.2 * (F i).1 = G.1 * (F i).2.2.1 ∧ G.1 * (F i).2.1 = G.2.1 * (F i).1) ∧ 0 < dd_d3 G (F i)) := by
    rw [(hG.b.mul c (by decide)).eq (hG.c.mul b (by decide)), (hG.c.mul a (by decide)).eq (hG.a.mul c (by decide)), (hG.a.mul b (by decide)).eq (hG.b.mul a (by decide)), t.pos]
    exact Iff.rfl
  by_cases h : (G.2.1 * (F i).2.2.1 = G.2.2 * (F i).2.1 ∧ G.2.2 * (F i).1 = G.1 * (F i).2.2.1 ∧ G.1 * (F i).2.1 = G.2.1 * (F i).1) ∧ 0 < dd_d3 G (F i)
  · rw [if_pos (q.mpr h), if_pos h]
    exact dd_bear_R hs ((t.mul d (by decide)).le (by decide)) ((((a.mul a (by decide)).add (b.mul b (by decide)) (by decide)).add (c.mul c (by decide)) (by decide)).le (by decide))
  · rw [if_neg (fun w => h (q.mp w)), if_neg h]; exact hs
def dd_R3 (u : V3) (U : dd_V3) (B : Int) : Prop := (dd_R u.1 U.1 B) ∧ (dd_R u.2.1 U.2.1 B) ∧ (dd_R u.2.2 U.2.2 B)
theorem dd_R3.a {u : V3} {U : dd_V3} {B : Int} (h_ : dd_R3 u U B) : dd_R u.1 U.1 B := h_.1
theorem dd_R3.b {u : V3} {U : dd_V3} {B : Int} (h_ : dd_R3 u U B) : dd_R u.2.1 U.2.1 B := h_.2.1
theorem dd_R3.c {u : V3} {U : dd_V3} {B : Int} (h_ : dd_R3 u U B) : dd_R u.2.2 U.2.2 B := h_.2.2
theorem dd_upr_R {f : Nat → Nat → Int64} {F : Nat → dd_V} {n : Nat} (hF : dd_RF f F n) (g : V3) {i j : Nat} (hi : i < n) (hj : j < n) : dd_R3 (upr (cJ f g) 0 i j) (dd_up (F i) (F j)) 162 := by
  have a := hF.a i hi; have b := hF.b i hi; have c := hF.c i hi
  have a' := hF.a j hj; have b' := hF.b j hj; have c' := hF.c j hj
  exact ⟨((b.mul c' (by decide)).sub (c.mul b' (by decide)) (by decide)).le (by decide), ((c.mul a' (by decide)).sub (a.mul c' (by decide)) (by decide)).le (by decide), ((a.mul b' (by decide)).sub (b.mul a' (by decide)) (by decide)).le (by decide)⟩
theorem dd_two_R {f : Nat → Nat → Int64} {F : Nat → dd_V} {n : Nat} (hF : dd_RF f F n) {g : V3} {G : dd_V3} (hG : dd_RG g G) {i j : Nat} (hi : i < n) (hj : j < n) {s : LSt} {z : dd_St} (hs : dd_RS s z) : dd_RS (two (cJ f g) 0 i j s) (dd_o2 F G i j z) := by
  have a := hF.a i hi; have b := hF.b i hi; have c := hF.c i hi; have d := hF.d i hi
  have a' := hF.a j hj; have b' := hF.b j hj; have c' := hF.c j hj; have d' := hF.d j hj
  have u := dd_upr_R hF g hi hj
  have sq : dd_R (sqr (upr (cJ f g) 0 i j)) (dd_sq3 (dd_up (F i) (F j))) 100000 := (((u.a.mul u.a (by decide)).add (u.b.mul u.b (by decide)) (by decide)).add (u.c.mul u.c (by decide)) (by decide)).le (by decide)
  have dt : dd_R (cJ f g 0 23 * (upr (cJ f g) 0 i j).1 + cJ f g 0 24 * (upr (cJ f g) 0 i j).2.1 + cJ f g 0 25 * (upr (cJ f g) 0 i j).2.2) (dd_dd G (dd_up (F i) (F j))) 100000 := (((hG.a.mul u.a (by decide)).add (hG.b.mul u.b (by decide)) (by decide)).add (hG.c.mul u.c (by decide)) (by decide)).le (by decide)
  have f1 : dd_R (fst2 (cJ f g) 0 j (upr (cJ f g) 0 i j)) (dd_dd (dd_upg G (F j)) (dd_up (F i) (F j))) 350000 :=
    ((((((hG.b.mul c' (by decide)).sub (hG.c.mul b' (by decide)) (by decide)).mul u.a (by decide)).add (((hG.c.mul a' (by decide)).sub (hG.a.mul c' (by decide)) (by decide)).mul u.b (by decide)) (by decide)).add (((hG.a.mul b' (by decide)).sub (hG.b.mul a' (by decide)) (by decide)).mul u.c (by decide)) (by decide))).le (by decide)
  have f2 : dd_R (snd2 (cJ f g) 0 i (upr (cJ f g) 0 i j)) (dd_dd (dd_gup (F i) G) (dd_up (F i) (F j))) 350000 :=
    ((((((b.mul hG.c (by decide)).sub (c.mul hG.b (by decide)) (by decide)).mul u.a (by decide)).add (((c.mul hG.a (by decide)).sub (a.mul hG.c (by decide)) (by decide)).mul u.b (by decide)) (by decide)).add (((a.mul hG.b (by decide)).sub (b.mul hG.a (by decide)) (by decide)).mul u.c (by decide)) (by decide))).le (by decide)
  unfold two dd_o2
  by_cases h0 : dd_sq3 (dd_up (F i) (F j)) = 0
  · rw [if_pos (sq.eq0.mpr h0), if_pos h0]; exact hs
  · rw [if_neg (fun w => h0 (sq.eq0.mp w)), if_neg h0]
    by_cases h1 : dd_dd G (dd_up (F i) (F j)) = 0
    · rw [if_pos (dt.eq0.mpr h1), if_pos h1]
      have q : (¬ fst2 (cJ f g) 0 j (upr (cJ f g) 0 i j) < 0 ∧ ¬ snd2 (cJ f g) 0 i (upr (cJ f g) 0 i j) < 0) ↔ (¬ dd_dd (dd_upg G (F j)) (dd_up (F i) (F j)) < 0 ∧ ¬ dd_dd (dd_gup (F i) G) (dd_up (F i) (F j)) < 0) := by
        rw [f1.neg', f2.neg']
      by_cases h2 : ¬ dd_dd (dd_upg G (F j)) (dd_up (F i) (F j)) < 0 ∧ ¬ dd_dd (dd_gup (F i) G) (dd_up (F i) (F j)) < 0
      · rw [if_pos (q.mpr h2), if_pos h2]
        exact dd_bear_R hs (((f1.mul d (by decide)).add (f2.mul d' (by decide)) (by decide)).le (by decide)) sq
      · rw [if_neg (fun w => h2 (q.mp w)), if_neg h2]; exact hs
    · rw [if_neg (fun w => h1 (dt.eq0.mp w)), if_neg h1]; exact hs
theorem dd_sgn_R {x : Int64} {z B : Int} (h : dd_R x z B) : dd_R (sgn x) (dd_sg z) 1 := by
  unfold sgn dd_sg
  by_cases hc : 0 < z
  · rw [if_pos (h.pos.mpr hc), if_pos hc]; exact dd_R1
  · rw [if_neg (fun w => hc (h.pos.mp w)), if_neg hc]; exact ⟨rfl, by omega, by omega⟩
theorem dd_dot_R {f : Nat → Nat → Int64} {g : V3} {G : dd_V3} (hG : dd_RG g G) {u : V3} {U : dd_V3} (h : dd_R3 u U 162) : dd_R (dot3 (cJ f g) 0 u) (dd_dd U G) 19440 :=
  (((h.a.mul hG.a (by decide)).add (h.b.mul hG.b (by decide)) (by decide)).add (h.c.mul hG.c (by decide)) (by decide)).le (by decide)
theorem dd_three_R {f : Nat → Nat → Int64} {F : Nat → dd_V} {n : Nat} (hF : dd_RF f F n) {g : V3} {G : dd_V3} (hG : dd_RG g G) {i j k : Nat} (hi : i < n) (hj : j < n) (hk : k < n) {s : LSt} {z : dd_St} (hs : dd_RS s z) : dd_RS (three (cJ f g) 0 i j k s) (dd_o3 F G i j k z) := by
  have u1 := dd_upr_R hF g hi hj
  have u2 := dd_upr_R hF g hj hk
  have u3 := dd_upr_R hF g hk hi
  have al : dd_R (all3 (cJ f g) 0 k (upr (cJ f g) 0 i j)) (dd_d3 (dd_up (F i) (F j)) (F k)) 4374 := (((u1.a.mul (hF.a k hk) (by decide)).add (u1.b.mul (hF.b k hk) (by decide)) (by decide)).add (u1.c.mul (hF.c k hk) (by decide)) (by decide)).le (by decide)
  have sg := dd_sgn_R al
  have d1 := (sg.mul (dd_dot_R (f := f) hG u2) (by decide))
  have d2 := (sg.mul (dd_dot_R (f := f) hG u3) (by decide))
  have d3 := (sg.mul (dd_dot_R (f := f) hG u1) (by decide))
  unfold three dd_o3
  by_cases h0 : dd_d3 (dd_up (F i) (F j)) (F k) = 0
  · rw [if_pos (al.eq0.mpr h0), if_pos h0]; exact hs
  · rw [if_neg (fun w => h0 (al.eq0.mp w)), if_neg h0]
    have q := and_congr (not_congr d1.neg') (and_congr (not_congr d2.neg') (not_congr d3.neg'))
    by_cases h2 : ¬ dd_sg (dd_d3 (dd_up (F i) (F j)) (F k)) * dd_dd (dd_up (F j) (F k)) G < 0 ∧ ¬ dd_sg (dd_d3 (dd_up (F i) (F j)) (F k)) * dd_dd (dd_up (F k) (F i)) G < 0 ∧ ¬ dd_sg (dd_d3 (dd_up (F i) (F j)) (F k)) * dd_dd (dd_up (F i) (F j)) G < 0
    · rw [if_pos (q.mpr h2), if_pos h2]
      exact dd_bear_R hs ((((d1.mul (hF.d i hi) (by decide)).add (d2.mul (hF.d j hj) (by decide)) (by decide)).add (d3.mul (hF.d k hk) (by decide)) (by decide)).le (by decide)) ((sg.mul al (by decide)).le (by decide))
    · rw [if_neg (fun w => h2 (q.mp w)), if_neg h2]; exact hs
theorem dd_lsC_R {f : Nat → Nat → Int64} {F : Nat → dd_V} {n : Nat} (hF : dd_RF f F n) {g : V3} {G : dd_V3} (hG : dd_RG g G) {i j : Nat} (hi : i < n) (hj : j < n) (k : Nat) (hk : k ≤ n) {s : LSt} {z : dd_St} (hs : dd_RS s z) : dd_RS (lsC (cJ f g) 0 i j k s) (dd_lC F G i j k z) := by
  induction k with
  | zero => exact hs
  | succ k ih => exact dd_three_R hF hG hi hj (by omega) (ih (by omega))
theorem dd_lsB_R {f : Nat → Nat → Int64} {F : Nat → dd_V} {n : Nat} (hF : dd_RF f F n) {g : V3} {G : dd_V3} (hG : dd_RG g G) {i : Nat} (hi : i < n) (j : Nat) (hj : j ≤ n) {s : LSt} {z : dd_St} (hs : dd_RS s z) : dd_RS (lsB (cJ f g) 0 i j s) (dd_lB F G i j z) := by
  induction j with
  | zero => exact hs
  | succ j ih => exact dd_lsC_R hF hG hi (by omega) j (by omega) (dd_two_R hF hG hi (by omega) (ih (by omega)))
theorem dd_lsA_R {f : Nat → Nat → Int64} {F : Nat → dd_V} {n : Nat} (hF : dd_RF f F n) {g : V3} {G : dd_V3} (hG : dd_RG g G) (i : Nat) (hi : i ≤ n) {s : LSt} {z : dd_St} (hs : dd_RS s z) : dd_RS (lsA (cJ f g) 0 i s) (dd_lA F G i z) := by
  induction i with
  | zero => exact hs
  | succ i ih => exact dd_lsB_R hF hG (by omega) i (by omega) (dd_one_R hF hG (by omega) (ih (by omega)))
def dd_s0 : dd_St := (false, 0, 0)
theorem dd_LQ_R {f : Nat → Nat → Int64} {F : Nat → dd_V} {n : Nat} (hF : dd_RF f F n) {g : V3} {G : dd_V3} (hG : dd_RG g G) : dd_RS (LQ f g n) (dd_lst F G n dd_s0) := by
  unfold LQ lst dd_lst
  obtain ⟨e1, e2, e3, _⟩ := dd_cJ f g 0
  rw [e1, e2, e3]
  by_cases h : G.1 = 0 ∧ G.2.1 = 0 ∧ G.2.2 = 0
  · rw [if_pos ⟨hG.a.eq0.mpr h.1, hG.b.eq0.mpr h.2.1, hG.c.eq0.mpr h.2.2⟩, if_pos h]
    exact ⟨rfl, fun _ => ⟨dd_R0.le (by decide), dd_R1.le (by decide)⟩⟩
  · rw [if_neg (fun w => h ⟨hG.a.eq0.mp w.1, hG.b.eq0.mp w.2.1, hG.c.eq0.mp w.2.2⟩), if_neg h]
    exact dd_lsA_R hF hG n (Nat.le_refl n) ⟨rfl, fun h => by cases h⟩

-- the reference's answers, of the points
theorem dd_R3G {g : V3} {G : dd_V3} {B : Int} (h : dd_R3 g G B) (hB : B ≤ 40) : dd_RG g G := ⟨h.a.le hB, h.b.le hB, h.c.le hB⟩
theorem dd_leastT_iff {f : Nat → Nat → Int64} {F : Nat → dd_V} {n : Nat} (hF : dd_RF f F n) (hw : ∀ i, i < n → dd_sq3 (dd_w3 (F i)) ≠ 0) {g : V3} {G : dd_V3} (hG : dd_RG g G) (hp : ∃ p, dd_pf F n p) {d : Int64} {D : Int} (hd : dd_R d D 5000) :
    leastT f g n d = true ↔ ∀ x, dd_pf F n x → D * x.2.2.2 ≤ dd_d3 G x := by
  rw [← dd_least_iff hw (s := dd_s0) rfl hp D]
  obtain ⟨h1, h2⟩ := dd_LQ_R hF hG
  unfold leastT
  rw [Bool.and_eq_true, decide_eq_true_eq, h1]
  constructor
  · rintro ⟨a, b⟩
    obtain ⟨k1, k2⟩ := h2 a
    exact ⟨a, ((hd.mul k2 (by decide)).lei k1).mp b⟩
  · rintro ⟨a, b⟩
    obtain ⟨k1, k2⟩ := h2 a
    exact ⟨a, ((hd.mul k2 (by decide)).lei k1).mpr b⟩
theorem dd_bnd_iff {f : Nat → Nat → Int64} {F : Nat → dd_V} {n : Nat} (hF : dd_RF f F n) (hw : ∀ i, i < n → dd_sq3 (dd_w3 (F i)) ≠ 0) {g : V3} {G : dd_V3} (hG : dd_RG g G) (hp : ∃ p, dd_pf F n p) :
    (LQ f g n).1 = true ↔ ∃ M : Int, ∀ x, dd_pf F n x → -M * x.2.2.2 ≤ dd_d3 G x := by
  rw [← dd_borne_iff hw (s := dd_s0) rfl hp, (dd_LQ_R hF hG).1]
theorem dd_nothT_iff {f : Nat → Nat → Int64} {F : Nat → dd_V} {n k : Nat} (hF : dd_RF f F n) (hk : k < n) : nothT f k = true ↔ dd_nT F dd_s0 k := by
  have hF' : dd_RF f F k := ⟨fun i hi => hF.a i (by omega), fun i hi => hF.b i (by omega), fun i hi => hF.c i (by omega), fun i hi => hF.d i (by omega)⟩
  have hG : dd_RG (-(f 0 k), -(f 1 k), -(f 2 k)) (-(F k).1, -(F k).2.1, -(F k).2.2.1) := ⟨((hF.a k hk).neg (by decide)).le (by decide), ((hF.b k hk).neg (by decide)).le (by decide), ((hF.c k hk).neg (by decide)).le (by decide)⟩
  obtain ⟨h1, h2⟩ := dd_LQ_R hF' hG
  have hd := (hF.d k hk).neg (by decide)
  unfold nothT dd_nT
  rw [Bool.and_eq_true, decide_eq_true_eq, h1]
  constructor
  · rintro ⟨a, b⟩
    obtain ⟨k1, k2⟩ := h2 a
    exact ⟨a, ((hd.mul k2 (by decide)).lt k1).mp b⟩
  · rintro ⟨a, b⟩
    obtain ⟨k1, k2⟩ := h2 a
    exact ⟨a, ((hd.mul k2 (by decide)).lt k1).mpr b⟩
theorem dd_nothB_ex {f : Nat → Nat → Int64} (n : Nat) : nothB f n = true ↔ ∃ k, k < n ∧ nothT f k = true := by
  induction n with
  | zero =>
    constructor
    · intro h; cases h
    · rintro ⟨k, hk, _⟩; omega
  | succ n ih =>
    simp only [nothB, Bool.or_eq_true, ih]
    constructor
    · rintro (⟨k, hk, h⟩ | h)
      · exact ⟨k, by omega, h⟩
      · exact ⟨n, by omega, h⟩
    · rintro ⟨k, hk, h⟩
      by_cases e : k = n
      · subst e; exact Or.inr h
      · exact Or.inl ⟨k, by omega, h⟩
theorem dd_nothB_iff {f : Nat → Nat → Int64} {F : Nat → dd_V} {n : Nat} (hF : dd_RF f F n) (hw : ∀ i, i < n → dd_sq3 (dd_w3 (F i)) ≠ 0) : nothB f n = true ↔ ¬ ∃ p, dd_pf F n p := by
  rw [dd_nothB_ex, ← dd_noth_iff (s := dd_s0) rfl n hw]
  constructor
  · rintro ⟨k, hk, h⟩; exact ⟨k, hk, (dd_nothT_iff hF hk).mp h⟩
  · rintro ⟨k, hk, h⟩; exact ⟨k, hk, (dd_nothT_iff hF hk).mpr h⟩
theorem dd_fallsV {f : Nat → Nat → Int64} {F : Nat → dd_V} {n : Nat} (hF : dd_RF f F n) (hw : ∀ i, i < n → dd_sq3 (dd_w3 (F i)) ≠ 0) {g : V3} {G : dd_V3} (hG : dd_RG g G) (hp : ∃ p, dd_pf F n p) {d : Int64} {D : Int} (hd : dd_R d D 4000) :
    (fallsV f g n d ≠ 0 ↔ ∀ x, dd_pf F n x → D * x.2.2.2 ≤ dd_d3 G x) ∧ (fallsV f g n d = 6 ↔ ∀ x, dd_pf F n x → (D + 1) * x.2.2.2 ≤ dd_d3 G x) ∧ (fallsV f g n d = 0 ∨ fallsV f g n d = 2 ∨ fallsV f g n d = 6) := by
  have l0 := dd_leastT_iff hF hw hG hp (hd.le (by decide))
  have l1 := dd_leastT_iff hF hw hG hp ((hd.add dd_R1 (by decide)).le (by decide))
  obtain ⟨h1, h2⟩ := dd_LQ_R hF hG
  have hin := dd_lst_in (f := F) (g := G) hw (s := dd_s0) rfl
  rw [← l0, ← l1]
  unfold leastT
  rw [Bool.and_eq_true, decide_eq_true_eq, Bool.and_eq_true, decide_eq_true_eq]
  cases hz : (LQ f g n).1 with
  | false =>
    have e : fallsV f g n d = 0 := if_pos (Or.inl hz)
    rw [e]
    exact ⟨⟨fun h => absurd rfl h, fun h => by cases h.1⟩, ⟨fun h => absurd h (by decide), fun h => by cases h.1⟩, Or.inl rfl⟩
  | true =>
    have hz' : (dd_lst F G n dd_s0).1 = true := h1 ▸ hz
    obtain ⟨k1, k2⟩ := h2 hz'
    obtain ⟨hD, _⟩ := hin hz'
    have a1 := (k1.lt (hd.mul k2 (by decide)))
    have a2 := ((hd.mul k2 (by decide)).lei k1)
    have a3 := (((hd.add dd_R1 (by decide)).mul k2 (by decide)).lei k1)
    by_cases c1 : (dd_lst F G n dd_s0).2.1 < D * (dd_lst F G n dd_s0).2.2
    · have e : fallsV f g n d = 0 := if_pos (Or.inr (a1.mpr c1))
      rw [e]
      exact ⟨⟨fun h => absurd rfl h, fun h => by have := a2.mp h.2; omega⟩, ⟨fun h => absurd h (by decide), fun h => by have := a3.mp h.2; rw [Int.add_mul] at this; omega⟩, Or.inl rfl⟩
    · have c0 : ¬ ((LQ f g n).1 = false ∨ (LQ f g n).2.1 < d * (LQ f g n).2.2) := fun q => by
        rcases q with q | q
        · rw [hz] at q; cases q
        · exact c1 (a1.mp q)
      have b2 := a2.mpr (by omega)
      by_cases c2 : (D + 1) * (dd_lst F G n dd_s0).2.2 ≤ (dd_lst F G n dd_s0).2.1
      · have e : fallsV f g n d = 6 := by unfold fallsV; rw [if_neg c0, if_pos (a3.mpr c2)]
        rw [e]
        exact ⟨⟨fun _ => ⟨rfl, b2⟩, fun _ => by decide⟩, ⟨fun _ => ⟨rfl, a3.mpr c2⟩, fun _ => rfl⟩, Or.inr (Or.inr rfl)⟩
      · have e : fallsV f g n d = 2 := by unfold fallsV; rw [if_neg c0, if_neg (fun q => c2 (a3.mp q))]
        rw [e]
        exact ⟨⟨fun _ => ⟨rfl, b2⟩, fun _ => by decide⟩, ⟨fun h => absurd h (by decide), fun h => absurd (a3.mp h.2) c2⟩, Or.inr (Or.inl rfl)⟩

-- names that there are not make no difference
def dd_pj (n : Nat) (x : dd_V) : dd_V := (if 1 ≤ n then x.1 else 0, if 2 ≤ n then x.2.1 else 0, if 3 ≤ n then x.2.2.1 else 0, x.2.2.2)
def dd_pz (n : Nat) (w : dd_V) : Prop := (n < 1 → w.1 = 0) ∧ (n < 2 → w.2.1 = 0) ∧ (n < 3 → w.2.2.1 = 0)
theorem dd_pj_ev {n : Nat} {w : dd_V} (h : dd_pz n w) (x : dd_V) : dd_ev w (dd_pj n x) = dd_ev w x := by
  obtain ⟨h1, h2, h3⟩ := h
  simp only [dd_ev, dd_pj]
  have a : w.1 * (if 1 ≤ n then x.1 else 0) = w.1 * x.1 := by
    split
    · rfl
    · rw [h1 (by omega)]; omega
  have b : w.2.1 * (if 2 ≤ n then x.2.1 else 0) = w.2.1 * x.2.1 := by
    split
    · rfl
    · rw [h2 (by omega)]; omega
  have c : w.2.2.1 * (if 3 ≤ n then x.2.2.1 else 0) = w.2.2.1 * x.2.2.1 := by
    split
    · rfl
    · rw [h3 (by omega)]; omega
  omega
theorem dd_pj_ab (n : Nat) (x : dd_V) : ∀ u ∈ dd_ab n, dd_ev u (dd_pj n x) = 0 := by
  intro u hu
  match n, hu with
  | 0, hu =>
    simp only [dd_ab, List.mem_cons, List.not_mem_nil, or_false] at hu
    rcases hu with rfl | rfl | rfl <;> simp [dd_ev, dd_pj, dd_e1, dd_e2, dd_e3]
  | 1, hu =>
    simp only [dd_ab, List.mem_cons, List.not_mem_nil, or_false] at hu
    rcases hu with rfl | rfl <;> simp [dd_ev, dd_pj, dd_e2, dd_e3]
  | 2, hu =>
    simp only [dd_ab, List.mem_cons, List.not_mem_nil, or_false] at hu
    subst hu; simp [dd_ev, dd_pj, dd_e3]
  | _ + 3, hu => simp [dd_ab] at hu
def dd_rw (F : Nat → dd_V) (m : Nat) : List dd_V := dd_e4 :: (List.range m).map F
theorem dd_rw_succ (F : Nat → dd_V) (m : Nat) : dd_rw F (m + 1) = dd_rw F m ++ [F m] := by
  simp only [dd_rw, List.range_succ, List.map_append, List.map_cons, List.map_nil, List.cons_append]
theorem dd_pt_pf {F : Nat → dd_V} {m n : Nat} (hz : ∀ i, i < m → dd_pz n (F i)) (x : dd_V) : dd_pf F m x ↔ dd_pt (dd_ab n) (dd_rw F m) (dd_pj n x) := by
  have e4 : dd_ev dd_e4 (dd_pj n x) = x.2.2.2 := by rw [(dd_e_ev _).2.2.2]; rfl
  constructor
  · rintro ⟨h1, h2⟩
    refine ⟨dd_pj_ab n x, fun w hw => ?_, by rw [e4]; exact h2⟩
    rcases List.mem_cons.mp hw with rfl | hw
    · rw [e4]; omega
    · obtain ⟨i, hi, rfl⟩ := List.mem_map.mp hw
      have hi := List.mem_range.mp hi
      rw [dd_pj_ev (hz i hi)]; exact h1 i hi
  · rintro ⟨_, h1, h2⟩
    refine ⟨fun i hi => ?_, by rwa [e4] at h2⟩
    have := h1 (F i) (List.mem_cons_of_mem _ (List.mem_map.mpr ⟨i, List.mem_range.mpr hi, rfl⟩))
    rwa [dd_pj_ev (hz i hi)] at this
theorem dd_pt_pf' {F : Nat → dd_V} {m n : Nat} {x : dd_V} (h : dd_pt (dd_ab n) (dd_rw F m) x) : dd_pf F m x := by
  refine ⟨fun i hi => h.2.1 _ (List.mem_cons_of_mem _ (List.mem_map.mpr ⟨i, List.mem_range.mpr hi, rfl⟩)), ?_⟩
  have := h.2.2
  rwa [(dd_e_ev x).2.2.2] at this
theorem dd_all_pf {F : Nat → dd_V} {m n : Nat} (hz : ∀ i, i < m → dd_pz n (F i)) {g : dd_V} (hg : dd_pz n g) : (∀ x, dd_pt (dd_ab n) (dd_rw F m) x → 0 ≤ dd_ev g x) ↔ ∀ x, dd_pf F m x → 0 ≤ dd_ev g x := by
  constructor
  · intro h x hx
    have := h _ ((dd_pt_pf hz x).mp hx)
    rwa [dd_pj_ev hg] at this
  · exact fun h x hx => h x (dd_pt_pf' hx)
theorem dd_ex_pf {F : Nat → dd_V} {m n : Nat} (hz : ∀ i, i < m → dd_pz n (F i)) : (∃ x, dd_pt (dd_ab n) (dd_rw F m) x) ↔ ∃ x, dd_pf F m x := by
  constructor
  · rintro ⟨x, hx⟩; exact ⟨x, dd_pt_pf' hx⟩
  · rintro ⟨x, hx⟩; exact ⟨_, (dd_pt_pf hz x).mp hx⟩
theorem dd_d3_ev (g : dd_V3) (D : Int) (x : dd_V) : D * x.2.2.2 ≤ dd_d3 g x ↔ 0 ≤ dd_ev (g.1, g.2.1, g.2.2, -D) x := by
  have e : dd_ev (g.1, g.2.1, g.2.2, -D) x = dd_d3 g x - D * x.2.2.2 := by simp only [dd_ev, dd_d3]; grind
  rw [e]; omega
