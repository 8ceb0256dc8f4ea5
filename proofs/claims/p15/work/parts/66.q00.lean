-- SPACES IN MEMORY: four longs as a vector of whole numbers; what reduce and shift make of it
theorem sq_bm {z : Int} (h : z.natAbs < 9223372036854775808) : z.bmod (2 ^ 64) = z := dd_bm (by omega) (by omega)
theorem sq_div {x y : Int64} (h : x.toInt.natAbs < 2 ^ 50) : (x / y).toInt = x.toInt.tdiv y.toInt := by
  rw [Int64.toInt_div]
  refine sq_bm ?_
  rw [Int.natAbs_tdiv]
  exact Nat.lt_of_le_of_lt (Nat.div_le_self x.toInt.natAbs y.toInt.natAbs) (by omega)
theorem sq_rem {x y : Int64} (h : x.toInt.natAbs < 2 ^ 50) : (x - x / y * y).toInt = x.toInt.tmod y.toInt := by
  have h1 := sq_div (y := y) h
  have h2 : (x / y * y).toInt = x.toInt.tdiv y.toInt * y.toInt := by
    rw [Int64.toInt_mul, h1]
    refine sq_bm ?_
    rw [Int.natAbs_mul, Int.natAbs_tdiv]
    exact Nat.lt_of_le_of_lt (Nat.div_mul_le_self x.toInt.natAbs y.toInt.natAbs) (by omega)
  rw [Int64.toInt_sub, h2]
  have e : x.toInt - x.toInt.tdiv y.toInt * y.toInt = x.toInt.tmod y.toInt := by rw [Int.tmod_def, Int.mul_comm]
  rw [e]
  refine sq_bm ?_
  rw [Int.natAbs_tmod]
  exact Nat.lt_of_le_of_lt (Nat.mod_le x.toInt.natAbs y.toInt.natAbs) (by omega)
def sp_vec (J : gm_J) (a f : Nat) : dd_V := ((J a f).toInt, (J a (f + 1)).toInt, (J a (f + 2)).toInt, (J a (f + 3)).toInt)
def sp_lt (v : dd_V) : Prop := v.1.natAbs < 2 ^ 50 ∧ v.2.1.natAbs < 2 ^ 50 ∧ v.2.2.1.natAbs < 2 ^ 50 ∧ v.2.2.2.natAbs < 2 ^ 50
def sp_c (v : dd_V) : Nat → Int
  | 0 => v.1
  | 1 => v.2.1
  | 2 => v.2.2.1
  | _ => v.2.2.2
def sp_ek (v : dd_V) : Nat → Int
  | 0 => 0
  | k + 1 => dd_eu 100 (sp_ek v k) (sp_c v k)
theorem sp_ek_4 (v : dd_V) : sp_ek v 4 = dd_red4 v := rfl
theorem sp_vec_c (J : gm_J) (a f : Nat) {k : Nat} (hk : k < 4) : sp_c (sp_vec J a f) k = (J a (f + k)).toInt := by
  match k, hk with
  | 0, _ => rfl
  | 1, _ => rfl
  | 2, _ => rfl
  | 3, _ => rfl
theorem sp_lt_c {v : dd_V} (h : sp_lt v) {k : Nat} (hk : k < 4) : (sp_c v k).natAbs < 2 ^ 50 := by
  match k, hk with
  | 0, _ => exact h.1
  | 1, _ => exact h.2.1
  | 2, _ => exact h.2.2.1
  | 3, _ => exact h.2.2.2
theorem sp_gcd_lt {a b n : Nat} (ha : a < n) (hb : b < n) : Nat.gcd a b < n := by
  by_cases h : a = 0
  · subst h; rw [Nat.gcd_zero_left]; exact hb
  · exact Nat.lt_of_le_of_lt (Nat.gcd_le_left b (by omega)) ha
theorem sp_ek_lt {v : dd_V} (h : sp_lt v) (k : Nat) (hk : k ≤ 4) : (sp_ek v k).natAbs < 2 ^ 50 := by
  induction k with
  | zero => show (0 : Int).natAbs < 2 ^ 50; decide
  | succ k ih =>
    show (dd_eu 100 (sp_ek v k) (sp_c v k)).natAbs < 2 ^ 50
    rw [dd_eu_100 (sp_lt_c h (by omega))]
    exact sp_gcd_lt (ih (by omega)) (sp_lt_c h (by omega))
theorem sp_in_start {J : gm_J} {g f k : Nat} {c : Int64} (hk : k < 4) (hc : c.toInt = sp_ek (sp_vec J g f) k) : dd_eu (100 - 0) c.toInt (J g (f + k)).toInt = sp_ek (sp_vec J g f) (k + 1) := by
  rw [hc, ← sp_vec_c J g f hk]; rfl
theorem sp_in_step {d o : Int64} {i : Nat} {x : Int} (h : dd_eu (100 - i) d.toInt o.toInt = x) (hi : i < 100) (ho : ¬ o = 0) (hd : d.toInt.natAbs < 2 ^ 50) : dd_eu (100 - (i + 1)) o.toInt (d - d / o * o).toInt = x := by
  have ho' : ¬ o.toInt = 0 := fun q => ho (Int64.toInt_inj.mp (q.trans rfl))
  rw [sq_rem hd]
  rw [show 100 - i = (100 - (i + 1)) + 1 by omega, dd_eu, if_neg ho'] at h
  exact h
theorem sp_in_lt {d o : Int64} (hd : d.toInt.natAbs < 2 ^ 50) : (d - d / o * o).toInt.natAbs < 2 ^ 50 := by
  rw [sq_rem hd, Int.natAbs_tmod]
  exact Nat.lt_of_le_of_lt (Nat.mod_le _ _) hd
theorem sp_in_out {d o : Int64} {i : Nat} {x : Int} (h : dd_eu (100 - i) d.toInt o.toInt = x) (hx : 100 ≤ i ∨ o = 0) : d.toInt = x := by
  rcases hx with hx | hx
  · rw [show 100 - i = 0 by omega] at h; exact h
  · subst hx
    cases hn : 100 - i with
    | zero => rw [hn] at h; exact h
    | succ m => rw [hn, dd_eu, if_pos (show (0 : Int64).toInt = 0 from rfl)] at h; exact h
theorem sp_dv_g {v : dd_V} (h : sp_lt v) {c : Int64} (hc : c.toInt = sp_ek v 4) : (c < 0 → (-c).toInt = (dd_g v : Int)) ∧ (0 ≤ c → c.toInt = (dd_g v : Int)) := by
  have h1 := dd_red4_g h.1 h.2.1 h.2.2.1 h.2.2.2
  have h2 := sp_ek_lt h 4 (by omega)
  rw [← sp_ek_4, ← hc] at h1
  rw [← hc] at h2
  constructor
  · intro q
    rw [Int64.lt_iff_toInt_lt] at q
    have q2 : c.toInt < 0 := q
    rw [Int64.toInt_neg, sq_bm (by omega)]
    omega
  · intro q
    rw [Int64.le_iff_toInt_le] at q
    have q2 : 0 ≤ c.toInt := q
    omega
def sp_dv (J : gm_J) (g f : Nat) (dv : Int64) (k : Nat) : gm_J := fun p j => if p = g ∧ f ≤ j ∧ j < f + k then J p j / dv else J p j
theorem sp_dv_0 (J : gm_J) (g f : Nat) (dv : Int64) : J = sp_dv J g f dv 0 := by
  funext p j; unfold sp_dv; rw [if_neg (by omega)]
theorem sp_dv_up {J J' : gm_J} {g f k : Nat} {dv : Int64} (h : J' = sp_dv J g f dv k) : gm_up J' g (f + k) (J' g (f + k) / dv) = sp_dv J g f dv (k + 1) := by
  subst h
  funext p j
  simp only [gm_up, sp_dv]
  by_cases hp : p = g
  · subst hp
    by_cases hj : j = f + k
    · subst hj
      rw [if_pos ⟨rfl, rfl⟩, if_neg (by omega), if_pos (by omega)]
    · rw [if_neg (by omega)]
      by_cases hk : f ≤ j ∧ j < f + k
      · rw [if_pos ⟨rfl, hk⟩, if_pos ⟨rfl, by omega⟩]
      · rw [if_neg (by omega), if_neg (by omega)]
  · rw [if_neg (by omega), if_neg (by omega), if_neg (by omega)]
/-- an array's four numbers are divided by what divides them all -/
def redP (I : gm_I) (J : gm_J) (g f : Nat) (u : gm_M) : Prop := u.1 = I ∧ (∀ p, p ≠ g → u.2 p = J p) ∧ (∀ k, k < f ∨ f + 3 < k → u.2 g k = J g k) ∧ sp_vec u.2 g f = dd_red (sp_vec J g f)
theorem sp_dv_1 {x dv : Int64} {G : Nat} (hdv : dv.toInt = (G : Int)) (hx : x.toInt.natAbs < 2 ^ 50) (hd : (G : Int) ∣ x.toInt) : (x / dv).toInt = x.toInt / (G : Int) := by
  rw [sq_div hx, hdv, Int.tdiv_eq_ediv_of_dvd hd]
theorem sp_dv_2 {x : Int} {G : Nat} (hG : G ≤ 1) (hd : (G : Int) ∣ x) : x = x / (G : Int) := by
  have h : G = 0 ∨ G = 1 := by omega
  rcases h with rfl | rfl
  · obtain ⟨z, hz⟩ := hd
    rw [hz]; simp
  · simp
theorem sp_red_post {I : gm_I} {J J' : gm_J} {g f k : Nat} {dv : Int64} (hb : sp_lt (sp_vec J g f)) (hdv : dv.toInt = (dd_g (sp_vec J g f) : Int)) (hJ : J' = sp_dv J g f dv k) (hk : k ≤ 4) (hx : 4 ≤ k ∨ ¬ 1 < dv) : redP I J g f (I, J') := by
  subst hJ
  refine ⟨rfl, fun p hp => ?_, fun j hj => ?_, ?_⟩
  · funext j; show sp_dv J g f dv k p j = J p j; unfold sp_dv; rw [if_neg (by omega)]
  · show sp_dv J g f dv k g j = J g j; unfold sp_dv; rw [if_neg (by omega)]
  · have key : ∀ j, j < 4 → (J g (f + j)).toInt.natAbs < 2 ^ 50 → (dd_g (sp_vec J g f) : Int) ∣ (J g (f + j)).toInt → (sp_dv J g f dv k g (f + j)).toInt = (J g (f + j)).toInt / (dd_g (sp_vec J g f) : Int) := by
      intro j hj h1 h2
      unfold sp_dv
      by_cases c : j < k
      · rw [if_pos (by omega)]; exact sp_dv_1 hdv h1 h2
      · rw [if_neg (by omega)]
        refine sp_dv_2 ?_ h2
        rcases hx with hx | hx
        · omega
        · have q : ¬ (1 : Int64).toInt < dv.toInt := fun q => hx (Int64.lt_iff_toInt_lt.mpr q)
          rw [hdv] at q
          have q1 : (1 : Int64).toInt = 1 := rfl
          omega
    obtain ⟨d1, d2, d3, d4⟩ := dd_g_dvd (sp_vec J g f)
    have k0 := key 0 (by omega) hb.1 d1
    have k1 := key 1 (by omega) hb.2.1 d2
    have k2 := key 2 (by omega) hb.2.2.1 d3
    have k3 := key 3 (by omega) hb.2.2.2 d4
    show ((sp_dv J g f dv k g f).toInt, (sp_dv J g f dv k g (f + 1)).toInt, (sp_dv J g f dv k g (f + 2)).toInt, (sp_dv J g f dv k g (f + 3)).toInt) = dd_red (sp_vec J g f)
    rw [k1, k2, k3, show (sp_dv J g f dv k g f).toInt = (J g f).toInt / (dd_g (sp_vec J g f) : Int) from k0]
    rfl
/-- four numbers of an array set anew -/
def sp_up4 (J : gm_J) (g f : Nat) (x0 x1 x2 x3 : Int64) : gm_J := gm_up (gm_up (gm_up (gm_up J g (f + 0) x0) g (f + 1) x1) g (f + 2) x2) g (f + 3) x3
theorem sp_up4_vec (J : gm_J) (g f : Nat) (x0 x1 x2 x3 : Int64) : sp_vec (sp_up4 J g f x0 x1 x2 x3) g f = (x0.toInt, x1.toInt, x2.toInt, x3.toInt) := by
  have e0 : sp_up4 J g f x0 x1 x2 x3 g f = x0 := by
    unfold sp_up4; rw [gm_up_ne _ _ (by omega), gm_up_ne _ _ (by omega), gm_up_ne _ _ (by omega)]; exact gm_up_same _ _ _ _
  have e1 : sp_up4 J g f x0 x1 x2 x3 g (f + 1) = x1 := by
    unfold sp_up4; rw [gm_up_ne _ _ (by omega), gm_up_ne _ _ (by omega)]; exact gm_up_same _ _ _ _
  have e2 : sp_up4 J g f x0 x1 x2 x3 g (f + 2) = x2 := by
    unfold sp_up4; rw [gm_up_ne _ _ (by omega)]; exact gm_up_same _ _ _ _
  have e3 : sp_up4 J g f x0 x1 x2 x3 g (f + 3) = x3 := gm_up_same _ _ _ _
  unfold sp_vec; rw [e0, e1, e2, e3]
theorem sp_up4_in {J : gm_J} {g f k : Nat} {x0 x1 x2 x3 : Int64} (h : k < f ∨ f + 3 < k) : sp_up4 J g f x0 x1 x2 x3 g k = J g k := by
  unfold sp_up4; rw [gm_up_ne _ _ (by omega), gm_up_ne _ _ (by omega), gm_up_ne _ _ (by omega), gm_up_ne _ _ (by omega)]
theorem sp_up4_off {J : gm_J} {g f p : Nat} {x0 x1 x2 x3 : Int64} (h : p ≠ g) : sp_up4 J g f x0 x1 x2 x3 p = J p := by
  unfold sp_up4; rw [gm_up_off _ _ _ h, gm_up_off _ _ _ h, gm_up_off _ _ _ h, gm_up_off _ _ _ h]
theorem sp_vec_off {J J' : gm_J} {a : Nat} (h : J' a = J a) (f : Nat) : sp_vec J' a f = sp_vec J a f := by
  unfold sp_vec; rw [h]
theorem sp_vec_in {J J' : gm_J} {a f : Nat} (h : ∀ k, f ≤ k → k ≤ f + 3 → J' a k = J a k) : sp_vec J' a f = sp_vec J a f := by
  unfold sp_vec; rw [h f (by omega) (by omega), h (f + 1) (by omega) (by omega), h (f + 2) (by omega) (by omega), h (f + 3) (by omega) (by omega)]
def sp_sh (s w : Int) (v p : dd_V) : dd_V := dd_add (dd_mul s v) (dd_mul (-w) p)
theorem sp_sh1 {a b x y : Int64} {s w : Int} (ha : dd_R a s 17496000) (hb : dd_R b w 17496000) (hv : x.toInt.natAbs ≤ 486000) (hp : y.toInt.natAbs ≤ 486000) : (a * x - b * y).toInt = s * x.toInt + -w * y.toInt ∧ (s * x.toInt + -w * y.toInt).natAbs < 2 ^ 50 := by
  have rx : dd_R x x.toInt 486000 := ⟨rfl, by omega, by omega⟩
  have ry : dd_R y y.toInt 486000 := ⟨rfl, by omega, by omega⟩
  have r := (ha.mul rx (by decide)).sub (hb.mul ry (by decide)) (by decide)
  obtain ⟨r1, r2, r3⟩ := r
  rw [Int.neg_mul]
  refine ⟨by rw [r1]; omega, by omega⟩
theorem sp_bd_max {v : dd_V} (h : dd_bd v) : v.1.natAbs ≤ 486000 ∧ v.2.1.natAbs ≤ 486000 ∧ v.2.2.1.natAbs ≤ 486000 ∧ v.2.2.2.natAbs ≤ 486000 := ⟨h.1, h.2.1, h.2.2.1, by have := h.2.2.2; omega⟩
theorem sp_sh_eq {J J2 : gm_J} {g f g2 f2 : Nat} {a b : Int64} {s w : Int} (ha : dd_R a s 17496000) (hb : dd_R b w 17496000) (hv : dd_bd (sp_vec J g f)) (hp : dd_bd (sp_vec J2 g2 f2)) :
    ((a * J g f - b * J2 g2 f2).toInt, (a * J g (f + 1) - b * J2 g2 (f2 + 1)).toInt, (a * J g (f + 2) - b * J2 g2 (f2 + 2)).toInt, (a * J g (f + 3) - b * J2 g2 (f2 + 3)).toInt) = sp_sh s w (sp_vec J g f) (sp_vec J2 g2 f2) ∧ sp_lt (sp_sh s w (sp_vec J g f) (sp_vec J2 g2 f2)) := by
  obtain ⟨v1, v2, v3, v4⟩ := sp_bd_max hv
  obtain ⟨p1, p2, p3, p4⟩ := sp_bd_max hp
  have c1 := sp_sh1 ha hb v1 p1
  have c2 := sp_sh1 ha hb v2 p2
  have c3 := sp_sh1 ha hb v3 p3
  have c4 := sp_sh1 ha hb v4 p4
  exact ⟨Prod.ext c1.1 (Prod.ext c2.1 (Prod.ext c3.1 c4.1)), c1.2, c2.2, c3.2, c4.2⟩
theorem sp_shift_eq {J J4 : gm_J} {q g f : Nat} {a b : Int64} {s w : Int} (e : J4 = sp_up4 J g f (a * J g f - b * J (q + 5) 0) (a * J g (f + 1) - b * J (q + 5) 1) (a * J g (f + 2) - b * J (q + 5) 2) (a * J g (f + 3) - b * J (q + 5) 3)) (ha : dd_R a s 17496000) (hb : dd_R b w 17496000) (hv : dd_bd (sp_vec J g f)) (hp : dd_bd (sp_vec J (q + 5) 0)) :
    sp_vec J4 g f = sp_sh s w (sp_vec J g f) (sp_vec J (q + 5) 0) ∧ sp_lt (sp_vec J4 g f) := by
  have h := sp_sh_eq ha hb hv hp
  have e1 : sp_vec J4 g f = sp_sh s w (sp_vec J g f) (sp_vec J (q + 5) 0) := by rw [e, sp_up4_vec]; exact h.1
  exact ⟨e1, by rw [e1]; exact h.2⟩
/-- four numbers are moved along the pivot, and divided -/
def shP (I : gm_I) (J : gm_J) (q g f : Nat) (s w : Int) (u : gm_M) : Prop := u.1 = I ∧ (∀ p, p ≠ g → u.2 p = J p) ∧ (∀ k, k < f ∨ f + 3 < k → u.2 g k = J g k) ∧ sp_vec u.2 g f = dd_red (sp_sh s w (sp_vec J g f) (sp_vec J (q + 5) 0))
theorem sp_shift_post {I : gm_I} {J J4 : gm_J} {q g f : Nat} {s w : Int} {x0 x1 x2 x3 : Int64} {u : gm_M} (e : J4 = sp_up4 J g f x0 x1 x2 x3) (hv : sp_vec J4 g f = sp_sh s w (sp_vec J g f) (sp_vec J (q + 5) 0)) (hr : redP I J4 g f u) : shP I J q g f s w u := by
  obtain ⟨r1, r2, r3, r4⟩ := hr
  refine ⟨r1, fun p hp => ?_, fun k hk => ?_, ?_⟩
  · rw [r2 p hp, e, sp_up4_off hp]
  · rw [r3 k hk, e, sp_up4_in hk]
  · rw [r4, hv]
/-- the ray between two: laid into the pivot, and behind the others -/
def btP (I : gm_I) (J : gm_J) (q i j n : Nat) (s w : Int) (u : gm_M) : Prop := ∃ J1, (∀ p, p ≠ q + 5 → J1 p = J p) ∧ sp_vec J1 (q + 5) 0 = dd_red (sp_sh s w (sp_vec J (q + 2) (4 * j)) (sp_vec J (q + 2) (4 * i))) ∧ apP q n (I (q + 3) i &&& I (q + 3) j ||| I q 7) I J1 u
theorem sp_btw_eq {J J4 : gm_J} {q i j : Nat} {a b : Int64} {s w : Int} (e : J4 = sp_up4 J (q + 5) 0 (a * J (q + 2) (4 * j) - b * J (q + 2) (4 * i)) (a * J (q + 2) (4 * j + 1) - b * J (q + 2) (4 * i + 1)) (a * J (q + 2) (4 * j + 2) - b * J (q + 2) (4 * i + 2)) (a * J (q + 2) (4 * j + 3) - b * J (q + 2) (4 * i + 3))) (ha : dd_R a s 17496000) (hb : dd_R b w 17496000) (hv : dd_bd (sp_vec J (q + 2) (4 * j))) (hp : dd_bd (sp_vec J (q + 2) (4 * i))) :
    sp_vec J4 (q + 5) 0 = sp_sh s w (sp_vec J (q + 2) (4 * j)) (sp_vec J (q + 2) (4 * i)) ∧ sp_lt (sp_vec J4 (q + 5) 0) := by
  have h := sp_sh_eq ha hb hv hp
  have e1 : sp_vec J4 (q + 5) 0 = sp_sh s w (sp_vec J (q + 2) (4 * j)) (sp_vec J (q + 2) (4 * i)) := by rw [e, sp_up4_vec]; exact h.1
  exact ⟨e1, by rw [e1]; exact h.2⟩
theorem sp_btw_post {I : gm_I} {J J4 J5 : gm_J} {q i j n : Nat} {s w : Int} {x0 x1 x2 x3 : Int64} {u : gm_M} (e : J4 = sp_up4 J (q + 5) 0 x0 x1 x2 x3) (hv : sp_vec J4 (q + 5) 0 = sp_sh s w (sp_vec J (q + 2) (4 * j)) (sp_vec J (q + 2) (4 * i))) (hr : redP I J4 (q + 5) 0 (I, J5)) (ha : apP q n (I (q + 3) i &&& I (q + 3) j ||| I q 7) I J5 u) : btP I J q i j n s w u := by
  obtain ⟨_, r2, _, r4⟩ := hr
  refine ⟨J5, fun p hp => ?_, ?_, ha⟩
  · rw [show J5 p = J4 p from r2 p hp, e, sp_up4_off hp]
  · rw [show sp_vec J5 (q + 5) 0 = dd_red (sp_vec J4 (q + 5) 0) from r4, hv]
-- bits
theorem sp_and (a b : Nat) : nI a &&& nI b = nI (a &&& b) := by
  unfold nI
  apply Int32.toBitVec_inj.mp
  rw [Int32.toBitVec_and]
  exact BitVec.ofNat_and.symm
theorem sp_or (a b : Nat) : nI a ||| nI b = nI (a ||| b) := by
  unfold nI
  apply Int32.toBitVec_inj.mp
  rw [Int32.toBitVec_or]
  exact BitVec.ofNat_or.symm
theorem sp_orp {m k : Nat} (h : m < 2 ^ k) : nI m ||| nI (2 ^ k) = nI (m + 2 ^ k) := by
  rw [sp_or, Nat.or_comm]
  have := Nat.two_pow_add_eq_or_of_lt h 1
  rw [Nat.mul_one] at this
  rw [← this, Nat.add_comm]
