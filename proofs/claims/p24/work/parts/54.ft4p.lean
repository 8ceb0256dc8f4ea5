def wgt (I : gm_I) (w i : Nat) (a b c : Int32) : Int32 := a * I (w + 3) i + b * I (w + 3) (3 + i) + c * I (w + 3) (6 + i)
def cst (I : gm_I) (w : Nat) (a b c : Int32) : Int32 := a * I (w + 4) 0 + b * I (w + 4) 1 + c * I (w + 4) 2
def set3 (J : gm_J) (t : Nat) (v : V3) : gm_J := gm_up (gm_up (gm_up J t 0 v.1) t 1 v.2.1) t 2 v.2.2
def get3 (J : gm_J) (t : Nat) : V3 := (J t 0, J t 1, J t 2)
def bhd (I : gm_I) (w k : Nat) (x y z : Int64) : Int64 := (I (w + 3) (3 * k)).toInt64 * x + (I (w + 3) (3 * k + 1)).toInt64 * y + (I (w + 3) (3 * k + 2)).toInt64 * z + (I (w + 4) k).toInt64
def bh3 (I : gm_I) (w : Nat) (v : V3) : V3 := (bhd I w 0 v.1 v.2.1 v.2.2, bhd I w 1 v.1 v.2.1 v.2.2, bhd I w 2 v.1 v.2.1 v.2.2)
theorem nearB_t {v : Int64} (h1 : ¬ 1000000000000 < v) (h2 : -1000000000000 ≤ v) : nearB v = true := decide_eq_true ⟨Int64.not_lt.mpr h2, h1⟩
theorem nearB_f1 {v : Int64} (h1 : 1000000000000 < v) : nearB v = false := decide_eq_false (fun h => h.2 h1)
theorem nearB_f2 {v : Int64} (h1 : v < -1000000000000) : nearB v = false := decide_eq_false (fun h => h.1 h1)
theorem get3_set3 (J : gm_J) (t : Nat) (v : V3) : get3 (set3 J t v) t = v := by simp [get3, set3, gm_up]
theorem set3_off (J : gm_J) {t q : Nat} (v : V3) (h : q ≠ t) : set3 J t v q = J q := by
  funext j; simp [set3, gm_up, h]
theorem set3_id (J : gm_J) (t : Nat) : set3 J t (get3 J t) = J := by simp only [set3, get3, gm_up_id]
theorem set3_set3 (J : gm_J) (t : Nat) (v w : V3) : set3 (set3 J t v) t w = set3 J t w := by
  funext q j
  simp only [set3, gm_up]
  repeat' split
  all_goals simp_all
/-- memory is as it was but for one array -/
def butJ (g : Nat) (J J' : gm_J) : Prop := ∀ p, p ≠ g → J' p = J p
theorem butJ.nil {g : Nat} {J : gm_J} : butJ g J J := fun _ _ => rfl
theorem butJ.tr {g : Nat} {J J1 J2 : gm_J} (h : butJ g J J1) (h2 : butJ g J1 J2) : butJ g J J2 := fun p hp => (h2 p hp).trans (h p hp)
theorem butJ.up {g k : Nat} {J J1 : gm_J} {v : Int64} (h : butJ g J J1) : butJ g J (gm_up J1 g k v) := fun p hp => (gm_up_off _ _ _ hp).trans (h p hp)
/-- a change of the state t by way of n: the next numbers, if none is too great -/
def chP (I : gm_I) (J : gm_J) (w t n : Nat) (x : Int32) (u : gm_M) : Prop := ∃ J1, butJ n J J1 ∧ ((x = 1 ∧ goB (bh3 I w (get3 J t)) = true ∧ u = (I, set3 J1 t (bh3 I w (get3 J t)))) ∨ (x = 0 ∧ goB (bh3 I w (get3 J t)) = false ∧ u = (I, J1)))
