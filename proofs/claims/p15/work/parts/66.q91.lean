-- WHAT ALL ROWS, FACTORS AND CONSTANTS OF THE MADE LOOPS ARE, BETWEEN CALLS
def gqR (I : gm_I) (a nm i : Nat) : Prop := rowB nm (I a (4 * i)) (I a (4 * i + 1)) (I a (4 * i + 2)) (I a (4 * i + 3)) = true
def gqW (I : gm_I) (w nm : Nat) : Prop := (∀ i, i < nN (I (w + 1) 2) → gqR I (w + 1 + 1) nm i) ∧ (∀ a b, a < 3 → b < 3 → inI (I (w + 3) (3 * a + b)) (-(nI 3)) (nI 3) = true ∧ (a < nm → nm ≤ b → I (w + 3) (3 * a + b) = nI 0)) ∧ ∀ a, a < 3 → inI (I (w + 4) a) (-(nI 99)) (nI 99) = true
def gqL (I : gm_I) (o : Nat) : Prop := ∃ nm, I o 0 = nI nm ∧ 1 ≤ nm ∧ nm ≤ 3 ∧ (∀ i, i < nN (I (o + 1) 2) → gqR I (o + 1 + 1) nm i) ∧ ∀ k, k < nN (I o 3) → k < 3 ∧ gqW I (o + 6 + 5 * k) nm
def GQ (I : gm_I) (B : Nat) : Prop := ∀ j, j < nN (I B 1) → j < 8 ∧ gqL I (B + 12 + 21 * j)
-- ROWS AS VECTORS: what is accepted is small, is none at all, and has nothing for names that there are not
def gdV (nm : Nat) (v : dd_V) : Prop := dd_sm v ∧ v ≠ dd_0 ∧ dd_pz nm v ∧ dd_sq3 (dd_w3 v) ≠ 0
theorem inI_int {v : Int32} {m : Nat} (hm : m < 2 ^ 31) (h : inI v (-(nI m)) (nI m) = true) : -(m : Int) ≤ v.toInt ∧ v.toInt ≤ (m : Int) := by
  have h := of_decide_eq_true h
  have h1 := h.1
  have h2 := h.2
  rw [Int32.lt_iff_toInt_lt, sb_negT hm] at h1
  rw [Int32.lt_iff_toInt_lt, nI_toInt hm] at h2
  omega
theorem numB_int {nm m : Nat} {a b c : Int32} (hm : m < 2 ^ 31) (h : numB nm a b c (nI m) = true) : (-(m : Int) ≤ a.toInt ∧ a.toInt ≤ (m : Int)) ∧ (-(m : Int) ≤ b.toInt ∧ b.toInt ≤ (m : Int)) ∧ (-(m : Int) ≤ c.toInt ∧ c.toInt ≤ (m : Int)) ∧ ¬ (a.toInt = 0 ∧ b.toInt = 0 ∧ c.toInt = 0) ∧ (nm < 2 → b = 0) ∧ (nm < 3 → c = 0) := by
  unfold numB at h
  simp only [Bool.and_eq_true, Bool.or_eq_true, Bool.not_eq_true', decide_eq_true_eq] at h
  obtain ⟨⟨⟨⟨⟨h1, h2⟩, h3⟩, h4⟩, h5⟩, h6⟩ := h
  refine ⟨inI_int hm h1, inI_int hm h2, inI_int hm h3, ?_, ?_, ?_⟩
  · rintro ⟨e1, e2, e3⟩
    have k1 : a = 0 := Int32.toInt_inj.mp (e1.trans rfl)
    have k2 : b = 0 := Int32.toInt_inj.mp (e2.trans rfl)
    have k3 : c = 0 := Int32.toInt_inj.mp (e3.trans rfl)
    rw [k1, k2, k3] at h4
    exact absurd h4 (by decide)
  · intro q
    rcases h5 with e | e
    · exact e
    · omega
  · intro q
    rcases h6 with e | e
    · exact e
    · omega
theorem rowB_gd {nm : Nat} {a b c d : Int32} (h1 : 1 ≤ nm) (h : rowB nm a b c d = true) : gdV nm (rV a b c d) := by
  unfold rowB at h
  rw [Bool.and_eq_true] at h
  obtain ⟨h, hd⟩ := h
  obtain ⟨a1, b1, c1, n0, nb, nc⟩ := numB_int (by omega) h
  rw [show (-1000 : Int32) = -(nI 1000) by decide] at hd
  have d1 := inI_int (by omega) hd
  refine ⟨⟨a1, b1, c1, ?_⟩, ?_, ⟨fun q => by omega, fun q => ?_, fun q => ?_⟩, ?_⟩
  · show -1000 ≤ -d.toInt ∧ -d.toInt ≤ 1000
    omega
  · intro e
    have e1 := congrArg Prod.fst e
    have e2 := congrArg (fun z : dd_V => z.2.1) e
    have e3 := congrArg (fun z : dd_V => z.2.2.1) e
    exact n0 ⟨e1, e2, e3⟩
  · show b.toInt = 0
    rw [nb q]; rfl
  · show c.toInt = 0
    rw [nc q]; rfl
  · show a.toInt * a.toInt + b.toInt * b.toInt + c.toInt * c.toInt ≠ 0
    intro e
    have s1 : ∀ x : Int, 0 ≤ x * x := fun x => by
      rcases Int.le_total 0 x with q | q
      · exact Int.mul_nonneg q q
      · have := Int.mul_nonneg (show 0 ≤ -x by omega) (show 0 ≤ -x by omega)
        rwa [Int.neg_mul_neg] at this
    have z : ∀ x : Int, x * x = 0 → x = 0 := fun x q => by rcases Int.mul_eq_zero.mp q with q | q <;> exact q
    have k1 := s1 a.toInt
    have k2 := s1 b.toInt
    have k3 := s1 c.toInt
    exact n0 ⟨z _ (by omega), z _ (by omega), z _ (by omega)⟩
/-- the way k of the loop j, its numbers of names and of rows -/
def spD (I : gm_I) (B n : Nat) (v w : Int32) (j k nm g t : Nat) : Prop := j < n ∧ k < 3 ∧ v = nI j ∧ w = nI k ∧ fwB I B n v w = true ∧ I (B + 12 + 21 * j) 0 = nI nm ∧ 1 ≤ nm ∧ nm ≤ 3 ∧ I (B + 12 + 21 * j + 1) 2 = nI g ∧ g ≤ 4 ∧ I (B + 12 + 21 * j + 6 + 5 * k + 1) 2 = nI t ∧ t ≤ 2 ∧ (∀ i, i < g + t → gdV nm (fF I (B + 12 + 21 * j) k g i)) ∧ gqW I (B + 12 + 21 * j + 6 + 5 * k) nm
theorem gq_sp {I : gm_I} {B n j k m : Nat} (hG : GQ I B) (hV : inv_FT I B) (en : I B 1 = nI n) (hn : n ≤ 8) (hj : j < n) (hk : k < m) (hm : m ≤ 3) (em : I (B + 12 + 21 * j) 3 = nI m) (hf : fwB I B n (nI j) (nI k) = true) : ∃ nm g t, spD I B n (nI j) (nI k) j k nm g t := by
  unfold GQ at hG
  rw [en, nN_nI (by omega)] at hG
  obtain ⟨_, nm, h1, h2, h3, h4, h5⟩ := hG j hj
  rw [em, nN_nI (by omega)] at h5
  obtain ⟨hk3, h6⟩ := h5 k hk
  have hL := hV.2.1 j (by omega)
  obtain ⟨g, hg, eg⟩ := hL.2.1.2
  obtain ⟨t, ht, et⟩ := (hL.2.2.2 k hk3).2
  have h7 := h6.1
  rw [eg, nN_nI (by omega)] at h4
  rw [et, nN_nI (by omega)] at h7
  refine ⟨nm, g, t, hj, hk3, rfl, rfl, hf, h1, h2, h3, eg, hg, et, ht, fun i hi => ?_, h6⟩
  unfold fF
  by_cases c : i < g
  · rw [if_pos c]; exact rowB_gd h2 (h4 i c)
  · rw [if_neg c]; exact rowB_gd h2 (h7 (i - g) (by omega))
theorem skP.sf {q : Nat} {A rows : List dd_V} {I : gm_I} {J : gm_J} {u : gm_M} (h : skP q A rows I J u) (h8 : rows.length ≤ 8) : sfP q I J u := by
  obtain ⟨h1, LU, R, hM, hO⟩ := h
  exact ⟨h1, ⟨_, ok_len hO, hM.1⟩, ⟨R.length, by have := ok_lenR hO h8; omega, hM.2.1⟩⟩
/-- what prove() found stays -/
def kY (B : Nat) (I I' : gm_I) : Prop := I' (B + 4) = I (B + 4) ∧ I' (B + 5) = I (B + 5)
theorem kY.nil {B : Nat} {I : gm_I} : kY B I I := ⟨rfl, rfl⟩
theorem kY.tr {B : Nat} {I I1 I2 : gm_I} (h : kY B I I1) (h2 : kY B I1 I2) : kY B I I2 := ⟨h2.1.trans h.1, h2.2.trans h.2⟩
theorem kY.of {B lo hi : Nat} {I I1 : gm_I} {J J1 : gm_J} (h : offR lo hi I I1 J J1) (hd : B + 5 < lo) : kY B I I1 := ⟨h.i (by omega), h.i (by omega)⟩
/-- the space of the way k of the loop j -/
def spQ (I I1 : gm_I) (J1 : gm_J) (B j k nm g t : Nat) (LU : List (dd_V × dd_V)) (R : List dd_V) : Prop := sp_M I1 J1 (B + 180 + 12 * k) (dd_rw (fF I (B + 12 + 21 * j) k g) (g + t)) (LU.map Prod.fst) R ∧ dd_Ok (dd_ab nm) (dd_rw (fF I (B + 12 + 21 * j) k g) (g + t)) LU R
def emQ (I : gm_I) (J : gm_J) (B n : Nat) (v w x : Int32) (u : gm_M) : Prop := sfF B I J u ∧ kY B I u.1 ∧ ((fwB I B n v w = false ∧ x = -2) ∨ ∃ j k nm g t LU R, spD I B n v w j k nm g t ∧ spQ I u.1 u.2 B j k nm g t LU R ∧ x = bI (decide (R.length = 0)))
def hoQ (I : gm_I) (J : gm_J) (B n : Nat) (v w a b c d x : Int32) (u : gm_M) : Prop := sfF B I J u ∧ kY B I u.1 ∧ ((fwB I B n v w = false ∧ x = -2) ∨ ∃ j k nm g t, spD I B n v w j k nm g t ∧ ((rowB nm a b c d = false ∧ x = -3) ∨ (rowB nm a b c d = true ∧ ∃ LU R z, spQ I u.1 u.2 B j k nm g t LU R ∧ x = bI z ∧ (z = true ↔ impP u.2 (B + 180 + 12 * k) (LU.map Prod.fst).length R.length a b c d))))
def tvN (z1 z2 z3 : Bool) : Nat := z1.toNat + 2 * z2.toNat + 4 * z3.toNat
def teQ (I : gm_I) (J : gm_J) (B n : Nat) (v w a b c x : Int32) (u : gm_M) : Prop := sfF B I J u ∧ kY B I u.1 ∧ ((fwB I B n v w = false ∧ x = -2) ∨ ∃ j k nm g t, spD I B n v w j k nm g t ∧ ((numB nm a b c (nI 2) = false ∧ x = -3) ∨ (numB nm a b c (nI 2) = true ∧ ∃ LU R z1 z2 z3, spQ I u.1 u.2 B j k nm g t LU R ∧ x = nI (tvN z1 z2 z3) ∧ (z1 = true ↔ bndP u.2 (B + 180 + 12 * k) (LU.map Prod.fst).length R.length a b c) ∧
  (z2 = true ↔ impP u.2 (B + 180 + 12 * k) (LU.map Prod.fst).length R.length (a - wgt u.1 (B + 12 + 21 * j + 6 + 5 * k) 0 a b c) (b - wgt u.1 (B + 12 + 21 * j + 6 + 5 * k) 1 a b c) (c - wgt u.1 (B + 12 + 21 * j + 6 + 5 * k) 2 a b c) (nI 0 + cst u.1 (B + 12 + 21 * j + 6 + 5 * k) a b c)) ∧
  (z3 = true ↔ impP u.2 (B + 180 + 12 * k) (LU.map Prod.fst).length R.length (a - wgt u.1 (B + 12 + 21 * j + 6 + 5 * k) 0 a b c) (b - wgt u.1 (B + 12 + 21 * j + 6 + 5 * k) 1 a b c) (c - wgt u.1 (B + 12 + 21 * j + 6 + 5 * k) 2 a b c) (nI 1 + cst u.1 (B + 12 + 21 * j + 6 + 5 * k) a b c)))))
