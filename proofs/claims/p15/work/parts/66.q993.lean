-- NEED: a row more, what is good of it
def fE (F : Nat → dd_V) (M : Nat) (e : dd_V) (i : Nat) : dd_V := if i < M then F i else e
theorem dd_rw_fE (F : Nat → dd_V) (M : Nat) (e : dd_V) : dd_rw F M ++ [e] = dd_rw (fE F M e) (M + 1) := by
  rw [dd_rw_succ]
  have e1 : fE F M e M = e := if_neg (Nat.lt_irrefl M)
  have e2 : dd_rw (fE F M e) M = dd_rw F M := by
    unfold dd_rw
    congr 1
    exact List.map_congr_left (fun i hi => if_pos (List.mem_range.mp hi))
  rw [e1, e2]
theorem pf_fE {F : Nat → dd_V} {M : Nat} {e p : dd_V} : dd_pf (fE F M e) (M + 1) p ↔ dd_pf F M p ∧ 0 ≤ dd_ev e p := by
  unfold dd_pf
  constructor
  · rintro ⟨h1, h2⟩
    refine ⟨⟨fun i hi => ?_, h2⟩, ?_⟩
    · have q := h1 i (by omega)
      rw [show fE F M e i = F i from if_pos hi] at q; exact q
    · have q := h1 M (by omega)
      rw [show fE F M e M = e from if_neg (Nat.lt_irrefl M)] at q; exact q
  · rintro ⟨⟨h1, h2⟩, h3⟩
    refine ⟨fun i hi => ?_, h2⟩
    unfold fE
    by_cases c : i < M
    · rw [if_pos c]; exact h1 i c
    · rw [if_neg c]; exact h3
theorem gd_fE {nm M : Nat} {F : Nat → dd_V} {e : dd_V} (hF : ∀ i, i < M → gdV nm (F i)) (he : gdV nm e) : ∀ i, i < M + 1 → gdV nm (fE F M e i) := by
  intro i _
  unfold fE
  by_cases c : i < M
  · rw [if_pos c]; exact hF i c
  · rw [if_neg c]; exact he
theorem num_gd {nm m : Nat} {a b c d : Int32} (h1 : 1 ≤ nm) (hm : m ≤ 9) (h : numB nm a b c (nI m) = true) (hd : -1000 ≤ d.toInt ∧ d.toInt ≤ 1000) : gdV nm (rV a b c d) := by
  obtain ⟨a1, b1, c1, n0, nb, nc⟩ := numB_int (by omega) h
  refine ⟨⟨?_, ?_, ?_, ?_⟩, ?_, ⟨fun q => by omega, fun q => ?_, fun q => ?_⟩, ?_⟩
  · show -9 ≤ a.toInt ∧ a.toInt ≤ 9; omega
  · show -9 ≤ b.toInt ∧ b.toInt ≤ 9; omega
  · show -9 ≤ c.toInt ∧ c.toInt ≤ 9; omega
  · show -1000 ≤ -d.toInt ∧ -d.toInt ≤ 1000; omega
  · intro e
    have e1 := congrArg Prod.fst e
    have e2 := congrArg (fun z : dd_V => z.2.1) e
    have e3 := congrArg (fun z : dd_V => z.2.2.1) e
    exact n0 ⟨e1, e2, e3⟩
  · show b.toInt = 0
    rw [nb q]; rfl
  · show c.toInt = 0
    rw [nc q]; rfl
  · show a.toInt * a.toInt + b.toInt * b.toInt + c.toInt * c.toInt ≠ 0
    intro e
    have s1 : ∀ x : Int, 0 ≤ x * x := fun x => by
      rcases Int.le_total 0 x with q | q
      · exact Int.mul_nonneg q q
      · have := Int.mul_nonneg (show 0 ≤ -x by omega) (show 0 ≤ -x by omega)
        rwa [Int.neg_mul_neg] at this
    have z : ∀ x : Int, x * x = 0 → x = 0 := fun x q => by rcases Int.mul_eq_zero.mp q with q | q <;> exact q
    have k1 := s1 a.toInt
    have k2 := s1 b.toInt
    have k3 := s1 c.toInt
    exact n0 ⟨z _ (by omega), z _ (by omega), z _ (by omega)⟩
/-- a lesser space: what holds of all points holds of fewer -/
theorem zsp_mono {I : gm_I} {W m m' : Nat} {F F' : Nat → dd_V} {a b c : Int32} {z z' : zT} (h : zsp I W F m a b c z) (h' : zsp I W F' m' a b c z') (hp : ∀ p, dd_pf F' m' p → dd_pf F m p) : (z.1 = true → z'.1 = true) ∧ (z.2.1 = true → z'.2.1 = true) ∧ (z.2.2 = true → z'.2.2 = true) := by
  obtain ⟨h1, h2, h3⟩ := h
  obtain ⟨k1, k2, k3⟩ := h'
  refine ⟨fun q => k1.mpr ?_, fun q => k2.mpr (fun p hq => h2.mp q p (hp p hq)), fun q => k3.mpr (fun p hq => h3.mp q p (hp p hq))⟩
  obtain ⟨M, hM⟩ := h1.mp q
  exact ⟨M, fun p hq => hM p (hp p hq)⟩
theorem pf_less {F : Nat → dd_V} {M : Nat} {a b c d d' : Int32} (h : d.toInt ≤ d'.toInt) (p : dd_V) (hp : dd_pf (fE F M (rV a b c d')) (M + 1) p) : dd_pf (fE F M (rV a b c d)) (M + 1) p := by
  rw [pf_fE] at hp ⊢
  refine ⟨hp.1, ?_⟩
  have h1 := hp.2
  have h2 := hp.1.2
  have e : dd_ev (rV a b c d) p = dd_ev (rV a b c d') p + (d'.toInt - d.toInt) * p.2.2.2 := by
    simp only [dd_ev, rV]; grind
  have := Int.mul_nonneg (show 0 ≤ d'.toInt - d.toInt by omega) (Int.le_of_lt h2)
  omega
/-- whether a row holds behind the change, by the points -/
def ysp (I : gm_I) (W : Nat) (F : Nat → dd_V) (m : Nat) (a b c d : Int32) (z : Bool) : Prop := z = true ↔ ∀ p, dd_pf F m p → (d.toInt - cI I W a b c) * p.2.2.2 ≤ dd_d3 (wI I W 0 a b c, wI I W 1 a b c, wI I W 2 a b c) p
theorem tq_pz2 {I : gm_I} {w nm : Nat} {a b c : Int32} (h : gqW I w nm) (h1 : 1 ≤ nm) (h3 : nm ≤ 3) (hb : nm < 2 → b = 0) (hc : nm < 3 → c = 0) (d : Int) : dd_pz nm (wI I w 0 a b c, wI I w 1 a b c, wI I w 2 a b c, d) := by
  have z : ∀ i j, i < nm → nm ≤ j → j < 3 → (I (w + 3) (3 * i + j)).toInt = 0 := fun i j q1 q2 q3 => by
    rw [(h.2.1 i j (by omega) q3).2 q1 q2]; rfl
  have t0 : (0 : Int32).toInt = 0 := rfl
  refine ⟨fun q => by omega, fun q => ?_, fun q => ?_⟩
  · show a.toInt * (I (w + 3) 1).toInt + b.toInt * (I (w + 3) (3 + 1)).toInt + c.toInt * (I (w + 3) (6 + 1)).toInt = 0
    have e := z 0 1 (by omega) (by omega) (by omega)
    rw [show 3 * 0 + 1 = 1 by omega] at e
    rw [hb q, hc (by omega), t0, e]; simp
  · show a.toInt * (I (w + 3) 2).toInt + b.toInt * (I (w + 3) (3 + 2)).toInt + c.toInt * (I (w + 3) (6 + 2)).toInt = 0
    have e := z 0 2 (by omega) (by omega) (by omega)
    rw [show 3 * 0 + 2 = 2 by omega] at e
    rw [hc q, t0, e]
    by_cases q2 : nm < 2
    · rw [hb q2, t0]; simp
    · have e2 := z 1 2 (by omega) (by omega) (by omega)
      rw [show 3 * 1 + 2 = 3 + 2 by omega] at e2
      rw [e2]; simp
theorem yok_of {I I2 : gm_I} {J2 : gm_J} {q W nm m : Nat} {F : Nat → dd_V} {a b c d : Int32} {z : Bool} (hK : sp_K I2 J2 q (dd_ab nm) (dd_rw F m)) (hm : m ≤ 7) (hW : gqW I W nm) (h1 : 1 ≤ nm) (h3 : nm ≤ 3) (hd : ∀ i, i < m → gdV nm (F i)) (e3 : I2 (W + 3) = I (W + 3)) (e4 : I2 (W + 4) = I (W + 4)) (hn : numB nm a b c (nI 1) = true) (hdd : -2 ≤ d.toInt ∧ d.toInt ≤ 2) (hz : ysp I W F m a b c d z) : yok I2 J2 W q a b c d z := by
  obtain ⟨LU, R, hM, hO⟩ := hK
  obtain ⟨s1, s2, s3, _, s5, s6⟩ := numB_int (m := 1) (by omega) hn
  have ha := tq_a (v := a) (by omega)
  have hb := tq_a (v := b) (by omega)
  have hcc := tq_a (v := c) (by omega)
  refine ⟨_, _, hM.1, ok_len hO, hM.2.1, by have := ok_lenR hO (by rw [dd_rw_len]; omega); omega, ?_⟩
  rw [wgt_eq e3, wgt_eq e3, wgt_eq e3, cst_eq e4]
  have t1 := (tq_w hW ha hb hcc (i := 0) (by omega)).1
  have t2 := (tq_w hW ha hb hcc (i := 1) (by omega)).1
  have t3 := (tq_w hW ha hb hcc (i := 2) (by omega)).1
  have hdi : iR d d.toInt 2 := ⟨rfl, hdd⟩
  have t4 := hdi.sub (tq_k hW ha hb hcc).1 (by decide)
  have eV : rV (wgt I W 0 a b c) (wgt I W 1 a b c) (wgt I W 2 a b c) (d - cst I W a b c) = (wI I W 0 a b c, wI I W 1 a b c, wI I W 2 a b c, -(d.toInt - cI I W a b c)) := by
    unfold rV; rw [t1.1, t2.1, t3.1, t4.1]
  have hi := sp_imp (a := wgt I W 0 a b c) (b := wgt I W 1 a b c) (c := wgt I W 2 a b c) (d := d - cst I W a b c) (A9 := 18) (D9 := 2 + 594) hM hO List.mem_cons_self (by rw [t1.1]; exact t1.2) (by rw [t2.1]; exact t2.2) (by rw [t3.1]; exact t3.2) (by rw [t4.1]; exact t4.2) (by decide) (by decide)
  rw [hi, dd_all_pf (fun i hi => (hd i hi).2.2.1) (by rw [eV]; exact tq_pz2 hW h1 h3 s5 s6 _), eV]
  refine hz.trans ?_
  constructor
  · exact fun q p hp => (dd_d3_ev (wI I W 0 a b c, wI I W 1 a b c, wI I W 2 a b c) (d.toInt - cI I W a b c) p).mp (q p hp)
  · exact fun q p hp => (dd_d3_ev (wI I W 0 a b c, wI I W 1 a b c, wI I W 2 a b c) (d.toInt - cI I W a b c) p).mpr (q p hp)
abbrev Z4 : Type := Int32 → Int32 → Int32 → Int32 → Int32 → Int32 → Int32 → Nat → zT
abbrev Y4 : Type := Int32 → Int32 → Int32 → Int32 → Nat → Bool
/-- a row lasts, and with it nothing is left -/
def ngd (nm m : Nat) (Z : Z4) (Y : Y4) (a b c d : Int32) : Prop := yN (Y a b c d) m = true ∧ (lbN (ckk nm m (Z a b c d)) 4 (opN m)).2 = 0
def rg2 (d : Int32) : Prop := -2 ≤ d.toInt ∧ d.toInt ≤ 2
/-- what Z and Y say of the loop o, its rows and one more -/
def z4Hyp (I : gm_I) (o : Nat) (Z : Z4) (Y : Y4) : Prop := ∀ a b c d, numB (q_ln I o) a b c (nI 1) = true → rg2 d → ∀ w, w < q_lm I o →
  (∀ a' b' c', numB (q_ln I o) a' b' c' (nI 2) = true → zsp I (o + 6 + 5 * w) (fE (fF I o w (q_lg I o)) (q_lg I o + q_lt I o w) (rV a b c d)) (q_lg I o + q_lt I o w + 1) a' b' c' (Z a b c d a' b' c' w)) ∧ ysp I (o + 6 + 5 * w) (fE (fF I o w (q_lg I o)) (q_lg I o + q_lt I o w) (rV a b c d)) (q_lg I o + q_lt I o w + 1) a b c d (Y a b c d w)
theorem ngd_2 {I : gm_I} {o : Nat} {Z : Z4} {Y : Y4} {a b c d : Int32} (hD : LD I o) (hZ : z4Hyp I o Z Y) (hn : numB (q_ln I o) a b c (nI 1) = true) (hd : rg2 d) (h : (lbN (ckk (q_ln I o) (q_lm I o) (Z a b c d)) 4 (opN (q_lm I o))).2 = 0) : (lbN (ckk (q_ln I o) (q_lm I o) (Z a b c (nI 2))) 4 (opN (q_lm I o))).2 = 0 := by
  have r2 : rg2 (nI 2) := ⟨by decide, by decide⟩
  have e2 : (nI 2).toInt = 2 := rfl
  have h1 := opN_lt (q_lm I o)
  have h2 : 2 ^ q_lm I o ≤ 2 ^ 3 := Nat.pow_le_pow_right (by omega) hD.1.2
  refine lb_mono hD.1.2 (fun a' b' c' hn' w hw => ?_) (by omega) h
  exact zsp_mono ((hZ a b c d hn hd w hw).1 a' b' c' hn') ((hZ a b c (nI 2) hn r2 w hw).1 a' b' c' hn') (fun p hp => pf_less (by rw [e2]; exact hd.2) p hp)
theorem lay4_at' (I : gm_I) (q k : Nat) (a b c d : Int32) : lay4 I q k a b c d q k = a ∧ lay4 I q k a b c d q (k + 1) = b ∧ lay4 I q k a b c d q (k + 2) = c ∧ lay4 I q k a b c d q (k + 3) = d := by
  unfold lay4
  refine ⟨?_, ?_, ?_, gm_up_same _ _ _ _⟩
  · rw [gm_up_ne _ _ (by omega), gm_up_ne _ _ (by omega), gm_up_ne _ _ (by omega), gm_up_same]
  · rw [gm_up_ne _ _ (by omega), gm_up_ne _ _ (by omega), gm_up_same]
  · rw [gm_up_ne _ _ (by omega), gm_up_same]
theorem lay4_o' (I : gm_I) {q k p j : Nat} (a b c d : Int32) (h : p ≠ q ∨ j < k ∨ k + 3 < j) : lay4 I q k a b c d p j = I p j := by
  unfold lay4
  rw [gm_up_ne _ _ (by omega), gm_up_ne _ _ (by omega), gm_up_ne _ _ (by omega), gm_up_ne _ _ (by omega)]
theorem kn_off {B : Nat} {I : gm_I} {J : gm_J} {a b c d : Int32} : offR (B + 8) (B + 8) I (lay4 I (B + 8) 0 a b c d) J J := (((offR.nil.upI (by omega)).upI (by omega)).upI (by omega)).upI (by omega)
theorem kn_sf {B : Nat} {I : gm_I} {J : gm_J} {a b c d : Int32} (hV : inv_FT I B) : sfF B I J (lay4 (gm_up I B 7 (nI 1)) (B + 8) 0 a b c d, J) :=
  ⟨keepF.tr keepF.b7 (keepF.of kn_off (by omega)), inv_FT.keep (inv_FT.b7 hV (Or.inr (by decide))) (kn_off (J := J)) (by omega)⟩
theorem kn_row {B : Nat} {I : gm_I} {a b c d : Int32} : lay4 (gm_up I B 7 (nI 1)) (B + 8) 0 a b c d B 7 = nI 1 ∧ lay4 (gm_up I B 7 (nI 1)) (B + 8) 0 a b c d (B + 8) 0 = a ∧ lay4 (gm_up I B 7 (nI 1)) (B + 8) 0 a b c d (B + 8) 1 = b ∧ lay4 (gm_up I B 7 (nI 1)) (B + 8) 0 a b c d (B + 8) 2 = c ∧ lay4 (gm_up I B 7 (nI 1)) (B + 8) 0 a b c d (B + 8) 3 = d := by
  obtain ⟨h1, h2, h3, h4⟩ := lay4_at' (gm_up I B 7 (nI 1)) (B + 8) 0 a b c d
  refine ⟨?_, h1, h2, h3, h4⟩
  rw [lay4_o' _ _ _ _ _ (by omega), gm_up_same]
/-- the spaces of a loop's ways -/
def ksP (I : gm_I) (B o : Nat) (I' : gm_I) (J' : gm_J) : Prop := ∀ w, w < q_lm I o → sp_K I' J' (B + 180 + 12 * w) (dd_ab (q_ln I o)) (dd_rw (fF I o w (q_lg I o)) (q_lg I o + q_lt I o w))
theorem ksP.off {I I1 I2 : gm_I} {J1 J2 : gm_J} {B o lo hi : Nat} (h : ksP I B o I1 J1) (hO : offR lo hi I1 I2 J1 J2) (hm : q_lm I o ≤ 3) (hd : hi < B + 180) : ksP I B o I2 J2 := fun w hw => (h w hw).congr (fun a h1 h2 => hO a (by omega))
def fnP (I : gm_I) (J : gm_J) (B o : Nat) (a b c : Int32) (Z : Z4) (Y : Y4) (x : Int32) (u : gm_M) : Prop := sfF B I J u ∧ kY B I u.1 ∧ ksP I B o u.1 u.2 ∧ ((x = 0 ∧ u.1 B 7 = I B 7 ∧ ∀ d, rg2 d → ¬ ngd (q_ln I o) (q_lm I o) Z Y a b c d) ∨
  (x = 1 ∧ ∃ d, rg2 d ∧ ngd (q_ln I o) (q_lm I o) Z Y a b c d ∧ (∀ d', rg2 d' → d'.toInt < d.toInt → ¬ ngd (q_ln I o) (q_lm I o) Z Y a b c d') ∧ u.1 B 7 = nI 1 ∧ u.1 (B + 8) 0 = a ∧ u.1 (B + 8) 1 = b ∧ u.1 (B + 8) 2 = c ∧ u.1 (B + 8) 3 = d))
theorem fn_next {P : Int32 → Prop} {d x : Int32} (h : ∀ e, rg2 e → e.toInt < d.toInt → ¬ P e) (hx : x.toInt = d.toInt + 1) (hd : ¬ P d) : ∀ e, rg2 e → e.toInt < x.toInt → ¬ P e := by
  intro e he hlt
  by_cases c : e.toInt = d.toInt
  · rw [Int32.toInt_inj.mp c]; exact hd
  · exact h e he (by omega)
-- the order of the rows
theorem nK_int {k : Nat} (hk : k < 135) : (nKa k).toInt = (k / 45 : Nat) - (1 : Int) ∧ (nKb k).toInt = (k / 15 % 3 : Nat) - (1 : Int) ∧ (nKc k).toInt = (k / 5 % 3 : Nat) - (1 : Int) ∧ (nKd k).toInt = (k % 5 : Nat) - (2 : Int) := by
  unfold nKa nKb nKc nKd
  exact ⟨pk_sub_toInt (by omega) (by omega), pk_sub_toInt (by omega) (by omega), pk_sub_toInt (by omega) (by omega), pk_sub_toInt (by omega) (by omega)⟩
def nKx (a b c d : Int32) : Nat := (45 * (a.toInt + 1) + 15 * (b.toInt + 1) + 5 * (c.toInt + 1) + (d.toInt + 2)).toNat
theorem nKx_of {a b c d : Int32} (ha : -1 ≤ a.toInt ∧ a.toInt ≤ 1) (hb : -1 ≤ b.toInt ∧ b.toInt ≤ 1) (hc : -1 ≤ c.toInt ∧ c.toInt ≤ 1) (hd : rg2 d) : nKx a b c d < 135 ∧ ((nKx a b c d : Nat) : Int) = 45 * (a.toInt + 1) + 15 * (b.toInt + 1) + 5 * (c.toInt + 1) + (d.toInt + 2) ∧ nKa (nKx a b c d) = a ∧ nKb (nKx a b c d) = b ∧ nKc (nKx a b c d) = c ∧ nKd (nKx a b c d) = d := by
  obtain ⟨d1, d2⟩ := hd
  have h1 : ((nKx a b c d : Nat) : Int) = 45 * (a.toInt + 1) + 15 * (b.toInt + 1) + 5 * (c.toInt + 1) + (d.toInt + 2) := by unfold nKx; omega
  have h2 : nKx a b c d < 135 := by omega
  obtain ⟨e1, e2, e3, e4⟩ := nK_int h2
  refine ⟨h2, h1, Int32.toInt_inj.mp ?_, Int32.toInt_inj.mp ?_, Int32.toInt_inj.mp ?_, Int32.toInt_inj.mp ?_⟩
  · rw [e1]; omega
  · rw [e2]; omega
  · rw [e3]; omega
  · rw [e4]; omega
/-- the k-th row is a need -/
def NG (nm m : Nat) (Z : Z4) (Y : Y4) (k : Nat) : Prop := numB nm (nKa k) (nKb k) (nKc k) (nI 1) = true ∧ ngd nm m Z Y (nKa k) (nKb k) (nKc k) (nKd k)
def nz (P : Nat → Prop) (K : Int) : Prop := ∀ k : Nat, (k : Int) < K → k < 135 → ¬ P k
section NZ
variable {nm m gu gv : Nat} {Z : Z4} {Y : Y4} {a b c : Int}
theorem ng_b {k : Nat} (hn : nm ≤ 1) (hk : k < 135) (h : ¬ k / 15 % 3 = 1) : ¬ NG nm m Z Y k := fun e => by
  have q := (numB_int (m := 1) (by omega) e.1).2.2.2.2.1 (by omega)
  have r := (nK_int hk).2.1
  rw [q, show (0 : Int32).toInt = 0 from rfl] at r
  omega
theorem ng_c {k : Nat} (hn : nm ≤ 2) (hk : k < 135) (h : ¬ k / 5 % 3 = 1) : ¬ NG nm m Z Y k := fun e => by
  have q := (numB_int (m := 1) (by omega) e.1).2.2.2.2.2 (by omega)
  have r := (nK_int hk).2.2.1
  rw [q, show (0 : Int32).toInt = 0 from rfl] at r
  omega
theorem nz_a0 {P : Nat → Prop} {x : Int32} (h : x.toInt = -1) : nz P (45 * (x.toInt + 1)) := by
  intro k hk; rw [h] at hk; omega
theorem nz_b (h : nz (NG nm m Z Y) (45 * (a + 1))) (ha : -1 ≤ a) (hg : gu = if 1 < nm then 1 else 0) : nz (NG nm m Z Y) (45 * (a + 1) + 15 * (-(gu : Int) + 1)) := by
  intro k hk h135
  by_cases c : (k : Int) < 45 * (a + 1)
  · exact h k c h135
  · by_cases hn : 1 < nm
    · rw [if_pos hn] at hg; subst hg; omega
    · rw [if_neg hn] at hg; subst hg
      exact ng_b (by omega) h135 (by omega)
theorem nz_b2 (h : nz (NG nm m Z Y) (45 * (a + 1) + 15 * (b + 1))) (ha : -1 ≤ a) (hb : (gu : Int) < b) (hg : gu = if 1 < nm then 1 else 0) : nz (NG nm m Z Y) (45 * (a + 1 + 1)) := by
  intro k hk h135
  by_cases c : (k : Int) < 45 * (a + 1) + 15 * (b + 1)
  · exact h k c h135
  · by_cases hn : 1 < nm
    · rw [if_pos hn] at hg; subst hg; omega
    · rw [if_neg hn] at hg; subst hg
      exact ng_b (by omega) h135 (by omega)
theorem nz_c (h : nz (NG nm m Z Y) (45 * (a + 1) + 15 * (b + 1))) (ha : -1 ≤ a) (hb : -1 ≤ b) (hg : gv = if 2 < nm then 1 else 0) : nz (NG nm m Z Y) (45 * (a + 1) + 15 * (b + 1) + 5 * (-(gv : Int) + 1)) := by
  intro k hk h135
  by_cases c : (k : Int) < 45 * (a + 1) + 15 * (b + 1)
  · exact h k c h135
  · by_cases hn : 2 < nm
    · rw [if_pos hn] at hg; subst hg; omega
    · rw [if_neg hn] at hg; subst hg
      exact ng_c (by omega) h135 (by omega)
theorem nz_c2 (h : nz (NG nm m Z Y) (45 * (a + 1) + 15 * (b + 1) + 5 * (c + 1))) (ha : -1 ≤ a) (hb : -1 ≤ b) (hc : (gv : Int) < c) (hg : gv = if 2 < nm then 1 else 0) : nz (NG nm m Z Y) (45 * (a + 1) + 15 * (b + 1 + 1)) := by
  intro k hk h135
  by_cases e : (k : Int) < 45 * (a + 1) + 15 * (b + 1) + 5 * (c + 1)
  · exact h k e h135
  · by_cases hn : 2 < nm
    · rw [if_pos hn] at hg; subst hg; omega
    · rw [if_neg hn] at hg; subst hg
      exact ng_c (by omega) h135 (by omega)
theorem nz_on {a b c : Int32} (h : nz (NG nm m Z Y) (45 * (a.toInt + 1) + 15 * (b.toInt + 1) + 5 * (c.toInt + 1))) (ha : -1 ≤ a.toInt ∧ a.toInt ≤ 1) (hb : -1 ≤ b.toInt ∧ b.toInt ≤ 1) (hc : -1 ≤ c.toInt ∧ c.toInt ≤ 1) (h0 : numB nm a b c (nI 1) = false ∨ ∀ d, rg2 d → ¬ ngd nm m Z Y a b c d) : nz (NG nm m Z Y) (45 * (a.toInt + 1) + 15 * (b.toInt + 1) + 5 * (c.toInt + 1 + 1)) := by
  intro k hk h135
  by_cases e : (k : Int) < 45 * (a.toInt + 1) + 15 * (b.toInt + 1) + 5 * (c.toInt + 1)
  · exact h k e h135
  · obtain ⟨e1, e2, e3, e4⟩ := nK_int h135
    have k1 : nKa k = a := Int32.toInt_inj.mp (by rw [e1]; omega)
    have k2 : nKb k = b := Int32.toInt_inj.mp (by rw [e2]; omega)
    have k3 : nKc k = c := Int32.toInt_inj.mp (by rw [e3]; omega)
    rintro ⟨q1, q2⟩
    rw [k1, k2, k3] at q1 q2
    rcases h0 with h0 | h0
    · rw [h0] at q1; cases q1
    · exact h0 _ ⟨by rw [e4]; omega, by rw [e4]; omega⟩ q2
theorem nz_yes {a b c d : Int32} (h : nz (NG nm m Z Y) (45 * (a.toInt + 1) + 15 * (b.toInt + 1) + 5 * (c.toInt + 1))) (ha : -1 ≤ a.toInt ∧ a.toInt ≤ 1) (hb : -1 ≤ b.toInt ∧ b.toInt ≤ 1) (hc : -1 ≤ c.toInt ∧ c.toInt ≤ 1) (hd : rg2 d) (hn : numB nm a b c (nI 1) = true) (hg : ngd nm m Z Y a b c d) (hl : ∀ d', rg2 d' → d'.toInt < d.toInt → ¬ ngd nm m Z Y a b c d') : nKx a b c d < 135 ∧ NG nm m Z Y (nKx a b c d) ∧ ∀ i, i < nKx a b c d → ¬ NG nm m Z Y i := by
  obtain ⟨k1, k2, k3, k4, k5, k6⟩ := nKx_of ha hb hc hd
  refine ⟨k1, ?_, fun i hi => ?_⟩
  · unfold NG; rw [k3, k4, k5, k6]; exact ⟨hn, hg⟩
  · by_cases e : (i : Int) < 45 * (a.toInt + 1) + 15 * (b.toInt + 1) + 5 * (c.toInt + 1)
    · exact h i e (by omega)
    · obtain ⟨e1, e2, e3, e4⟩ := nK_int (show i < 135 by omega)
      obtain ⟨d1, d2⟩ := hd
      have j1 : nKa i = a := Int32.toInt_inj.mp (by rw [e1]; omega)
      have j2 : nKb i = b := Int32.toInt_inj.mp (by rw [e2]; omega)
      have j3 : nKc i = c := Int32.toInt_inj.mp (by rw [e3]; omega)
      rintro ⟨_, q2⟩
      rw [j1, j2, j3] at q2
      exact hl _ ⟨by rw [e4]; omega, by rw [e4]; omega⟩ (by rw [e4]; omega) q2
end NZ
theorem num_mk1 {nm gu gv : Nat} {a b c : Int32} (ha : -1 ≤ a.toInt ∧ a.toInt ≤ 1) (hb : -(gu : Int) ≤ b.toInt ∧ b.toInt ≤ (gu : Int)) (hc : -(gv : Int) ≤ c.toInt ∧ c.toInt ≤ (gv : Int)) (hu : gu = if 1 < nm then 1 else 0) (hv : gv = if 2 < nm then 1 else 0) (h : ¬ (a = 0 ∧ b = 0 ∧ c = 0)) : numB nm a b c (nI 1) = true := by
  have u2 : gu ≤ 1 := by rw [hu]; split <;> omega
  have v2 : gv ≤ 1 := by rw [hv]; split <;> omega
  unfold numB
  simp only [Bool.and_eq_true, Bool.or_eq_true, Bool.not_eq_true', decide_eq_true_eq]
  refine ⟨⟨⟨⟨⟨inI_mk (by omega) (by omega), inI_mk (by omega) (by omega)⟩, inI_mk (by omega) (by omega)⟩, ?_⟩, ?_⟩, ?_⟩
  · cases e : (decide (a = 0) && decide (b = 0) && decide (c = 0)) with
    | false => rfl
    | true =>
      simp only [Bool.and_eq_true, decide_eq_true_eq] at e
      exact absurd ⟨e.1.1, e.1.2, e.2⟩ h
  · by_cases q : 1 < nm
    · exact Or.inr q
    · rw [if_neg q] at hu; subst hu
      exact Or.inl (Int32.toInt_inj.mp (show b.toInt = (0 : Int32).toInt by rw [show (0 : Int32).toInt = 0 from rfl]; omega))
  · by_cases q : 2 < nm
    · exact Or.inr q
    · rw [if_neg q] at hv; subst hv
      exact Or.inl (Int32.toInt_inj.mp (show c.toInt = (0 : Int32).toInt by rw [show (0 : Int32).toInt = 0 from rfl]; omega))
theorem num_01 {nm : Nat} : numB nm 0 0 0 (nI 1) = false := by
  cases e : numB nm 0 0 0 (nI 1) with
  | false => rfl
  | true => exact absurd ⟨rfl, rfl, rfl⟩ (numB_int (m := 1) (by omega) e).2.2.2.1
/-- what need() leaves and answers -/
def ndQ (I : gm_I) (J : gm_J) (B n : Nat) (v : Int32) (Z0 : Int32 → Int32 → Int32 → Nat → zT) (Z : Z4) (Y : Y4) (x : Int32) (u : gm_M) : Prop := sfF B I J u ∧ kY B I u.1 ∧ ((inI v 0 (nI n - 1) = false ∧ x = -2 ∧ u = (I, J)) ∨ ∃ j, j < n ∧ v = nI j ∧
  (((lbN (ckk (q_ln I (B + 12 + 21 * j)) (q_lm I (B + 12 + 21 * j)) Z0) 4 (opN (q_lm I (B + 12 + 21 * j)))).2 = 0 ∧ x = 2 ∧ u.1 B 7 = nI 0) ∨
   (¬ (lbN (ckk (q_ln I (B + 12 + 21 * j)) (q_lm I (B + 12 + 21 * j)) Z0) 4 (opN (q_lm I (B + 12 + 21 * j)))).2 = 0 ∧ ((x = 0 ∧ u.1 B 7 = nI 0 ∧ ∀ k, k < 135 → ¬ NG (q_ln I (B + 12 + 21 * j)) (q_lm I (B + 12 + 21 * j)) Z Y k) ∨
     (x = 1 ∧ u.1 B 7 = nI 1 ∧ ∃ k, k < 135 ∧ NG (q_ln I (B + 12 + 21 * j)) (q_lm I (B + 12 + 21 * j)) Z Y k ∧ (∀ i, i < k → ¬ NG (q_ln I (B + 12 + 21 * j)) (q_lm I (B + 12 + 21 * j)) Z Y i) ∧ u.1 (B + 8) 0 = nKa k ∧ u.1 (B + 8) 1 = nKb k ∧ u.1 (B + 8) 2 = nKc k ∧ u.1 (B + 8) 3 = nKd k)))))
-- the loop's numbers are the same in both memories
theorem gqW.congr' {I I' : gm_I} {w nm : Nat} (h : gqW I w nm) (e : ∀ q, w ≤ q → q ≤ w + 4 → I' q = I q) : gqW I' w nm := by
  unfold gqW gqR at *
  rw [e (w + 1) (by omega) (by omega), e (w + 1 + 1) (by omega) (by omega), e (w + 3) (by omega) (by omega), e (w + 4) (by omega) (by omega)]
  exact h
section BASE
variable {I I3 : gm_I} {o : Nat}
theorem b_lm (e : ∀ q, o ≤ q → q ≤ o + 20 → I3 q = I q) : q_lm I3 o = q_lm I o := by unfold q_lm; rw [e o (by omega) (by omega)]
theorem b_ln (e : ∀ q, o ≤ q → q ≤ o + 20 → I3 q = I q) : q_ln I3 o = q_ln I o := by unfold q_ln; rw [e o (by omega) (by omega)]
theorem b_lg (e : ∀ q, o ≤ q → q ≤ o + 20 → I3 q = I q) : q_lg I3 o = q_lg I o := by unfold q_lg; rw [e (o + 1) (by omega) (by omega)]
theorem b_lt (e : ∀ q, o ≤ q → q ≤ o + 20 → I3 q = I q) {k : Nat} (hk : k < 3) : q_lt I3 o k = q_lt I o k := by unfold q_lt; rw [e (o + 6 + 5 * k + 1) (by omega) (by omega)]
theorem b_fF (e : ∀ q, o ≤ q → q ≤ o + 20 → I3 q = I q) {k : Nat} (hk : k < 3) (g : Nat) : fF I3 o k g = fF I o k g := by
  funext i; unfold fF rwV; rw [e (o + 2) (by omega) (by omega), e (o + 6 + 5 * k + 2) (by omega) (by omega)]
theorem LD.base (e : ∀ q, o ≤ q → q ≤ o + 20 → I3 q = I q) (h : LD I o) : LD I3 o := by
  have hm := h.1.2
  refine ⟨?_, ?_, ?_, fun k hk => ?_, fun k hk i hi => ?_, fun k hk => ?_⟩
  · rw [b_lm e, e o (by omega) (by omega)]; exact h.1
  · rw [b_ln e, e o (by omega) (by omega)]; exact h.2.1
  · rw [b_lg e, e (o + 1) (by omega) (by omega)]; exact h.2.2.1
  · rw [b_lm e] at hk
    rw [b_lt e (by omega), e (o + 6 + 5 * k + 1) (by omega) (by omega)]; exact h.2.2.2.1 k hk
  · rw [b_lm e] at hk
    rw [b_lg e, b_lt e (by omega)] at hi
    rw [b_ln e, b_lg e, b_fF e (by omega)]; exact h.2.2.2.2.1 k hk i hi
  · rw [b_lm e] at hk
    rw [b_ln e]
    exact gqW.congr' (h.2.2.2.2.2 k hk) (fun q q1 q2 => e q (by omega) (by omega))
theorem ksP.base {B : Nat} {I' : gm_I} {J' : gm_J} (e : ∀ q, o ≤ q → q ≤ o + 20 → I3 q = I q) (hm : q_lm I o ≤ 3) (h : ksP I B o I' J') : ksP I3 B o I' J' := by
  intro w hw
  rw [b_lm e] at hw
  rw [b_ln e, b_lg e, b_lt e (by omega), b_fF e (by omega)]; exact h w hw
theorem ksP.back {B : Nat} {I' : gm_I} {J' : gm_J} (e : ∀ q, o ≤ q → q ≤ o + 20 → I3 q = I q) (hm : q_lm I o ≤ 3) (h : ksP I3 B o I' J') : ksP I B o I' J' := by
  intro w hw
  have q := h w (by rw [b_lm e]; exact hw)
  rw [b_ln e, b_lg e, b_lt e (by omega), b_fF e (by omega)] at q; exact q
theorem zsp_eq {W m : Nat} {F : Nat → dd_V} {a b c : Int32} {z : zT} (e3 : I3 (W + 3) = I (W + 3)) (e4 : I3 (W + 4) = I (W + 4)) (h : zsp I W F m a b c z) : zsp I3 W F m a b c z := by
  unfold zsp gI cI wI at *
  rw [e3, e4]; exact h
theorem ysp_eq {W m : Nat} {F : Nat → dd_V} {a b c d : Int32} {z : Bool} (e3 : I3 (W + 3) = I (W + 3)) (e4 : I3 (W + 4) = I (W + 4)) (h : ysp I W F m a b c d z) : ysp I3 W F m a b c d z := by
  unfold ysp cI wI at *
  rw [e3, e4]; exact h
theorem z4Hyp.base {Z : Z4} {Y : Y4} (e : ∀ q, o ≤ q → q ≤ o + 20 → I3 q = I q) (hm : q_lm I o ≤ 3) (h : z4Hyp I o Z Y) : z4Hyp I3 o Z Y := by
  intro a b c d hn hd w hw
  rw [b_ln e] at hn
  rw [b_lm e] at hw
  rw [b_ln e, b_lg e, b_lt e (by omega), b_fF e (by omega)]
  obtain ⟨h1, h2⟩ := h a b c d hn hd w hw
  have e3 : I3 (o + 6 + 5 * w + 3) = I (o + 6 + 5 * w + 3) := e _ (by omega) (by omega)
  have e4 : I3 (o + 6 + 5 * w + 4) = I (o + 6 + 5 * w + 4) := e _ (by omega) (by omega)
  exact ⟨fun a' b' c' hn' => zsp_eq e3 e4 (h1 a' b' c' hn'), ysp_eq e3 e4 h2⟩
theorem fnP.base {B : Nat} {J3 : gm_J} {a b c x : Int32} {Z : Z4} {Y : Y4} {u : gm_M} (e : ∀ q, o ≤ q → q ≤ o + 20 → I3 q = I q) (hm : q_lm I o ≤ 3) (h : fnP I3 J3 B o a b c Z Y x u) : sfF B I3 J3 u ∧ kY B I3 u.1 ∧ ksP I B o u.1 u.2 ∧ ((x = 0 ∧ u.1 B 7 = I3 B 7 ∧ ∀ d, rg2 d → ¬ ngd (q_ln I o) (q_lm I o) Z Y a b c d) ∨
  (x = 1 ∧ ∃ d, rg2 d ∧ ngd (q_ln I o) (q_lm I o) Z Y a b c d ∧ (∀ d', rg2 d' → d'.toInt < d.toInt → ¬ ngd (q_ln I o) (q_lm I o) Z Y a b c d') ∧ u.1 B 7 = nI 1 ∧ u.1 (B + 8) 0 = a ∧ u.1 (B + 8) 1 = b ∧ u.1 (B + 8) 2 = c ∧ u.1 (B + 8) 3 = d)) := by
  obtain ⟨h1, h2, h3, h4⟩ := h
  rw [b_lm e, b_ln e] at h4
  exact ⟨h1, h2, h3.back e hm, h4⟩
end BASE
theorem kp_lp {B j o : Nat} {I I3 : gm_I} {J J3 : gm_J} (h : keepF B I I3 J J3) (eo : o = B + 12 + 21 * j) (hj : j < 8) : ∀ q, o ≤ q → q ≤ o + 20 → I3 q = I q := fun q h1 h2 => (h.1 q (by omega)).1
