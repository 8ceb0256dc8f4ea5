/-- the same for every question: the loops' numbers, and the row that is tried -/
def eqQ (r : Nat) (I : gm_I) (J : gm_J) (I' : gm_I) (J' : gm_J) : Prop := (∀ c, 1 ≤ c → c ≤ 8 → ∀ k, I' (r + c) k = I (r + c) k) ∧ ∀ k, 29 ≤ k → k ≤ 32 → J' r k = J r k
theorem rF_eqQ {r j w : Nat} {I I1 : gm_I} {J J1 : gm_J} (h : eqQ r I J I1 J1) {n : Nat} : ∀ c, c < 4 → ∀ i, i < n → rF I1 J1 r j w c i = rF I J r j w c i := by
  intro c hc i _
  unfold rF
  rw [h.1 3 (by omega) (by omega), h.1 5 (by omega) (by omega)]
  simp only [rowF]
  rw [h.1 4 (by omega) (by omega), h.1 6 (by omega) (by omega), h.2 (29 + c) (by omega) (by omega)]
theorem rN_eqQ {r j w : Nat} {x : Bool} {I I1 : gm_I} {J J1 : gm_J} (h : eqQ r I J I1 J1) : rN I1 r j w x = rN I r j w x := by
  unfold rN
  rw [h.1 3 (by omega) (by omega), h.1 5 (by omega) (by omega)]
theorem chG_eqQ {r w : Nat} {I I1 : gm_I} {J J1 : gm_J} (h : eqQ r I J I1 J1) {a b c : Int64} : chG I1 r w a b c = chG I r w a b c := by
  have e : ∀ k, I1 (r + 7) k = I (r + 7) k := fun k => h.1 7 (by omega) (by omega) k
  simp only [chG, fc, e]
theorem chC_eqQ {r w : Nat} {I I1 : gm_I} {J J1 : gm_J} (h : eqQ r I J I1 J1) {a b c : Int64} : chC I1 r w a b c = chC I r w a b c := by
  have e : ∀ k, I1 (r + 8) k = I (r + 8) k := fun k => h.1 8 (by omega) (by omega) k
  simp only [chC, cn, e]
theorem howW_eqQ {r j w : Nat} {x : Bool} {I I1 : gm_I} {J J1 : gm_J} (h : eqQ r I J I1 J1) {a b c : Int32} : howW I1 J1 r j w x a b c = howW I J r j w x a b c := by
  unfold howW tmG
  rw [rN_eqQ h, fallsV_congr (rF_eqQ h), chG_eqQ h, chC_eqQ h]
theorem bndW_eqQ {r j w : Nat} {x : Bool} {I I1 : gm_I} {J J1 : gm_J} (h : eqQ r I J I1 J1) {a b c : Int32} : bndW I1 J1 r j w x a b c = bndW I J r j w x a b c := by
  unfold bndW
  rw [rN_eqQ h, LQ_congr (rF_eqQ h)]
theorem tkN_eqQ {r j : Nat} {x : Bool} {o z n : Nat} {I I1 : gm_I} {J J1 : gm_J} (h : eqQ r I J I1 J1) {a b c : Int32} : tkN I1 J1 r j x o z a b c n = tkN I J r j x o z a b c n := by
  induction n with
  | zero => rfl
  | succ n ih =>
    simp only [tkN]
    rw [ih]
    congr 1
    funext s
    unfold tkW
    rw [howW_eqQ h, bndW_eqQ h]
theorem ztN_eqQ {r j : Nat} {x : Bool} {n : Nat} {I I1 : gm_I} {J J1 : gm_J} (h : eqQ r I J I1 J1) : ztN I1 J1 r j x n = ztN I J r j x n := by
  induction n with
  | zero => rfl
  | succ n ih => simp only [ztN]; rw [ih, rN_eqQ h, nothB_congr (rF_eqQ h)]
theorem tkk_eqQ {r j : Nat} {x : Bool} {I I1 : gm_I} {J J1 : gm_J} (h : eqQ r I J I1 J1) : tkk I1 J1 r j x = tkk I J r j x := by
  funext o k
  unfold tkk
  rw [h.1 1 (by omega) (by omega), h.1 2 (by omega) (by omega), ztN_eqQ h, tkN_eqQ h]
theorem leftR_eqQ {r j : Nat} {x : Bool} {I I1 : gm_I} {J J1 : gm_J} (h : eqQ r I J I1 J1) : leftR I1 J1 r j x = leftR I J r j x := by
  unfold leftR
  rw [tkk_eqQ h, h.1 2 (by omega) (by omega)]
theorem lastN_eqQ {r j n : Nat} {I I1 : gm_I} {J J1 : gm_J} (h : eqQ r I J I1 J1) : lastN I1 J1 r j n = lastN I J r j n := by
  induction n with
  | zero => rfl
  | succ n ih =>
    simp only [lastN]
    rw [ih]
    unfold lastW
    rw [rN_eqQ h, nothB_congr (rF_eqQ h), leastT_congr (rF_eqQ h), chG_eqQ h, chC_eqQ h, h.2 29 (by omega) (by omega), h.2 30 (by omega) (by omega), h.2 31 (by omega) (by omega), h.2 32 (by omega) (by omega)]
def nKa (k : Nat) : Int32 := nI (k / 45) - nI 1
def nKb (k : Nat) : Int32 := nI (k / 15 % 3) - nI 1
def nKc (k : Nat) : Int32 := nI (k / 5 % 3) - nI 1
def nKd (k : Nat) : Int32 := nI (k % 5) - nI 2
/-- the row that is tried -/
def naJ (J : gm_J) (r k : Nat) : gm_J := gm_up (gm_up (gm_up (gm_up J r 29 (nKa k).toInt64) r 30 (nKb k).toInt64) r 31 (nKc k).toInt64) r 32 (nKd k).toInt64
def ndT (I : gm_I) (J : gm_J) (r j k : Nat) : Nat := if numB (nN (I (r + 1) j)) (nKa k) (nKb k) (nKc k) (nI 1) = true ∧ lastN I (naJ J r k) r j (nN (I (r + 2) j)) = true ∧ (leftR I (naJ J r k) r j true).2 = 0 then 1 else 0
/-- equal but for the scratch, what is kept, and the need -/
def eqN (r : Nat) (I : gm_I) (J : gm_J) (I' : gm_I) (J' : gm_J) : Prop :=
  (∀ q k, ¬ (q = r ∧ (k = 13 ∨ k = 15 ∨ k = 20 ∨ k = 33) ∨ q = r + 11 ∨ q = r + 16) → I' q k = I q k) ∧ (∀ q k, ¬ (q = r ∧ (21 ≤ k ∧ k ≤ 32 ∨ 35 ≤ k ∧ k ≤ 37) ∨ r + 12 ≤ q ∧ q ≤ r + 15) → J' q k = J q k) ∧ ∃ b, I' r 20 = bI b
theorem eqN_trans {r : Nat} {I I1 I2 : gm_I} {J J1 J2 : gm_J} (h1 : eqN r I J I1 J1) (h2 : eqN r I1 J1 I2 J2) : eqN r I J I2 J2 :=
  ⟨fun q k h => (h2.1 q k h).trans (h1.1 q k h), fun q k h => (h2.2.1 q k h).trans (h1.2.1 q k h), h2.2.2⟩
theorem eqN_L {r : Nat} {I I1 : gm_I} {J J1 : gm_J} (h : eqL r I J I1 J1) : eqN r I J I1 J1 := ⟨fun q k n => h.1 q k (by omega), fun q k n => h.2.1 q k (by omega), h.2.2⟩
theorem inv_eqN {r : Nat} {I I1 : gm_I} {J J1 : gm_J} (h : eqN r I J I1 J1) (hV : inv_Md I r) : inv_Md I1 r := by
  have e : ∀ {q k b : Nat}, ¬ (q = r ∧ (k = 13 ∨ k = 15 ∨ k = 20 ∨ k = 33) ∨ q = r + 11 ∨ q = r + 16) → nle I q k b → nle I1 q k b := fun hq ⟨g, hg, e⟩ => ⟨g, hg, (h.1 _ _ hq).trans e⟩
  exact ⟨e (by omega) hV.1, fun j hj => e (by omega) (hV.2.1 j hj), fun j hj => e (by omega) (hV.2.2.1 j hj), fun j hj => e (by omega) (hV.2.2.2.1 j hj), fun j hj => e (by omega) (hV.2.2.2.2.1 j hj), e (by omega) hV.2.2.2.2.2⟩
/-- with the row laid down, a question is asked of I and naJ J r k -/
theorem eqQ_N {r k : Nat} {I I1 I2 : gm_I} {J J1 J2 : gm_J} (h : eqN r I J I1 J1) (h1 : ∀ c, 1 ≤ c → c ≤ 8 → ∀ i, I2 (r + c) i = I1 (r + c) i) (h2 : ∀ i, 29 ≤ i → i ≤ 32 → J2 r i = naJ J1 r k r i) : eqQ r I (naJ J r k) I2 J2 := by
  refine ⟨fun c hc hc8 i => (h1 c hc hc8 i).trans (h.1 _ _ (by omega)), fun i h29 h32 => (h2 i h29 h32).trans ?_⟩
  unfold naJ
  rcases (show i = 29 ∨ i = 30 ∨ i = 31 ∨ i = 32 by omega) with rfl | rfl | rfl | rfl <;> simp [gm_up]
