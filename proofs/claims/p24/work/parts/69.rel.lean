def relL (I : gm_I) (B r j : Nat) : Prop := I (B + 12 + 21 * j) 0 = I (r + 1) j ∧ I (B + 12 + 21 * j) 3 = I (r + 2) j ∧ I (B + 12 + 21 * j + 1) 2 = I (r + 3) j ∧ ∀ i, i < 16 → I (B + 12 + 21 * j + 1 + 1) i = I (r + 4) (16 * j + i)
def relW (I : gm_I) (B r j k : Nat) : Prop := I (B + 12 + 21 * j + 6 + 5 * k + 1) 2 = I (r + 5) (3 * j + k) ∧ (∀ i, i < 8 → I (B + 12 + 21 * j + 6 + 5 * k + 1 + 1) i = I (r + 6) (8 * (3 * j + k) + i)) ∧ (∀ i, i < 9 → I (B + 12 + 21 * j + 6 + 5 * k + 3) i = I (r + 7) (9 * (3 * j + k) + i)) ∧ ∀ i, i < 3 → I (B + 12 + 21 * j + 6 + 5 * k + 4) i = I (r + 8) (3 * (3 * j + k) + i)
/-- both objects have the same loops, guards, ways, rows, factors, constants -/
def relI (I : gm_I) (B r : Nat) : Prop := I B 1 = I r 0 ∧ (∀ j, j < 8 → relL I B r j) ∧ ∀ j k, j < 8 → k < 3 → relW I B r j k
/-- what a question changes of the reference's ints -/
def qM (r : Nat) (I I' : gm_I) : Prop := ∀ q k, ¬ (q = r ∧ (k = 10 ∨ k = 12 ∨ k = 13 ∨ k = 15 ∨ k = 20 ∨ k = 33) ∨ q = r + 10 ∨ q = r + 11 ∨ q = r + 16) → I' q k = I q k
/-- all that holds between calls -/
def SI (I : gm_I) (B r : Nat) : Prop := r = B + 216 ∧ inv_FT I B ∧ inv_Md I r ∧ (∃ b, I r 20 = bI b) ∧ relI I B r
section REL
variable {I I1 I2 : gm_I} {J J1 J2 : gm_J} {B r : Nat}
theorem relI.keep (h : relI I B r) (h1 : I1 B 1 = I B 1) (hc : ∀ q, B + 12 ≤ q → q < B + 180 → I1 q = I q) (h0 : I1 r 0 = I r 0) (hr : ∀ c, 1 ≤ c → c ≤ 8 → I1 (r + c) = I (r + c)) : relI I1 B r := by
  refine ⟨by rw [h1, h0]; exact h.1, fun j hj => ?_, fun j k hj hk => ?_⟩
  · have g := h.2.1 j hj
    unfold relL at g ⊢
    rw [hc _ (by omega) (by omega), hc (B + 12 + 21 * j + 1) (by omega) (by omega), hc (B + 12 + 21 * j + 1 + 1) (by omega) (by omega), hr 1 (by omega) (by omega), hr 2 (by omega) (by omega), hr 3 (by omega) (by omega), hr 4 (by omega) (by omega)]
    exact g
  · have g := h.2.2 j k hj hk
    unfold relW at g ⊢
    rw [hc (B + 12 + 21 * j + 6 + 5 * k + 1) (by omega) (by omega), hc (B + 12 + 21 * j + 6 + 5 * k + 1 + 1) (by omega) (by omega), hc (B + 12 + 21 * j + 6 + 5 * k + 3) (by omega) (by omega), hc (B + 12 + 21 * j + 6 + 5 * k + 4) (by omega) (by omega), hr 5 (by omega) (by omega), hr 6 (by omega) (by omega), hr 7 (by omega) (by omega), hr 8 (by omega) (by omega)]
    exact g
theorem inv_Md.keep (h : inv_Md I r) (h0 : I1 r 0 = I r 0) (h10 : nle I1 r 10 3) (hr : ∀ c, 1 ≤ c → c ≤ 8 → I1 (r + c) = I (r + c)) : inv_Md I1 r := by
  refine ⟨?_, fun j hj => (h.2.1 j hj).off (hr 1 (by omega) (by omega)), fun j hj => (h.2.2.1 j hj).off (hr 2 (by omega) (by omega)), fun j hj => (h.2.2.2.1 j hj).off (hr 3 (by omega) (by omega)), fun j hj => (h.2.2.2.2.1 j hj).off (hr 5 (by omega) (by omega)), h10⟩
  obtain ⟨g, hg, e⟩ := h.1
  exact ⟨g, hg, h0.trans e⟩
/-- a question of the class keeps all -/
theorem SI.cls (h : SI I B r) (hs : sfF B I J (I1, J1)) : SI I1 B r := by
  obtain ⟨hr, hF, hM, ⟨b, hb⟩, hR⟩ := h
  have hk : ∀ c, I1 (r + c) = I (r + c) := fun c => (hs.1.1 (r + c) (by omega)).1
  have hk0 : I1 r = I r := hk 0
  refine ⟨hr, hs.2, hM.keep (by rw [hk0]) (hM.2.2.2.2.2.off hk0) (fun c _ _ => hk c), ⟨b, by rw [hk0]; exact hb⟩, hR.keep hs.1.2 (fun q h1 h2 => (hs.1.1 q (by omega)).1) (by rw [hk0]) (fun c _ _ => hk c)⟩
/-- a question of the reference keeps all -/
theorem SI.ref (h : SI I B r) (hq : qM r I I1) (hb : ∃ b, I1 r 20 = bI b) (h10 : nle I1 r 10 3) : SI I1 B r := by
  obtain ⟨hr, hF, hM, _, hR⟩ := h
  have hk : ∀ c, 1 ≤ c → c ≤ 8 → I1 (r + c) = I (r + c) := fun c h1 h8 => by funext k; exact hq _ _ (by omega)
  have hl : ∀ q, q < r → I1 q = I q := fun q h => by funext k; exact hq _ _ (by omega)
  have h0 : I1 r 0 = I r 0 := hq _ _ (by omega)
  have hO : offR r (r + 16) I I1 (fun _ _ => 0) (fun _ _ => 0) := fun q h => ⟨by funext k; exact hq _ _ (by omega), rfl⟩
  have eB : I1 B = I B := hl B (by omega)
  refine ⟨hr, ⟨hF.1.off eB, fun j hj => (hF.2.1 j hj).off hO (by omega), hF.2.2.1.off hO (by omega), hF.2.2.2.1.off hO (by omega), fun k hk => (hF.2.2.2.2.1 k hk).off hO (by omega), by rw [eB]; exact hF.2.2.2.2.2⟩, hM.keep h0 h10 hk, hb, hR.keep (by rw [eB]) (fun q h1 h2 => hl q (by omega)) h0 hk⟩
theorem SI.refS (h : SI I B r) (hs : eqS r I J I1 J1) : SI I1 B r := h.ref (fun q k n => hs.1 q k (by omega)) hs.2.2 (by obtain ⟨g, hg, e⟩ := h.2.2.1.2.2.2.2.2; exact ⟨g, hg, (hs.1 _ _ (by omega)).trans e⟩)
theorem SI.refP {j : Nat} {z : Int32} (h : SI I B r) (hs : proveP I J r j z (I1, J1)) : SI I1 B r := h.ref (fun q k n => hs.2.2.1.1 q k (by omega)) hs.2.2.1.2.2 ⟨_, hs.1, hs.2.2.2.2.1⟩
theorem SI.refN {j : Nat} {z : Int32} (h : SI I B r) (hs : needP I J r j z (I1, J1)) : SI I1 B r := h.ref (fun q k n => hs.1.1 q k (by omega)) hs.1.2.2 (by obtain ⟨g, hg, e⟩ := h.2.2.1.2.2.2.2.2; exact ⟨g, hg, (hs.1.1 _ _ (by omega)).trans e⟩)
/-- what is the same for both objects -/
theorem SI.cnt (h : SI I B r) : ∃ n, n ≤ 8 ∧ I B 1 = nI n ∧ I r 0 = nI n := by
  obtain ⟨n, hn, e⟩ := h.2.1.1
  exact ⟨n, hn, e, h.2.2.2.2.1.symm.trans e⟩
theorem lp_same {n : Nat} {v : Int32} (e : I r 0 = nI n) : lpB I r v = inI v 0 (nI n - 1) := by unfold lpB; rw [e]
/-- a change of the loop j alone -/
theorem inv_FT.lp {j : Nat} (h : inv_FT I B) (hO : offR (B + 12 + 21 * j) (B + 12 + 21 * j + 20) I I1 J J1) (hj : j < 8) (hL : inv_Lp I1 (B + 12 + 21 * j)) : inv_FT I1 B := by
  have e0 : I1 B = I B := hO.i (by omega)
  refine ⟨h.1.off e0, fun i hi => ?_, h.2.2.1.off hO (by omega), h.2.2.2.1.off hO (by omega), fun k hk => (h.2.2.2.2.1 k hk).off hO (by omega), by rw [e0]; exact h.2.2.2.2.2⟩
  by_cases e : i = j
  · rw [e]; exact hL
  · exact (h.2.1 i hi).off hO (by omega)
theorem inv_FT.b1 {g : Nat} (h : inv_FT I B) (hg : g ≤ 8) : inv_FT (gm_up I B 1 (nI g)) B := by
  have hO : offR B B I (gm_up I B 1 (nI g)) (fun _ _ => 0) (fun _ _ => 0) := offR.nil.upI (by omega)
  refine ⟨nle.set hg, fun j hj => (h.2.1 j hj).off hO (by omega), h.2.2.1.off hO (by omega), h.2.2.2.1.off hO (by omega), fun k hk => (h.2.2.2.2.1 k hk).off hO (by omega), ?_⟩
  rw [gm_up_ne _ _ (by omega)]; exact h.2.2.2.2.2
/-- the loop j' of the reference is as it was -/
def refL (I I2 : gm_I) (r j : Nat) : Prop := I2 (r + 1) j = I (r + 1) j ∧ I2 (r + 2) j = I (r + 2) j ∧ I2 (r + 3) j = I (r + 3) j ∧ (∀ i, i < 16 → I2 (r + 4) (16 * j + i) = I (r + 4) (16 * j + i)) ∧ ∀ k, k < 3 → I2 (r + 5) (3 * j + k) = I (r + 5) (3 * j + k) ∧ (∀ i, i < 8 → I2 (r + 6) (8 * (3 * j + k) + i) = I (r + 6) (8 * (3 * j + k) + i)) ∧ (∀ i, i < 9 → I2 (r + 7) (9 * (3 * j + k) + i) = I (r + 7) (9 * (3 * j + k) + i)) ∧ ∀ i, i < 3 → I2 (r + 8) (3 * (3 * j + k) + i) = I (r + 8) (3 * (3 * j + k) + i)
theorem relI.lp {j : Nat} (h : relI I B r) (h1 : I2 B 1 = I2 r 0) (hO : ∀ q, B + 12 ≤ q → q < B + 180 → (q < B + 12 + 21 * j ∨ B + 12 + 21 * j + 20 < q) → I2 q = I q) (hR : ∀ i, i < 8 → i ≠ j → refL I I2 r i) (hj : relL I2 B r j) (hw : ∀ k, k < 3 → relW I2 B r j k) : relI I2 B r := by
  refine ⟨h1, fun i hi => ?_, fun i k hi hk => ?_⟩
  · by_cases e : i = j
    · rw [e]; exact hj
    · have g := h.2.1 i hi
      obtain ⟨a1, a2, a3, a4, _⟩ := hR i hi e
      unfold relL at g ⊢
      rw [hO (B + 12 + 21 * i) (by omega) (by omega) (by omega), hO (B + 12 + 21 * i + 1) (by omega) (by omega) (by omega), hO (B + 12 + 21 * i + 1 + 1) (by omega) (by omega) (by omega), a1, a2, a3]
      exact ⟨g.1, g.2.1, g.2.2.1, fun x hx => (g.2.2.2 x hx).trans (a4 x hx).symm⟩
  · by_cases e : i = j
    · rw [e]; exact hw k hk
    · have g := h.2.2 i k hi hk
      obtain ⟨_, _, _, _, a5⟩ := hR i hi e
      obtain ⟨b1, b2, b3, b4⟩ := a5 k hk
      unfold relW at g ⊢
      rw [hO (B + 12 + 21 * i + 6 + 5 * k + 1) (by omega) (by omega) (by omega), hO (B + 12 + 21 * i + 6 + 5 * k + 1 + 1) (by omega) (by omega) (by omega), hO (B + 12 + 21 * i + 6 + 5 * k + 3) (by omega) (by omega) (by omega), hO (B + 12 + 21 * i + 6 + 5 * k + 4) (by omega) (by omega) (by omega), b1]
      exact ⟨g.1, fun x hx => (g.2.1 x hx).trans (b2 x hx).symm, fun x hx => (g.2.2.1 x hx).trans (b3 x hx).symm, fun x hx => (g.2.2.2 x hx).trans (b4 x hx).symm⟩
/-- the class's change leaves what the reference needs -/
theorem SI.md (h : SI I B r) (hk : ∀ q, B + 216 ≤ q → I1 q = I q) : inv_Md I1 r ∧ ∃ b, I1 r 20 = bI b := by
  obtain ⟨hr, _, hM, ⟨b, hb⟩, _⟩ := h
  have e : ∀ c, I1 (r + c) = I (r + c) := fun c => hk _ (by omega)
  have e0 : I1 r = I r := e 0
  exact ⟨hM.keep (by rw [e0]) (hM.2.2.2.2.2.off e0) (fun c _ _ => e c), b, by rw [e0]; exact hb⟩
end REL
