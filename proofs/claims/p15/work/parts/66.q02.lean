-- SPACES IN MEMORY: the turn, the beginning, a row more
theorem sp_turn8 (J : gm_J) (q i : Nat) (x0 x1 x2 x3 y0 y1 y2 y3 : Int64) :
    gm_up (gm_up (gm_up (gm_up (gm_up (gm_up (gm_up (gm_up J (q + 5) 0 x0) (q + 1) (4 * i + 0) y0) (q + 5) 1 x1) (q + 1) (4 * i + 1) y1) (q + 5) 2 x2) (q + 1) (4 * i + 2) y2) (q + 5) 3 x3) (q + 1) (4 * i + 3) y3 = sp_up4 (sp_up4 J (q + 5) 0 x0 x1 x2 x3) (q + 1) (4 * i) y0 y1 y2 y3 := by
  funext p j
  by_cases h5 : p = q + 5
  · simp only [sp_up4, gm_up, h5]
    simp
  · by_cases h1 : p = q + 1
    · simp only [sp_up4, gm_up, h1]
      simp
    · rw [show sp_up4 (sp_up4 J (q + 5) 0 x0 x1 x2 x3) (q + 1) (4 * i) y0 y1 y2 y3 p = J p by rw [sp_up4_off h1, sp_up4_off h5]]
      rw [gm_up_off _ _ _ h1, gm_up_off _ _ _ h5, gm_up_off _ _ _ h1, gm_up_off _ _ _ h5, gm_up_off _ _ _ h1, gm_up_off _ _ _ h5, gm_up_off _ _ _ h1, gm_up_off _ _ _ h5]
/-- the lines that stay when the line i is turned: the last one comes into its place -/
def sp_rem (L : List dd_V) (i : Nat) : List dd_V := (L.set i (L[L.length - 1]?.getD dd_0)).dropLast
theorem sp_rem_len (L : List dd_V) (i : Nat) : (sp_rem L i).length = L.length - 1 := by
  unfold sp_rem; rw [List.length_dropLast, List.length_set]
theorem sp_rem_mem {L : List dd_V} {i : Nat} {v : dd_V} (hi : i < L.length) (h : v ∈ sp_rem L i) : v ∈ L := by
  unfold sp_rem at h
  have h1 := (List.dropLast_sublist _).subset h
  rcases List.mem_or_eq_of_mem_set h1 with h2 | h2
  · exact h2
  · rw [h2, List.getElem?_eq_getElem (show L.length - 1 < L.length by omega)]
    exact List.getElem_mem _
theorem sp_rem_get {L : List dd_V} {i m : Nat} {v : dd_V} (hi : i < L.length) (h : (sp_rem L i)[m]? = some v) : m < L.length - 1 ∧ ((m = i ∧ L[L.length - 1]? = some v) ∨ (m ≠ i ∧ L[m]? = some v)) := by
  have hm := sq_lt h
  rw [sp_rem_len] at hm
  refine ⟨hm, ?_⟩
  unfold sp_rem at h
  rw [List.getElem?_dropLast, if_pos (by rw [List.length_set]; exact hm), List.getElem?_set] at h
  by_cases c : i = m
  · rw [if_pos c, if_pos hi] at h
    refine Or.inl ⟨c.symm, ?_⟩
    obtain ⟨w, hw⟩ := sq_get (X := L) (i := L.length - 1) (by omega)
    rw [hw] at h
    rw [hw]; exact h
  · rw [if_neg c] at h
    exact Or.inr ⟨fun e => c e.symm, h⟩
/-- behind the first part of the turn -/
def t8 (J J8 : gm_J) (q i : Nat) (L : List dd_V) (p : dd_V) : Prop := (∀ a, a ≠ q + 1 → a ≠ q + 5 → J8 a = J a) ∧ sp_vec J8 (q + 5) 0 = p ∧ sp_L J8 (q + 1) (sp_rem L i)
theorem t8.of {J J8 : gm_J} {q i : Nat} {L : List dd_V} {v0 : dd_V} {sg : Int64} {sz : Int} (hL : sp_L J (q + 1) L) (hi : L[i]? = some v0) (hb : dd_bd v0) (hs : dd_R sg sz 1)
    (e : J8 = sp_up4 (sp_up4 J (q + 5) 0 (sg * J (q + 1) (4 * i)) (sg * J (q + 1) (4 * i + 1)) (sg * J (q + 1) (4 * i + 2)) (sg * J (q + 1) (4 * i + 3))) (q + 1) (4 * i) (J (q + 1) (4 * (L.length - 1))) (J (q + 1) (4 * (L.length - 1) + 1)) (J (q + 1) (4 * (L.length - 1) + 2)) (J (q + 1) (4 * (L.length - 1) + 3))) : t8 J J8 q i L (dd_mul sz v0) := by
  have hil := sq_lt hi
  refine ⟨fun a h1 h5 => ?_, ?_, ?_⟩
  · rw [e, sp_up4_off h1, sp_up4_off h5]
  · rw [e, sp_vec_off (sp_up4_off (by omega)), sp_up4_vec]
    have hv := hL i v0 hi
    subst hv
    obtain ⟨b1, b2, b3, b4⟩ := sp_bd_max hb
    have key : ∀ x : Int64, x.toInt.natAbs ≤ 486000 → (sg * x).toInt = sz * x.toInt := fun x hx => (hs.mul (show dd_R x x.toInt 486000 from ⟨rfl, by omega, by omega⟩) (by decide)).1
    exact Prod.ext (key _ b1) (Prod.ext (key _ b2) (Prod.ext (key _ b3) (key _ b4)))
  · intro m v hm
    obtain ⟨h1, h2⟩ := sp_rem_get hil hm
    rw [e]
    rcases h2 with ⟨rfl, h2⟩ | ⟨hne, h2⟩
    · rw [sp_up4_vec]; exact hL _ v h2
    · rw [sp_vec_in (J := J) (fun k k1 k2 => by rw [sp_up4_in (by omega), sp_up4_off (by omega)])]
      exact hL m v h2
def tF (p h v : dd_V) : dd_V := dd_red (dd_sh p h v)
/-- the lines, k of them moved -/
def tL (J8 J' : gm_J) (q : Nat) (M : List dd_V) (p h : dd_V) (k : Nat) : Prop := (∀ a, a ≠ q + 1 → J' a = J8 a) ∧ ∀ m v, M[m]? = some v → sp_vec J' (q + 1) (4 * m) = if m < k then tF p h v else v
theorem tL.nil {J8 : gm_J} {q : Nat} {M : List dd_V} {p h : dd_V} (hM : sp_L J8 (q + 1) M) : tL J8 J8 q M p h 0 := ⟨fun _ _ => rfl, fun m v hm => by rw [if_neg (Nat.not_lt_zero _)]; exact hM m v hm⟩
theorem tL.step {I : gm_I} {J8 J' : gm_J} {q k : Nat} {M : List dd_V} {p h v : dd_V} {u : gm_M} (H : tL J8 J' q M p h k) (hv : M[k]? = some v) (hp : sp_vec J8 (q + 5) 0 = p) (hu : shP I J' q (q + 1) (4 * k) (dd_ev h p) (dd_ev h v) u) : tL J8 u.2 q M p h (k + 1) := by
  obtain ⟨_, u2, u3, u4⟩ := hu
  refine ⟨fun a ha => (u2 a ha).trans (H.1 a ha), fun m w hm => ?_⟩
  by_cases c : m = k
  · subst c
    rw [hm] at hv
    rw [if_pos (by omega), u4, H.2 m w hm, if_neg (by omega), sp_vec_off (H.1 (q + 5) (by omega)), hp, Option.some.inj hv]; rfl
  · rw [sp_vec_in (J := J') (fun j j1 j2 => u3 j (by omega)), H.2 m w hm]
    by_cases c2 : m < k
    · rw [if_pos c2, if_pos (by omega)]
    · rw [if_neg c2, if_neg (by omega)]
/-- the rays, k of them moved -/
def tR (I1 I' : gm_I) (J1 J' : gm_J) (q : Nat) (rows R : List dd_V) (p h : dd_V) (k : Nat) : Prop := (∀ a, a ≠ q + 3 → I' a = I1 a) ∧ (∀ a, a ≠ q + 2 → J' a = J1 a) ∧ ∀ m v, R[m]? = some v → sp_vec J' (q + 2) (4 * m) = (if m < k then tF p h v else v) ∧ I' (q + 3) m = nI (if m < k then dd_mask rows v + 2 ^ rows.length else dd_mask rows v)
theorem tR.nil {I1 : gm_I} {J1 : gm_J} {q : Nat} {rows R : List dd_V} {p h : dd_V} (hR : sp_L J1 (q + 2) R) (hT : sp_T I1 (q + 3) (R.map (dd_mask rows))) : tR I1 I1 J1 J1 q rows R p h 0 := by
  refine ⟨fun _ _ => rfl, fun _ _ => rfl, fun m v hm => ?_⟩
  rw [if_neg (Nat.not_lt_zero _), if_neg (Nat.not_lt_zero _)]
  exact ⟨hR m v hm, hT m _ (by rw [List.getElem?_map, hm]; rfl)⟩
theorem tR.step {I0 I1 I' : gm_I} {J1 J' : gm_J} {q k : Nat} {rows R : List dd_V} {p h v : dd_V} {u : gm_M} (H : tR I1 I' J1 J' q rows R p h k) (hv : R[k]? = some v) (hp : sp_vec J1 (q + 5) 0 = p) (hu : shP I0 J' q (q + 2) (4 * k) (dd_ev h p) (dd_ev h v) u) : tR I1 (gm_up I' (q + 3) k (I' (q + 3) k ||| nI (2 ^ rows.length))) J1 u.2 q rows R p h (k + 1) := by
  obtain ⟨_, u2, u3, u4⟩ := hu
  obtain ⟨H1, H2, H3⟩ := H
  refine ⟨fun a ha => (gm_up_off _ _ _ ha).trans (H1 a ha), fun a ha => (u2 a ha).trans (H2 a ha), fun m w hm => ?_⟩
  by_cases c : m = k
  · subst c
    rw [hm] at hv
    obtain ⟨k1, k2⟩ := H3 m w hm
    rw [if_neg (by omega)] at k1 k2
    rw [if_pos (by omega), if_pos (by omega), u4, k1, sp_vec_off (H2 (q + 5) (by omega)), hp, gm_up_same, k2, sp_orp (dd_mask_lt _ _), Option.some.inj hv]
    exact ⟨rfl, rfl⟩
  · obtain ⟨k1, k2⟩ := H3 m w hm
    rw [sp_vec_in (J := J') (fun j j1 j2 => u3 j (by omega)), k1, gm_up_ne _ _ (Or.inr c), k2]
    by_cases c2 : m < k
    · rw [if_pos c2, if_pos c2, if_pos (by omega), if_pos (by omega)]; exact ⟨rfl, rfl⟩
    · rw [if_neg c2, if_neg c2, if_neg (by omega), if_neg (by omega)]; exact ⟨rfl, rfl⟩
/-- the turn's outcome -/
def tuP (I : gm_I) (J : gm_J) (q i : Nat) (rows L R : List dd_V) (p h : dd_V) (u : gm_M) : Prop :=
  offR q (q + 5) I u.1 J u.2 ∧ u.1 q 1 = nI (L.length - 1) ∧ u.1 q 7 = I q 7 ∧ u.1 q 3 = nI (R.length + 1) ∧ sp_L u.2 (q + 1) ((sp_rem L i).map (tF p h)) ∧ sp_L u.2 (q + 2) (R.map (tF p h) ++ [p]) ∧ sp_T u.1 (q + 3) (R.map (fun r => dd_mask rows r + 2 ^ rows.length) ++ [2 ^ rows.length - 1])
theorem tu_fin {I I1 I2 : gm_I} {J J8 J1 J2 : gm_J} {q i k k2 : Nat} {rows L R : List dd_V} {p h : dd_V} {u : gm_M} (e1 : I1 = gm_up I q 1 (nI (L.length - 1))) (h8 : t8 J J8 q i L p) (hk : L.length - 1 ≤ k) (hT : tL J8 J1 q (sp_rem L i) p h k) (hk2 : R.length ≤ k2) (hR : tR I1 I2 J1 J2 q rows R p h k2) (hn : R.length < 32) (ha : apP q R.length (nI (2 ^ rows.length - 1)) I2 J2 u) : tuP I J q i rows L R p h u := by
  obtain ⟨R1, R2, R3⟩ := hR
  have r := sp_ap (Z := R.map (tF p h)) (T := R.map (fun r => dd_mask rows r + 2 ^ rows.length)) (p := p) (tt := 2 ^ rows.length - 1) ha hn (by rw [List.length_map]) (by rw [List.length_map]) (fun m v hm => by
    obtain ⟨w, hw, e⟩ := sq_map hm
    rw [(R3 m w hw).1, if_pos (by have := sq_lt hw; omega), e]) (fun m t hm => by
    obtain ⟨w, hw, e⟩ := sq_map hm
    rw [(R3 m w hw).2, if_pos (by have := sq_lt hw; omega), e]) (by rw [sp_vec_off (R2 (q + 5) (by omega)), sp_vec_off (hT.1 (q + 5) (by omega)), h8.2.1]) rfl
  obtain ⟨r1, r2, r3, r4, r5, r6⟩ := r
  refine ⟨fun a ha => ⟨?_, ?_⟩, ?_, ?_, r1, ?_, r2, r3⟩
  · rw [r4 a (by omega) (by omega), R1 a (by omega), e1, gm_up_off _ _ _ (by omega)]
  · rw [r6 a (by omega), R2 a (by omega), hT.1 a (by omega), h8.1 a (by omega) (by omega)]
  · rw [r5 1 (by omega), R1 q (by omega), e1, gm_up_same]
  · rw [r5 7 (by omega), R1 q (by omega), e1, gm_up_ne _ _ (Or.inr (by omega))]
  · intro m v hm
    obtain ⟨w, hw, e⟩ := sq_map hm
    have hl := sq_lt hw
    rw [sp_rem_len] at hl
    rw [sp_vec_off (r6 (q + 1) (by omega)), sp_vec_off (R2 (q + 1) (by omega)), hT.2 m w hw, if_pos (by omega), e]
theorem sp_sign {r sg : Int64} {h v0 : dd_V} {B : Int} (hr : dd_R r (dd_ev h v0) B) (hB : B ≤ 17496000) (hne : dd_ev h v0 ≠ 0) (hs : (r < 0 ∧ sg = -1) ∨ (¬ r < 0 ∧ sg = 1)) : ∃ z : Int, (z = 1 ∨ z = -1) ∧ dd_R sg z 1 ∧ dd_R (r * sg) (dd_ev h (dd_mul z v0)) 17496000 ∧ 0 < dd_ev h (dd_mul z v0) := by
  have hr2 := hr.le hB
  rcases hs with ⟨h1, rfl⟩ | ⟨h1, rfl⟩
  · have h2 := hr.neg'.mp h1
    have k : dd_R (-1 : Int64) (-1) 1 := ⟨rfl, by omega, by omega⟩
    refine ⟨-1, Or.inr rfl, k, ?_, ?_⟩
    · rw [dd_ev_mul, Int.mul_comm]
      exact (hr2.mul k (by decide)).le (by decide)
    · rw [dd_ev_mul]; omega
  · have h2 : ¬ dd_ev h v0 < 0 := fun q => h1 (hr.neg'.mpr q)
    refine ⟨1, Or.inl rfl, dd_R1, ?_, ?_⟩
    · rw [dd_ev_mul, Int.mul_comm]
      exact (hr2.mul dd_R1 (by decide)).le (by decide)
    · rw [dd_ev_mul]; omega
theorem sp_mul_bd {z : Int} {v : dd_V} (hz : z = 1 ∨ z = -1) (h : dd_bd v) : dd_bd (dd_mul z v) := by
  obtain ⟨h1, h2, h3, h4⟩ := h
  rcases hz with rfl | rfl
  · rw [dd_1_mul]; exact ⟨h1, h2, h3, h4⟩
  · refine ⟨?_, ?_, ?_, ?_⟩
    · show (-1 * v.1).natAbs ≤ 486000; omega
    · show (-1 * v.2.1).natAbs ≤ 486000; omega
    · show (-1 * v.2.2.1).natAbs ≤ 486000; omega
    · show (-1 * v.2.2.2).natAbs ≤ 4374; omega
/-- the numbers of the lines at the beginning -/
def bgJ (J J' : gm_J) (q k : Nat) : Prop := (∀ a, a ≠ q + 1 → J' a = J a) ∧ ∀ j, j < k → J' (q + 1) j = if j % 4 = j / 4 then 1 else 0
theorem bgJ.nil {J : gm_J} {q : Nat} : bgJ J J q 0 := ⟨fun _ _ => rfl, fun _ hj => absurd hj (Nat.not_lt_zero _)⟩
theorem bgJ.step {J J' : gm_J} {q k : Nat} {x : Int64} (H : bgJ J J' q k) (hx : x = if k % 4 = k / 4 then 1 else 0) : bgJ J (gm_up J' (q + 1) k x) q (k + 1) := by
  refine ⟨fun a ha => (gm_up_off _ _ _ ha).trans (H.1 a ha), fun j hj => ?_⟩
  by_cases c : j = k
  · subst c; rw [gm_up_same]; exact hx
  · rw [gm_up_ne _ _ (Or.inr c)]; exact H.2 j (by omega)
theorem bg_lines {J J' : gm_J} {q n k : Nat} (H : bgJ J J' q k) (h1 : 1 ≤ n) (h3 : n ≤ 3) (hk : 4 * n ≤ k) : sp_L J' (q + 1) (dd_un n) ∧ (dd_un n).length = n := by
  have hn : n = 1 ∨ n = 2 ∨ n = 3 := by omega
  have key : ∀ m, 4 * m + 3 < k → sp_vec J' (q + 1) (4 * m) = ((if (4 * m) % 4 = (4 * m) / 4 then (1 : Int64) else 0).toInt, (if (4 * m + 1) % 4 = (4 * m + 1) / 4 then (1 : Int64) else 0).toInt, (if (4 * m + 2) % 4 = (4 * m + 2) / 4 then (1 : Int64) else 0).toInt, (if (4 * m + 3) % 4 = (4 * m + 3) / 4 then (1 : Int64) else 0).toInt) := by
    intro m hm
    unfold sp_vec
    rw [H.2 (4 * m) (by omega), H.2 (4 * m + 1) (by omega), H.2 (4 * m + 2) (by omega), H.2 (4 * m + 3) (by omega)]
  have g : ∀ l : List dd_V, l = dd_un n → ∀ m v, l[m]? = some v → sp_vec J' (q + 1) (4 * m) = v := by
    intro l hl m v hv
    rcases hn with rfl | rfl | rfl
    · subst hl
      match m, hv with
      | 0, hv => rw [key 0 (by omega)]; exact Option.some.inj hv
    · subst hl
      match m, hv with
      | 0, hv => rw [key 0 (by omega)]; exact Option.some.inj hv
      | 1, hv => rw [key 1 (by omega)]; exact Option.some.inj hv
    · subst hl
      match m, hv with
      | 0, hv => rw [key 0 (by omega)]; exact Option.some.inj hv
      | 1, hv => rw [key 1 (by omega)]; exact Option.some.inj hv
      | 2, hv => rw [key 2 (by omega)]; exact Option.some.inj hv
  exact ⟨g _ rfl, by rcases hn with rfl | rfl | rfl <;> rfl⟩
theorem sp_q {J : gm_J} {a k : Nat} {v : dd_V} (h : sp_vec J a (4 * k) = v) : 0 < J a (4 * k + 3) ↔ 0 < v.2.2.2 := by
  subst h
  rw [Int64.lt_iff_toInt_lt]
  exact Iff.rfl
/-- nothing is left where there is no point -/
def dnP (I : gm_I) (J : gm_J) (q : Nat) (R : List dd_V) (u : gm_M) : Prop := ((∃ r ∈ R, 0 < dd_ev dd_e4 r) ∧ u = (I, J)) ∨ ((∀ r ∈ R, ¬ 0 < dd_ev dd_e4 r) ∧ u = (gm_up (gm_up I q 3 (nI 0)) q 1 (nI 0), J))
theorem dn_yes {I : gm_I} {J : gm_J} {q k : Nat} {R : List dd_V} (hR : sp_L J (q + 2) R) (hk : k < R.length) (h0 : 0 < J (q + 2) (4 * k + 3)) : dnP I J q R (I, J) := by
  obtain ⟨v, hv⟩ := sq_get hk
  refine Or.inl ⟨⟨v, List.mem_of_getElem? hv, ?_⟩, rfl⟩
  rw [(dd_e_ev v).2.2.2]
  exact (sp_q (hR k v hv)).mp h0
theorem dn_step {J : gm_J} {q k : Nat} {R : List dd_V} (hR : sp_L J (q + 2) R) (hz : ∀ m v, m < k → R[m]? = some v → ¬ 0 < dd_ev dd_e4 v) (h0 : ¬ 0 < J (q + 2) (4 * k + 3)) : ∀ m v, m < k + 1 → R[m]? = some v → ¬ 0 < dd_ev dd_e4 v := by
  intro m v hm hv
  by_cases c : m = k
  · subst c
    rw [(dd_e_ev v).2.2.2]
    exact fun h => h0 ((sp_q (hR m v hv)).mpr h)
  · exact hz m v (by omega) hv
theorem dn_no {I : gm_I} {J : gm_J} {q k : Nat} {R : List dd_V} (hz : ∀ m v, m < k → R[m]? = some v → ¬ 0 < dd_ev dd_e4 v) (hk : R.length ≤ k) : dnP I J q R (gm_up (gm_up I q 3 (nI 0)) q 1 (nI 0), J) := by
  refine Or.inr ⟨fun r hr => ?_, rfl⟩
  obtain ⟨m, hm⟩ := List.getElem?_of_mem hr
  exact hz m r (by have := sq_lt hm; omega) hm
/-- a space in memory, with what is known of it -/
def sp_K (I : gm_I) (J : gm_J) (q : Nat) (A rows : List dd_V) : Prop := ∃ LU R, sp_M I J q rows (LU.map Prod.fst) R ∧ dd_Ok A rows LU R
/-- what a method of a space may do, and what it is behind it -/
def skP (q : Nat) (A rows : List dd_V) (I : gm_I) (J : gm_J) (u : gm_M) : Prop := offR q (q + 5) I u.1 J u.2 ∧ sp_K u.1 u.2 q A rows
theorem sp_M.congr {I I' : gm_I} {J J' : gm_J} {q : Nat} {rows L R : List dd_V} (h : sp_M I J q rows L R) (e : ∀ a, q ≤ a → a ≤ q + 5 → I' a = I a ∧ J' a = J a) : sp_M I' J' q rows L R := by
  obtain ⟨h1, h2, h3, h4, h5, h6⟩ := h
  rw [← (e q (by omega) (by omega)).1] at h1 h2 h3
  refine ⟨h1, h2, h3, fun i v hv => ?_, fun i v hv => ?_, fun i t ht => ?_⟩
  · rw [sp_vec_off (e (q + 1) (by omega) (by omega)).2]; exact h4 i v hv
  · rw [sp_vec_off (e (q + 2) (by omega) (by omega)).2]; exact h5 i v hv
  · rw [(e (q + 3) (by omega) (by omega)).1]; exact h6 i t ht
theorem sp_K.congr {I I' : gm_I} {J J' : gm_J} {q : Nat} {A rows : List dd_V} (h : sp_K I J q A rows) (e : ∀ a, q ≤ a → a ≤ q + 5 → I' a = I a ∧ J' a = J a) : sp_K I' J' q A rows := by
  obtain ⟨LU, R, h1, h2⟩ := h
  exact ⟨LU, R, h1.congr e, h2⟩
/-- the space between the row and the look whether a point is left -/
def sp_M1 (I : gm_I) (J : gm_J) (q : Nat) (rows L R : List dd_V) : Prop := I q 1 = nI L.length ∧ I q 3 = nI R.length ∧ sp_L J (q + 1) L ∧ sp_L J (q + 2) R ∧ sp_T I (q + 3) (R.map (dd_mask rows))
theorem nw_cut {I : gm_I} {J : gm_J} {q : Nat} {rows L R : List dd_V} {h : dd_V} {u : gm_M} (hM : sp_M I J q rows L R) (hu : cuP I J q rows R h u) : sp_M1 u.1 u.2 q (rows ++ [h]) L (dd_cutR rows R h) := by
  obtain ⟨u1, u2, u3, u4, u5, u6, u7⟩ := hu
  exact ⟨u2.trans hM.1, u5, fun i v hv => by rw [sp_vec_off u4]; exact hM.2.2.2.1 i v hv, u6, u7⟩
theorem sp_rem_LU {LU : List (dd_V × dd_V)} {i : Nat} (hi : i < LU.length) (p h : dd_V) : (sp_rem (LU.map Prod.fst) i).map (tF p h) = (((LU.set i (LU[LU.length - 1]'(by omega))).dropLast).map (dd_shU p h)).map Prod.fst := by
  unfold sp_rem
  rw [List.length_map, List.getElem?_map, List.getElem?_eq_getElem (show LU.length - 1 < LU.length by omega)]
  show List.map (tF p h) ((List.map Prod.fst LU).set i (LU[LU.length - 1]).1).dropLast = _
  rw [← List.map_set, ← List.map_dropLast, List.map_map, List.map_map]
  rfl
theorem nw_turn {I : gm_I} {J : gm_J} {q i : Nat} {A rows R : List dd_V} {LU : List (dd_V × dd_V)} {h v0 : dd_V} {z : Int} {u : gm_M} (H : dd_Sp A rows LU R) (hs : dd_sm h) (hz : z = 1 ∨ z = -1) (hi : (LU.map Prod.fst)[i]? = some v0) (hst : 0 < dd_ev h (dd_mul z v0)) (hu : tuP I J q i rows (LU.map Prod.fst) R (dd_mul z v0) h u) :
    ∃ LU' R', sp_M1 u.1 u.2 q (rows ++ [h]) (LU'.map Prod.fst) R' ∧ dd_Sp A (rows ++ [h]) LU' R' := by
  obtain ⟨a0, ha0, e0⟩ := sq_map hi
  subst e0
  have hil := sq_lt ha0
  have ea : a0 = LU[i] := by
    rw [List.getElem?_eq_getElem hil] at ha0; exact (Option.some.inj ha0).symm
  have T := H.turn (h := h) (p := dd_mul z a0.1) (a0 := a0) (sg := z) hs hz rfl hst (LUr := (LU.set i (LU[LU.length - 1]'(by omega))).dropLast) (by rw [ea]; exact dd_swap_perm LU i hil)
  refine ⟨_, _, ?_, T⟩
  obtain ⟨u1, u2, u3, u4, u5, u6, u7⟩ := hu
  have m0 : a0.1 ∈ LU.map Prod.fst := List.mem_map.mpr ⟨a0, List.mem_of_getElem? ha0, rfl⟩
  have pw : ∀ w ∈ rows, dd_ev w (dd_mul z a0.1) = 0 := fun w hw => by rw [dd_ev_mul, H.I.hL a0.1 m0 w hw]; omega
  have ne : ∀ r ∈ R, dd_sh (dd_mul z a0.1) h r ≠ dd_0 := fun r hr => by
    obtain ⟨w, hw, h0⟩ := H.I.hN r hr
    refine dd_ne_0 (w := w) ?_
    rw [dd_sh_ev (pw w hw)]
    have := Int.mul_pos hst h0
    omega
  refine ⟨?_, ?_, ?_, u6, ?_⟩
  · rw [u2]; congr 1
    rw [List.length_map, List.length_map, List.length_map, List.length_dropLast, List.length_set]
  · rw [u4]; congr 1
    rw [List.length_append, List.length_map]; rfl
  · rw [← sp_rem_LU hil]; exact u5
  · rw [List.map_append, List.map_map]
    have e1 : R.map (dd_mask (rows ++ [h]) ∘ fun r => dd_red (dd_sh (dd_mul z a0.1) h r)) = R.map (fun r => dd_mask rows r + 2 ^ rows.length) := by
      refine List.map_congr_left (fun r hr => ?_)
      show dd_mask (rows ++ [h]) (dd_red (dd_sh (dd_mul z a0.1) h r)) = _
      rw [dd_mask_app, if_pos (dd_red_z (dd_sh_h _ h r))]
      congr 1
      refine dd_mask_congr (fun w hw => ?_)
      rw [dd_red_0 (ne r hr), dd_sh_ev (pw w hw)]
      constructor
      · intro q
        rcases Int.mul_eq_zero.mp q with c | c
        · omega
        · exact c
      · intro q; rw [q]; omega
    have e2 : [dd_mul z a0.1].map (dd_mask (rows ++ [h])) = [2 ^ rows.length - 1] := by
      show [dd_mask (rows ++ [h]) (dd_mul z a0.1)] = _
      rw [dd_mask_app, if_neg (by omega), dd_mask_all pw, Nat.add_zero]
    rw [e1, e2]; exact u7
theorem nw_fin {I I1 : gm_I} {J J1 : gm_J} {q : Nat} {A rows R : List dd_V} {LU : List (dd_V × dd_V)} {h : dd_V} {u : gm_M} (hO : offR q (q + 5) I I1 J J1) (hM : sp_M1 I1 J1 q (rows ++ [h]) (LU.map Prod.fst) R) (hb : I1 q 7 = nI (2 ^ rows.length)) (hu : dnP (gm_up I1 q 7 (nI (2 ^ rows.length * 2 ^ 1))) J1 q R u)
    (hk : dd_Sp A (rows ++ [h]) LU R ∧ dd_e4 ∈ rows ∨ (LU = [] ∧ R = [] ∧ ∀ x, ¬ dd_pt A rows x)) : skP q A (rows ++ [h]) I J u := by
  obtain ⟨h1, h2, h3, h4, h5⟩ := hM
  have eb : 2 ^ rows.length * 2 ^ 1 = 2 ^ (rows ++ [h]).length := by rw [List.length_append, List.length_singleton, Nat.pow_add]
  rw [eb] at hu
  rcases hu with ⟨hex, e⟩ | ⟨hno, e⟩
  · subst e
    refine ⟨hO.upI (by omega), LU, R, ⟨?_, ?_, gm_up_same _ _ _ _, h3, h4, fun i t ht => ?_⟩, ?_⟩
    · show gm_up I1 q 7 _ q 1 = _
      rw [gm_up_ne _ _ (Or.inr (by omega))]; exact h1
    · show gm_up I1 q 7 _ q 3 = _
      rw [gm_up_ne _ _ (Or.inr (by omega))]; exact h2
    · show gm_up I1 q 7 _ (q + 3) i = _
      rw [gm_up_ne _ _ (Or.inl (by omega))]; exact h5 i t ht
    · rcases hk with ⟨hk, _⟩ | ⟨_, k2, _⟩
      · exact Or.inl ⟨hk, hex⟩
      · obtain ⟨r, hr, _⟩ := hex
        rw [k2] at hr; cases hr
  · subst e
    refine ⟨((hO.upI (by omega)).upI (by omega)).upI (by omega), [], [], ⟨gm_up_same _ _ _ _, ?_, ?_, fun i v hv => absurd hv (by simp), fun i v hv => absurd hv (by simp), fun i v hv => absurd hv (by simp)⟩, ?_⟩
    · show gm_up (gm_up (gm_up I1 q 7 _) q 3 (nI 0)) q 1 (nI 0) q 3 = _
      rw [gm_up_ne _ _ (Or.inr (by omega)), gm_up_same]; rfl
    · show gm_up (gm_up (gm_up I1 q 7 _) q 3 (nI 0)) q 1 (nI 0) q 7 = _
      rw [gm_up_ne _ _ (Or.inr (by omega)), gm_up_ne _ _ (Or.inr (by omega)), gm_up_same]
    · rcases hk with ⟨hk, k4⟩ | ⟨_, _, k3⟩
      · exact dd_Ok.drop hk (List.mem_append_left _ k4) hno
      · exact Or.inr ⟨rfl, rfl, fun x hx => k3 x (dd_pt_app hx)⟩
section NarrowLemmas
variable {I : gm_I} {J : gm_J} {q : Nat} {A rows R : List dd_V} {LU : List (dd_V × dd_V)} {a b c d : Int32}
theorem ok_len (h : dd_Ok A rows LU R) : (LU.map Prod.fst).length ≤ 3 := by
  rw [List.length_map]
  rcases h with ⟨h, _⟩ | ⟨h, _⟩
  · have := h.n3; omega
  · rw [h]; exact Nat.zero_le _
theorem ok_bdL (h : dd_Ok A rows LU R) (h4 : dd_e4 ∈ rows) : ∀ l ∈ LU.map Prod.fst, dd_bd l ∧ l.2.2.2 = 0 := by
  intro l hl
  rcases h with ⟨h, _⟩ | ⟨h, _⟩
  · obtain ⟨x, hx, rfl⟩ := List.mem_map.mp hl
    refine ⟨h.bdL hx, ?_⟩
    have := h.I.hL x.1 hl dd_e4 h4
    rwa [(dd_e_ev x.1).2.2.2] at this
  · rw [h] at hl; cases hl
theorem ok_bdR (h : dd_Ok A rows LU R) : ∀ r ∈ R, dd_bd r := by
  intro r hr
  rcases h with ⟨h, _⟩ | ⟨_, h, _⟩
  · exact h.bdR hr
  · rw [h] at hr; cases hr
theorem ok_lenR (h : dd_Ok A rows LU R) (h8 : rows.length ≤ 8) : R.length ≤ 31 := by
  rcases h with ⟨h, _⟩ | ⟨_, h, _⟩
  · by_cases hz : A.length + LU.length = 0
    · have h1 := h.n0 hz
      have h2 : rows.length * (rows.length + 1) ≤ 8 * 9 := Nat.mul_le_mul h8 (by omega)
      omega
    · have h1 := h.few hz
      have := h.n3
      omega
  · rw [h]; exact Nat.zero_le _
theorem nw_zero (hM : sp_M I J q rows (LU.map Prod.fst) R) (hb : ∀ l ∈ LU.map Prod.fst, dd_bd l ∧ l.2.2.2 = 0) (hsm : dd_sm (rV a b c d)) (hz : ∀ j, j < (LU.map Prod.fst).length → slo J q j a b c = 0) : ∀ x ∈ LU, dd_ev (rV a b c d) x.1 = 0 := by
  intro x hx
  obtain ⟨h1, h2, h3, _⟩ := rV_sm hsm
  have hm : x.1 ∈ LU.map Prod.fst := List.mem_map.mpr ⟨x, hx, rfl⟩
  obtain ⟨k, hk⟩ := List.getElem?_of_mem hm
  obtain ⟨b1, b2⟩ := hb _ hm
  exact (sp_slo h1 h2 h3 (by decide) (hM.2.2.2.1 k _ hk) b1 b2 d).eq0.mp (hz k (sq_lt hk))
theorem nw_ct (h : dd_Ok A rows LU R) (h7 : rows.length ≤ 7) (hsm : dd_sm (rV a b c d)) (hab : rV a b c d ≠ dd_0) (hL : ∀ x ∈ LU, dd_ev (rV a b c d) x.1 = 0) : dd_Ct rows R (rV a b c d) := by
  rcases h with ⟨h, _⟩ | ⟨_, h, _⟩
  · exact h.ct hsm hab hL h7
  · rw [h]; exact dd_Ct.nil h7
theorem nw_kcut (h : dd_Ok A rows LU R) (h4 : dd_e4 ∈ rows) (hsm : dd_sm (rV a b c d)) (hab : rV a b c d ≠ dd_0) (hL : ∀ x ∈ LU, dd_ev (rV a b c d) x.1 = 0) : dd_Sp A (rows ++ [rV a b c d]) LU (dd_cutR rows R (rV a b c d)) ∧ dd_e4 ∈ rows ∨ (LU = [] ∧ dd_cutR rows R (rV a b c d) = [] ∧ ∀ x, ¬ dd_pt A rows x) := by
  rcases h with ⟨h, _⟩ | ⟨h1, h2, h3⟩
  · exact Or.inl ⟨(h.cut hsm hab hL).1, h4⟩
  · exact Or.inr ⟨h1, by rw [h2]; rfl, h3⟩
theorem nw_clen (hC : dd_Ct rows R (rV a b c d)) : (dd_cutR rows R (rV a b c d)).length ≤ 32 := by
  have := hC.2.2.2.1
  have h2 := List.length_filter_le (fun v => decide (0 ≤ dd_ev (rV a b c d) v)) R
  unfold dd_cutR
  rw [List.length_append]; omega
theorem nw_tlen {I0 : gm_I} {J0 : gm_J} {i : Nat} {rows2 R2 : List dd_V} {LU2 : List (dd_V × dd_V)} {p h : dd_V} {u : gm_M} (hu : tuP I0 J0 q i rows (LU.map Prod.fst) R p h u) (hM : sp_M1 u.1 u.2 q rows2 (LU2.map Prod.fst) R2) (hn : R.length ≤ 31) (hS : dd_Sp A rows2 LU2 R2) (h8 : rows2.length ≤ 8) : R2.length ≤ 32 := by
  have e := hu.2.2.2.1.symm.trans hM.2.1
  by_cases hz : A.length + LU2.length = 0
  · have h1 := hS.n0 hz
    have h2 : rows2.length * (rows2.length + 1) ≤ 8 * 9 := Nat.mul_le_mul h8 (by omega)
    omega
  · have h1 := hS.few hz
    have := hS.n3
    omega
theorem ok_sp (h : dd_Ok A rows LU R) {i : Nat} (hi : i < (LU.map Prod.fst).length) : dd_Sp A rows LU R := by
  rcases h with ⟨h, _⟩ | ⟨h, _⟩
  · exact h
  · rw [h] at hi; exact absurd hi (Nat.not_lt_zero _)
theorem nw_ne (hM : sp_M I J q rows (LU.map Prod.fst) R) (hb : ∀ l ∈ LU.map Prod.fst, dd_bd l ∧ l.2.2.2 = 0) (hsm : dd_sm (rV a b c d)) {i : Nat} {v0 : dd_V} (hi : (LU.map Prod.fst)[i]? = some v0) (hz : ¬ slo J q i a b c = 0) : dd_ev (rV a b c d) v0 ≠ 0 := by
  obtain ⟨h1, h2, h3, _⟩ := rV_sm hsm
  obtain ⟨b1, b2⟩ := hb _ (List.mem_of_getElem? hi)
  exact fun e => hz ((sp_slo h1 h2 h3 (by decide) (hM.2.2.2.1 i _ hi) b1 b2 d).eq0.mpr e)
/-- what is asked of a space, by its points -/
theorem sp_imp {A9 D9 : Int} (hM : sp_M I J q rows (LU.map Prod.fst) R) (hO : dd_Ok A rows LU R) (h4 : dd_e4 ∈ rows) (ha : -A9 ≤ a.toInt ∧ a.toInt ≤ A9) (hb : -A9 ≤ b.toInt ∧ b.toInt ≤ A9) (hc : -A9 ≤ c.toInt ∧ c.toInt ≤ A9) (hd : -D9 ≤ d.toInt ∧ d.toInt ≤ D9) (hA : A9 ≤ 40) (hD : D9 ≤ 5000) : impP J q (LU.map Prod.fst).length R.length a b c d ↔ ∀ x, dd_pt A rows x → 0 ≤ dd_ev (rV a b c d) x := by
  rw [← hO.implies h4 (rV a b c d)]
  have bl := ok_bdL hO h4
  have br := ok_bdR hO
  unfold impP
  constructor
  · rintro ⟨k1, k2⟩
    refine ⟨fun x hx => ?_, fun r hr => ?_⟩
    · have hm : x.1 ∈ LU.map Prod.fst := List.mem_map.mpr ⟨x, hx, rfl⟩
      obtain ⟨k, hk⟩ := List.getElem?_of_mem hm
      obtain ⟨b1, b2⟩ := bl _ hm
      exact (sp_slo ha hb hc hA (hM.2.2.2.1 k _ hk) b1 b2 d).eq0.mp (k1 k (sq_lt hk))
    · obtain ⟨k, hk⟩ := List.getElem?_of_mem hr
      exact (sp_rayH ha hb hc hd hA hD (hM.2.2.2.2.1 k _ hk) (br r hr)).mp (k2 k (sq_lt hk))
  · rintro ⟨k1, k2⟩
    refine ⟨fun k hk => ?_, fun k hk => ?_⟩
    · obtain ⟨v, hv⟩ := sq_get hk
      obtain ⟨x, hx, rfl⟩ := List.mem_map.mp (List.mem_of_getElem? hv)
      obtain ⟨b1, b2⟩ := bl _ (List.mem_of_getElem? hv)
      exact (sp_slo ha hb hc hA (hM.2.2.2.1 k _ hv) b1 b2 d).eq0.mpr (k1 x hx)
    · obtain ⟨v, hv⟩ := sq_get hk
      exact (sp_rayH ha hb hc hd hA hD (hM.2.2.2.2.1 k _ hv) (br v (List.mem_of_getElem? hv))).mpr (k2 v (List.mem_of_getElem? hv))
theorem sp_bnd {A9 : Int} (hM : sp_M I J q rows (LU.map Prod.fst) R) (hO : dd_Ok A rows LU R) (h4 : dd_e4 ∈ rows) (ha : -A9 ≤ a.toInt ∧ a.toInt ≤ A9) (hb : -A9 ≤ b.toInt ∧ b.toInt ≤ A9) (hc : -A9 ≤ c.toInt ∧ c.toInt ≤ A9) (hA : A9 ≤ 40) : bndP J q (LU.map Prod.fst).length R.length a b c ↔ ∃ M : Int, ∀ x, dd_pt A rows x → 0 ≤ dd_ev (dd_add (rV a b c 0) (dd_mul M dd_e4)) x := by
  rw [← hO.bounds h4 (rV a b c 0)]
  have bl := ok_bdL hO h4
  have br := ok_bdR hO
  have key : ∀ k v, R[k]? = some v → (J (q + 2) (4 * k + 3) = 0 ↔ dd_ev dd_e4 v = 0) ∧ (¬ wor J q k a b c (nI 0) < 0 ↔ 0 ≤ dd_ev (rV a b c 0) v) := by
    intro k v hv
    have e := hM.2.2.2.2.1 k v hv
    have hbd := br v (List.mem_of_getElem? hv)
    subst e
    constructor
    · rw [(dd_e_ev _).2.2.2, ← Int64.toInt_inj]; exact Iff.rfl
    · have r := (sp_wor0 (d := nI 0) (D := 0) ha hb hc ⟨by decide, by decide⟩ hA (by decide) hbd).2.2
      have r2 : dd_R (wor J q k a b c (nI 0)) (dd_ev (rV a b c (nI 0)) (sp_vec J (q + 2) (4 * k))) (A9 * 486000 + A9 * 486000 + A9 * 486000 + 0 * 4374) := r
      rw [r2.neg']
      have e0 : rV a b c (nI 0) = rV a b c 0 := rfl
      rw [e0]; omega
  unfold bndP
  constructor
  · rintro ⟨k1, k2⟩
    refine ⟨fun x hx => ?_, fun r hr h0 => ?_⟩
    · have hm : x.1 ∈ LU.map Prod.fst := List.mem_map.mpr ⟨x, hx, rfl⟩
      obtain ⟨k, hk⟩ := List.getElem?_of_mem hm
      obtain ⟨b1, b2⟩ := bl _ hm
      exact (sp_slo ha hb hc hA (hM.2.2.2.1 k _ hk) b1 b2 0).eq0.mp (k1 k (sq_lt hk))
    · obtain ⟨k, hk⟩ := List.getElem?_of_mem hr
      exact (key k r hk).2.mp (k2 k (sq_lt hk) ((key k r hk).1.mpr h0))
  · rintro ⟨k1, k2⟩
    refine ⟨fun k hk => ?_, fun k hk h0 => ?_⟩
    · obtain ⟨v, hv⟩ := sq_get hk
      obtain ⟨x, hx, rfl⟩ := List.mem_map.mp (List.mem_of_getElem? hv)
      obtain ⟨b1, b2⟩ := bl _ (List.mem_of_getElem? hv)
      exact (sp_slo ha hb hc hA (hM.2.2.2.1 k _ hv) b1 b2 0).eq0.mpr (k1 x hx)
    · obtain ⟨v, hv⟩ := sq_get hk
      exact (key k v hv).2.mpr (k2 v (List.mem_of_getElem? hv) ((key k v hv).1.mp h0))
end NarrowLemmas
