set_option maxHeartbeats 4000000 in
set_option maxRecDepth 100000 in
theorem c_Pf_searchQ (l : Launch) (D : va_G) (cs : Nat → ClassId) (sh : gm_H) (sz : Nat) (I : gm_I) (J : gm_J) (f : Nat) (hf : is_Pf sh f) (o : Nat) (ho : is_Lp cs sh o) (g h : Nat) (hg : is_Sa cs sh g h) (m nm : Nat) (em : I o 3 = nI m) (hm : m ≤ 3) (enm : I o 0 = nI nm) (hnm : nm ≤ 3) (hdo : o + 20 < f ∨ f + 1 < o) (hdh : h + 29 < f ∨ f + 1 < h) (Z : Int32 → Int32 → Int32 → Nat → zT) (hZ : ∀ a b c, numB nm a b c (nI 2) = true → ∀ w, w < m → zok I J (o + 6 + 5 * w) (h + 12 * w) a b c (Z a b c w)) : CV l y_Pf_search w_Pf_search { frames := 5, cells := 0, slots := 0, locals := 129 } D cs sh sz I J [.ref f, .ref o, .ref g] (fun u => seP (ckk nm m Z) m f I J u) := by
  refine gm_start (by decide) (Nat.le_of_ble_eq_true rfl) ?_
  intro p' e' s' m' be' me' co' ls C hml hlk hret hh hl
  have hl : lv_has ls 4 [(0, .ref f), (1, .ref o), (2, .ref g)] := hl
  have hp1_ : 1 ≤ 2 ^ m := Nat.one_le_two_pow
  refine lv_aload_n C.1 C.2.1 d_Pf_search_0 rfl (lv_at hl 0 rfl) ?_
  refine lv_iconst (v := nI 0) C.1 C.2.1 d_Pf_search_1 rfl ?_
  refine gp_i (ty := .int) C hh hf.1 rfl in_Pf t_Pf t_Pf_ok n_Pf 1 (by decide) rfl tw_85 rfl rfl (by decide +kernel) rfl rfl d_Pf_search_2 (fun H locs hh => ?_)
  obtain ⟨I_1, eI_1⟩ : ∃ z : gm_I, z = gm_up I f 1 (nI 0) := ⟨_, rfl⟩
  rw [← eI_1] at hh
  refine lv_aload_n C.1 C.2.1 d_Pf_search_5 rfl (lv_at hl 0 rfl) ?_
  refine lv_iconst (v := nI 1) C.1 C.2.1 d_Pf_search_6 rfl ?_
  refine lv_aload_n C.1 C.2.1 d_Pf_search_7 rfl (lv_at hl 1 rfl) ?_
  refine gn_i C hh ho.1 rfl in_Lp 3 (by decide) rfl tw_162 rfl d_Pf_search_8 ?_
  refine gm_eqi (y := I o 3) (by rw [eI_1, gm_up_ne _ _ (Or.inl (by omega))]) ?_
  refine gm_eqi em ?_
  refine lv_ishl C.1 C.2.1 d_Pf_search_11 ?_
  refine gm_eqi (gm_shl (by omega) (by omega)) ?_
  refine lv_iconst (v := nI 1) C.1 C.2.1 d_Pf_search_12 rfl ?_
  refine lv_isub C.1 C.2.1 d_Pf_search_13 ?_
  refine gm_eqi (pk_sub (by omega)) ?_
  refine gp_i (ty := .int) C hh hf.1 rfl in_Pf t_Pf t_Pf_ok n_Pf 2 (by decide) rfl tw_87 rfl rfl (by decide +kernel) rfl rfl d_Pf_search_14 (fun H locs hh => ?_)
  obtain ⟨I_2, eI_2⟩ : ∃ z : gm_I, z = gm_up I_1 f 2 (nI ((1 * 2 ^ m) - 1)) := ⟨_, rfl⟩
  rw [← eI_2] at hh
  refine lv_iconst (v := nI 0) C.1 C.2.1 d_Pf_search_17 rfl ?_
  refine lv_istore_n (lv' := [(3, .int (nI 0)), (0, .ref f), (1, .ref o), (2, .ref g)]) C.1 C.2.1 d_Pf_search_18 rfl hl (by decide) rfl (fun ls hl => ?_)
  have hS0_ : sS (ckk nm m Z) m f I I_2 [] (opN m) 4 := by subst eI_1 eI_2; rw [op_pred]; exact sS.start hm
  have K19 : ∀ (n_19 : Nat) (i : Nat) (L : List (Nat × Nat)) (ow : Nat) (fu : Nat) (I19 : gm_I) (hi : i = L.length) (hS : sS (ckk nm m Z) m f I I19 L ow fu) (hm_19 : fu < n_19), ∀ (H : Heap) (locs : List Loc) (ls : Array Slot), gm_St D cs sh (gm_A sh) s'.heap sz I19 J H locs → lv_has ls 4 [(0, .ref f), (1, .ref o), (2, .ref g), (3, .int (nI i))] → W p' l e' { frames := 5, cells := 0, slots := 0, locals := 129 } s' m' ([.ref f, .ref o, .ref g] : List Value).toArray be' me' co' H locs 0 0 (MQ be' (va_Qv (fun u => seP (ckk nm m Z) m f I J u) (gm_B D cs sh sz) (gm_A sh)) ([.ref f, .ref o, .ref g] : List Value).toArray s' 0 0 (gm_A sh)) (F0 m' 19 ls []) := by
    intro n_19
    induction n_19 with
    | zero => intro i L ow fu I19 hi hS hm_19; exact absurd hm_19 (Nat.not_lt_zero _)
    | succ n_19 ih19 =>
      intro i L ow fu I19 hi hS hm_19 H locs ls hh hl
      have hl3a_ : L.length ≤ 3 := by have h1_ := hS.2.2.2.2.2.2.1; omega
      have ow8_ : ow < 8 := hS.2.2.2.2.2.1
      refine lv_iload_n C.1 C.2.1 d_Pf_search_19 rfl (lv_at hl 3 rfl) ?_
      refine lv_iconst (v := nI 3) C.1 C.2.1 d_Pf_search_20 rfl ?_
      refine lv_icmp_ge (tgt := 47) C.1 C.2.1 d_Pf_search_21 (by decide) (fun c_3 => ?_) (fun c_3 => ?_)
      · -- 21 -> 47
        have c_3 := gm_get (by omega) (by omega) c_3
        have c_3' := Nat.not_lt.mpr c_3
        exact gr_v C hlk hret hh (by first | exact hS.fin (Or.inl (by assumption)) | exact hS.fin (Or.inr (Or.inl (by have h1_ := hS.2.2.2.2.2.2.1; omega))) | (rcases hF with ⟨_, hf_, e_⟩ | ⟨e1_, _⟩ <;> first | (rw [e_]; exact hS.fin (Or.inr (Or.inr hf_))) | exact absurd ((show _ = (0 : Int32) by assumption).symm.trans e1_) (by decide))) d_Pf_search_47
      · -- 21 -> 24
        have c_3 := gm_gef (by omega) (by omega) c_3
        have c_3' := Nat.not_le.mpr c_3
        refine lv_aload_n C.1 C.2.1 d_Pf_search_24 rfl (lv_at hl 0 rfl) ?_
        refine gg_i C hh hf.1 rfl in_Pf 2 (by decide) rfl tw_87 rfl d_Pf_search_25 ?_
        refine gm_eqi hS.2.2.2.1 ?_
        refine lv_if_eq (tgt := 47) C.1 C.2.1 d_Pf_search_28 (by decide) (fun c_4 => ?_) (fun c_4 => ?_)
        · -- 28 -> 47
          have c_4 := gm_eqt (b := 0) (by omega) (by omega) c_4
          exact gr_v C hlk hret hh (by first | exact hS.fin (Or.inl (by assumption)) | exact hS.fin (Or.inr (Or.inl (by have h1_ := hS.2.2.2.2.2.2.1; omega))) | (rcases hF with ⟨_, hf_, e_⟩ | ⟨e1_, _⟩ <;> first | (rw [e_]; exact hS.fin (Or.inr (Or.inr hf_))) | exact absurd ((show _ = (0 : Int32) by assumption).symm.trans e1_) (by decide))) d_Pf_search_47
        · -- 28 -> 31
          have c_4 := gm_eqf (b := 0) (by omega) (by omega) c_4
          refine lv_aload_n C.1 C.2.1 d_Pf_search_31 rfl (lv_at hl 0 rfl) ?_
          refine lv_aload_n C.1 C.2.1 d_Pf_search_32 rfl (lv_at hl 1 rfl) ?_
          refine lv_aload_n C.1 C.2.1 d_Pf_search_33 rfl (lv_at hl 2 rfl) ?_
          have hl3_ : L.length < 3 := by have h1_ := hS.2.2.2.2.2.2.1; have h2_ := (bc_le ow hS.2.2.2.2.2.1).2; omega
          have eo_ : ∀ q, (o ≤ q ∧ q ≤ o + 20) ∨ (h ≤ q ∧ q ≤ h + 29) → I19 q = I q := fun q hq => hS.1 q (by omega) (by omega)
          refine gc_i hh (gc_runV (As := [.ref o, .ref g]) (rest := []) (n := 2) C hml hh (c_Pf_takeMoreQ l D cs sh sz I19 J f hf o ho g h hg m nm ow L.length (by rw [eo_ o (by omega)]; exact em) hm (by rw [eo_ o (by omega)]; exact enm) hnm hS.2.2.2.1 hS.2.2.2.2.2.1 hS.2.2.1 hl3_ Z (fun a_ b_ c_ hb_ w_ hw_ => (hZ a_ b_ c_ hb_ w_ hw_).off (eo_ _ (by omega)) (eo_ _ (by omega)) (eo_ _ (by omega)))) (tg_V tw_431 tw_433 tw_18 tw_58 tw_434) (by decide +kernel) ⟨rfl, rfl, by decide, by decide, Nat.zero_le _, Nat.zero_le _⟩ hf.1 rfl rfl hl.1 rfl (Nat.le_of_ble_eq_true rfl) d_Pf_search_34) (fun r_5 I_6 J_7 H locs hr_5 hh => ?_)
          refine lv_if_ne (tgt := 41) C.1 C.2.1 d_Pf_search_37 (by decide) (fun c_8 => ?_) (fun c_8 => ?_)
          · -- 37 -> 41
            skip
            obtain ⟨k_, hk_, h0_, hf_, e_⟩ : ∃ k, k < 125 ∧ 0 < ckk nm m Z ow k ∧ fkN (ckk nm m Z ow) 125 0 = some k ∧ (I_6, J_7) = (gm_up (gm_up (lay4 I19 (f + 1) (4 * L.length) (tKa k) (tKb k) (tKc k) (nI (ckk nm m Z ow k))) f 1 (nI (L.length + 1))) f 2 (I19 f 2 &&& (nI (ckk nm m Z ow k) ^^^ (-1))), J) := by
              rcases hr_5 with ⟨e1_, _⟩ | ⟨_, h_⟩
              · exact absurd e1_ (by assumption)
              · exact h_
            rw [(Prod.mk.inj e_).1, (Prod.mk.inj e_).2] at hh
            have ok_ := ckk_ok (nm := nm) (m := m) (Z := Z) (o := ow) (k := k_) hm hS.2.2.2.2.2.1
            refine lv_iinc (v := nI (i + 1)) (lv' := [(3, .int (nI (i + 1))), (0, .ref f), (1, .ref o), (2, .ref g)]) C.1 C.2.1 d_Pf_search_41 hl (k := 3) rfl (gm_inc i 1) (by decide) rfl (fun ls hl => ?_)
            refine lv_goto (tgt := 19) C.1 C.2.1 d_Pf_search_44 (by decide) ?_
            exact ih19 (i + 1) (L ++ [(k_, ckk nm m Z ow k_)]) (ow - ckk nm m Z ow k_) (fu - 1) (gm_up (gm_up (lay4 I19 (f + 1) (4 * L.length) (tKa k_) (tKb k_) (tKc k_) (nI (ckk nm m Z ow k_))) f 1 (nI (L.length + 1))) f 2 (I19 f 2 &&& (nI (ckk nm m Z ow k_) ^^^ (-1)))) (by rw [hi, List.length_append]; rfl) (by exact hS.step (by assumption) hf_ h0_ ok_.1 ok_.2.1 (ok_.2.2 h0_)) (by have h1_ := hS.2.2.2.2.2.2.2.1; omega) _ _ _ hh (lv_sub hl [1, 2, 3, 0] rfl)
          · -- 37 -> 40
            skip
            exact gr_v C hlk hret hh (by first | exact hS.fin (Or.inl (by assumption)) | exact hS.fin (Or.inr (Or.inl (by have h1_ := hS.2.2.2.2.2.2.1; omega))) | (rcases hr_5 with ⟨_, hf_, e_⟩ | ⟨e1_, _⟩ <;> first | (rw [e_]; exact hS.fin (Or.inr (Or.inr hf_))) | exact absurd ((show _ = (0 : Int32) by assumption).symm.trans e1_) (by decide))) d_Pf_search_40
  exact K19 _ 0 ([]) (opN m) 4 I_2 (by rfl) (by exact hS0_) (Nat.lt_succ_self _) _ _ _ hh (lv_sub hl [1, 2, 3, 0] rfl)
