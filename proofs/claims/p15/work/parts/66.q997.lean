set_option maxHeartbeats 4000000 in
set_option maxRecDepth 100000 in
theorem c_FT_proofQ (l : Launch) (D : va_G) (cs : Nat → ClassId) (sh : gm_H) (sz : Nat) (I : gm_I) (J : gm_J) (B : Nat) (hF : is_FT cs sh B) (hV : inv_FT I B) (v w : Int32) : CI l y_FT_proof w_FT_proof { frames := 0, cells := 0, slots := 0, locals := 0 } D cs sh sz I J [.ref B, .int v, .int w] (fun x u => u = (I, J) ∧ x = if (inI v (nI 0) (I (B + 4) 1 - nI 1) && inI w (nI 0) (nI 3)) = true then I (B + 5) (4 * nN v + nN w) else -1000) := by
  refine gm_start (by decide) (Nat.le_of_ble_eq_true rfl) ?_
  intro p' e' s' m' be' me' co' ls C hml hlk hret hh hl
  have hl : lv_has ls 3 [(0, .ref B), (1, .int v), (2, .int w)] := hl
  obtain ⟨g_, hg_, eg_⟩ := hV.2.2.1
  refine lv_iload_n C.1 C.2.1 d_FT_proof_0 rfl (lv_at hl 1 rfl) ?_
  refine lv_if_lt (tgt := 24) C.1 C.2.1 d_FT_proof_1 (by decide) (fun c_1 => ?_) (fun c_1 => ?_)
  · -- 1 -> 24
    skip
    refine lv_sipush (v := (-1000)) C.1 C.2.1 d_FT_proof_24 rfl ?_
    exact gr_i C hlk hret rfl hh (by refine ⟨rfl, ?_⟩; first | (rw [if_neg (by rw [inI_neg (by assumption), Bool.false_and]; decide)]) | (rw [eg_, if_neg (by rw [inI_big (by omega) (by omega) (by omega), Bool.false_and]; decide)]) | (rw [if_neg (by rw [inI_neg (v := w) (by assumption), Bool.and_false]; decide)]) | (rw [if_neg (by rw [inI_3f (by omega) (by omega), Bool.and_false]; decide)])) d_FT_proof_27
  · -- 1 -> 4
    skip
    obtain ⟨i_2, hi_2, ei_2⟩ := nI_of (by assumption : ¬ v < 0)
    subst ei_2
    refine lv_iload_n C.1 C.2.1 d_FT_proof_4 rfl (lv_at hl 1 rfl) ?_
    refine lv_aload_n C.1 C.2.1 d_FT_proof_5 rfl (lv_at hl 0 rfl) ?_
    refine gg_r C hh hF.1 rfl in_FT 4 (by decide) rfl tw_214 rfl d_FT_proof_6 ?_
    refine gn_i C hh hF.2.2.2.2.1.1 rfl in_Pf 1 (by decide) rfl tw_86 rfl d_FT_proof_9 ?_
    refine gm_eqi eg_ ?_
    refine lv_icmp_ge (tgt := 24) C.1 C.2.1 d_FT_proof_12 (by decide) (fun c_3 => ?_) (fun c_3 => ?_)
    · -- 12 -> 24
      have c_3 := gm_get (by omega) (by omega) c_3
      have c_3' := Nat.not_lt.mpr c_3
      refine lv_sipush (v := (-1000)) C.1 C.2.1 d_FT_proof_24 rfl ?_
      exact gr_i C hlk hret rfl hh (by refine ⟨rfl, ?_⟩; first | (rw [if_neg (by rw [inI_neg (by assumption), Bool.false_and]; decide)]) | (rw [eg_, if_neg (by rw [inI_big (by omega) (by omega) (by omega), Bool.false_and]; decide)]) | (rw [if_neg (by rw [inI_neg (v := w) (by assumption), Bool.and_false]; decide)]) | (rw [if_neg (by rw [inI_3f (by omega) (by omega), Bool.and_false]; decide)])) d_FT_proof_27
    · -- 12 -> 15
      have c_3 := gm_gef (by omega) (by omega) c_3
      have c_3' := Nat.not_le.mpr c_3
      refine lv_iload_n C.1 C.2.1 d_FT_proof_15 rfl (lv_at hl 2 rfl) ?_
      refine lv_if_lt (tgt := 24) C.1 C.2.1 d_FT_proof_16 (by decide) (fun c_4 => ?_) (fun c_4 => ?_)
      · -- 16 -> 24
        skip
        refine lv_sipush (v := (-1000)) C.1 C.2.1 d_FT_proof_24 rfl ?_
        exact gr_i C hlk hret rfl hh (by refine ⟨rfl, ?_⟩; first | (rw [if_neg (by rw [inI_neg (by assumption), Bool.false_and]; decide)]) | (rw [eg_, if_neg (by rw [inI_big (by omega) (by omega) (by omega), Bool.false_and]; decide)]) | (rw [if_neg (by rw [inI_neg (v := w) (by assumption), Bool.and_false]; decide)]) | (rw [if_neg (by rw [inI_3f (by omega) (by omega), Bool.and_false]; decide)])) d_FT_proof_27
      · -- 16 -> 19
        skip
        obtain ⟨i_5, hi_5, ei_5⟩ := nI_of (by assumption : ¬ w < 0)
        subst ei_5
        refine lv_iload_n C.1 C.2.1 d_FT_proof_19 rfl (lv_at hl 2 rfl) ?_
        refine lv_iconst (v := nI 4) C.1 C.2.1 d_FT_proof_20 rfl ?_
        refine lv_icmp_lt (tgt := 28) C.1 C.2.1 d_FT_proof_21 (by decide) (fun c_6 => ?_) (fun c_6 => ?_)
        · -- 21 -> 28
          have c_6 := gm_ltt (by omega) (by omega) c_6
          have c_6' := Nat.not_le.mpr c_6
          refine lv_aload_n C.1 C.2.1 d_FT_proof_28 rfl (lv_at hl 0 rfl) ?_
          refine gg_r C hh hF.1 rfl in_FT 4 (by decide) rfl tw_214 rfl d_FT_proof_29 ?_
          refine gn_r C hh hF.2.2.2.2.1.1 rfl in_Pf 0 (by decide) rfl tw_84 rfl d_FT_proof_32 ?_
          refine lv_iconst (v := nI 4) C.1 C.2.1 d_FT_proof_35 rfl ?_
          refine lv_iload_n C.1 C.2.1 d_FT_proof_36 rfl (lv_at hl 1 rfl) ?_
          refine lv_imul C.1 C.2.1 d_FT_proof_37 ?_
          refine gm_eqi (pk_mul _ _) ?_
          refine lv_iload_n C.1 C.2.1 d_FT_proof_38 rfl (lv_at hl 2 rfl) ?_
          refine lv_iadd C.1 C.2.1 d_FT_proof_39 ?_
          refine gm_eqi (nI_add _ _) ?_
          refine ga_i C hh hF.2.2.2.2.1.2 (k := (4 * i_2) + i_5) rfl (by omega) (by omega) d_FT_proof_40 ?_
          exact gr_i C hlk hret rfl hh (by refine ⟨rfl, ?_⟩; rw [if_pos (by rw [Bool.and_eq_true]; exact ⟨by rw [eg_]; exact inI_in (by omega) (by omega), inI_3t (by omega)⟩), nN_nI (by omega), nN_nI (by omega)]) d_FT_proof_41
        · -- 21 -> 24
          have c_6 := gm_ltf (by omega) (by omega) c_6
          have c_6' := Nat.not_lt.mpr c_6
          refine lv_sipush (v := (-1000)) C.1 C.2.1 d_FT_proof_24 rfl ?_
          exact gr_i C hlk hret rfl hh (by refine ⟨rfl, ?_⟩; first | (rw [if_neg (by rw [inI_neg (by assumption), Bool.false_and]; decide)]) | (rw [eg_, if_neg (by rw [inI_big (by omega) (by omega) (by omega), Bool.false_and]; decide)]) | (rw [if_neg (by rw [inI_neg (v := w) (by assumption), Bool.and_false]; decide)]) | (rw [if_neg (by rw [inI_3f (by omega) (by omega), Bool.and_false]; decide)])) d_FT_proof_27
