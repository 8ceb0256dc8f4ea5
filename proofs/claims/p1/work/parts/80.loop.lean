set_option maxHeartbeats 4000000 in
set_option maxRecDepth 100000 in
theorem law_loop {p : Program} {l : Launch} {e : Env} {s : State} {m : MethodId} {below : List Frame} {meth : Method} {c : Code} {b L : Nat} {xs : Nat → Int32} {D : va_G} {cs : Nat → ClassId} {sh : gm_H} {sz B r : Nat} (hL : L ≤ 7) (C0 : lw_At p s m meth c b L xs) (hK : va_K D vwC (gt cs) s) (hF : is_FT cs sh B) (hM : is_Md sh r) :
    ∀ (n i : Nat) (I : gm_I) (J : gm_J), i ≤ L + 7 → SI I B r → (i = 0 → Fr I B r) → L + 7 - i < n → ∀ (H : Heap) (locs : List Loc) (ls : Array Slot), gm_St D cs sh (fun q : Nat => s.heap.size ≤ q) s.heap sz I J H locs → lv_has ls 4 [(0, .ref b), (1, .ref B), (2, .ref r), (3, .int (nI i))] → W p l e room_1 s m #[Value.ref b] below meth c H locs 600000 7302249 (lw_Z below #[Value.ref b] s) (F0 m 18 ls []) := by
  obtain ⟨hx, hb, hr, hml, hown, hts, hX, hbl, hlocks, hgv⟩ := C0
  have hbA : ¬ (fun q : Nat => s.heap.size ≤ q) b := Nat.not_le.mpr hbl
  have hbl : b < s.heap.size := hbl
  have C : gm_C p s m #[Value.ref b] c D cs code "FallingTermsLaw" := ⟨hx, hb, fun w hw => hts w (List.mem_filter.mp hw).1, hown, hK, nest_of hts⟩
  intro n
  induction n with
  | zero => intro i I J h1 h2 hJ h3; exact absurd h3 (Nat.not_lt_zero _)
  | succ n ih =>
    intro i I J hi hS hJ hm H locs ls hh hl
    obtain ⟨n8, hn8, en8, _⟩ := hS.cnt
    refine lv_iload_n C.1 C.2.1 d_Lw_law_18 rfl (lv_at hl 3 rfl) ?_
    refine lv_aload_n C.1 C.2.1 d_Lw_law_19 rfl (lv_at hl 0 rfl) ?_
    refine va_slen C.1 C.2.1 hX hbl hbA hh.2.1 d_Lw_law_20 ?_
    refine gm_eqi (y := nI L) rfl ?_
    refine lv_bipush (v := nI 7) C.1 C.2.1 d_Lw_law_21 rfl ?_
    refine lv_isub C.1 C.2.1 d_Lw_law_23 ?_
    refine lv_icmp_gt (tgt := 1017) C.1 C.2.1 d_Lw_law_24 (by decide) (fun c_1 => ?_) (fun c_1 => ?_)
    · -- the end
      refine lv_iconst (v := nI 1) C.1 C.2.1 d_Lw_law_1017 rfl ?_
      refine va_forget (fun q hq => hh.2.1.2.2 q hq) ?_
      exact lw_ret C.1 C.2.1 hr hlocks d_Lw_law_1018
    · -- a call
      have hi7 : i + 7 ≤ L := lw_cmp (by omega) (by omega) c_1
      have fr_ := hJ (by omega)
      have n0_ : n8 = 0 := gm_eqt (by omega) (by omega) (en8.symm.trans fr_.1)
      subst n0_
      refine lv_aload_n C.1 C.2.1 d_Lw_law_27 rfl (lv_at hl 0 rfl) ?_
      refine lv_iload_n C.1 C.2.1 d_Lw_law_28 rfl (lv_at hl 3 rfl) ?_
      refine va_sld C.1 C.2.1 hX hbl hbA hh.2.1 (vp_in_nI (by omega) (by omega)) d_Lw_law_29 ?_
      refine gm_eqi (y := xs i) (by rw [nI_clamp (by omega)]) ?_
      refine lv_bipush (v := nI 31) C.1 C.2.1 d_Lw_law_30 rfl ?_
      refine lv_iand C.1 C.2.1 d_Lw_law_32 ?_
      refine lv_topi (fun x_2 ex_2 => ?_)
      by_cases co_0 : x_2 = nI 0
      · -- 0
        refine lv_tableIn (tgt := 144) (off := 111) C.1 C.2.1 d_Lw_law_33 (by rw [co_0]; decide) (by rw [co_0]; decide) (by rw [co_0]; decide +kernel) (by decide) ?_
        refine lv_aload_n C.1 C.2.1 d_Lw_law_144 rfl (lv_at hl 1 rfl) ?_
        refine lv_aload_n C.1 C.2.1 d_Lw_law_145 rfl (lv_at hl 0 rfl) ?_
        refine lv_iload_n C.1 C.2.1 d_Lw_law_146 rfl (lv_at hl 3 rfl) ?_
        refine lv_iconst (v := nI 1) C.1 C.2.1 d_Lw_law_147 rfl ?_
        refine lv_iadd C.1 C.2.1 d_Lw_law_148 ?_
        refine gm_eqi (nI_add _ _) ?_
        refine va_sld C.1 C.2.1 hX hbl hbA hh.2.1 (vp_in_nI (by omega) (by omega)) d_Lw_law_149 ?_
        refine gm_eqi (y := xs (i + 1)) (by rw [nI_clamp (by omega)]) ?_
        refine gc_i hh (gc_runV (As := [.int (xs (i + 1))]) (rest := []) (n := 1) C hml hh (c_FT_loop l D cs sh sz I J B hF hS.2.1 0 en8 hn8 (xs (i + 1))) (tg_V tw_244 tw_245 tw_246 tw_57 tw_247) (by decide +kernel) ⟨rfl, rfl, by decide, by decide, Nat.le_of_ble_eq_true rfl, Nat.le_of_ble_eq_true rfl⟩ hF.1 rfl rfl hl.1 rfl (Nat.le_of_ble_eq_true rfl) d_Lw_law_150) (fun r_3 I_4 J_5 H locs hr_3 hh => ?_)
        obtain ⟨hv_, er_, hop_⟩ := op_loop hS hn8 en8 hr_3
        refine lv_aload_n C.1 C.2.1 d_Lw_law_153 rfl (lv_at hl 2 rfl) ?_
        refine lv_aload_n C.1 C.2.1 d_Lw_law_154 rfl (lv_at hl 0 rfl) ?_
        refine lv_iload_n C.1 C.2.1 d_Lw_law_155 rfl (lv_at hl 3 rfl) ?_
        refine lv_iconst (v := nI 1) C.1 C.2.1 d_Lw_law_156 rfl ?_
        refine lv_iadd C.1 C.2.1 d_Lw_law_157 ?_
        refine gm_eqi (nI_add _ _) ?_
        refine va_sld C.1 C.2.1 hX hbl hbA hh.2.1 (vp_in_nI (by omega) (by omega)) d_Lw_law_158 ?_
        refine gm_eqi (y := xs (i + 1)) (by rw [nI_clamp (by omega)]) ?_
        refine gc_i hh (gc_runV (As := [.int (xs (i + 1))]) (rest := [.int r_3]) (n := 1) C hml hh (c_Md_loop l D cs sh sz I_4 J_5 r hM hv_ (xs (i + 1)) 0 hn8 er_) (tg_V tw_680 tw_681 tw_682 tw_64 tw_683) (by decide +kernel) ⟨rfl, rfl, by decide, by decide, Nat.le_of_ble_eq_true rfl, Nat.le_of_ble_eq_true rfl⟩ (Md_0 hM) rfl rfl hl.1 rfl (Nat.le_of_ble_eq_true rfl) d_Lw_law_159) (fun r_6 I_7 J_8 H locs hr_6 hh => ?_)
        obtain ⟨hS_9, xz_⟩ := hop_ _ _ _ hr_6
        refine lv_icmp_eq (tgt := 1011) C.1 C.2.1 d_Lw_law_162 (by decide) (fun c_ => ?_) (fun c_ => absurd xz_ c_)
        refine lv_iinc (v := nI (i + 7)) (lv' := [(3, .int (nI (i + 7))), (0, .ref b), (1, .ref B), (2, .ref r)]) C.1 C.2.1 d_Lw_law_1011 hl (k := 3) rfl (gm_inc i 7) (by decide) rfl (fun ls hl => ?_)
        refine lv_goto (tgt := 18) C.1 C.2.1 d_Lw_law_1014 (by decide) ?_
        exact ih (i + 7) I_7 J_8 (by omega) hS_9 (fun h_ => absurd h_ (by omega)) (by omega) _ _ _ hh (lv_sub hl [1, 2, 3, 0] rfl)
      by_cases co_1 : x_2 = nI 1
      · -- 1
        refine lv_tableIn (tgt := 167) (off := 134) C.1 C.2.1 d_Lw_law_33 (by rw [co_1]; decide) (by rw [co_1]; decide) (by rw [co_1]; decide +kernel) (by decide) ?_
        refine lv_aload_n C.1 C.2.1 d_Lw_law_167 rfl (lv_at hl 1 rfl) ?_
        refine gc_i hh (gc_runV (As := []) (rest := []) (n := 0) C hml hh (c_FT_clear l D cs sh sz I J B hF) (tg_V tw_252 tw_253 tw_254 tw_57 tw_255) (by decide +kernel) ⟨rfl, rfl, by decide, by decide, Nat.le_of_ble_eq_true rfl, Nat.le_of_ble_eq_true rfl⟩ hF.1 rfl rfl hl.1 rfl (Nat.le_of_ble_eq_true rfl) d_Lw_law_168) (fun r_10 I_11 J_12 H locs hr_10 hh => ?_)
        obtain ⟨hv_, hop_⟩ := op_clear hS hr_10
        refine lv_aload_n C.1 C.2.1 d_Lw_law_171 rfl (lv_at hl 2 rfl) ?_
        refine gc_i hh (gc_runV (As := []) (rest := [.int r_10]) (n := 0) C hml hh (c_Md_clear l D cs sh sz I_11 J_12 r hM hv_ ) (tg_V tw_687 tw_688 tw_689 tw_64 tw_690) (by decide +kernel) ⟨rfl, rfl, by decide, by decide, Nat.le_of_ble_eq_true rfl, Nat.le_of_ble_eq_true rfl⟩ (Md_0 hM) rfl rfl hl.1 rfl (Nat.le_of_ble_eq_true rfl) d_Lw_law_172) (fun r_13 I_14 J_15 H locs hr_13 hh => ?_)
        obtain ⟨hS_16, xz_⟩ := hop_ _ _ _ hr_13
        refine lv_icmp_eq (tgt := 1011) C.1 C.2.1 d_Lw_law_175 (by decide) (fun c_ => ?_) (fun c_ => absurd xz_ c_)
        refine lv_iinc (v := nI (i + 7)) (lv' := [(3, .int (nI (i + 7))), (0, .ref b), (1, .ref B), (2, .ref r)]) C.1 C.2.1 d_Lw_law_1011 hl (k := 3) rfl (gm_inc i 7) (by decide) rfl (fun ls hl => ?_)
        refine lv_goto (tgt := 18) C.1 C.2.1 d_Lw_law_1014 (by decide) ?_
        exact ih (i + 7) I_14 J_15 (by omega) hS_16 (fun h_ => absurd h_ (by omega)) (by omega) _ _ _ hh (lv_sub hl [1, 2, 3, 0] rfl)
      by_cases co_2 : x_2 = nI 2
      · -- 2
        refine lv_tableIn (tgt := 180) (off := 147) C.1 C.2.1 d_Lw_law_33 (by rw [co_2]; decide) (by rw [co_2]; decide) (by rw [co_2]; decide +kernel) (by decide) ?_
        refine lv_aload_n C.1 C.2.1 d_Lw_law_180 rfl (lv_at hl 1 rfl) ?_
        refine lv_aload_n C.1 C.2.1 d_Lw_law_181 rfl (lv_at hl 0 rfl) ?_
        refine lv_iload_n C.1 C.2.1 d_Lw_law_182 rfl (lv_at hl 3 rfl) ?_
        refine lv_iconst (v := nI 1) C.1 C.2.1 d_Lw_law_183 rfl ?_
        refine lv_iadd C.1 C.2.1 d_Lw_law_184 ?_
        refine gm_eqi (nI_add _ _) ?_
        refine va_sld C.1 C.2.1 hX hbl hbA hh.2.1 (vp_in_nI (by omega) (by omega)) d_Lw_law_185 ?_
        refine gm_eqi (y := xs (i + 1)) (by rw [nI_clamp (by omega)]) ?_
        refine lv_aload_n C.1 C.2.1 d_Lw_law_186 rfl (lv_at hl 0 rfl) ?_
        refine lv_iload_n C.1 C.2.1 d_Lw_law_187 rfl (lv_at hl 3 rfl) ?_
        refine lv_iconst (v := nI 2) C.1 C.2.1 d_Lw_law_188 rfl ?_
        refine lv_iadd C.1 C.2.1 d_Lw_law_189 ?_
        refine gm_eqi (nI_add _ _) ?_
        refine va_sld C.1 C.2.1 hX hbl hbA hh.2.1 (vp_in_nI (by omega) (by omega)) d_Lw_law_190 ?_
        refine gm_eqi (y := xs (i + 2)) (by rw [nI_clamp (by omega)]) ?_
        refine lv_aload_n C.1 C.2.1 d_Lw_law_191 rfl (lv_at hl 0 rfl) ?_
        refine lv_iload_n C.1 C.2.1 d_Lw_law_192 rfl (lv_at hl 3 rfl) ?_
        refine lv_iconst (v := nI 3) C.1 C.2.1 d_Lw_law_193 rfl ?_
        refine lv_iadd C.1 C.2.1 d_Lw_law_194 ?_
        refine gm_eqi (nI_add _ _) ?_
        refine va_sld C.1 C.2.1 hX hbl hbA hh.2.1 (vp_in_nI (by omega) (by omega)) d_Lw_law_195 ?_
        refine gm_eqi (y := xs (i + 3)) (by rw [nI_clamp (by omega)]) ?_
        refine lv_aload_n C.1 C.2.1 d_Lw_law_196 rfl (lv_at hl 0 rfl) ?_
        refine lv_iload_n C.1 C.2.1 d_Lw_law_197 rfl (lv_at hl 3 rfl) ?_
        refine lv_iconst (v := nI 4) C.1 C.2.1 d_Lw_law_198 rfl ?_
        refine lv_iadd C.1 C.2.1 d_Lw_law_199 ?_
        refine gm_eqi (nI_add _ _) ?_
        refine va_sld C.1 C.2.1 hX hbl hbA hh.2.1 (vp_in_nI (by omega) (by omega)) d_Lw_law_200 ?_
        refine gm_eqi (y := xs (i + 4)) (by rw [nI_clamp (by omega)]) ?_
        refine lv_aload_n C.1 C.2.1 d_Lw_law_201 rfl (lv_at hl 0 rfl) ?_
        refine lv_iload_n C.1 C.2.1 d_Lw_law_202 rfl (lv_at hl 3 rfl) ?_
        refine lv_iconst (v := nI 5) C.1 C.2.1 d_Lw_law_203 rfl ?_
        refine lv_iadd C.1 C.2.1 d_Lw_law_204 ?_
        refine gm_eqi (nI_add _ _) ?_
        refine va_sld C.1 C.2.1 hX hbl hbA hh.2.1 (vp_in_nI (by omega) (by omega)) d_Lw_law_205 ?_
        refine gm_eqi (y := xs (i + 5)) (by rw [nI_clamp (by omega)]) ?_
        refine gc_i hh (gc_runV (As := [.int (xs (i + 1)), .int (xs (i + 2)), .int (xs (i + 3)), .int (xs (i + 4)), .int (xs (i + 5))]) (rest := []) (n := 5) C hml hh (c_FT_guard l D cs sh sz I J B hF hS.2.1 0 en8 hn8 (xs (i + 1)) (xs (i + 2)) (xs (i + 3)) (xs (i + 4)) (xs (i + 5))) (tg_V tw_260 tw_261 tw_262 tw_57 tw_263) (by decide +kernel) ⟨rfl, rfl, by decide, by decide, Nat.le_of_ble_eq_true rfl, Nat.le_of_ble_eq_true rfl⟩ hF.1 rfl rfl hl.1 rfl (Nat.le_of_ble_eq_true rfl) d_Lw_law_206) (fun r_17 I_18 J_19 H locs hr_17 hh => ?_)
        obtain ⟨hv_, hop_⟩ := op_guard hS hn8 en8 hr_17
        refine lv_aload_n C.1 C.2.1 d_Lw_law_209 rfl (lv_at hl 2 rfl) ?_
        refine lv_aload_n C.1 C.2.1 d_Lw_law_210 rfl (lv_at hl 0 rfl) ?_
        refine lv_iload_n C.1 C.2.1 d_Lw_law_211 rfl (lv_at hl 3 rfl) ?_
        refine lv_iconst (v := nI 1) C.1 C.2.1 d_Lw_law_212 rfl ?_
        refine lv_iadd C.1 C.2.1 d_Lw_law_213 ?_
        refine gm_eqi (nI_add _ _) ?_
        refine va_sld C.1 C.2.1 hX hbl hbA hh.2.1 (vp_in_nI (by omega) (by omega)) d_Lw_law_214 ?_
        refine gm_eqi (y := xs (i + 1)) (by rw [nI_clamp (by omega)]) ?_
        refine lv_aload_n C.1 C.2.1 d_Lw_law_215 rfl (lv_at hl 0 rfl) ?_
        refine lv_iload_n C.1 C.2.1 d_Lw_law_216 rfl (lv_at hl 3 rfl) ?_
        refine lv_iconst (v := nI 2) C.1 C.2.1 d_Lw_law_217 rfl ?_
        refine lv_iadd C.1 C.2.1 d_Lw_law_218 ?_
        refine gm_eqi (nI_add _ _) ?_
        refine va_sld C.1 C.2.1 hX hbl hbA hh.2.1 (vp_in_nI (by omega) (by omega)) d_Lw_law_219 ?_
        refine gm_eqi (y := xs (i + 2)) (by rw [nI_clamp (by omega)]) ?_
        refine lv_aload_n C.1 C.2.1 d_Lw_law_220 rfl (lv_at hl 0 rfl) ?_
        refine lv_iload_n C.1 C.2.1 d_Lw_law_221 rfl (lv_at hl 3 rfl) ?_
        refine lv_iconst (v := nI 3) C.1 C.2.1 d_Lw_law_222 rfl ?_
        refine lv_iadd C.1 C.2.1 d_Lw_law_223 ?_
        refine gm_eqi (nI_add _ _) ?_
        refine va_sld C.1 C.2.1 hX hbl hbA hh.2.1 (vp_in_nI (by omega) (by omega)) d_Lw_law_224 ?_
        refine gm_eqi (y := xs (i + 3)) (by rw [nI_clamp (by omega)]) ?_
        refine lv_aload_n C.1 C.2.1 d_Lw_law_225 rfl (lv_at hl 0 rfl) ?_
        refine lv_iload_n C.1 C.2.1 d_Lw_law_226 rfl (lv_at hl 3 rfl) ?_
        refine lv_iconst (v := nI 4) C.1 C.2.1 d_Lw_law_227 rfl ?_
        refine lv_iadd C.1 C.2.1 d_Lw_law_228 ?_
        refine gm_eqi (nI_add _ _) ?_
        refine va_sld C.1 C.2.1 hX hbl hbA hh.2.1 (vp_in_nI (by omega) (by omega)) d_Lw_law_229 ?_
        refine gm_eqi (y := xs (i + 4)) (by rw [nI_clamp (by omega)]) ?_
        refine lv_aload_n C.1 C.2.1 d_Lw_law_230 rfl (lv_at hl 0 rfl) ?_
        refine lv_iload_n C.1 C.2.1 d_Lw_law_231 rfl (lv_at hl 3 rfl) ?_
        refine lv_iconst (v := nI 5) C.1 C.2.1 d_Lw_law_232 rfl ?_
        refine lv_iadd C.1 C.2.1 d_Lw_law_233 ?_
        refine gm_eqi (nI_add _ _) ?_
        refine va_sld C.1 C.2.1 hX hbl hbA hh.2.1 (vp_in_nI (by omega) (by omega)) d_Lw_law_234 ?_
        refine gm_eqi (y := xs (i + 5)) (by rw [nI_clamp (by omega)]) ?_
        refine gc_i hh (gc_runV (As := [.int (xs (i + 1)), .int (xs (i + 2)), .int (xs (i + 3)), .int (xs (i + 4)), .int (xs (i + 5))]) (rest := [.int r_17]) (n := 5) C hml hh (c_Md_guard l D cs sh sz I_18 J_19 r hM hv_ (xs (i + 1)) (xs (i + 2)) (xs (i + 3)) (xs (i + 4)) (xs (i + 5))) (tg_V tw_691 tw_692 tw_693 tw_64 tw_694) (by decide +kernel) ⟨rfl, rfl, by decide, by decide, Nat.le_of_ble_eq_true rfl, Nat.le_of_ble_eq_true rfl⟩ (Md_0 hM) rfl rfl hl.1 rfl (Nat.le_of_ble_eq_true rfl) d_Lw_law_235) (fun r_20 I_21 J_22 H locs hr_20 hh => ?_)
        obtain ⟨hS_23, xz_⟩ := hop_ _ _ _ hr_20
        refine lv_icmp_eq (tgt := 1011) C.1 C.2.1 d_Lw_law_238 (by decide) (fun c_ => ?_) (fun c_ => absurd xz_ c_)
        refine lv_iinc (v := nI (i + 7)) (lv' := [(3, .int (nI (i + 7))), (0, .ref b), (1, .ref B), (2, .ref r)]) C.1 C.2.1 d_Lw_law_1011 hl (k := 3) rfl (gm_inc i 7) (by decide) rfl (fun ls hl => ?_)
        refine lv_goto (tgt := 18) C.1 C.2.1 d_Lw_law_1014 (by decide) ?_
        exact ih (i + 7) I_21 J_22 (by omega) hS_23 (fun h_ => absurd h_ (by omega)) (by omega) _ _ _ hh (lv_sub hl [1, 2, 3, 0] rfl)
      by_cases co_3 : x_2 = nI 3
      · -- 3
        refine lv_tableIn (tgt := 243) (off := 210) C.1 C.2.1 d_Lw_law_33 (by rw [co_3]; decide) (by rw [co_3]; decide) (by rw [co_3]; decide +kernel) (by decide) ?_
        refine lv_aload_n C.1 C.2.1 d_Lw_law_243 rfl (lv_at hl 1 rfl) ?_
        refine lv_aload_n C.1 C.2.1 d_Lw_law_244 rfl (lv_at hl 0 rfl) ?_
        refine lv_iload_n C.1 C.2.1 d_Lw_law_245 rfl (lv_at hl 3 rfl) ?_
        refine lv_iconst (v := nI 1) C.1 C.2.1 d_Lw_law_246 rfl ?_
        refine lv_iadd C.1 C.2.1 d_Lw_law_247 ?_
        refine gm_eqi (nI_add _ _) ?_
        refine va_sld C.1 C.2.1 hX hbl hbA hh.2.1 (vp_in_nI (by omega) (by omega)) d_Lw_law_248 ?_
        refine gm_eqi (y := xs (i + 1)) (by rw [nI_clamp (by omega)]) ?_
        refine gc_i hh (gc_runV (As := [.int (xs (i + 1))]) (rest := []) (n := 1) C hml hh (c_FT_way l D cs sh sz I J B hF hS.2.1 0 en8 hn8 (xs (i + 1))) (tg_V tw_282 tw_283 tw_284 tw_57 tw_285) (by decide +kernel) ⟨rfl, rfl, by decide, by decide, Nat.le_of_ble_eq_true rfl, Nat.le_of_ble_eq_true rfl⟩ hF.1 rfl rfl hl.1 rfl (Nat.le_of_ble_eq_true rfl) d_Lw_law_249) (fun r_24 I_25 J_26 H locs hr_24 hh => ?_)
        obtain ⟨hv_, hop_⟩ := op_way hS hn8 en8 hr_24
        refine lv_aload_n C.1 C.2.1 d_Lw_law_252 rfl (lv_at hl 2 rfl) ?_
        refine lv_aload_n C.1 C.2.1 d_Lw_law_253 rfl (lv_at hl 0 rfl) ?_
        refine lv_iload_n C.1 C.2.1 d_Lw_law_254 rfl (lv_at hl 3 rfl) ?_
        refine lv_iconst (v := nI 1) C.1 C.2.1 d_Lw_law_255 rfl ?_
        refine lv_iadd C.1 C.2.1 d_Lw_law_256 ?_
        refine gm_eqi (nI_add _ _) ?_
        refine va_sld C.1 C.2.1 hX hbl hbA hh.2.1 (vp_in_nI (by omega) (by omega)) d_Lw_law_257 ?_
        refine gm_eqi (y := xs (i + 1)) (by rw [nI_clamp (by omega)]) ?_
        refine gc_i hh (gc_runV (As := [.int (xs (i + 1))]) (rest := [.int r_24]) (n := 1) C hml hh (c_Md_way l D cs sh sz I_25 J_26 r hM hv_ (xs (i + 1))) (tg_V tw_710 tw_711 tw_712 tw_64 tw_713) (by decide +kernel) ⟨rfl, rfl, by decide, by decide, Nat.le_of_ble_eq_true rfl, Nat.le_of_ble_eq_true rfl⟩ (Md_0 hM) rfl rfl hl.1 rfl (Nat.le_of_ble_eq_true rfl) d_Lw_law_258) (fun r_27 I_28 J_29 H locs hr_27 hh => ?_)
        obtain ⟨hS_30, xz_⟩ := hop_ _ _ _ hr_27
        refine lv_icmp_eq (tgt := 1011) C.1 C.2.1 d_Lw_law_261 (by decide) (fun c_ => ?_) (fun c_ => absurd xz_ c_)
        refine lv_iinc (v := nI (i + 7)) (lv' := [(3, .int (nI (i + 7))), (0, .ref b), (1, .ref B), (2, .ref r)]) C.1 C.2.1 d_Lw_law_1011 hl (k := 3) rfl (gm_inc i 7) (by decide) rfl (fun ls hl => ?_)
        refine lv_goto (tgt := 18) C.1 C.2.1 d_Lw_law_1014 (by decide) ?_
        exact ih (i + 7) I_28 J_29 (by omega) hS_30 (fun h_ => absurd h_ (by omega)) (by omega) _ _ _ hh (lv_sub hl [1, 2, 3, 0] rfl)
      by_cases co_4 : x_2 = nI 4
      · -- 4
        refine lv_tableIn (tgt := 266) (off := 233) C.1 C.2.1 d_Lw_law_33 (by rw [co_4]; decide) (by rw [co_4]; decide) (by rw [co_4]; decide +kernel) (by decide) ?_
        refine lv_aload_n C.1 C.2.1 d_Lw_law_266 rfl (lv_at hl 1 rfl) ?_
        refine lv_aload_n C.1 C.2.1 d_Lw_law_267 rfl (lv_at hl 0 rfl) ?_
        refine lv_iload_n C.1 C.2.1 d_Lw_law_268 rfl (lv_at hl 3 rfl) ?_
        refine lv_iconst (v := nI 1) C.1 C.2.1 d_Lw_law_269 rfl ?_
        refine lv_iadd C.1 C.2.1 d_Lw_law_270 ?_
        refine gm_eqi (nI_add _ _) ?_
        refine va_sld C.1 C.2.1 hX hbl hbA hh.2.1 (vp_in_nI (by omega) (by omega)) d_Lw_law_271 ?_
        refine gm_eqi (y := xs (i + 1)) (by rw [nI_clamp (by omega)]) ?_
        refine lv_aload_n C.1 C.2.1 d_Lw_law_272 rfl (lv_at hl 0 rfl) ?_
        refine lv_iload_n C.1 C.2.1 d_Lw_law_273 rfl (lv_at hl 3 rfl) ?_
        refine lv_iconst (v := nI 2) C.1 C.2.1 d_Lw_law_274 rfl ?_
        refine lv_iadd C.1 C.2.1 d_Lw_law_275 ?_
        refine gm_eqi (nI_add _ _) ?_
        refine va_sld C.1 C.2.1 hX hbl hbA hh.2.1 (vp_in_nI (by omega) (by omega)) d_Lw_law_276 ?_
        refine gm_eqi (y := xs (i + 2)) (by rw [nI_clamp (by omega)]) ?_
        refine lv_aload_n C.1 C.2.1 d_Lw_law_277 rfl (lv_at hl 0 rfl) ?_
        refine lv_iload_n C.1 C.2.1 d_Lw_law_278 rfl (lv_at hl 3 rfl) ?_
        refine lv_iconst (v := nI 3) C.1 C.2.1 d_Lw_law_279 rfl ?_
        refine lv_iadd C.1 C.2.1 d_Lw_law_280 ?_
        refine gm_eqi (nI_add _ _) ?_
        refine va_sld C.1 C.2.1 hX hbl hbA hh.2.1 (vp_in_nI (by omega) (by omega)) d_Lw_law_281 ?_
        refine gm_eqi (y := xs (i + 3)) (by rw [nI_clamp (by omega)]) ?_
        refine lv_aload_n C.1 C.2.1 d_Lw_law_282 rfl (lv_at hl 0 rfl) ?_
        refine lv_iload_n C.1 C.2.1 d_Lw_law_283 rfl (lv_at hl 3 rfl) ?_
        refine lv_iconst (v := nI 4) C.1 C.2.1 d_Lw_law_284 rfl ?_
        refine lv_iadd C.1 C.2.1 d_Lw_law_285 ?_
        refine gm_eqi (nI_add _ _) ?_
        refine va_sld C.1 C.2.1 hX hbl hbA hh.2.1 (vp_in_nI (by omega) (by omega)) d_Lw_law_286 ?_
        refine gm_eqi (y := xs (i + 4)) (by rw [nI_clamp (by omega)]) ?_
        refine lv_aload_n C.1 C.2.1 d_Lw_law_287 rfl (lv_at hl 0 rfl) ?_
        refine lv_iload_n C.1 C.2.1 d_Lw_law_288 rfl (lv_at hl 3 rfl) ?_
        refine lv_iconst (v := nI 5) C.1 C.2.1 d_Lw_law_289 rfl ?_
        refine lv_iadd C.1 C.2.1 d_Lw_law_290 ?_
        refine gm_eqi (nI_add _ _) ?_
        refine va_sld C.1 C.2.1 hX hbl hbA hh.2.1 (vp_in_nI (by omega) (by omega)) d_Lw_law_291 ?_
        refine gm_eqi (y := xs (i + 5)) (by rw [nI_clamp (by omega)]) ?_
        refine lv_aload_n C.1 C.2.1 d_Lw_law_292 rfl (lv_at hl 0 rfl) ?_
        refine lv_iload_n C.1 C.2.1 d_Lw_law_293 rfl (lv_at hl 3 rfl) ?_
        refine lv_bipush (v := nI 6) C.1 C.2.1 d_Lw_law_294 rfl ?_
        refine lv_iadd C.1 C.2.1 d_Lw_law_296 ?_
        refine gm_eqi (nI_add _ _) ?_
        refine va_sld C.1 C.2.1 hX hbl hbA hh.2.1 (vp_in_nI (by omega) (by omega)) d_Lw_law_297 ?_
        refine gm_eqi (y := xs (i + 6)) (by rw [nI_clamp (by omega)]) ?_
        refine gc_i hh (gc_runV (As := [.int (xs (i + 1)), .int (xs (i + 2)), .int (xs (i + 3)), .int (xs (i + 4)), .int (xs (i + 5)), .int (xs (i + 6))]) (rest := []) (n := 6) C hml hh (c_FT_row l D cs sh sz I J B hF hS.2.1 0 en8 hn8 (xs (i + 1)) (xs (i + 2)) (xs (i + 3)) (xs (i + 4)) (xs (i + 5)) (xs (i + 6))) (tg_V tw_294 tw_295 tw_296 tw_57 tw_297) (by decide +kernel) ⟨rfl, rfl, by decide, by decide, Nat.le_of_ble_eq_true rfl, Nat.le_of_ble_eq_true rfl⟩ hF.1 rfl rfl hl.1 rfl (Nat.le_of_ble_eq_true rfl) d_Lw_law_298) (fun r_31 I_32 J_33 H locs hr_31 hh => ?_)
        obtain ⟨hv_, hop_⟩ := op_row hS hn8 en8 hr_31
        refine lv_aload_n C.1 C.2.1 d_Lw_law_301 rfl (lv_at hl 2 rfl) ?_
        refine lv_aload_n C.1 C.2.1 d_Lw_law_302 rfl (lv_at hl 0 rfl) ?_
        refine lv_iload_n C.1 C.2.1 d_Lw_law_303 rfl (lv_at hl 3 rfl) ?_
        refine lv_iconst (v := nI 1) C.1 C.2.1 d_Lw_law_304 rfl ?_
        refine lv_iadd C.1 C.2.1 d_Lw_law_305 ?_
        refine gm_eqi (nI_add _ _) ?_
        refine va_sld C.1 C.2.1 hX hbl hbA hh.2.1 (vp_in_nI (by omega) (by omega)) d_Lw_law_306 ?_
        refine gm_eqi (y := xs (i + 1)) (by rw [nI_clamp (by omega)]) ?_
        refine lv_aload_n C.1 C.2.1 d_Lw_law_307 rfl (lv_at hl 0 rfl) ?_
        refine lv_iload_n C.1 C.2.1 d_Lw_law_308 rfl (lv_at hl 3 rfl) ?_
        refine lv_iconst (v := nI 2) C.1 C.2.1 d_Lw_law_309 rfl ?_
        refine lv_iadd C.1 C.2.1 d_Lw_law_310 ?_
        refine gm_eqi (nI_add _ _) ?_
        refine va_sld C.1 C.2.1 hX hbl hbA hh.2.1 (vp_in_nI (by omega) (by omega)) d_Lw_law_311 ?_
        refine gm_eqi (y := xs (i + 2)) (by rw [nI_clamp (by omega)]) ?_
        refine lv_aload_n C.1 C.2.1 d_Lw_law_312 rfl (lv_at hl 0 rfl) ?_
        refine lv_iload_n C.1 C.2.1 d_Lw_law_313 rfl (lv_at hl 3 rfl) ?_
        refine lv_iconst (v := nI 3) C.1 C.2.1 d_Lw_law_314 rfl ?_
        refine lv_iadd C.1 C.2.1 d_Lw_law_315 ?_
        refine gm_eqi (nI_add _ _) ?_
        refine va_sld C.1 C.2.1 hX hbl hbA hh.2.1 (vp_in_nI (by omega) (by omega)) d_Lw_law_316 ?_
        refine gm_eqi (y := xs (i + 3)) (by rw [nI_clamp (by omega)]) ?_
        refine lv_aload_n C.1 C.2.1 d_Lw_law_317 rfl (lv_at hl 0 rfl) ?_
        refine lv_iload_n C.1 C.2.1 d_Lw_law_318 rfl (lv_at hl 3 rfl) ?_
        refine lv_iconst (v := nI 4) C.1 C.2.1 d_Lw_law_319 rfl ?_
        refine lv_iadd C.1 C.2.1 d_Lw_law_320 ?_
        refine gm_eqi (nI_add _ _) ?_
        refine va_sld C.1 C.2.1 hX hbl hbA hh.2.1 (vp_in_nI (by omega) (by omega)) d_Lw_law_321 ?_
        refine gm_eqi (y := xs (i + 4)) (by rw [nI_clamp (by omega)]) ?_
        refine lv_aload_n C.1 C.2.1 d_Lw_law_322 rfl (lv_at hl 0 rfl) ?_
        refine lv_iload_n C.1 C.2.1 d_Lw_law_323 rfl (lv_at hl 3 rfl) ?_
        refine lv_iconst (v := nI 5) C.1 C.2.1 d_Lw_law_324 rfl ?_
        refine lv_iadd C.1 C.2.1 d_Lw_law_325 ?_
        refine gm_eqi (nI_add _ _) ?_
        refine va_sld C.1 C.2.1 hX hbl hbA hh.2.1 (vp_in_nI (by omega) (by omega)) d_Lw_law_326 ?_
        refine gm_eqi (y := xs (i + 5)) (by rw [nI_clamp (by omega)]) ?_
        refine lv_aload_n C.1 C.2.1 d_Lw_law_327 rfl (lv_at hl 0 rfl) ?_
        refine lv_iload_n C.1 C.2.1 d_Lw_law_328 rfl (lv_at hl 3 rfl) ?_
        refine lv_bipush (v := nI 6) C.1 C.2.1 d_Lw_law_329 rfl ?_
        refine lv_iadd C.1 C.2.1 d_Lw_law_331 ?_
        refine gm_eqi (nI_add _ _) ?_
        refine va_sld C.1 C.2.1 hX hbl hbA hh.2.1 (vp_in_nI (by omega) (by omega)) d_Lw_law_332 ?_
        refine gm_eqi (y := xs (i + 6)) (by rw [nI_clamp (by omega)]) ?_
        refine gc_i hh (gc_runV (As := [.int (xs (i + 1)), .int (xs (i + 2)), .int (xs (i + 3)), .int (xs (i + 4)), .int (xs (i + 5)), .int (xs (i + 6))]) (rest := [.int r_31]) (n := 6) C hml hh (c_Md_row l D cs sh sz I_32 J_33 r hM hv_ (xs (i + 1)) (xs (i + 2)) (xs (i + 3)) (xs (i + 4)) (xs (i + 5)) (xs (i + 6))) (tg_V tw_714 tw_715 tw_716 tw_64 tw_717) (by decide +kernel) ⟨rfl, rfl, by decide, by decide, Nat.le_of_ble_eq_true rfl, Nat.le_of_ble_eq_true rfl⟩ (Md_0 hM) rfl rfl hl.1 rfl (Nat.le_of_ble_eq_true rfl) d_Lw_law_333) (fun r_34 I_35 J_36 H locs hr_34 hh => ?_)
        obtain ⟨hS_37, xz_⟩ := hop_ _ _ _ hr_34
        refine lv_icmp_eq (tgt := 1011) C.1 C.2.1 d_Lw_law_336 (by decide) (fun c_ => ?_) (fun c_ => absurd xz_ c_)
        refine lv_iinc (v := nI (i + 7)) (lv' := [(3, .int (nI (i + 7))), (0, .ref b), (1, .ref B), (2, .ref r)]) C.1 C.2.1 d_Lw_law_1011 hl (k := 3) rfl (gm_inc i 7) (by decide) rfl (fun ls hl => ?_)
        refine lv_goto (tgt := 18) C.1 C.2.1 d_Lw_law_1014 (by decide) ?_
        exact ih (i + 7) I_35 J_36 (by omega) hS_37 (fun h_ => absurd h_ (by omega)) (by omega) _ _ _ hh (lv_sub hl [1, 2, 3, 0] rfl)
      by_cases co_5 : x_2 = nI 5
      · -- 5
        refine lv_tableIn (tgt := 341) (off := 308) C.1 C.2.1 d_Lw_law_33 (by rw [co_5]; decide) (by rw [co_5]; decide) (by rw [co_5]; decide +kernel) (by decide) ?_
        refine lv_aload_n C.1 C.2.1 d_Lw_law_341 rfl (lv_at hl 1 rfl) ?_
        refine lv_aload_n C.1 C.2.1 d_Lw_law_342 rfl (lv_at hl 0 rfl) ?_
        refine lv_iload_n C.1 C.2.1 d_Lw_law_343 rfl (lv_at hl 3 rfl) ?_
        refine lv_iconst (v := nI 1) C.1 C.2.1 d_Lw_law_344 rfl ?_
        refine lv_iadd C.1 C.2.1 d_Lw_law_345 ?_
        refine gm_eqi (nI_add _ _) ?_
        refine va_sld C.1 C.2.1 hX hbl hbA hh.2.1 (vp_in_nI (by omega) (by omega)) d_Lw_law_346 ?_
        refine gm_eqi (y := xs (i + 1)) (by rw [nI_clamp (by omega)]) ?_
        refine lv_aload_n C.1 C.2.1 d_Lw_law_347 rfl (lv_at hl 0 rfl) ?_
        refine lv_iload_n C.1 C.2.1 d_Lw_law_348 rfl (lv_at hl 3 rfl) ?_
        refine lv_iconst (v := nI 2) C.1 C.2.1 d_Lw_law_349 rfl ?_
        refine lv_iadd C.1 C.2.1 d_Lw_law_350 ?_
        refine gm_eqi (nI_add _ _) ?_
        refine va_sld C.1 C.2.1 hX hbl hbA hh.2.1 (vp_in_nI (by omega) (by omega)) d_Lw_law_351 ?_
        refine gm_eqi (y := xs (i + 2)) (by rw [nI_clamp (by omega)]) ?_
        refine lv_aload_n C.1 C.2.1 d_Lw_law_352 rfl (lv_at hl 0 rfl) ?_
        refine lv_iload_n C.1 C.2.1 d_Lw_law_353 rfl (lv_at hl 3 rfl) ?_
        refine lv_iconst (v := nI 3) C.1 C.2.1 d_Lw_law_354 rfl ?_
        refine lv_iadd C.1 C.2.1 d_Lw_law_355 ?_
        refine gm_eqi (nI_add _ _) ?_
        refine va_sld C.1 C.2.1 hX hbl hbA hh.2.1 (vp_in_nI (by omega) (by omega)) d_Lw_law_356 ?_
        refine gm_eqi (y := xs (i + 3)) (by rw [nI_clamp (by omega)]) ?_
        refine lv_aload_n C.1 C.2.1 d_Lw_law_357 rfl (lv_at hl 0 rfl) ?_
        refine lv_iload_n C.1 C.2.1 d_Lw_law_358 rfl (lv_at hl 3 rfl) ?_
        refine lv_iconst (v := nI 4) C.1 C.2.1 d_Lw_law_359 rfl ?_
        refine lv_iadd C.1 C.2.1 d_Lw_law_360 ?_
        refine gm_eqi (nI_add _ _) ?_
        refine va_sld C.1 C.2.1 hX hbl hbA hh.2.1 (vp_in_nI (by omega) (by omega)) d_Lw_law_361 ?_
        refine gm_eqi (y := xs (i + 4)) (by rw [nI_clamp (by omega)]) ?_
        refine lv_aload_n C.1 C.2.1 d_Lw_law_362 rfl (lv_at hl 0 rfl) ?_
        refine lv_iload_n C.1 C.2.1 d_Lw_law_363 rfl (lv_at hl 3 rfl) ?_
        refine lv_iconst (v := nI 5) C.1 C.2.1 d_Lw_law_364 rfl ?_
        refine lv_iadd C.1 C.2.1 d_Lw_law_365 ?_
        refine gm_eqi (nI_add _ _) ?_
        refine va_sld C.1 C.2.1 hX hbl hbA hh.2.1 (vp_in_nI (by omega) (by omega)) d_Lw_law_366 ?_
        refine gm_eqi (y := xs (i + 5)) (by rw [nI_clamp (by omega)]) ?_
        refine gc_i hh (gc_runV (As := [.int (xs (i + 1)), .int (xs (i + 2)), .int (xs (i + 3)), .int (xs (i + 4)), .int (xs (i + 5))]) (rest := []) (n := 5) C hml hh (c_FT_factor l D cs sh sz I J B hF hS.2.1 0 en8 hn8 (xs (i + 1)) (xs (i + 2)) (xs (i + 3)) (xs (i + 4)) (xs (i + 5))) (tg_V tw_302 tw_303 tw_304 tw_57 tw_305) (by decide +kernel) ⟨rfl, rfl, by decide, by decide, Nat.le_of_ble_eq_true rfl, Nat.le_of_ble_eq_true rfl⟩ hF.1 rfl rfl hl.1 rfl (Nat.le_of_ble_eq_true rfl) d_Lw_law_367) (fun r_38 I_39 J_40 H locs hr_38 hh => ?_)
        obtain ⟨hv_, hop_⟩ := op_factor hS hn8 en8 hr_38
        refine lv_aload_n C.1 C.2.1 d_Lw_law_370 rfl (lv_at hl 2 rfl) ?_
        refine lv_aload_n C.1 C.2.1 d_Lw_law_371 rfl (lv_at hl 0 rfl) ?_
        refine lv_iload_n C.1 C.2.1 d_Lw_law_372 rfl (lv_at hl 3 rfl) ?_
        refine lv_iconst (v := nI 1) C.1 C.2.1 d_Lw_law_373 rfl ?_
        refine lv_iadd C.1 C.2.1 d_Lw_law_374 ?_
        refine gm_eqi (nI_add _ _) ?_
        refine va_sld C.1 C.2.1 hX hbl hbA hh.2.1 (vp_in_nI (by omega) (by omega)) d_Lw_law_375 ?_
        refine gm_eqi (y := xs (i + 1)) (by rw [nI_clamp (by omega)]) ?_
        refine lv_aload_n C.1 C.2.1 d_Lw_law_376 rfl (lv_at hl 0 rfl) ?_
        refine lv_iload_n C.1 C.2.1 d_Lw_law_377 rfl (lv_at hl 3 rfl) ?_
        refine lv_iconst (v := nI 2) C.1 C.2.1 d_Lw_law_378 rfl ?_
        refine lv_iadd C.1 C.2.1 d_Lw_law_379 ?_
        refine gm_eqi (nI_add _ _) ?_
        refine va_sld C.1 C.2.1 hX hbl hbA hh.2.1 (vp_in_nI (by omega) (by omega)) d_Lw_law_380 ?_
        refine gm_eqi (y := xs (i + 2)) (by rw [nI_clamp (by omega)]) ?_
        refine lv_aload_n C.1 C.2.1 d_Lw_law_381 rfl (lv_at hl 0 rfl) ?_
        refine lv_iload_n C.1 C.2.1 d_Lw_law_382 rfl (lv_at hl 3 rfl) ?_
        refine lv_iconst (v := nI 3) C.1 C.2.1 d_Lw_law_383 rfl ?_
        refine lv_iadd C.1 C.2.1 d_Lw_law_384 ?_
        refine gm_eqi (nI_add _ _) ?_
        refine va_sld C.1 C.2.1 hX hbl hbA hh.2.1 (vp_in_nI (by omega) (by omega)) d_Lw_law_385 ?_
        refine gm_eqi (y := xs (i + 3)) (by rw [nI_clamp (by omega)]) ?_
        refine lv_aload_n C.1 C.2.1 d_Lw_law_386 rfl (lv_at hl 0 rfl) ?_
        refine lv_iload_n C.1 C.2.1 d_Lw_law_387 rfl (lv_at hl 3 rfl) ?_
        refine lv_iconst (v := nI 4) C.1 C.2.1 d_Lw_law_388 rfl ?_
        refine lv_iadd C.1 C.2.1 d_Lw_law_389 ?_
        refine gm_eqi (nI_add _ _) ?_
        refine va_sld C.1 C.2.1 hX hbl hbA hh.2.1 (vp_in_nI (by omega) (by omega)) d_Lw_law_390 ?_
        refine gm_eqi (y := xs (i + 4)) (by rw [nI_clamp (by omega)]) ?_
        refine lv_aload_n C.1 C.2.1 d_Lw_law_391 rfl (lv_at hl 0 rfl) ?_
        refine lv_iload_n C.1 C.2.1 d_Lw_law_392 rfl (lv_at hl 3 rfl) ?_
        refine lv_iconst (v := nI 5) C.1 C.2.1 d_Lw_law_393 rfl ?_
        refine lv_iadd C.1 C.2.1 d_Lw_law_394 ?_
        refine gm_eqi (nI_add _ _) ?_
        refine va_sld C.1 C.2.1 hX hbl hbA hh.2.1 (vp_in_nI (by omega) (by omega)) d_Lw_law_395 ?_
        refine gm_eqi (y := xs (i + 5)) (by rw [nI_clamp (by omega)]) ?_
        refine gc_i hh (gc_runV (As := [.int (xs (i + 1)), .int (xs (i + 2)), .int (xs (i + 3)), .int (xs (i + 4)), .int (xs (i + 5))]) (rest := [.int r_38]) (n := 5) C hml hh (c_Md_factor l D cs sh sz I_39 J_40 r hM hv_ (xs (i + 1)) (xs (i + 2)) (xs (i + 3)) (xs (i + 4)) (xs (i + 5))) (tg_V tw_722 tw_723 tw_724 tw_64 tw_725) (by decide +kernel) ⟨rfl, rfl, by decide, by decide, Nat.le_of_ble_eq_true rfl, Nat.le_of_ble_eq_true rfl⟩ (Md_0 hM) rfl rfl hl.1 rfl (Nat.le_of_ble_eq_true rfl) d_Lw_law_396) (fun r_41 I_42 J_43 H locs hr_41 hh => ?_)
        obtain ⟨hS_44, xz_⟩ := hop_ _ _ _ hr_41
        refine lv_icmp_eq (tgt := 1011) C.1 C.2.1 d_Lw_law_399 (by decide) (fun c_ => ?_) (fun c_ => absurd xz_ c_)
        refine lv_iinc (v := nI (i + 7)) (lv' := [(3, .int (nI (i + 7))), (0, .ref b), (1, .ref B), (2, .ref r)]) C.1 C.2.1 d_Lw_law_1011 hl (k := 3) rfl (gm_inc i 7) (by decide) rfl (fun ls hl => ?_)
        refine lv_goto (tgt := 18) C.1 C.2.1 d_Lw_law_1014 (by decide) ?_
        exact ih (i + 7) I_42 J_43 (by omega) hS_44 (fun h_ => absurd h_ (by omega)) (by omega) _ _ _ hh (lv_sub hl [1, 2, 3, 0] rfl)
      by_cases co_6 : x_2 = nI 6
      · -- 6
        refine lv_tableIn (tgt := 404) (off := 371) C.1 C.2.1 d_Lw_law_33 (by rw [co_6]; decide) (by rw [co_6]; decide) (by rw [co_6]; decide +kernel) (by decide) ?_
        refine lv_aload_n C.1 C.2.1 d_Lw_law_404 rfl (lv_at hl 1 rfl) ?_
        refine lv_aload_n C.1 C.2.1 d_Lw_law_405 rfl (lv_at hl 0 rfl) ?_
        refine lv_iload_n C.1 C.2.1 d_Lw_law_406 rfl (lv_at hl 3 rfl) ?_
        refine lv_iconst (v := nI 1) C.1 C.2.1 d_Lw_law_407 rfl ?_
        refine lv_iadd C.1 C.2.1 d_Lw_law_408 ?_
        refine gm_eqi (nI_add _ _) ?_
        refine va_sld C.1 C.2.1 hX hbl hbA hh.2.1 (vp_in_nI (by omega) (by omega)) d_Lw_law_409 ?_
        refine gm_eqi (y := xs (i + 1)) (by rw [nI_clamp (by omega)]) ?_
        refine lv_aload_n C.1 C.2.1 d_Lw_law_410 rfl (lv_at hl 0 rfl) ?_
        refine lv_iload_n C.1 C.2.1 d_Lw_law_411 rfl (lv_at hl 3 rfl) ?_
        refine lv_iconst (v := nI 2) C.1 C.2.1 d_Lw_law_412 rfl ?_
        refine lv_iadd C.1 C.2.1 d_Lw_law_413 ?_
        refine gm_eqi (nI_add _ _) ?_
        refine va_sld C.1 C.2.1 hX hbl hbA hh.2.1 (vp_in_nI (by omega) (by omega)) d_Lw_law_414 ?_
        refine gm_eqi (y := xs (i + 2)) (by rw [nI_clamp (by omega)]) ?_
        refine lv_aload_n C.1 C.2.1 d_Lw_law_415 rfl (lv_at hl 0 rfl) ?_
        refine lv_iload_n C.1 C.2.1 d_Lw_law_416 rfl (lv_at hl 3 rfl) ?_
        refine lv_iconst (v := nI 3) C.1 C.2.1 d_Lw_law_417 rfl ?_
        refine lv_iadd C.1 C.2.1 d_Lw_law_418 ?_
        refine gm_eqi (nI_add _ _) ?_
        refine va_sld C.1 C.2.1 hX hbl hbA hh.2.1 (vp_in_nI (by omega) (by omega)) d_Lw_law_419 ?_
        refine gm_eqi (y := xs (i + 3)) (by rw [nI_clamp (by omega)]) ?_
        refine lv_aload_n C.1 C.2.1 d_Lw_law_420 rfl (lv_at hl 0 rfl) ?_
        refine lv_iload_n C.1 C.2.1 d_Lw_law_421 rfl (lv_at hl 3 rfl) ?_
        refine lv_iconst (v := nI 4) C.1 C.2.1 d_Lw_law_422 rfl ?_
        refine lv_iadd C.1 C.2.1 d_Lw_law_423 ?_
        refine gm_eqi (nI_add _ _) ?_
        refine va_sld C.1 C.2.1 hX hbl hbA hh.2.1 (vp_in_nI (by omega) (by omega)) d_Lw_law_424 ?_
        refine gm_eqi (y := xs (i + 4)) (by rw [nI_clamp (by omega)]) ?_
        refine gc_i hh (gc_runV (As := [.int (xs (i + 1)), .int (xs (i + 2)), .int (xs (i + 3)), .int (xs (i + 4))]) (rest := []) (n := 4) C hml hh (c_FT_constant l D cs sh sz I J B hF hS.2.1 0 en8 hn8 (xs (i + 1)) (xs (i + 2)) (xs (i + 3)) (xs (i + 4))) (tg_V tw_310 tw_311 tw_312 tw_57 tw_313) (by decide +kernel) ⟨rfl, rfl, by decide, by decide, Nat.le_of_ble_eq_true rfl, Nat.le_of_ble_eq_true rfl⟩ hF.1 rfl rfl hl.1 rfl (Nat.le_of_ble_eq_true rfl) d_Lw_law_425) (fun r_45 I_46 J_47 H locs hr_45 hh => ?_)
        obtain ⟨hv_, hop_⟩ := op_constant hS hn8 en8 hr_45
        refine lv_aload_n C.1 C.2.1 d_Lw_law_428 rfl (lv_at hl 2 rfl) ?_
        refine lv_aload_n C.1 C.2.1 d_Lw_law_429 rfl (lv_at hl 0 rfl) ?_
        refine lv_iload_n C.1 C.2.1 d_Lw_law_430 rfl (lv_at hl 3 rfl) ?_
        refine lv_iconst (v := nI 1) C.1 C.2.1 d_Lw_law_431 rfl ?_
        refine lv_iadd C.1 C.2.1 d_Lw_law_432 ?_
        refine gm_eqi (nI_add _ _) ?_
        refine va_sld C.1 C.2.1 hX hbl hbA hh.2.1 (vp_in_nI (by omega) (by omega)) d_Lw_law_433 ?_
        refine gm_eqi (y := xs (i + 1)) (by rw [nI_clamp (by omega)]) ?_
        refine lv_aload_n C.1 C.2.1 d_Lw_law_434 rfl (lv_at hl 0 rfl) ?_
        refine lv_iload_n C.1 C.2.1 d_Lw_law_435 rfl (lv_at hl 3 rfl) ?_
        refine lv_iconst (v := nI 2) C.1 C.2.1 d_Lw_law_436 rfl ?_
        refine lv_iadd C.1 C.2.1 d_Lw_law_437 ?_
        refine gm_eqi (nI_add _ _) ?_
        refine va_sld C.1 C.2.1 hX hbl hbA hh.2.1 (vp_in_nI (by omega) (by omega)) d_Lw_law_438 ?_
        refine gm_eqi (y := xs (i + 2)) (by rw [nI_clamp (by omega)]) ?_
        refine lv_aload_n C.1 C.2.1 d_Lw_law_439 rfl (lv_at hl 0 rfl) ?_
        refine lv_iload_n C.1 C.2.1 d_Lw_law_440 rfl (lv_at hl 3 rfl) ?_
        refine lv_iconst (v := nI 3) C.1 C.2.1 d_Lw_law_441 rfl ?_
        refine lv_iadd C.1 C.2.1 d_Lw_law_442 ?_
        refine gm_eqi (nI_add _ _) ?_
        refine va_sld C.1 C.2.1 hX hbl hbA hh.2.1 (vp_in_nI (by omega) (by omega)) d_Lw_law_443 ?_
        refine gm_eqi (y := xs (i + 3)) (by rw [nI_clamp (by omega)]) ?_
        refine lv_aload_n C.1 C.2.1 d_Lw_law_444 rfl (lv_at hl 0 rfl) ?_
        refine lv_iload_n C.1 C.2.1 d_Lw_law_445 rfl (lv_at hl 3 rfl) ?_
        refine lv_iconst (v := nI 4) C.1 C.2.1 d_Lw_law_446 rfl ?_
        refine lv_iadd C.1 C.2.1 d_Lw_law_447 ?_
        refine gm_eqi (nI_add _ _) ?_
        refine va_sld C.1 C.2.1 hX hbl hbA hh.2.1 (vp_in_nI (by omega) (by omega)) d_Lw_law_448 ?_
        refine gm_eqi (y := xs (i + 4)) (by rw [nI_clamp (by omega)]) ?_
        refine gc_i hh (gc_runV (As := [.int (xs (i + 1)), .int (xs (i + 2)), .int (xs (i + 3)), .int (xs (i + 4))]) (rest := [.int r_45]) (n := 4) C hml hh (c_Md_constant l D cs sh sz I_46 J_47 r hM hv_ (xs (i + 1)) (xs (i + 2)) (xs (i + 3)) (xs (i + 4))) (tg_V tw_730 tw_731 tw_732 tw_64 tw_733) (by decide +kernel) ⟨rfl, rfl, by decide, by decide, Nat.le_of_ble_eq_true rfl, Nat.le_of_ble_eq_true rfl⟩ (Md_0 hM) rfl rfl hl.1 rfl (Nat.le_of_ble_eq_true rfl) d_Lw_law_449) (fun r_48 I_49 J_50 H locs hr_48 hh => ?_)
        obtain ⟨hS_51, xz_⟩ := hop_ _ _ _ hr_48
        refine lv_icmp_eq (tgt := 1011) C.1 C.2.1 d_Lw_law_452 (by decide) (fun c_ => ?_) (fun c_ => absurd xz_ c_)
        refine lv_iinc (v := nI (i + 7)) (lv' := [(3, .int (nI (i + 7))), (0, .ref b), (1, .ref B), (2, .ref r)]) C.1 C.2.1 d_Lw_law_1011 hl (k := 3) rfl (gm_inc i 7) (by decide) rfl (fun ls hl => ?_)
        refine lv_goto (tgt := 18) C.1 C.2.1 d_Lw_law_1014 (by decide) ?_
        exact ih (i + 7) I_49 J_50 (by omega) hS_51 (fun h_ => absurd h_ (by omega)) (by omega) _ _ _ hh (lv_sub hl [1, 2, 3, 0] rfl)
      by_cases co_7 : x_2 = nI 7
      · -- 7
        refine lv_tableIn (tgt := 457) (off := 424) C.1 C.2.1 d_Lw_law_33 (by rw [co_7]; decide) (by rw [co_7]; decide) (by rw [co_7]; decide +kernel) (by decide) ?_
        refine lv_aload_n C.1 C.2.1 d_Lw_law_457 rfl (lv_at hl 1 rfl) ?_
        refine lv_aload_n C.1 C.2.1 d_Lw_law_458 rfl (lv_at hl 0 rfl) ?_
        refine lv_iload_n C.1 C.2.1 d_Lw_law_459 rfl (lv_at hl 3 rfl) ?_
        refine lv_iconst (v := nI 1) C.1 C.2.1 d_Lw_law_460 rfl ?_
        refine lv_iadd C.1 C.2.1 d_Lw_law_461 ?_
        refine gm_eqi (nI_add _ _) ?_
        refine va_sld C.1 C.2.1 hX hbl hbA hh.2.1 (vp_in_nI (by omega) (by omega)) d_Lw_law_462 ?_
        refine gm_eqi (y := xs (i + 1)) (by rw [nI_clamp (by omega)]) ?_
        refine lv_aload_n C.1 C.2.1 d_Lw_law_463 rfl (lv_at hl 0 rfl) ?_
        refine lv_iload_n C.1 C.2.1 d_Lw_law_464 rfl (lv_at hl 3 rfl) ?_
        refine lv_iconst (v := nI 2) C.1 C.2.1 d_Lw_law_465 rfl ?_
        refine lv_iadd C.1 C.2.1 d_Lw_law_466 ?_
        refine gm_eqi (nI_add _ _) ?_
        refine va_sld C.1 C.2.1 hX hbl hbA hh.2.1 (vp_in_nI (by omega) (by omega)) d_Lw_law_467 ?_
        refine gm_eqi (y := xs (i + 2)) (by rw [nI_clamp (by omega)]) ?_
        refine gc_i hh (gc_runV (As := [.int (xs (i + 1)), .int (xs (i + 2))]) (rest := []) (n := 2) C hml hh (c_FT_told l D cs sh sz I J B hF hS.2.1 0 en8 hn8 (xs (i + 1)) (xs (i + 2))) (tg_V tw_314 tw_315 tw_316 tw_57 tw_317) (by decide +kernel) ⟨rfl, rfl, by decide, by decide, Nat.le_of_ble_eq_true rfl, Nat.le_of_ble_eq_true rfl⟩ hF.1 rfl rfl hl.1 rfl (Nat.le_of_ble_eq_true rfl) d_Lw_law_468) (fun r_52 I_53 J_54 H locs hr_52 hh => ?_)
        obtain ⟨hv_, hop_⟩ := op_told hS hn8 en8 hr_52
        refine lv_aload_n C.1 C.2.1 d_Lw_law_471 rfl (lv_at hl 2 rfl) ?_
        refine lv_aload_n C.1 C.2.1 d_Lw_law_472 rfl (lv_at hl 0 rfl) ?_
        refine lv_iload_n C.1 C.2.1 d_Lw_law_473 rfl (lv_at hl 3 rfl) ?_
        refine lv_iconst (v := nI 1) C.1 C.2.1 d_Lw_law_474 rfl ?_
        refine lv_iadd C.1 C.2.1 d_Lw_law_475 ?_
        refine gm_eqi (nI_add _ _) ?_
        refine va_sld C.1 C.2.1 hX hbl hbA hh.2.1 (vp_in_nI (by omega) (by omega)) d_Lw_law_476 ?_
        refine gm_eqi (y := xs (i + 1)) (by rw [nI_clamp (by omega)]) ?_
        refine lv_aload_n C.1 C.2.1 d_Lw_law_477 rfl (lv_at hl 0 rfl) ?_
        refine lv_iload_n C.1 C.2.1 d_Lw_law_478 rfl (lv_at hl 3 rfl) ?_
        refine lv_iconst (v := nI 2) C.1 C.2.1 d_Lw_law_479 rfl ?_
        refine lv_iadd C.1 C.2.1 d_Lw_law_480 ?_
        refine gm_eqi (nI_add _ _) ?_
        refine va_sld C.1 C.2.1 hX hbl hbA hh.2.1 (vp_in_nI (by omega) (by omega)) d_Lw_law_481 ?_
        refine gm_eqi (y := xs (i + 2)) (by rw [nI_clamp (by omega)]) ?_
        refine gc_i hh (gc_runV (As := [.int (xs (i + 1)), .int (xs (i + 2))]) (rest := [.int r_52]) (n := 2) C hml hh (c_Md_told l D cs sh sz I_53 J_54 r hM hv_ (xs (i + 1)) (xs (i + 2))) (tg_V tw_734 tw_735 tw_736 tw_64 tw_737) (by decide +kernel) ⟨rfl, rfl, by decide, by decide, Nat.le_of_ble_eq_true rfl, Nat.le_of_ble_eq_true rfl⟩ (Md_0 hM) rfl rfl hl.1 rfl (Nat.le_of_ble_eq_true rfl) d_Lw_law_482) (fun r_55 I_56 J_57 H locs hr_55 hh => ?_)
        obtain ⟨hS_58, xz_⟩ := hop_ _ _ _ hr_55
        refine lv_icmp_eq (tgt := 1011) C.1 C.2.1 d_Lw_law_485 (by decide) (fun c_ => ?_) (fun c_ => absurd xz_ c_)
        refine lv_iinc (v := nI (i + 7)) (lv' := [(3, .int (nI (i + 7))), (0, .ref b), (1, .ref B), (2, .ref r)]) C.1 C.2.1 d_Lw_law_1011 hl (k := 3) rfl (gm_inc i 7) (by decide) rfl (fun ls hl => ?_)
        refine lv_goto (tgt := 18) C.1 C.2.1 d_Lw_law_1014 (by decide) ?_
        exact ih (i + 7) I_56 J_57 (by omega) hS_58 (fun h_ => absurd h_ (by omega)) (by omega) _ _ _ hh (lv_sub hl [1, 2, 3, 0] rfl)
      by_cases co_8 : x_2 = nI 8
      · -- 8
        refine lv_tableIn (tgt := 490) (off := 457) C.1 C.2.1 d_Lw_law_33 (by rw [co_8]; decide) (by rw [co_8]; decide) (by rw [co_8]; decide +kernel) (by decide) ?_
        refine lv_aload_n C.1 C.2.1 d_Lw_law_490 rfl (lv_at hl 1 rfl) ?_
        refine lv_aload_n C.1 C.2.1 d_Lw_law_491 rfl (lv_at hl 0 rfl) ?_
        refine lv_iload_n C.1 C.2.1 d_Lw_law_492 rfl (lv_at hl 3 rfl) ?_
        refine lv_iconst (v := nI 1) C.1 C.2.1 d_Lw_law_493 rfl ?_
        refine lv_iadd C.1 C.2.1 d_Lw_law_494 ?_
        refine gm_eqi (nI_add _ _) ?_
        refine va_sld C.1 C.2.1 hX hbl hbA hh.2.1 (vp_in_nI (by omega) (by omega)) d_Lw_law_495 ?_
        refine gm_eqi (y := xs (i + 1)) (by rw [nI_clamp (by omega)]) ?_
        refine lv_aload_n C.1 C.2.1 d_Lw_law_496 rfl (lv_at hl 0 rfl) ?_
        refine lv_iload_n C.1 C.2.1 d_Lw_law_497 rfl (lv_at hl 3 rfl) ?_
        refine lv_iconst (v := nI 2) C.1 C.2.1 d_Lw_law_498 rfl ?_
        refine lv_iadd C.1 C.2.1 d_Lw_law_499 ?_
        refine gm_eqi (nI_add _ _) ?_
        refine va_sld C.1 C.2.1 hX hbl hbA hh.2.1 (vp_in_nI (by omega) (by omega)) d_Lw_law_500 ?_
        refine gm_eqi (y := xs (i + 2)) (by rw [nI_clamp (by omega)]) ?_
        refine gc_i hh (gc_runV (As := [.int (xs (i + 1)), .int (xs (i + 2))]) (rest := []) (n := 2) C hml hh (c_FT_empty l D cs sh sz I J B hF hS.2.1 0 en8 hn8 (xs (i + 1)) (xs (i + 2))) (tg_V tw_318 tw_319 tw_320 tw_57 tw_321) (by decide +kernel) ⟨rfl, rfl, by decide, by decide, Nat.le_of_ble_eq_true rfl, Nat.le_of_ble_eq_true rfl⟩ hF.1 rfl rfl hl.1 rfl (Nat.le_of_ble_eq_true rfl) d_Lw_law_501) (fun r_59 I_60 J_61 H locs hr_59 hh => ?_)
        have hf_ := hr_59.1 (fr_in _)
        have hS1_ := hS.eq (Prod.mk.inj hf_.2).1
        refine lv_aload_n C.1 C.2.1 d_Lw_law_504 rfl (lv_at hl 2 rfl) ?_
        refine lv_aload_n C.1 C.2.1 d_Lw_law_505 rfl (lv_at hl 0 rfl) ?_
        refine lv_iload_n C.1 C.2.1 d_Lw_law_506 rfl (lv_at hl 3 rfl) ?_
        refine lv_iconst (v := nI 1) C.1 C.2.1 d_Lw_law_507 rfl ?_
        refine lv_iadd C.1 C.2.1 d_Lw_law_508 ?_
        refine gm_eqi (nI_add _ _) ?_
        refine va_sld C.1 C.2.1 hX hbl hbA hh.2.1 (vp_in_nI (by omega) (by omega)) d_Lw_law_509 ?_
        refine gm_eqi (y := xs (i + 1)) (by rw [nI_clamp (by omega)]) ?_
        refine lv_aload_n C.1 C.2.1 d_Lw_law_510 rfl (lv_at hl 0 rfl) ?_
        refine lv_iload_n C.1 C.2.1 d_Lw_law_511 rfl (lv_at hl 3 rfl) ?_
        refine lv_iconst (v := nI 2) C.1 C.2.1 d_Lw_law_512 rfl ?_
        refine lv_iadd C.1 C.2.1 d_Lw_law_513 ?_
        refine gm_eqi (nI_add _ _) ?_
        refine va_sld C.1 C.2.1 hX hbl hbA hh.2.1 (vp_in_nI (by omega) (by omega)) d_Lw_law_514 ?_
        refine gm_eqi (y := xs (i + 2)) (by rw [nI_clamp (by omega)]) ?_
        refine gc_i hh (gc_runV (As := [.int (xs (i + 1)), .int (xs (i + 2))]) (rest := [.int r_59]) (n := 2) C hml hh (c_Md_empty l D cs sh sz I_60 J_61 r hM hS1_.2.2.1 hS1_.2.2.2.1 (xs (i + 1)) (xs (i + 2))) (tg_V tw_738 tw_739 tw_740 tw_64 tw_741) (by decide +kernel) ⟨rfl, rfl, by decide, by decide, Nat.le_of_ble_eq_true rfl, Nat.le_of_ble_eq_true rfl⟩ (Md_0 hM) rfl rfl hl.1 rfl (Nat.le_of_ble_eq_true rfl) d_Lw_law_515) (fun r_62 I_63 J_64 H locs hr_62 hh => ?_)
        have hS_65 := hS1_.refS hr_62.2
        have e1_ : I_60 = I := (Prod.mk.inj hf_.2).1
        have z1_ : I_60 r 0 = nI 0 := by rw [e1_]; exact hS.ent en8
        have xz_ : r_59 = r_62 := (hf_.1).trans (fr_if z1_ hr_62.1).symm
        refine lv_icmp_eq (tgt := 1011) C.1 C.2.1 d_Lw_law_518 (by decide) (fun c_ => ?_) (fun c_ => absurd xz_ c_)
        refine lv_iinc (v := nI (i + 7)) (lv' := [(3, .int (nI (i + 7))), (0, .ref b), (1, .ref B), (2, .ref r)]) C.1 C.2.1 d_Lw_law_1011 hl (k := 3) rfl (gm_inc i 7) (by decide) rfl (fun ls hl => ?_)
        refine lv_goto (tgt := 18) C.1 C.2.1 d_Lw_law_1014 (by decide) ?_
        exact ih (i + 7) I_63 J_64 (by omega) hS_65 (fun h_ => absurd h_ (by omega)) (by omega) _ _ _ hh (lv_sub hl [1, 2, 3, 0] rfl)
      by_cases co_9 : x_2 = nI 9
      · -- 9
        refine lv_tableIn (tgt := 523) (off := 490) C.1 C.2.1 d_Lw_law_33 (by rw [co_9]; decide) (by rw [co_9]; decide) (by rw [co_9]; decide +kernel) (by decide) ?_
        refine lv_aload_n C.1 C.2.1 d_Lw_law_523 rfl (lv_at hl 1 rfl) ?_
        refine lv_aload_n C.1 C.2.1 d_Lw_law_524 rfl (lv_at hl 0 rfl) ?_
        refine lv_iload_n C.1 C.2.1 d_Lw_law_525 rfl (lv_at hl 3 rfl) ?_
        refine lv_iconst (v := nI 1) C.1 C.2.1 d_Lw_law_526 rfl ?_
        refine lv_iadd C.1 C.2.1 d_Lw_law_527 ?_
        refine gm_eqi (nI_add _ _) ?_
        refine va_sld C.1 C.2.1 hX hbl hbA hh.2.1 (vp_in_nI (by omega) (by omega)) d_Lw_law_528 ?_
        refine gm_eqi (y := xs (i + 1)) (by rw [nI_clamp (by omega)]) ?_
        refine lv_aload_n C.1 C.2.1 d_Lw_law_529 rfl (lv_at hl 0 rfl) ?_
        refine lv_iload_n C.1 C.2.1 d_Lw_law_530 rfl (lv_at hl 3 rfl) ?_
        refine lv_iconst (v := nI 2) C.1 C.2.1 d_Lw_law_531 rfl ?_
        refine lv_iadd C.1 C.2.1 d_Lw_law_532 ?_
        refine gm_eqi (nI_add _ _) ?_
        refine va_sld C.1 C.2.1 hX hbl hbA hh.2.1 (vp_in_nI (by omega) (by omega)) d_Lw_law_533 ?_
        refine gm_eqi (y := xs (i + 2)) (by rw [nI_clamp (by omega)]) ?_
        refine lv_aload_n C.1 C.2.1 d_Lw_law_534 rfl (lv_at hl 0 rfl) ?_
        refine lv_iload_n C.1 C.2.1 d_Lw_law_535 rfl (lv_at hl 3 rfl) ?_
        refine lv_iconst (v := nI 3) C.1 C.2.1 d_Lw_law_536 rfl ?_
        refine lv_iadd C.1 C.2.1 d_Lw_law_537 ?_
        refine gm_eqi (nI_add _ _) ?_
        refine va_sld C.1 C.2.1 hX hbl hbA hh.2.1 (vp_in_nI (by omega) (by omega)) d_Lw_law_538 ?_
        refine gm_eqi (y := xs (i + 3)) (by rw [nI_clamp (by omega)]) ?_
        refine lv_aload_n C.1 C.2.1 d_Lw_law_539 rfl (lv_at hl 0 rfl) ?_
        refine lv_iload_n C.1 C.2.1 d_Lw_law_540 rfl (lv_at hl 3 rfl) ?_
        refine lv_iconst (v := nI 4) C.1 C.2.1 d_Lw_law_541 rfl ?_
        refine lv_iadd C.1 C.2.1 d_Lw_law_542 ?_
        refine gm_eqi (nI_add _ _) ?_
        refine va_sld C.1 C.2.1 hX hbl hbA hh.2.1 (vp_in_nI (by omega) (by omega)) d_Lw_law_543 ?_
        refine gm_eqi (y := xs (i + 4)) (by rw [nI_clamp (by omega)]) ?_
        refine lv_aload_n C.1 C.2.1 d_Lw_law_544 rfl (lv_at hl 0 rfl) ?_
        refine lv_iload_n C.1 C.2.1 d_Lw_law_545 rfl (lv_at hl 3 rfl) ?_
        refine lv_iconst (v := nI 5) C.1 C.2.1 d_Lw_law_546 rfl ?_
        refine lv_iadd C.1 C.2.1 d_Lw_law_547 ?_
        refine gm_eqi (nI_add _ _) ?_
        refine va_sld C.1 C.2.1 hX hbl hbA hh.2.1 (vp_in_nI (by omega) (by omega)) d_Lw_law_548 ?_
        refine gm_eqi (y := xs (i + 5)) (by rw [nI_clamp (by omega)]) ?_
        refine lv_aload_n C.1 C.2.1 d_Lw_law_549 rfl (lv_at hl 0 rfl) ?_
        refine lv_iload_n C.1 C.2.1 d_Lw_law_550 rfl (lv_at hl 3 rfl) ?_
        refine lv_bipush (v := nI 6) C.1 C.2.1 d_Lw_law_551 rfl ?_
        refine lv_iadd C.1 C.2.1 d_Lw_law_553 ?_
        refine gm_eqi (nI_add _ _) ?_
        refine va_sld C.1 C.2.1 hX hbl hbA hh.2.1 (vp_in_nI (by omega) (by omega)) d_Lw_law_554 ?_
        refine gm_eqi (y := xs (i + 6)) (by rw [nI_clamp (by omega)]) ?_
        refine gc_i hh (gc_runV (As := [.int (xs (i + 1)), .int (xs (i + 2)), .int (xs (i + 3)), .int (xs (i + 4)), .int (xs (i + 5)), .int (xs (i + 6))]) (rest := []) (n := 6) C hml hh (c_FT_holds l D cs sh sz I J B hF hS.2.1 0 en8 hn8 (xs (i + 1)) (xs (i + 2)) (xs (i + 3)) (xs (i + 4)) (xs (i + 5)) (xs (i + 6))) (tg_V tw_390 tw_391 tw_392 tw_57 tw_393) (by decide +kernel) ⟨rfl, rfl, by decide, by decide, Nat.le_of_ble_eq_true rfl, Nat.le_of_ble_eq_true rfl⟩ hF.1 rfl rfl hl.1 rfl (Nat.le_of_ble_eq_true rfl) d_Lw_law_555) (fun r_66 I_67 J_68 H locs hr_66 hh => ?_)
        have hf_ := hr_66.1 (fr_in _)
        have hS1_ := hS.eq (Prod.mk.inj hf_.2).1
        refine lv_aload_n C.1 C.2.1 d_Lw_law_558 rfl (lv_at hl 2 rfl) ?_
        refine lv_aload_n C.1 C.2.1 d_Lw_law_559 rfl (lv_at hl 0 rfl) ?_
        refine lv_iload_n C.1 C.2.1 d_Lw_law_560 rfl (lv_at hl 3 rfl) ?_
        refine lv_iconst (v := nI 1) C.1 C.2.1 d_Lw_law_561 rfl ?_
        refine lv_iadd C.1 C.2.1 d_Lw_law_562 ?_
        refine gm_eqi (nI_add _ _) ?_
        refine va_sld C.1 C.2.1 hX hbl hbA hh.2.1 (vp_in_nI (by omega) (by omega)) d_Lw_law_563 ?_
        refine gm_eqi (y := xs (i + 1)) (by rw [nI_clamp (by omega)]) ?_
        refine lv_aload_n C.1 C.2.1 d_Lw_law_564 rfl (lv_at hl 0 rfl) ?_
        refine lv_iload_n C.1 C.2.1 d_Lw_law_565 rfl (lv_at hl 3 rfl) ?_
        refine lv_iconst (v := nI 2) C.1 C.2.1 d_Lw_law_566 rfl ?_
        refine lv_iadd C.1 C.2.1 d_Lw_law_567 ?_
        refine gm_eqi (nI_add _ _) ?_
        refine va_sld C.1 C.2.1 hX hbl hbA hh.2.1 (vp_in_nI (by omega) (by omega)) d_Lw_law_568 ?_
        refine gm_eqi (y := xs (i + 2)) (by rw [nI_clamp (by omega)]) ?_
        refine lv_aload_n C.1 C.2.1 d_Lw_law_569 rfl (lv_at hl 0 rfl) ?_
        refine lv_iload_n C.1 C.2.1 d_Lw_law_570 rfl (lv_at hl 3 rfl) ?_
        refine lv_iconst (v := nI 3) C.1 C.2.1 d_Lw_law_571 rfl ?_
        refine lv_iadd C.1 C.2.1 d_Lw_law_572 ?_
        refine gm_eqi (nI_add _ _) ?_
        refine va_sld C.1 C.2.1 hX hbl hbA hh.2.1 (vp_in_nI (by omega) (by omega)) d_Lw_law_573 ?_
        refine gm_eqi (y := xs (i + 3)) (by rw [nI_clamp (by omega)]) ?_
        refine lv_aload_n C.1 C.2.1 d_Lw_law_574 rfl (lv_at hl 0 rfl) ?_
        refine lv_iload_n C.1 C.2.1 d_Lw_law_575 rfl (lv_at hl 3 rfl) ?_
        refine lv_iconst (v := nI 4) C.1 C.2.1 d_Lw_law_576 rfl ?_
        refine lv_iadd C.1 C.2.1 d_Lw_law_577 ?_
        refine gm_eqi (nI_add _ _) ?_
        refine va_sld C.1 C.2.1 hX hbl hbA hh.2.1 (vp_in_nI (by omega) (by omega)) d_Lw_law_578 ?_
        refine gm_eqi (y := xs (i + 4)) (by rw [nI_clamp (by omega)]) ?_
        refine lv_aload_n C.1 C.2.1 d_Lw_law_579 rfl (lv_at hl 0 rfl) ?_
        refine lv_iload_n C.1 C.2.1 d_Lw_law_580 rfl (lv_at hl 3 rfl) ?_
        refine lv_iconst (v := nI 5) C.1 C.2.1 d_Lw_law_581 rfl ?_
        refine lv_iadd C.1 C.2.1 d_Lw_law_582 ?_
        refine gm_eqi (nI_add _ _) ?_
        refine va_sld C.1 C.2.1 hX hbl hbA hh.2.1 (vp_in_nI (by omega) (by omega)) d_Lw_law_583 ?_
        refine gm_eqi (y := xs (i + 5)) (by rw [nI_clamp (by omega)]) ?_
        refine lv_aload_n C.1 C.2.1 d_Lw_law_584 rfl (lv_at hl 0 rfl) ?_
        refine lv_iload_n C.1 C.2.1 d_Lw_law_585 rfl (lv_at hl 3 rfl) ?_
        refine lv_bipush (v := nI 6) C.1 C.2.1 d_Lw_law_586 rfl ?_
        refine lv_iadd C.1 C.2.1 d_Lw_law_588 ?_
        refine gm_eqi (nI_add _ _) ?_
        refine va_sld C.1 C.2.1 hX hbl hbA hh.2.1 (vp_in_nI (by omega) (by omega)) d_Lw_law_589 ?_
        refine gm_eqi (y := xs (i + 6)) (by rw [nI_clamp (by omega)]) ?_
        refine gc_i hh (gc_runV (As := [.int (xs (i + 1)), .int (xs (i + 2)), .int (xs (i + 3)), .int (xs (i + 4)), .int (xs (i + 5)), .int (xs (i + 6))]) (rest := [.int r_66]) (n := 6) C hml hh (c_Md_holds l D cs sh sz I_67 J_68 r hM hS1_.2.2.1 hS1_.2.2.2.1 (xs (i + 1)) (xs (i + 2)) (xs (i + 3)) (xs (i + 4)) (xs (i + 5)) (xs (i + 6))) (tg_V tw_783 tw_784 tw_785 tw_64 tw_786) (by decide +kernel) ⟨rfl, rfl, by decide, by decide, Nat.le_of_ble_eq_true rfl, Nat.le_of_ble_eq_true rfl⟩ (Md_0 hM) rfl rfl hl.1 rfl (Nat.le_of_ble_eq_true rfl) d_Lw_law_590) (fun r_69 I_70 J_71 H locs hr_69 hh => ?_)
        have hS_72 := hS1_.refS hr_69.2
        have e1_ : I_67 = I := (Prod.mk.inj hf_.2).1
        have z1_ : I_67 r 0 = nI 0 := by rw [e1_]; exact hS.ent en8
        have xz_ : r_66 = r_69 := (hf_.1).trans (fr_if z1_ hr_69.1).symm
        refine lv_icmp_eq (tgt := 1011) C.1 C.2.1 d_Lw_law_593 (by decide) (fun c_ => ?_) (fun c_ => absurd xz_ c_)
        refine lv_iinc (v := nI (i + 7)) (lv' := [(3, .int (nI (i + 7))), (0, .ref b), (1, .ref B), (2, .ref r)]) C.1 C.2.1 d_Lw_law_1011 hl (k := 3) rfl (gm_inc i 7) (by decide) rfl (fun ls hl => ?_)
        refine lv_goto (tgt := 18) C.1 C.2.1 d_Lw_law_1014 (by decide) ?_
        exact ih (i + 7) I_70 J_71 (by omega) hS_72 (fun h_ => absurd h_ (by omega)) (by omega) _ _ _ hh (lv_sub hl [1, 2, 3, 0] rfl)
      by_cases co_10 : x_2 = nI 10
      · -- 10
        refine lv_tableIn (tgt := 598) (off := 565) C.1 C.2.1 d_Lw_law_33 (by rw [co_10]; decide) (by rw [co_10]; decide) (by rw [co_10]; decide +kernel) (by decide) ?_
        refine lv_aload_n C.1 C.2.1 d_Lw_law_598 rfl (lv_at hl 1 rfl) ?_
        refine lv_aload_n C.1 C.2.1 d_Lw_law_599 rfl (lv_at hl 0 rfl) ?_
        refine lv_iload_n C.1 C.2.1 d_Lw_law_600 rfl (lv_at hl 3 rfl) ?_
        refine lv_iconst (v := nI 1) C.1 C.2.1 d_Lw_law_601 rfl ?_
        refine lv_iadd C.1 C.2.1 d_Lw_law_602 ?_
        refine gm_eqi (nI_add _ _) ?_
        refine va_sld C.1 C.2.1 hX hbl hbA hh.2.1 (vp_in_nI (by omega) (by omega)) d_Lw_law_603 ?_
        refine gm_eqi (y := xs (i + 1)) (by rw [nI_clamp (by omega)]) ?_
        refine lv_aload_n C.1 C.2.1 d_Lw_law_604 rfl (lv_at hl 0 rfl) ?_
        refine lv_iload_n C.1 C.2.1 d_Lw_law_605 rfl (lv_at hl 3 rfl) ?_
        refine lv_iconst (v := nI 2) C.1 C.2.1 d_Lw_law_606 rfl ?_
        refine lv_iadd C.1 C.2.1 d_Lw_law_607 ?_
        refine gm_eqi (nI_add _ _) ?_
        refine va_sld C.1 C.2.1 hX hbl hbA hh.2.1 (vp_in_nI (by omega) (by omega)) d_Lw_law_608 ?_
        refine gm_eqi (y := xs (i + 2)) (by rw [nI_clamp (by omega)]) ?_
        refine lv_aload_n C.1 C.2.1 d_Lw_law_609 rfl (lv_at hl 0 rfl) ?_
        refine lv_iload_n C.1 C.2.1 d_Lw_law_610 rfl (lv_at hl 3 rfl) ?_
        refine lv_iconst (v := nI 3) C.1 C.2.1 d_Lw_law_611 rfl ?_
        refine lv_iadd C.1 C.2.1 d_Lw_law_612 ?_
        refine gm_eqi (nI_add _ _) ?_
        refine va_sld C.1 C.2.1 hX hbl hbA hh.2.1 (vp_in_nI (by omega) (by omega)) d_Lw_law_613 ?_
        refine gm_eqi (y := xs (i + 3)) (by rw [nI_clamp (by omega)]) ?_
        refine lv_aload_n C.1 C.2.1 d_Lw_law_614 rfl (lv_at hl 0 rfl) ?_
        refine lv_iload_n C.1 C.2.1 d_Lw_law_615 rfl (lv_at hl 3 rfl) ?_
        refine lv_iconst (v := nI 4) C.1 C.2.1 d_Lw_law_616 rfl ?_
        refine lv_iadd C.1 C.2.1 d_Lw_law_617 ?_
        refine gm_eqi (nI_add _ _) ?_
        refine va_sld C.1 C.2.1 hX hbl hbA hh.2.1 (vp_in_nI (by omega) (by omega)) d_Lw_law_618 ?_
        refine gm_eqi (y := xs (i + 4)) (by rw [nI_clamp (by omega)]) ?_
        refine lv_aload_n C.1 C.2.1 d_Lw_law_619 rfl (lv_at hl 0 rfl) ?_
        refine lv_iload_n C.1 C.2.1 d_Lw_law_620 rfl (lv_at hl 3 rfl) ?_
        refine lv_iconst (v := nI 5) C.1 C.2.1 d_Lw_law_621 rfl ?_
        refine lv_iadd C.1 C.2.1 d_Lw_law_622 ?_
        refine gm_eqi (nI_add _ _) ?_
        refine va_sld C.1 C.2.1 hX hbl hbA hh.2.1 (vp_in_nI (by omega) (by omega)) d_Lw_law_623 ?_
        refine gm_eqi (y := xs (i + 5)) (by rw [nI_clamp (by omega)]) ?_
        refine gc_i hh (gc_runV (As := [.int (xs (i + 1)), .int (xs (i + 2)), .int (xs (i + 3)), .int (xs (i + 4)), .int (xs (i + 5))]) (rest := []) (n := 5) C hml hh (c_FT_term l D cs sh sz I J B hF hS.2.1 0 en8 hn8 (xs (i + 1)) (xs (i + 2)) (xs (i + 3)) (xs (i + 4)) (xs (i + 5))) (tg_V tw_398 tw_399 tw_400 tw_57 tw_401) (by decide +kernel) ⟨rfl, rfl, by decide, by decide, Nat.le_of_ble_eq_true rfl, Nat.le_of_ble_eq_true rfl⟩ hF.1 rfl rfl hl.1 rfl (Nat.le_of_ble_eq_true rfl) d_Lw_law_624) (fun r_73 I_74 J_75 H locs hr_73 hh => ?_)
        have hf_ := hr_73.1 (fr_in _)
        have hS1_ := hS.eq (Prod.mk.inj hf_.2).1
        refine lv_aload_n C.1 C.2.1 d_Lw_law_627 rfl (lv_at hl 2 rfl) ?_
        refine lv_aload_n C.1 C.2.1 d_Lw_law_628 rfl (lv_at hl 0 rfl) ?_
        refine lv_iload_n C.1 C.2.1 d_Lw_law_629 rfl (lv_at hl 3 rfl) ?_
        refine lv_iconst (v := nI 1) C.1 C.2.1 d_Lw_law_630 rfl ?_
        refine lv_iadd C.1 C.2.1 d_Lw_law_631 ?_
        refine gm_eqi (nI_add _ _) ?_
        refine va_sld C.1 C.2.1 hX hbl hbA hh.2.1 (vp_in_nI (by omega) (by omega)) d_Lw_law_632 ?_
        refine gm_eqi (y := xs (i + 1)) (by rw [nI_clamp (by omega)]) ?_
        refine lv_aload_n C.1 C.2.1 d_Lw_law_633 rfl (lv_at hl 0 rfl) ?_
        refine lv_iload_n C.1 C.2.1 d_Lw_law_634 rfl (lv_at hl 3 rfl) ?_
        refine lv_iconst (v := nI 2) C.1 C.2.1 d_Lw_law_635 rfl ?_
        refine lv_iadd C.1 C.2.1 d_Lw_law_636 ?_
        refine gm_eqi (nI_add _ _) ?_
        refine va_sld C.1 C.2.1 hX hbl hbA hh.2.1 (vp_in_nI (by omega) (by omega)) d_Lw_law_637 ?_
        refine gm_eqi (y := xs (i + 2)) (by rw [nI_clamp (by omega)]) ?_
        refine lv_aload_n C.1 C.2.1 d_Lw_law_638 rfl (lv_at hl 0 rfl) ?_
        refine lv_iload_n C.1 C.2.1 d_Lw_law_639 rfl (lv_at hl 3 rfl) ?_
        refine lv_iconst (v := nI 3) C.1 C.2.1 d_Lw_law_640 rfl ?_
        refine lv_iadd C.1 C.2.1 d_Lw_law_641 ?_
        refine gm_eqi (nI_add _ _) ?_
        refine va_sld C.1 C.2.1 hX hbl hbA hh.2.1 (vp_in_nI (by omega) (by omega)) d_Lw_law_642 ?_
        refine gm_eqi (y := xs (i + 3)) (by rw [nI_clamp (by omega)]) ?_
        refine lv_aload_n C.1 C.2.1 d_Lw_law_643 rfl (lv_at hl 0 rfl) ?_
        refine lv_iload_n C.1 C.2.1 d_Lw_law_644 rfl (lv_at hl 3 rfl) ?_
        refine lv_iconst (v := nI 4) C.1 C.2.1 d_Lw_law_645 rfl ?_
        refine lv_iadd C.1 C.2.1 d_Lw_law_646 ?_
        refine gm_eqi (nI_add _ _) ?_
        refine va_sld C.1 C.2.1 hX hbl hbA hh.2.1 (vp_in_nI (by omega) (by omega)) d_Lw_law_647 ?_
        refine gm_eqi (y := xs (i + 4)) (by rw [nI_clamp (by omega)]) ?_
        refine lv_aload_n C.1 C.2.1 d_Lw_law_648 rfl (lv_at hl 0 rfl) ?_
        refine lv_iload_n C.1 C.2.1 d_Lw_law_649 rfl (lv_at hl 3 rfl) ?_
        refine lv_iconst (v := nI 5) C.1 C.2.1 d_Lw_law_650 rfl ?_
        refine lv_iadd C.1 C.2.1 d_Lw_law_651 ?_
        refine gm_eqi (nI_add _ _) ?_
        refine va_sld C.1 C.2.1 hX hbl hbA hh.2.1 (vp_in_nI (by omega) (by omega)) d_Lw_law_652 ?_
        refine gm_eqi (y := xs (i + 5)) (by rw [nI_clamp (by omega)]) ?_
        refine gc_i hh (gc_runV (As := [.int (xs (i + 1)), .int (xs (i + 2)), .int (xs (i + 3)), .int (xs (i + 4)), .int (xs (i + 5))]) (rest := [.int r_73]) (n := 5) C hml hh (c_Md_term l D cs sh sz I_74 J_75 r hM hS1_.2.2.1 hS1_.2.2.2.1 (xs (i + 1)) (xs (i + 2)) (xs (i + 3)) (xs (i + 4)) (xs (i + 5))) (tg_V tw_791 tw_792 tw_793 tw_64 tw_794) (by decide +kernel) ⟨rfl, rfl, by decide, by decide, Nat.le_of_ble_eq_true rfl, Nat.le_of_ble_eq_true rfl⟩ (Md_0 hM) rfl rfl hl.1 rfl (Nat.le_of_ble_eq_true rfl) d_Lw_law_653) (fun r_76 I_77 J_78 H locs hr_76 hh => ?_)
        have hS_79 := hS1_.refS hr_76.2
        have e1_ : I_74 = I := (Prod.mk.inj hf_.2).1
        have z1_ : I_74 r 0 = nI 0 := by rw [e1_]; exact hS.ent en8
        have xz_ : r_73 = r_76 := (hf_.1).trans (fr_if z1_ hr_76.1).symm
        refine lv_icmp_eq (tgt := 1011) C.1 C.2.1 d_Lw_law_656 (by decide) (fun c_ => ?_) (fun c_ => absurd xz_ c_)
        refine lv_iinc (v := nI (i + 7)) (lv' := [(3, .int (nI (i + 7))), (0, .ref b), (1, .ref B), (2, .ref r)]) C.1 C.2.1 d_Lw_law_1011 hl (k := 3) rfl (gm_inc i 7) (by decide) rfl (fun ls hl => ?_)
        refine lv_goto (tgt := 18) C.1 C.2.1 d_Lw_law_1014 (by decide) ?_
        exact ih (i + 7) I_77 J_78 (by omega) hS_79 (fun h_ => absurd h_ (by omega)) (by omega) _ _ _ hh (lv_sub hl [1, 2, 3, 0] rfl)
      by_cases co_11 : x_2 = nI 11
      · -- 11
        refine lv_tableIn (tgt := 661) (off := 628) C.1 C.2.1 d_Lw_law_33 (by rw [co_11]; decide) (by rw [co_11]; decide) (by rw [co_11]; decide +kernel) (by decide) ?_
        refine lv_aload_n C.1 C.2.1 d_Lw_law_661 rfl (lv_at hl 1 rfl) ?_
        refine lv_aload_n C.1 C.2.1 d_Lw_law_662 rfl (lv_at hl 0 rfl) ?_
        refine lv_iload_n C.1 C.2.1 d_Lw_law_663 rfl (lv_at hl 3 rfl) ?_
        refine lv_iconst (v := nI 1) C.1 C.2.1 d_Lw_law_664 rfl ?_
        refine lv_iadd C.1 C.2.1 d_Lw_law_665 ?_
        refine gm_eqi (nI_add _ _) ?_
        refine va_sld C.1 C.2.1 hX hbl hbA hh.2.1 (vp_in_nI (by omega) (by omega)) d_Lw_law_666 ?_
        refine gm_eqi (y := xs (i + 1)) (by rw [nI_clamp (by omega)]) ?_
        refine gc_i hh (gc_runV (As := [.int (xs (i + 1))]) (rest := []) (n := 1) C hml hh (c_FT_prove l D cs sh sz I J B hF hS.2.1 0 en8 hn8 (xs (i + 1))) (tg_V tw_419 tw_420 tw_421 tw_57 tw_422) (by decide +kernel) ⟨rfl, rfl, by decide, by decide, Nat.le_of_ble_eq_true rfl, Nat.le_of_ble_eq_true rfl⟩ hF.1 rfl rfl hl.1 rfl (Nat.le_of_ble_eq_true rfl) d_Lw_law_667) (fun r_80 I_81 J_82 H locs hr_80 hh => ?_)
        have hf_ := hr_80.1 (fr_in _)
        have hS1_ := hS.eq (Prod.mk.inj hf_.2).1
        refine lv_aload_n C.1 C.2.1 d_Lw_law_670 rfl (lv_at hl 2 rfl) ?_
        refine lv_aload_n C.1 C.2.1 d_Lw_law_671 rfl (lv_at hl 0 rfl) ?_
        refine lv_iload_n C.1 C.2.1 d_Lw_law_672 rfl (lv_at hl 3 rfl) ?_
        refine lv_iconst (v := nI 1) C.1 C.2.1 d_Lw_law_673 rfl ?_
        refine lv_iadd C.1 C.2.1 d_Lw_law_674 ?_
        refine gm_eqi (nI_add _ _) ?_
        refine va_sld C.1 C.2.1 hX hbl hbA hh.2.1 (vp_in_nI (by omega) (by omega)) d_Lw_law_675 ?_
        refine gm_eqi (y := xs (i + 1)) (by rw [nI_clamp (by omega)]) ?_
        refine gc_i hh (gc_runV (As := [.int (xs (i + 1))]) (rest := [.int r_80]) (n := 1) C hml hh (c_Md_prove l D cs sh sz I_81 J_82 r hM hS1_.2.2.1 hS1_.2.2.2.1 (xs (i + 1))) (tg_V tw_807 tw_808 tw_809 tw_64 tw_810) (by decide +kernel) ⟨rfl, rfl, by decide, by decide, Nat.le_of_ble_eq_true rfl, Nat.le_of_ble_eq_true rfl⟩ (Md_0 hM) rfl rfl hl.1 rfl (Nat.le_of_ble_eq_true rfl) d_Lw_law_676) (fun r_83 I_84 J_85 H locs hr_83 hh => ?_)
        have hS_86 := m_prove hS1_ hr_83
        have e1_ : I_81 = I := (Prod.mk.inj hf_.2).1
        have z1_ : I_81 r 0 = nI 0 := by rw [e1_]; exact hS.ent en8
        have xz_ : r_80 = r_83 := (hf_.1).trans (fr_two z1_ hr_83).symm
        refine lv_icmp_eq (tgt := 1011) C.1 C.2.1 d_Lw_law_679 (by decide) (fun c_ => ?_) (fun c_ => absurd xz_ c_)
        refine lv_iinc (v := nI (i + 7)) (lv' := [(3, .int (nI (i + 7))), (0, .ref b), (1, .ref B), (2, .ref r)]) C.1 C.2.1 d_Lw_law_1011 hl (k := 3) rfl (gm_inc i 7) (by decide) rfl (fun ls hl => ?_)
        refine lv_goto (tgt := 18) C.1 C.2.1 d_Lw_law_1014 (by decide) ?_
        exact ih (i + 7) I_84 J_85 (by omega) hS_86 (fun h_ => absurd h_ (by omega)) (by omega) _ _ _ hh (lv_sub hl [1, 2, 3, 0] rfl)
      by_cases co_12 : x_2 = nI 12
      · -- 12
        refine lv_tableIn (tgt := 684) (off := 651) C.1 C.2.1 d_Lw_law_33 (by rw [co_12]; decide) (by rw [co_12]; decide) (by rw [co_12]; decide +kernel) (by decide) ?_
        refine lv_aload_n C.1 C.2.1 d_Lw_law_684 rfl (lv_at hl 1 rfl) ?_
        refine lv_aload_n C.1 C.2.1 d_Lw_law_685 rfl (lv_at hl 0 rfl) ?_
        refine lv_iload_n C.1 C.2.1 d_Lw_law_686 rfl (lv_at hl 3 rfl) ?_
        refine lv_iconst (v := nI 1) C.1 C.2.1 d_Lw_law_687 rfl ?_
        refine lv_iadd C.1 C.2.1 d_Lw_law_688 ?_
        refine gm_eqi (nI_add _ _) ?_
        refine va_sld C.1 C.2.1 hX hbl hbA hh.2.1 (vp_in_nI (by omega) (by omega)) d_Lw_law_689 ?_
        refine gm_eqi (y := xs (i + 1)) (by rw [nI_clamp (by omega)]) ?_
        refine lv_aload_n C.1 C.2.1 d_Lw_law_690 rfl (lv_at hl 0 rfl) ?_
        refine lv_iload_n C.1 C.2.1 d_Lw_law_691 rfl (lv_at hl 3 rfl) ?_
        refine lv_iconst (v := nI 2) C.1 C.2.1 d_Lw_law_692 rfl ?_
        refine lv_iadd C.1 C.2.1 d_Lw_law_693 ?_
        refine gm_eqi (nI_add _ _) ?_
        refine va_sld C.1 C.2.1 hX hbl hbA hh.2.1 (vp_in_nI (by omega) (by omega)) d_Lw_law_694 ?_
        refine gm_eqi (y := xs (i + 2)) (by rw [nI_clamp (by omega)]) ?_
        refine gc_i hh (gc_runV (As := [.int (xs (i + 1)), .int (xs (i + 2))]) (rest := []) (n := 2) C hml hh (c_FT_proof l D cs sh sz I J B hF hS.2.1 (xs (i + 1)) (xs (i + 2))) (tg_V tw_449 tw_450 tw_451 tw_57 tw_452) (by decide +kernel) ⟨rfl, rfl, by decide, by decide, Nat.le_of_ble_eq_true rfl, Nat.le_of_ble_eq_true rfl⟩ hF.1 rfl rfl hl.1 rfl (Nat.le_of_ble_eq_true rfl) d_Lw_law_695) (fun r_87 I_88 J_89 H locs hr_87 hh => ?_)
        have hS1_ := hS.eq (Prod.mk.inj hr_87.1).1
        refine lv_aload_n C.1 C.2.1 d_Lw_law_698 rfl (lv_at hl 2 rfl) ?_
        refine lv_aload_n C.1 C.2.1 d_Lw_law_699 rfl (lv_at hl 0 rfl) ?_
        refine lv_iload_n C.1 C.2.1 d_Lw_law_700 rfl (lv_at hl 3 rfl) ?_
        refine lv_iconst (v := nI 1) C.1 C.2.1 d_Lw_law_701 rfl ?_
        refine lv_iadd C.1 C.2.1 d_Lw_law_702 ?_
        refine gm_eqi (nI_add _ _) ?_
        refine va_sld C.1 C.2.1 hX hbl hbA hh.2.1 (vp_in_nI (by omega) (by omega)) d_Lw_law_703 ?_
        refine gm_eqi (y := xs (i + 1)) (by rw [nI_clamp (by omega)]) ?_
        refine lv_aload_n C.1 C.2.1 d_Lw_law_704 rfl (lv_at hl 0 rfl) ?_
        refine lv_iload_n C.1 C.2.1 d_Lw_law_705 rfl (lv_at hl 3 rfl) ?_
        refine lv_iconst (v := nI 2) C.1 C.2.1 d_Lw_law_706 rfl ?_
        refine lv_iadd C.1 C.2.1 d_Lw_law_707 ?_
        refine gm_eqi (nI_add _ _) ?_
        refine va_sld C.1 C.2.1 hX hbl hbA hh.2.1 (vp_in_nI (by omega) (by omega)) d_Lw_law_708 ?_
        refine gm_eqi (y := xs (i + 2)) (by rw [nI_clamp (by omega)]) ?_
        refine gc_i hh (gc_runV (As := [.int (xs (i + 1)), .int (xs (i + 2))]) (rest := [.int r_87]) (n := 2) C hml hh (c_Md_proof l D cs sh sz I_88 J_89 r hM hS1_.2.2.1 (xs (i + 1)) (xs (i + 2))) (tg_V tw_819 tw_820 tw_821 tw_64 tw_822) (by decide +kernel) ⟨rfl, rfl, by decide, by decide, Nat.le_of_ble_eq_true rfl, Nat.le_of_ble_eq_true rfl⟩ (Md_0 hM) rfl rfl hl.1 rfl (Nat.le_of_ble_eq_true rfl) d_Lw_law_709) (fun r_90 I_91 J_92 H locs hr_90 hh => ?_)
        have hS_93 := hS1_.eq (Prod.mk.inj hr_90.1).1
        have e1_ : I_88 = I := (Prod.mk.inj hr_87.1).1
        have z1_ : I_88 r 0 = nI 0 := by rw [e1_]; exact hS.ent en8
        have xz_ : r_87 = r_90 := (hr_87.2 fr_.2.1).trans (hr_90.2.trans (fr_proof (by rw [e1_]; exact fr_.2.2.2.2.1 : I_88 r 10 = nI 0))).symm
        refine lv_icmp_eq (tgt := 1011) C.1 C.2.1 d_Lw_law_712 (by decide) (fun c_ => ?_) (fun c_ => absurd xz_ c_)
        refine lv_iinc (v := nI (i + 7)) (lv' := [(3, .int (nI (i + 7))), (0, .ref b), (1, .ref B), (2, .ref r)]) C.1 C.2.1 d_Lw_law_1011 hl (k := 3) rfl (gm_inc i 7) (by decide) rfl (fun ls hl => ?_)
        refine lv_goto (tgt := 18) C.1 C.2.1 d_Lw_law_1014 (by decide) ?_
        exact ih (i + 7) I_91 J_92 (by omega) hS_93 (fun h_ => absurd h_ (by omega)) (by omega) _ _ _ hh (lv_sub hl [1, 2, 3, 0] rfl)
      by_cases co_13 : x_2 = nI 13
      · -- 13
        refine lv_tableIn (tgt := 717) (off := 684) C.1 C.2.1 d_Lw_law_33 (by rw [co_13]; decide) (by rw [co_13]; decide) (by rw [co_13]; decide +kernel) (by decide) ?_
        refine lv_aload_n C.1 C.2.1 d_Lw_law_717 rfl (lv_at hl 1 rfl) ?_
        refine gc_i hh (gc_runV (As := []) (rest := []) (n := 0) C hml hh (c_FT_left l D cs sh sz I J B hF) (tg_V tw_453 tw_454 tw_455 tw_57 tw_456) (by decide +kernel) ⟨rfl, rfl, by decide, by decide, Nat.le_of_ble_eq_true rfl, Nat.le_of_ble_eq_true rfl⟩ hF.1 rfl rfl hl.1 rfl (Nat.le_of_ble_eq_true rfl) d_Lw_law_718) (fun r_94 I_95 J_96 H locs hr_94 hh => ?_)
        have hS1_ := hS.eq (Prod.mk.inj hr_94.1).1
        refine lv_aload_n C.1 C.2.1 d_Lw_law_721 rfl (lv_at hl 2 rfl) ?_
        refine gc_i hh (gc_runV (As := []) (rest := [.int r_94]) (n := 0) C hml hh (c_Md_left l D cs sh sz I_95 J_96 r hM hS1_.2.2.1 ) (tg_V tw_823 tw_824 tw_825 tw_64 tw_826) (by decide +kernel) ⟨rfl, rfl, by decide, by decide, Nat.le_of_ble_eq_true rfl, Nat.le_of_ble_eq_true rfl⟩ (Md_0 hM) rfl rfl hl.1 rfl (Nat.le_of_ble_eq_true rfl) d_Lw_law_722) (fun r_97 I_98 J_99 H locs hr_97 hh => ?_)
        have hS_100 := hS1_.eq (Prod.mk.inj hr_97.1).1
        have e1_ : I_95 = I := (Prod.mk.inj hr_94.1).1
        have z1_ : I_95 r 0 = nI 0 := by rw [e1_]; exact hS.ent en8
        have xz_ : r_94 = r_97 := (hr_94.2.trans fr_.2.2.1).trans (hr_97.2.trans (by rw [e1_]; exact fr_.2.2.2.2.2.1 : I_95 r 12 = nI 0)).symm
        refine lv_icmp_eq (tgt := 1011) C.1 C.2.1 d_Lw_law_725 (by decide) (fun c_ => ?_) (fun c_ => absurd xz_ c_)
        refine lv_iinc (v := nI (i + 7)) (lv' := [(3, .int (nI (i + 7))), (0, .ref b), (1, .ref B), (2, .ref r)]) C.1 C.2.1 d_Lw_law_1011 hl (k := 3) rfl (gm_inc i 7) (by decide) rfl (fun ls hl => ?_)
        refine lv_goto (tgt := 18) C.1 C.2.1 d_Lw_law_1014 (by decide) ?_
        exact ih (i + 7) I_98 J_99 (by omega) hS_100 (fun h_ => absurd h_ (by omega)) (by omega) _ _ _ hh (lv_sub hl [1, 2, 3, 0] rfl)
      by_cases co_14 : x_2 = nI 14
      · -- 14
        refine lv_tableIn (tgt := 730) (off := 697) C.1 C.2.1 d_Lw_law_33 (by rw [co_14]; decide) (by rw [co_14]; decide) (by rw [co_14]; decide +kernel) (by decide) ?_
        refine lv_aload_n C.1 C.2.1 d_Lw_law_730 rfl (lv_at hl 1 rfl) ?_
        refine lv_aload_n C.1 C.2.1 d_Lw_law_731 rfl (lv_at hl 0 rfl) ?_
        refine lv_iload_n C.1 C.2.1 d_Lw_law_732 rfl (lv_at hl 3 rfl) ?_
        refine lv_iconst (v := nI 1) C.1 C.2.1 d_Lw_law_733 rfl ?_
        refine lv_iadd C.1 C.2.1 d_Lw_law_734 ?_
        refine gm_eqi (nI_add _ _) ?_
        refine va_sld C.1 C.2.1 hX hbl hbA hh.2.1 (vp_in_nI (by omega) (by omega)) d_Lw_law_735 ?_
        refine gm_eqi (y := xs (i + 1)) (by rw [nI_clamp (by omega)]) ?_
        refine gc_i hh (gc_runV (As := [.int (xs (i + 1))]) (rest := []) (n := 1) C hml hh (c_FT_need l D cs sh sz I J B hF hS.2.1 0 en8 hn8 (xs (i + 1))) (tg_V tw_457 tw_458 tw_459 tw_57 tw_460) (by decide +kernel) ⟨rfl, rfl, by decide, by decide, Nat.le_of_ble_eq_true rfl, Nat.le_of_ble_eq_true rfl⟩ hF.1 rfl rfl hl.1 rfl (Nat.le_of_ble_eq_true rfl) d_Lw_law_736) (fun r_101 I_102 J_103 H locs hr_101 hh => ?_)
        have hf_ := hr_101.1 (fr_in _)
        have hS1_ := hS.eq (Prod.mk.inj hf_.2).1
        refine lv_aload_n C.1 C.2.1 d_Lw_law_739 rfl (lv_at hl 2 rfl) ?_
        refine lv_aload_n C.1 C.2.1 d_Lw_law_740 rfl (lv_at hl 0 rfl) ?_
        refine lv_iload_n C.1 C.2.1 d_Lw_law_741 rfl (lv_at hl 3 rfl) ?_
        refine lv_iconst (v := nI 1) C.1 C.2.1 d_Lw_law_742 rfl ?_
        refine lv_iadd C.1 C.2.1 d_Lw_law_743 ?_
        refine gm_eqi (nI_add _ _) ?_
        refine va_sld C.1 C.2.1 hX hbl hbA hh.2.1 (vp_in_nI (by omega) (by omega)) d_Lw_law_744 ?_
        refine gm_eqi (y := xs (i + 1)) (by rw [nI_clamp (by omega)]) ?_
        refine gc_i hh (gc_runV (As := [.int (xs (i + 1))]) (rest := [.int r_101]) (n := 1) C hml hh (c_Md_need l D cs sh sz I_102 J_103 r hM hS1_.2.2.1 hS1_.2.2.2.1 (xs (i + 1))) (tg_V tw_827 tw_828 tw_829 tw_64 tw_830) (by decide +kernel) ⟨rfl, rfl, by decide, by decide, Nat.le_of_ble_eq_true rfl, Nat.le_of_ble_eq_true rfl⟩ (Md_0 hM) rfl rfl hl.1 rfl (Nat.le_of_ble_eq_true rfl) d_Lw_law_745) (fun r_104 I_105 J_106 H locs hr_104 hh => ?_)
        have hS_107 := m_need hS1_ hr_104
        have e1_ : I_102 = I := (Prod.mk.inj hf_.2).1
        have z1_ : I_102 r 0 = nI 0 := by rw [e1_]; exact hS.ent en8
        have xz_ : r_101 = r_104 := (hf_.1).trans (fr_two z1_ hr_104).symm
        refine lv_icmp_eq (tgt := 1011) C.1 C.2.1 d_Lw_law_748 (by decide) (fun c_ => ?_) (fun c_ => absurd xz_ c_)
        refine lv_iinc (v := nI (i + 7)) (lv' := [(3, .int (nI (i + 7))), (0, .ref b), (1, .ref B), (2, .ref r)]) C.1 C.2.1 d_Lw_law_1011 hl (k := 3) rfl (gm_inc i 7) (by decide) rfl (fun ls hl => ?_)
        refine lv_goto (tgt := 18) C.1 C.2.1 d_Lw_law_1014 (by decide) ?_
        exact ih (i + 7) I_105 J_106 (by omega) hS_107 (fun h_ => absurd h_ (by omega)) (by omega) _ _ _ hh (lv_sub hl [1, 2, 3, 0] rfl)
      by_cases co_15 : x_2 = nI 15
      · -- 15
        refine lv_tableIn (tgt := 753) (off := 720) C.1 C.2.1 d_Lw_law_33 (by rw [co_15]; decide) (by rw [co_15]; decide) (by rw [co_15]; decide +kernel) (by decide) ?_
        refine lv_aload_n C.1 C.2.1 d_Lw_law_753 rfl (lv_at hl 1 rfl) ?_
        refine lv_aload_n C.1 C.2.1 d_Lw_law_754 rfl (lv_at hl 0 rfl) ?_
        refine lv_iload_n C.1 C.2.1 d_Lw_law_755 rfl (lv_at hl 3 rfl) ?_
        refine lv_iconst (v := nI 1) C.1 C.2.1 d_Lw_law_756 rfl ?_
        refine lv_iadd C.1 C.2.1 d_Lw_law_757 ?_
        refine gm_eqi (nI_add _ _) ?_
        refine va_sld C.1 C.2.1 hX hbl hbA hh.2.1 (vp_in_nI (by omega) (by omega)) d_Lw_law_758 ?_
        refine gm_eqi (y := xs (i + 1)) (by rw [nI_clamp (by omega)]) ?_
        refine gc_i hh (gc_runV (As := [.int (xs (i + 1))]) (rest := []) (n := 1) C hml hh (c_FT_needed l D cs sh sz I J B hF hS.2.1 (xs (i + 1))) (tg_V tw_487 tw_488 tw_489 tw_57 tw_490) (by decide +kernel) ⟨rfl, rfl, by decide, by decide, Nat.le_of_ble_eq_true rfl, Nat.le_of_ble_eq_true rfl⟩ hF.1 rfl rfl hl.1 rfl (Nat.le_of_ble_eq_true rfl) d_Lw_law_759) (fun r_108 I_109 J_110 H locs hr_108 hh => ?_)
        have hS1_ := hS.eq (Prod.mk.inj hr_108.1).1
        refine lv_aload_n C.1 C.2.1 d_Lw_law_762 rfl (lv_at hl 2 rfl) ?_
        refine lv_aload_n C.1 C.2.1 d_Lw_law_763 rfl (lv_at hl 0 rfl) ?_
        refine lv_iload_n C.1 C.2.1 d_Lw_law_764 rfl (lv_at hl 3 rfl) ?_
        refine lv_iconst (v := nI 1) C.1 C.2.1 d_Lw_law_765 rfl ?_
        refine lv_iadd C.1 C.2.1 d_Lw_law_766 ?_
        refine gm_eqi (nI_add _ _) ?_
        refine va_sld C.1 C.2.1 hX hbl hbA hh.2.1 (vp_in_nI (by omega) (by omega)) d_Lw_law_767 ?_
        refine gm_eqi (y := xs (i + 1)) (by rw [nI_clamp (by omega)]) ?_
        refine gc_i hh (gc_runV (As := [.int (xs (i + 1))]) (rest := [.int r_108]) (n := 1) C hml hh (c_Md_needed l D cs sh sz I_109 J_110 r hM hS1_.2.2.1 (xs (i + 1))) (tg_V tw_835 tw_836 tw_837 tw_64 tw_838) (by decide +kernel) ⟨rfl, rfl, by decide, by decide, Nat.le_of_ble_eq_true rfl, Nat.le_of_ble_eq_true rfl⟩ (Md_0 hM) rfl rfl hl.1 rfl (Nat.le_of_ble_eq_true rfl) d_Lw_law_768) (fun r_111 I_112 J_113 H locs hr_111 hh => ?_)
        have hS_114 := hS1_.eq (Prod.mk.inj hr_111.1).1
        have e1_ : I_109 = I := (Prod.mk.inj hr_108.1).1
        have z1_ : I_109 r 0 = nI 0 := by rw [e1_]; exact hS.ent en8
        have xz_ : r_108 = r_111 := (hr_108.2 fr_.2.2.2.1).trans (hr_111.2.trans (fr_needed (by rw [e1_]; exact fr_.2.2.2.2.2.2 : I_109 r 13 = nI 0))).symm
        refine lv_icmp_eq (tgt := 1011) C.1 C.2.1 d_Lw_law_771 (by decide) (fun c_ => ?_) (fun c_ => absurd xz_ c_)
        refine lv_iinc (v := nI (i + 7)) (lv' := [(3, .int (nI (i + 7))), (0, .ref b), (1, .ref B), (2, .ref r)]) C.1 C.2.1 d_Lw_law_1011 hl (k := 3) rfl (gm_inc i 7) (by decide) rfl (fun ls hl => ?_)
        refine lv_goto (tgt := 18) C.1 C.2.1 d_Lw_law_1014 (by decide) ?_
        exact ih (i + 7) I_112 J_113 (by omega) hS_114 (fun h_ => absurd h_ (by omega)) (by omega) _ _ _ hh (lv_sub hl [1, 2, 3, 0] rfl)
      by_cases co_16 : x_2 = nI 16
      · -- 16
        refine lv_tableIn (tgt := 776) (off := 743) C.1 C.2.1 d_Lw_law_33 (by rw [co_16]; decide) (by rw [co_16]; decide) (by rw [co_16]; decide +kernel) (by decide) ?_
        refine lv_aload_n C.1 C.2.1 d_Lw_law_776 rfl (lv_at hl 1 rfl) ?_
        refine lv_aload_n C.1 C.2.1 d_Lw_law_777 rfl (lv_at hl 0 rfl) ?_
        refine lv_iload_n C.1 C.2.1 d_Lw_law_778 rfl (lv_at hl 3 rfl) ?_
        refine lv_iconst (v := nI 1) C.1 C.2.1 d_Lw_law_779 rfl ?_
        refine lv_iadd C.1 C.2.1 d_Lw_law_780 ?_
        refine gm_eqi (nI_add _ _) ?_
        refine va_sld C.1 C.2.1 hX hbl hbA hh.2.1 (vp_in_nI (by omega) (by omega)) d_Lw_law_781 ?_
        refine gm_eqi (y := xs (i + 1)) (by rw [nI_clamp (by omega)]) ?_
        refine lv_aload_n C.1 C.2.1 d_Lw_law_782 rfl (lv_at hl 0 rfl) ?_
        refine lv_iload_n C.1 C.2.1 d_Lw_law_783 rfl (lv_at hl 3 rfl) ?_
        refine lv_iconst (v := nI 2) C.1 C.2.1 d_Lw_law_784 rfl ?_
        refine lv_iadd C.1 C.2.1 d_Lw_law_785 ?_
        refine gm_eqi (nI_add _ _) ?_
        refine va_sld C.1 C.2.1 hX hbl hbA hh.2.1 (vp_in_nI (by omega) (by omega)) d_Lw_law_786 ?_
        refine gm_eqi (y := xs (i + 2)) (by rw [nI_clamp (by omega)]) ?_
        refine lv_aload_n C.1 C.2.1 d_Lw_law_787 rfl (lv_at hl 0 rfl) ?_
        refine lv_iload_n C.1 C.2.1 d_Lw_law_788 rfl (lv_at hl 3 rfl) ?_
        refine lv_iconst (v := nI 3) C.1 C.2.1 d_Lw_law_789 rfl ?_
        refine lv_iadd C.1 C.2.1 d_Lw_law_790 ?_
        refine gm_eqi (nI_add _ _) ?_
        refine va_sld C.1 C.2.1 hX hbl hbA hh.2.1 (vp_in_nI (by omega) (by omega)) d_Lw_law_791 ?_
        refine gm_eqi (y := xs (i + 3)) (by rw [nI_clamp (by omega)]) ?_
        refine gc_i hh (gc_runV (As := [.int (xs (i + 1)), .int (xs (i + 2)), .int (xs (i + 3))]) (rest := []) (n := 3) C hml hh (c_FT_put l D cs sh sz I J B hF hS.2.1 0 en8 hn8 (xs (i + 1)) (xs (i + 2)) (xs (i + 3))) (tg_V tw_491 tw_492 tw_493 tw_57 tw_494) (by decide +kernel) ⟨rfl, rfl, by decide, by decide, Nat.le_of_ble_eq_true rfl, Nat.le_of_ble_eq_true rfl⟩ hF.1 rfl rfl hl.1 rfl (Nat.le_of_ble_eq_true rfl) d_Lw_law_792) (fun r_115 I_116 J_117 H locs hr_115 hh => ?_)
        obtain ⟨hv_, hop_⟩ := op_put hS hn8 en8 hr_115
        refine lv_aload_n C.1 C.2.1 d_Lw_law_795 rfl (lv_at hl 2 rfl) ?_
        refine lv_aload_n C.1 C.2.1 d_Lw_law_796 rfl (lv_at hl 0 rfl) ?_
        refine lv_iload_n C.1 C.2.1 d_Lw_law_797 rfl (lv_at hl 3 rfl) ?_
        refine lv_iconst (v := nI 1) C.1 C.2.1 d_Lw_law_798 rfl ?_
        refine lv_iadd C.1 C.2.1 d_Lw_law_799 ?_
        refine gm_eqi (nI_add _ _) ?_
        refine va_sld C.1 C.2.1 hX hbl hbA hh.2.1 (vp_in_nI (by omega) (by omega)) d_Lw_law_800 ?_
        refine gm_eqi (y := xs (i + 1)) (by rw [nI_clamp (by omega)]) ?_
        refine lv_aload_n C.1 C.2.1 d_Lw_law_801 rfl (lv_at hl 0 rfl) ?_
        refine lv_iload_n C.1 C.2.1 d_Lw_law_802 rfl (lv_at hl 3 rfl) ?_
        refine lv_iconst (v := nI 2) C.1 C.2.1 d_Lw_law_803 rfl ?_
        refine lv_iadd C.1 C.2.1 d_Lw_law_804 ?_
        refine gm_eqi (nI_add _ _) ?_
        refine va_sld C.1 C.2.1 hX hbl hbA hh.2.1 (vp_in_nI (by omega) (by omega)) d_Lw_law_805 ?_
        refine gm_eqi (y := xs (i + 2)) (by rw [nI_clamp (by omega)]) ?_
        refine lv_aload_n C.1 C.2.1 d_Lw_law_806 rfl (lv_at hl 0 rfl) ?_
        refine lv_iload_n C.1 C.2.1 d_Lw_law_807 rfl (lv_at hl 3 rfl) ?_
        refine lv_iconst (v := nI 3) C.1 C.2.1 d_Lw_law_808 rfl ?_
        refine lv_iadd C.1 C.2.1 d_Lw_law_809 ?_
        refine gm_eqi (nI_add _ _) ?_
        refine va_sld C.1 C.2.1 hX hbl hbA hh.2.1 (vp_in_nI (by omega) (by omega)) d_Lw_law_810 ?_
        refine gm_eqi (y := xs (i + 3)) (by rw [nI_clamp (by omega)]) ?_
        refine gc_i hh (gc_runV (As := [.int (xs (i + 1)), .int (xs (i + 2)), .int (xs (i + 3))]) (rest := [.int r_115]) (n := 3) C hml hh (c_Md_put l D cs sh sz I_116 J_117 r hM hv_ (xs (i + 1)) (xs (i + 2)) (xs (i + 3))) (tg_V tw_839 tw_840 tw_841 tw_64 tw_842) (by decide +kernel) ⟨rfl, rfl, by decide, by decide, Nat.le_of_ble_eq_true rfl, Nat.le_of_ble_eq_true rfl⟩ (Md_0 hM) rfl rfl hl.1 rfl (Nat.le_of_ble_eq_true rfl) d_Lw_law_811) (fun r_118 I_119 J_120 H locs hr_118 hh => ?_)
        obtain ⟨hS_121, xz_⟩ := hop_ _ _ _ hr_118
        refine lv_icmp_eq (tgt := 1011) C.1 C.2.1 d_Lw_law_814 (by decide) (fun c_ => ?_) (fun c_ => absurd xz_ c_)
        refine lv_iinc (v := nI (i + 7)) (lv' := [(3, .int (nI (i + 7))), (0, .ref b), (1, .ref B), (2, .ref r)]) C.1 C.2.1 d_Lw_law_1011 hl (k := 3) rfl (gm_inc i 7) (by decide) rfl (fun ls hl => ?_)
        refine lv_goto (tgt := 18) C.1 C.2.1 d_Lw_law_1014 (by decide) ?_
        exact ih (i + 7) I_119 J_120 (by omega) hS_121 (fun h_ => absurd h_ (by omega)) (by omega) _ _ _ hh (lv_sub hl [1, 2, 3, 0] rfl)
      by_cases co_17 : x_2 = nI 17
      · -- 17
        refine lv_tableIn (tgt := 819) (off := 786) C.1 C.2.1 d_Lw_law_33 (by rw [co_17]; decide) (by rw [co_17]; decide) (by rw [co_17]; decide +kernel) (by decide) ?_
        refine lv_aload_n C.1 C.2.1 d_Lw_law_819 rfl (lv_at hl 1 rfl) ?_
        refine lv_aload_n C.1 C.2.1 d_Lw_law_820 rfl (lv_at hl 0 rfl) ?_
        refine lv_iload_n C.1 C.2.1 d_Lw_law_821 rfl (lv_at hl 3 rfl) ?_
        refine lv_iconst (v := nI 1) C.1 C.2.1 d_Lw_law_822 rfl ?_
        refine lv_iadd C.1 C.2.1 d_Lw_law_823 ?_
        refine gm_eqi (nI_add _ _) ?_
        refine va_sld C.1 C.2.1 hX hbl hbA hh.2.1 (vp_in_nI (by omega) (by omega)) d_Lw_law_824 ?_
        refine gm_eqi (y := xs (i + 1)) (by rw [nI_clamp (by omega)]) ?_
        refine lv_aload_n C.1 C.2.1 d_Lw_law_825 rfl (lv_at hl 0 rfl) ?_
        refine lv_iload_n C.1 C.2.1 d_Lw_law_826 rfl (lv_at hl 3 rfl) ?_
        refine lv_iconst (v := nI 2) C.1 C.2.1 d_Lw_law_827 rfl ?_
        refine lv_iadd C.1 C.2.1 d_Lw_law_828 ?_
        refine gm_eqi (nI_add _ _) ?_
        refine va_sld C.1 C.2.1 hX hbl hbA hh.2.1 (vp_in_nI (by omega) (by omega)) d_Lw_law_829 ?_
        refine gm_eqi (y := xs (i + 2)) (by rw [nI_clamp (by omega)]) ?_
        refine gc_l hh (gc_runV (As := [.int (xs (i + 1)), .int (xs (i + 2))]) (rest := []) (n := 2) C hml hh (c_FT_at l D cs sh sz I J B hF hS.2.1 0 en8 hn8 (xs (i + 1)) (xs (i + 2))) (tg_V tw_496 tw_497 tw_498 tw_57 tw_499) (by decide +kernel) ⟨rfl, rfl, by decide, by decide, Nat.le_of_ble_eq_true rfl, Nat.le_of_ble_eq_true rfl⟩ hF.1 rfl rfl hl.1 rfl (Nat.le_of_ble_eq_true rfl) d_Lw_law_830) (fun r_122 I_123 J_124 H locs hr_122 hh => ?_)
        have hS1_ := hS.eq (Prod.mk.inj hr_122.1).1
        refine lv_aload_n C.1 C.2.1 d_Lw_law_833 rfl (lv_at hl 2 rfl) ?_
        refine lv_aload_n C.1 C.2.1 d_Lw_law_834 rfl (lv_at hl 0 rfl) ?_
        refine lv_iload_n C.1 C.2.1 d_Lw_law_835 rfl (lv_at hl 3 rfl) ?_
        refine lv_iconst (v := nI 1) C.1 C.2.1 d_Lw_law_836 rfl ?_
        refine lv_iadd C.1 C.2.1 d_Lw_law_837 ?_
        refine gm_eqi (nI_add _ _) ?_
        refine va_sld C.1 C.2.1 hX hbl hbA hh.2.1 (vp_in_nI (by omega) (by omega)) d_Lw_law_838 ?_
        refine gm_eqi (y := xs (i + 1)) (by rw [nI_clamp (by omega)]) ?_
        refine lv_aload_n C.1 C.2.1 d_Lw_law_839 rfl (lv_at hl 0 rfl) ?_
        refine lv_iload_n C.1 C.2.1 d_Lw_law_840 rfl (lv_at hl 3 rfl) ?_
        refine lv_iconst (v := nI 2) C.1 C.2.1 d_Lw_law_841 rfl ?_
        refine lv_iadd C.1 C.2.1 d_Lw_law_842 ?_
        refine gm_eqi (nI_add _ _) ?_
        refine va_sld C.1 C.2.1 hX hbl hbA hh.2.1 (vp_in_nI (by omega) (by omega)) d_Lw_law_843 ?_
        refine gm_eqi (y := xs (i + 2)) (by rw [nI_clamp (by omega)]) ?_
        refine gc_l hh (gc_runV (As := [.int (xs (i + 1)), .int (xs (i + 2))]) (rest := [.long r_122]) (n := 2) C hml hh (c_Md_at l D cs sh sz I_123 J_124 r hM hS1_.2.2.1 (xs (i + 1)) (xs (i + 2))) (tg_V tw_845 tw_846 tw_847 tw_64 tw_848) (by decide +kernel) ⟨rfl, rfl, by decide, by decide, Nat.le_of_ble_eq_true rfl, Nat.le_of_ble_eq_true rfl⟩ (Md_0 hM) rfl rfl hl.1 rfl (Nat.le_of_ble_eq_true rfl) d_Lw_law_844) (fun r_125 I_126 J_127 H locs hr_125 hh => ?_)
        have hS_128 := hS1_.eq (Prod.mk.inj hr_125.1).1
        have e1_ : I_123 = I := (Prod.mk.inj hr_122.1).1
        have z1_ : I_123 r 0 = nI 0 := by rw [e1_]; exact hS.ent en8
        have xz_ : r_122 = r_125 := (fr_cat hr_122.2).trans (hr_125.2.trans (fr_at z1_)).symm
        refine W.lcmp C.1 C.2.1 d_Lw_law_847 ?_
        refine gm_eqi (y := nI 0) (by rw [xz_]; exact lg_cmp_self _) ?_
        refine lv_if_eq (tgt := 1011) C.1 C.2.1 d_Lw_law_848 (by decide) (fun c_ => ?_) (fun c_ => absurd (by decide) c_)
        refine lv_iinc (v := nI (i + 7)) (lv' := [(3, .int (nI (i + 7))), (0, .ref b), (1, .ref B), (2, .ref r)]) C.1 C.2.1 d_Lw_law_1011 hl (k := 3) rfl (gm_inc i 7) (by decide) rfl (fun ls hl => ?_)
        refine lv_goto (tgt := 18) C.1 C.2.1 d_Lw_law_1014 (by decide) ?_
        exact ih (i + 7) I_126 J_127 (by omega) hS_128 (fun h_ => absurd h_ (by omega)) (by omega) _ _ _ hh (lv_sub hl [1, 2, 3, 0] rfl)
      by_cases co_18 : x_2 = nI 18
      · -- 18
        refine lv_tableIn (tgt := 853) (off := 820) C.1 C.2.1 d_Lw_law_33 (by rw [co_18]; decide) (by rw [co_18]; decide) (by rw [co_18]; decide +kernel) (by decide) ?_
        refine lv_aload_n C.1 C.2.1 d_Lw_law_853 rfl (lv_at hl 1 rfl) ?_
        refine lv_aload_n C.1 C.2.1 d_Lw_law_854 rfl (lv_at hl 0 rfl) ?_
        refine lv_iload_n C.1 C.2.1 d_Lw_law_855 rfl (lv_at hl 3 rfl) ?_
        refine lv_iconst (v := nI 1) C.1 C.2.1 d_Lw_law_856 rfl ?_
        refine lv_iadd C.1 C.2.1 d_Lw_law_857 ?_
        refine gm_eqi (nI_add _ _) ?_
        refine va_sld C.1 C.2.1 hX hbl hbA hh.2.1 (vp_in_nI (by omega) (by omega)) d_Lw_law_858 ?_
        refine gm_eqi (y := xs (i + 1)) (by rw [nI_clamp (by omega)]) ?_
        refine gc_i hh (gc_runV (As := [.int (xs (i + 1))]) (rest := []) (n := 1) C hml hh (c_FT_open l D cs sh sz I J B hF hS.2.1 0 en8 hn8 (xs (i + 1))) (tg_V tw_501 tw_502 tw_503 tw_57 tw_504) (by decide +kernel) ⟨rfl, rfl, by decide, by decide, Nat.le_of_ble_eq_true rfl, Nat.le_of_ble_eq_true rfl⟩ hF.1 rfl rfl hl.1 rfl (Nat.le_of_ble_eq_true rfl) d_Lw_law_859) (fun r_129 I_130 J_131 H locs hr_129 hh => ?_)
        have hS1_ := hS.eq (Prod.mk.inj hr_129.1).1
        refine lv_aload_n C.1 C.2.1 d_Lw_law_862 rfl (lv_at hl 2 rfl) ?_
        refine lv_aload_n C.1 C.2.1 d_Lw_law_863 rfl (lv_at hl 0 rfl) ?_
        refine lv_iload_n C.1 C.2.1 d_Lw_law_864 rfl (lv_at hl 3 rfl) ?_
        refine lv_iconst (v := nI 1) C.1 C.2.1 d_Lw_law_865 rfl ?_
        refine lv_iadd C.1 C.2.1 d_Lw_law_866 ?_
        refine gm_eqi (nI_add _ _) ?_
        refine va_sld C.1 C.2.1 hX hbl hbA hh.2.1 (vp_in_nI (by omega) (by omega)) d_Lw_law_867 ?_
        refine gm_eqi (y := xs (i + 1)) (by rw [nI_clamp (by omega)]) ?_
        refine gc_i hh (gc_runV (As := [.int (xs (i + 1))]) (rest := [.int r_129]) (n := 1) C hml hh (c_Md_open l D cs sh sz I_130 J_131 r hM hS1_.2.2.1 (xs (i + 1))) (tg_V tw_850 tw_851 tw_852 tw_64 tw_853) (by decide +kernel) ⟨rfl, rfl, by decide, by decide, Nat.le_of_ble_eq_true rfl, Nat.le_of_ble_eq_true rfl⟩ (Md_0 hM) rfl rfl hl.1 rfl (Nat.le_of_ble_eq_true rfl) d_Lw_law_868) (fun r_132 I_133 J_134 H locs hr_132 hh => ?_)
        have hS_135 := hS1_.eq (m_open hr_132)
        have e1_ : I_130 = I := (Prod.mk.inj hr_129.1).1
        have z1_ : I_130 r 0 = nI 0 := by rw [e1_]; exact hS.ent en8
        have xz_ : r_129 = r_132 := (fr_c1 hr_129.2).trans (fr_two z1_ hr_132).symm
        refine lv_icmp_eq (tgt := 1011) C.1 C.2.1 d_Lw_law_871 (by decide) (fun c_ => ?_) (fun c_ => absurd xz_ c_)
        refine lv_iinc (v := nI (i + 7)) (lv' := [(3, .int (nI (i + 7))), (0, .ref b), (1, .ref B), (2, .ref r)]) C.1 C.2.1 d_Lw_law_1011 hl (k := 3) rfl (gm_inc i 7) (by decide) rfl (fun ls hl => ?_)
        refine lv_goto (tgt := 18) C.1 C.2.1 d_Lw_law_1014 (by decide) ?_
        exact ih (i + 7) I_133 J_134 (by omega) hS_135 (fun h_ => absurd h_ (by omega)) (by omega) _ _ _ hh (lv_sub hl [1, 2, 3, 0] rfl)
      by_cases co_19 : x_2 = nI 19
      · -- 19
        refine lv_tableIn (tgt := 876) (off := 843) C.1 C.2.1 d_Lw_law_33 (by rw [co_19]; decide) (by rw [co_19]; decide) (by rw [co_19]; decide +kernel) (by decide) ?_
        refine lv_aload_n C.1 C.2.1 d_Lw_law_876 rfl (lv_at hl 1 rfl) ?_
        refine lv_aload_n C.1 C.2.1 d_Lw_law_877 rfl (lv_at hl 0 rfl) ?_
        refine lv_iload_n C.1 C.2.1 d_Lw_law_878 rfl (lv_at hl 3 rfl) ?_
        refine lv_iconst (v := nI 1) C.1 C.2.1 d_Lw_law_879 rfl ?_
        refine lv_iadd C.1 C.2.1 d_Lw_law_880 ?_
        refine gm_eqi (nI_add _ _) ?_
        refine va_sld C.1 C.2.1 hX hbl hbA hh.2.1 (vp_in_nI (by omega) (by omega)) d_Lw_law_881 ?_
        refine gm_eqi (y := xs (i + 1)) (by rw [nI_clamp (by omega)]) ?_
        refine gc_i hh (gc_runV (As := [.int (xs (i + 1))]) (rest := []) (n := 1) C hml hh (c_FT_step l D cs sh sz I J B hF hS.2.1 0 en8 hn8 (xs (i + 1))) (tg_V tw_513 tw_514 tw_515 tw_57 tw_516) (by decide +kernel) ⟨rfl, rfl, by decide, by decide, Nat.le_of_ble_eq_true rfl, Nat.le_of_ble_eq_true rfl⟩ hF.1 rfl rfl hl.1 rfl (Nat.le_of_ble_eq_true rfl) d_Lw_law_882) (fun r_136 I_137 J_138 H locs hr_136 hh => ?_)
        have hS1_ := hS.eq (i_step hr_136)
        refine lv_aload_n C.1 C.2.1 d_Lw_law_885 rfl (lv_at hl 2 rfl) ?_
        refine lv_aload_n C.1 C.2.1 d_Lw_law_886 rfl (lv_at hl 0 rfl) ?_
        refine lv_iload_n C.1 C.2.1 d_Lw_law_887 rfl (lv_at hl 3 rfl) ?_
        refine lv_iconst (v := nI 1) C.1 C.2.1 d_Lw_law_888 rfl ?_
        refine lv_iadd C.1 C.2.1 d_Lw_law_889 ?_
        refine gm_eqi (nI_add _ _) ?_
        refine va_sld C.1 C.2.1 hX hbl hbA hh.2.1 (vp_in_nI (by omega) (by omega)) d_Lw_law_890 ?_
        refine gm_eqi (y := xs (i + 1)) (by rw [nI_clamp (by omega)]) ?_
        refine gc_i hh (gc_runV (As := [.int (xs (i + 1))]) (rest := [.int r_136]) (n := 1) C hml hh (c_Md_step l D cs sh sz I_137 J_138 r hM hS1_.2.2.1 (xs (i + 1))) (tg_V tw_866 tw_867 tw_868 tw_64 tw_869) (by decide +kernel) ⟨rfl, rfl, by decide, by decide, Nat.le_of_ble_eq_true rfl, Nat.le_of_ble_eq_true rfl⟩ (Md_0 hM) rfl rfl hl.1 rfl (Nat.le_of_ble_eq_true rfl) d_Lw_law_891) (fun r_139 I_140 J_141 H locs hr_139 hh => ?_)
        have hS_142 := hS1_.eq (m_step hr_139)
        have e1_ : I_137 = I := i_step hr_136
        have z1_ : I_137 r 0 = nI 0 := by rw [e1_]; exact hS.ent en8
        have xz_ : r_136 = r_139 := (fr_c2 hr_136).trans (fr_two z1_ hr_139).symm
        refine lv_icmp_eq (tgt := 1011) C.1 C.2.1 d_Lw_law_894 (by decide) (fun c_ => ?_) (fun c_ => absurd xz_ c_)
        refine lv_iinc (v := nI (i + 7)) (lv' := [(3, .int (nI (i + 7))), (0, .ref b), (1, .ref B), (2, .ref r)]) C.1 C.2.1 d_Lw_law_1011 hl (k := 3) rfl (gm_inc i 7) (by decide) rfl (fun ls hl => ?_)
        refine lv_goto (tgt := 18) C.1 C.2.1 d_Lw_law_1014 (by decide) ?_
        exact ih (i + 7) I_140 J_141 (by omega) hS_142 (fun h_ => absurd h_ (by omega)) (by omega) _ _ _ hh (lv_sub hl [1, 2, 3, 0] rfl)
      by_cases co_20 : x_2 = nI 20
      · -- 20
        refine lv_tableIn (tgt := 899) (off := 866) C.1 C.2.1 d_Lw_law_33 (by rw [co_20]; decide) (by rw [co_20]; decide) (by rw [co_20]; decide +kernel) (by decide) ?_
        refine lv_aload_n C.1 C.2.1 d_Lw_law_899 rfl (lv_at hl 1 rfl) ?_
        refine lv_aload_n C.1 C.2.1 d_Lw_law_900 rfl (lv_at hl 0 rfl) ?_
        refine lv_iload_n C.1 C.2.1 d_Lw_law_901 rfl (lv_at hl 3 rfl) ?_
        refine lv_iconst (v := nI 1) C.1 C.2.1 d_Lw_law_902 rfl ?_
        refine lv_iadd C.1 C.2.1 d_Lw_law_903 ?_
        refine gm_eqi (nI_add _ _) ?_
        refine va_sld C.1 C.2.1 hX hbl hbA hh.2.1 (vp_in_nI (by omega) (by omega)) d_Lw_law_904 ?_
        refine gm_eqi (y := xs (i + 1)) (by rw [nI_clamp (by omega)]) ?_
        refine lv_aload_n C.1 C.2.1 d_Lw_law_905 rfl (lv_at hl 0 rfl) ?_
        refine lv_iload_n C.1 C.2.1 d_Lw_law_906 rfl (lv_at hl 3 rfl) ?_
        refine lv_iconst (v := nI 2) C.1 C.2.1 d_Lw_law_907 rfl ?_
        refine lv_iadd C.1 C.2.1 d_Lw_law_908 ?_
        refine gm_eqi (nI_add _ _) ?_
        refine va_sld C.1 C.2.1 hX hbl hbA hh.2.1 (vp_in_nI (by omega) (by omega)) d_Lw_law_909 ?_
        refine gm_eqi (y := xs (i + 2)) (by rw [nI_clamp (by omega)]) ?_
        refine gc_i hh (gc_runV (As := [.int (xs (i + 1)), .int (xs (i + 2))]) (rest := []) (n := 2) C hml hh (c_FT_go l D cs sh sz I J B hF hS.2.1 0 en8 hn8 (xs (i + 1)) (xs (i + 2))) (tg_V tw_534 tw_535 tw_536 tw_57 tw_537) (by decide +kernel) ⟨rfl, rfl, by decide, by decide, Nat.le_of_ble_eq_true rfl, Nat.le_of_ble_eq_true rfl⟩ hF.1 rfl rfl hl.1 rfl (Nat.le_of_ble_eq_true rfl) d_Lw_law_910) (fun r_143 I_144 J_145 H locs hr_143 hh => ?_)
        have hS1_ := hS.eq (i_go hr_143)
        refine lv_aload_n C.1 C.2.1 d_Lw_law_913 rfl (lv_at hl 2 rfl) ?_
        refine lv_aload_n C.1 C.2.1 d_Lw_law_914 rfl (lv_at hl 0 rfl) ?_
        refine lv_iload_n C.1 C.2.1 d_Lw_law_915 rfl (lv_at hl 3 rfl) ?_
        refine lv_iconst (v := nI 1) C.1 C.2.1 d_Lw_law_916 rfl ?_
        refine lv_iadd C.1 C.2.1 d_Lw_law_917 ?_
        refine gm_eqi (nI_add _ _) ?_
        refine va_sld C.1 C.2.1 hX hbl hbA hh.2.1 (vp_in_nI (by omega) (by omega)) d_Lw_law_918 ?_
        refine gm_eqi (y := xs (i + 1)) (by rw [nI_clamp (by omega)]) ?_
        refine lv_aload_n C.1 C.2.1 d_Lw_law_919 rfl (lv_at hl 0 rfl) ?_
        refine lv_iload_n C.1 C.2.1 d_Lw_law_920 rfl (lv_at hl 3 rfl) ?_
        refine lv_iconst (v := nI 2) C.1 C.2.1 d_Lw_law_921 rfl ?_
        refine lv_iadd C.1 C.2.1 d_Lw_law_922 ?_
        refine gm_eqi (nI_add _ _) ?_
        refine va_sld C.1 C.2.1 hX hbl hbA hh.2.1 (vp_in_nI (by omega) (by omega)) d_Lw_law_923 ?_
        refine gm_eqi (y := xs (i + 2)) (by rw [nI_clamp (by omega)]) ?_
        refine gc_i hh (gc_runV (As := [.int (xs (i + 1)), .int (xs (i + 2))]) (rest := [.int r_143]) (n := 2) C hml hh (c_Md_go l D cs sh sz I_144 J_145 r hM hS1_.2.2.1 (xs (i + 1)) (xs (i + 2))) (tg_V tw_891 tw_892 tw_893 tw_64 tw_894) (by decide +kernel) ⟨rfl, rfl, by decide, by decide, Nat.le_of_ble_eq_true rfl, Nat.le_of_ble_eq_true rfl⟩ (Md_0 hM) rfl rfl hl.1 rfl (Nat.le_of_ble_eq_true rfl) d_Lw_law_924) (fun r_146 I_147 J_148 H locs hr_146 hh => ?_)
        have hS_149 := hS1_.eq (m_go hr_146)
        have e1_ : I_144 = I := i_go hr_143
        have z1_ : I_144 r 0 = nI 0 := by rw [e1_]; exact hS.ent en8
        have xz_ : r_143 = r_146 := (fr_c3 hr_143).trans (fr_go z1_ hr_146).symm
        refine lv_icmp_eq (tgt := 1011) C.1 C.2.1 d_Lw_law_927 (by decide) (fun c_ => ?_) (fun c_ => absurd xz_ c_)
        refine lv_iinc (v := nI (i + 7)) (lv' := [(3, .int (nI (i + 7))), (0, .ref b), (1, .ref B), (2, .ref r)]) C.1 C.2.1 d_Lw_law_1011 hl (k := 3) rfl (gm_inc i 7) (by decide) rfl (fun ls hl => ?_)
        refine lv_goto (tgt := 18) C.1 C.2.1 d_Lw_law_1014 (by decide) ?_
        exact ih (i + 7) I_147 J_148 (by omega) hS_149 (fun h_ => absurd h_ (by omega)) (by omega) _ _ _ hh (lv_sub hl [1, 2, 3, 0] rfl)
      by_cases co_21 : x_2 = nI 21
      · -- 21
        refine lv_tableIn (tgt := 932) (off := 899) C.1 C.2.1 d_Lw_law_33 (by rw [co_21]; decide) (by rw [co_21]; decide) (by rw [co_21]; decide +kernel) (by decide) ?_
        refine lv_aload_n C.1 C.2.1 d_Lw_law_932 rfl (lv_at hl 1 rfl) ?_
        refine lv_aload_n C.1 C.2.1 d_Lw_law_933 rfl (lv_at hl 0 rfl) ?_
        refine lv_iload_n C.1 C.2.1 d_Lw_law_934 rfl (lv_at hl 3 rfl) ?_
        refine lv_iconst (v := nI 1) C.1 C.2.1 d_Lw_law_935 rfl ?_
        refine lv_iadd C.1 C.2.1 d_Lw_law_936 ?_
        refine gm_eqi (nI_add _ _) ?_
        refine va_sld C.1 C.2.1 hX hbl hbA hh.2.1 (vp_in_nI (by omega) (by omega)) d_Lw_law_937 ?_
        refine gm_eqi (y := xs (i + 1)) (by rw [nI_clamp (by omega)]) ?_
        refine lv_aload_n C.1 C.2.1 d_Lw_law_938 rfl (lv_at hl 0 rfl) ?_
        refine lv_iload_n C.1 C.2.1 d_Lw_law_939 rfl (lv_at hl 3 rfl) ?_
        refine lv_iconst (v := nI 2) C.1 C.2.1 d_Lw_law_940 rfl ?_
        refine lv_iadd C.1 C.2.1 d_Lw_law_941 ?_
        refine gm_eqi (nI_add _ _) ?_
        refine va_sld C.1 C.2.1 hX hbl hbA hh.2.1 (vp_in_nI (by omega) (by omega)) d_Lw_law_942 ?_
        refine gm_eqi (y := xs (i + 2)) (by rw [nI_clamp (by omega)]) ?_
        refine gc_i hh (gc_runV (As := [.int (xs (i + 1)), .int (xs (i + 2))]) (rest := []) (n := 2) C hml hh (c_FT_walk l D cs sh sz I J B hF hS.2.1 0 en8 hn8 (xs (i + 1)) (xs (i + 2))) (tg_V tw_539 tw_540 tw_541 tw_57 tw_542) (by decide +kernel) ⟨rfl, rfl, by decide, by decide, Nat.le_of_ble_eq_true rfl, Nat.le_of_ble_eq_true rfl⟩ hF.1 rfl rfl hl.1 rfl (Nat.le_of_ble_eq_true rfl) d_Lw_law_943) (fun r_150 I_151 J_152 H locs hr_150 hh => ?_)
        have hf_ := hr_150.1 (fr_in _)
        have hS1_ := hS.eq (Prod.mk.inj hf_.2).1
        refine lv_aload_n C.1 C.2.1 d_Lw_law_946 rfl (lv_at hl 2 rfl) ?_
        refine lv_aload_n C.1 C.2.1 d_Lw_law_947 rfl (lv_at hl 0 rfl) ?_
        refine lv_iload_n C.1 C.2.1 d_Lw_law_948 rfl (lv_at hl 3 rfl) ?_
        refine lv_iconst (v := nI 1) C.1 C.2.1 d_Lw_law_949 rfl ?_
        refine lv_iadd C.1 C.2.1 d_Lw_law_950 ?_
        refine gm_eqi (nI_add _ _) ?_
        refine va_sld C.1 C.2.1 hX hbl hbA hh.2.1 (vp_in_nI (by omega) (by omega)) d_Lw_law_951 ?_
        refine gm_eqi (y := xs (i + 1)) (by rw [nI_clamp (by omega)]) ?_
        refine lv_aload_n C.1 C.2.1 d_Lw_law_952 rfl (lv_at hl 0 rfl) ?_
        refine lv_iload_n C.1 C.2.1 d_Lw_law_953 rfl (lv_at hl 3 rfl) ?_
        refine lv_iconst (v := nI 2) C.1 C.2.1 d_Lw_law_954 rfl ?_
        refine lv_iadd C.1 C.2.1 d_Lw_law_955 ?_
        refine gm_eqi (nI_add _ _) ?_
        refine va_sld C.1 C.2.1 hX hbl hbA hh.2.1 (vp_in_nI (by omega) (by omega)) d_Lw_law_956 ?_
        refine gm_eqi (y := xs (i + 2)) (by rw [nI_clamp (by omega)]) ?_
        refine gc_i hh (gc_runV (As := [.int (xs (i + 1)), .int (xs (i + 2))]) (rest := [.int r_150]) (n := 2) C hml hh (c_Md_walk l D cs sh sz I_151 J_152 r hM hS1_.2.2.1 (xs (i + 1)) (xs (i + 2))) (tg_V tw_895 tw_896 tw_897 tw_64 tw_898) (by decide +kernel) ⟨rfl, rfl, by decide, by decide, Nat.le_of_ble_eq_true rfl, Nat.le_of_ble_eq_true rfl⟩ (Md_0 hM) rfl rfl hl.1 rfl (Nat.le_of_ble_eq_true rfl) d_Lw_law_957) (fun r_153 I_154 J_155 H locs hr_153 hh => ?_)
        have hS_156 := hS1_.eq (m_walk hr_153)
        have e1_ : I_151 = I := (Prod.mk.inj hf_.2).1
        have z1_ : I_151 r 0 = nI 0 := by rw [e1_]; exact hS.ent en8
        have xz_ : r_150 = r_153 := (hf_.1).trans (fr_three z1_ hr_153).symm
        refine lv_icmp_eq (tgt := 1011) C.1 C.2.1 d_Lw_law_960 (by decide) (fun c_ => ?_) (fun c_ => absurd xz_ c_)
        refine lv_iinc (v := nI (i + 7)) (lv' := [(3, .int (nI (i + 7))), (0, .ref b), (1, .ref B), (2, .ref r)]) C.1 C.2.1 d_Lw_law_1011 hl (k := 3) rfl (gm_inc i 7) (by decide) rfl (fun ls hl => ?_)
        refine lv_goto (tgt := 18) C.1 C.2.1 d_Lw_law_1014 (by decide) ?_
        exact ih (i + 7) I_154 J_155 (by omega) hS_156 (fun h_ => absurd h_ (by omega)) (by omega) _ _ _ hh (lv_sub hl [1, 2, 3, 0] rfl)
      by_cases co_22 : x_2 = nI 22
      · -- 22
        refine lv_tableIn (tgt := 965) (off := 932) C.1 C.2.1 d_Lw_law_33 (by rw [co_22]; decide) (by rw [co_22]; decide) (by rw [co_22]; decide +kernel) (by decide) ?_
        refine lv_aload_n C.1 C.2.1 d_Lw_law_965 rfl (lv_at hl 1 rfl) ?_
        refine lv_aload_n C.1 C.2.1 d_Lw_law_966 rfl (lv_at hl 0 rfl) ?_
        refine lv_iload_n C.1 C.2.1 d_Lw_law_967 rfl (lv_at hl 3 rfl) ?_
        refine lv_iconst (v := nI 1) C.1 C.2.1 d_Lw_law_968 rfl ?_
        refine lv_iadd C.1 C.2.1 d_Lw_law_969 ?_
        refine gm_eqi (nI_add _ _) ?_
        refine va_sld C.1 C.2.1 hX hbl hbA hh.2.1 (vp_in_nI (by omega) (by omega)) d_Lw_law_970 ?_
        refine gm_eqi (y := xs (i + 1)) (by rw [nI_clamp (by omega)]) ?_
        refine lv_aload_n C.1 C.2.1 d_Lw_law_971 rfl (lv_at hl 0 rfl) ?_
        refine lv_iload_n C.1 C.2.1 d_Lw_law_972 rfl (lv_at hl 3 rfl) ?_
        refine lv_iconst (v := nI 2) C.1 C.2.1 d_Lw_law_973 rfl ?_
        refine lv_iadd C.1 C.2.1 d_Lw_law_974 ?_
        refine gm_eqi (nI_add _ _) ?_
        refine va_sld C.1 C.2.1 hX hbl hbA hh.2.1 (vp_in_nI (by omega) (by omega)) d_Lw_law_975 ?_
        refine gm_eqi (y := xs (i + 2)) (by rw [nI_clamp (by omega)]) ?_
        refine gc_i hh (gc_runV (As := [.int (xs (i + 1)), .int (xs (i + 2))]) (rest := []) (n := 2) C hml hh (c_FT_ring l D cs sh sz I J B hF hS.2.1 0 en8 hn8 (xs (i + 1)) (xs (i + 2))) (tg_V tw_543 tw_544 tw_545 tw_57 tw_546) (by decide +kernel) ⟨rfl, rfl, by decide, by decide, Nat.le_of_ble_eq_true rfl, Nat.le_of_ble_eq_true rfl⟩ hF.1 rfl rfl hl.1 rfl (Nat.le_of_ble_eq_true rfl) d_Lw_law_976) (fun r_157 I_158 J_159 H locs hr_157 hh => ?_)
        have hf_ := hr_157.1 (fr_in _)
        have hS1_ := hS.eq (Prod.mk.inj hf_.2).1
        refine lv_aload_n C.1 C.2.1 d_Lw_law_979 rfl (lv_at hl 2 rfl) ?_
        refine lv_aload_n C.1 C.2.1 d_Lw_law_980 rfl (lv_at hl 0 rfl) ?_
        refine lv_iload_n C.1 C.2.1 d_Lw_law_981 rfl (lv_at hl 3 rfl) ?_
        refine lv_iconst (v := nI 1) C.1 C.2.1 d_Lw_law_982 rfl ?_
        refine lv_iadd C.1 C.2.1 d_Lw_law_983 ?_
        refine gm_eqi (nI_add _ _) ?_
        refine va_sld C.1 C.2.1 hX hbl hbA hh.2.1 (vp_in_nI (by omega) (by omega)) d_Lw_law_984 ?_
        refine gm_eqi (y := xs (i + 1)) (by rw [nI_clamp (by omega)]) ?_
        refine lv_aload_n C.1 C.2.1 d_Lw_law_985 rfl (lv_at hl 0 rfl) ?_
        refine lv_iload_n C.1 C.2.1 d_Lw_law_986 rfl (lv_at hl 3 rfl) ?_
        refine lv_iconst (v := nI 2) C.1 C.2.1 d_Lw_law_987 rfl ?_
        refine lv_iadd C.1 C.2.1 d_Lw_law_988 ?_
        refine gm_eqi (nI_add _ _) ?_
        refine va_sld C.1 C.2.1 hX hbl hbA hh.2.1 (vp_in_nI (by omega) (by omega)) d_Lw_law_989 ?_
        refine gm_eqi (y := xs (i + 2)) (by rw [nI_clamp (by omega)]) ?_
        refine gc_i hh (gc_runV (As := [.int (xs (i + 1)), .int (xs (i + 2))]) (rest := [.int r_157]) (n := 2) C hml hh (c_Md_ring l D cs sh sz I_158 J_159 r hM hS1_.2.2.1 (xs (i + 1)) (xs (i + 2))) (tg_V tw_899 tw_900 tw_901 tw_64 tw_902) (by decide +kernel) ⟨rfl, rfl, by decide, by decide, Nat.le_of_ble_eq_true rfl, Nat.le_of_ble_eq_true rfl⟩ (Md_0 hM) rfl rfl hl.1 rfl (Nat.le_of_ble_eq_true rfl) d_Lw_law_990) (fun r_160 I_161 J_162 H locs hr_160 hh => ?_)
        have hS_163 := hS1_.eq (m_ring hr_160)
        have e1_ : I_158 = I := (Prod.mk.inj hf_.2).1
        have z1_ : I_158 r 0 = nI 0 := by rw [e1_]; exact hS.ent en8
        have xz_ : r_157 = r_160 := (hf_.1).trans (fr_three z1_ hr_160).symm
        refine lv_icmp_eq (tgt := 1011) C.1 C.2.1 d_Lw_law_993 (by decide) (fun c_ => ?_) (fun c_ => absurd xz_ c_)
        refine lv_iinc (v := nI (i + 7)) (lv' := [(3, .int (nI (i + 7))), (0, .ref b), (1, .ref B), (2, .ref r)]) C.1 C.2.1 d_Lw_law_1011 hl (k := 3) rfl (gm_inc i 7) (by decide) rfl (fun ls hl => ?_)
        refine lv_goto (tgt := 18) C.1 C.2.1 d_Lw_law_1014 (by decide) ?_
        exact ih (i + 7) I_161 J_162 (by omega) hS_163 (fun h_ => absurd h_ (by omega)) (by omega) _ _ _ hh (lv_sub hl [1, 2, 3, 0] rfl)
      by_cases co_23 : x_2 = nI 23
      · -- 23
        refine lv_tableIn (tgt := 998) (off := 965) C.1 C.2.1 d_Lw_law_33 (by rw [co_23]; decide) (by rw [co_23]; decide) (by rw [co_23]; decide +kernel) (by decide) ?_
        refine lv_aload_n C.1 C.2.1 d_Lw_law_998 rfl (lv_at hl 1 rfl) ?_
        refine gc_i hh (gc_runV (As := []) (rest := []) (n := 0) C hml hh (c_FT_loops l D cs sh sz I J B hF) (tg_V tw_555 tw_556 tw_557 tw_57 tw_558) (by decide +kernel) ⟨rfl, rfl, by decide, by decide, Nat.le_of_ble_eq_true rfl, Nat.le_of_ble_eq_true rfl⟩ hF.1 rfl rfl hl.1 rfl (Nat.le_of_ble_eq_true rfl) d_Lw_law_999) (fun r_164 I_165 J_166 H locs hr_164 hh => ?_)
        have hS1_ := hS.eq (Prod.mk.inj hr_164.1).1
        refine lv_aload_n C.1 C.2.1 d_Lw_law_1002 rfl (lv_at hl 2 rfl) ?_
        refine gc_i hh (gc_runV (As := []) (rest := [.int r_164]) (n := 0) C hml hh (c_Md_loops l D cs sh sz I_165 J_166 r hM hS1_.2.2.1 ) (tg_V tw_907 tw_908 tw_909 tw_64 tw_910) (by decide +kernel) ⟨rfl, rfl, by decide, by decide, Nat.le_of_ble_eq_true rfl, Nat.le_of_ble_eq_true rfl⟩ (Md_0 hM) rfl rfl hl.1 rfl (Nat.le_of_ble_eq_true rfl) d_Lw_law_1003) (fun r_167 I_168 J_169 H locs hr_167 hh => ?_)
        have hS_170 := hS1_.eq (Prod.mk.inj hr_167.1).1
        have xz_ : r_164 = r_167 := by rw [hr_164.2, hr_167.2, (Prod.mk.inj hr_164.1).1]; exact hS.2.2.2.2.1
        refine lv_icmp_eq (tgt := 1011) C.1 C.2.1 d_Lw_law_1006 (by decide) (fun c_ => ?_) (fun c_ => absurd xz_ c_)
        refine lv_iinc (v := nI (i + 7)) (lv' := [(3, .int (nI (i + 7))), (0, .ref b), (1, .ref B), (2, .ref r)]) C.1 C.2.1 d_Lw_law_1011 hl (k := 3) rfl (gm_inc i 7) (by decide) rfl (fun ls hl => ?_)
        refine lv_goto (tgt := 18) C.1 C.2.1 d_Lw_law_1014 (by decide) ?_
        exact ih (i + 7) I_168 J_169 (by omega) hS_170 (fun h_ => absurd h_ (by omega)) (by omega) _ _ _ hh (lv_sub hl [1, 2, 3, 0] rfl)
      refine lv_tableOut (tgt := 1011) C.1 C.2.1 d_Lw_law_33 (sw24 (fun k hk => by rcases (show k = 0 ∨ k = 1 ∨ k = 2 ∨ k = 3 ∨ k = 4 ∨ k = 5 ∨ k = 6 ∨ k = 7 ∨ k = 8 ∨ k = 9 ∨ k = 10 ∨ k = 11 ∨ k = 12 ∨ k = 13 ∨ k = 14 ∨ k = 15 ∨ k = 16 ∨ k = 17 ∨ k = 18 ∨ k = 19 ∨ k = 20 ∨ k = 21 ∨ k = 22 ∨ k = 23 by omega) with rfl | rfl | rfl | rfl | rfl | rfl | rfl | rfl | rfl | rfl | rfl | rfl | rfl | rfl | rfl | rfl | rfl | rfl | rfl | rfl | rfl | rfl | rfl | rfl <;> assumption)) (by decide) ?_
      refine lv_iinc (v := nI (i + 7)) (lv' := [(3, .int (nI (i + 7))), (0, .ref b), (1, .ref B), (2, .ref r)]) C.1 C.2.1 d_Lw_law_1011 hl (k := 3) rfl (gm_inc i 7) (by decide) rfl (fun ls hl => ?_)
      refine lv_goto (tgt := 18) C.1 C.2.1 d_Lw_law_1014 (by decide) ?_
      exact ih (i + 7) I J (by omega) hS (fun h_ => absurd h_ (by omega)) (by omega) _ _ _ hh (lv_sub hl [1, 2, 3, 0] rfl)
