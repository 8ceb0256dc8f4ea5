set_option maxHeartbeats 4000000 in
set_option maxRecDepth 100000 in
theorem law_loop {p : Program} {l : Launch} {e : Env} {s : State} {m : MethodId} {below : List Frame} {meth : Method} {c : Code} {b L : Nat} {xs : Nat → Int32} {D : va_G} {cs : Nat → ClassId} {sh : gm_H} {sz B r : Nat} (hL : L ≤ 3584) (C0 : lw_At p s m meth c b L xs) (hK : va_K D vwC (gt cs) s) (hF : is_FT cs sh B) (hM : is_Md sh r) :
    ∀ (n i : Nat) (I : gm_I) (J : gm_J), i ≤ L + 7 → SI I B r → SJ I J B r → L + 7 - i < n → ∀ (H : Heap) (locs : List Loc) (ls : Array Slot), gm_St D cs sh (fun q : Nat => s.heap.size ≤ q) s.heap sz I J H locs → lv_has ls 4 [(0, .ref b), (1, .ref B), (2, .ref r), (3, .int (nI i))] → W p l e room_1 s m #[Value.ref b] below meth c H locs 600000 7302249 (lw_Z below #[Value.ref b] s) (F0 m 18 ls []) := by
  obtain ⟨hx, hb, hr, hml, hown, hts, hX, hbl, hlocks, hgv⟩ := C0
  have hbA : ¬ (fun q : Nat => s.heap.size ≤ q) b := Nat.not_le.mpr hbl
  have hbl : b < s.heap.size := hbl
  have C : gm_C p s m #[Value.ref b] c D cs code "FallingTermsLaw" := ⟨hx, hb, fun w hw => hts w (List.mem_filter.mp hw).1, hown, hK, nest_of hts⟩
  intro n
  induction n with
  | zero => intro i I J h1 h2 hJ h3; exact absurd h3 (Nat.not_lt_zero _)
  | succ n ih =>
    intro i I J hi hS hJ hm H locs ls hh hl
    obtain ⟨n8, hn8, en8, _⟩ := hS.cnt
    refine lv_iload_n C.1 C.2.1 d_Lw_law_18 rfl (lv_at hl 3 rfl) ?_
    refine lv_aload_n C.1 C.2.1 d_Lw_law_19 rfl (lv_at hl 0 rfl) ?_
    refine va_slen C.1 C.2.1 hX hbl hbA hh.2.1 d_Lw_law_20 ?_
    refine gm_eqi (y := nI L) rfl ?_
    refine lv_bipush (v := nI 7) C.1 C.2.1 d_Lw_law_21 rfl ?_
    refine lv_isub C.1 C.2.1 d_Lw_law_23 ?_
    refine lv_icmp_gt (tgt := 1016) C.1 C.2.1 d_Lw_law_24 (by decide) (fun c_1 => ?_) (fun c_1 => ?_)
    · -- the end
      refine lv_iconst (v := nI 1) C.1 C.2.1 d_Lw_law_1016 rfl ?_
      refine va_forget (fun q hq => hh.2.1.2.2 q hq) ?_
      exact lw_ret C.1 C.2.1 hr hlocks d_Lw_law_1017
    · -- a call
      have hi7 : i + 7 ≤ L := lw_cmp (by omega) (by omega) c_1
      refine lv_aload_n C.1 C.2.1 d_Lw_law_27 rfl (lv_at hl 0 rfl) ?_
      refine lv_iload_n C.1 C.2.1 d_Lw_law_28 rfl (lv_at hl 3 rfl) ?_
      refine va_sld C.1 C.2.1 hX hbl hbA hh.2.1 (vp_in_nI (by omega) (by omega)) d_Lw_law_29 ?_
      refine gm_eqi (y := xs i) (by rw [nI_clamp (by omega)]) ?_
      refine lv_bipush (v := nI 31) C.1 C.2.1 d_Lw_law_30 rfl ?_
      refine lv_iand C.1 C.2.1 d_Lw_law_32 ?_
      refine lv_topi (fun x_2 ex_2 => ?_)
      by_cases co_0 : x_2 = nI 0
      · -- 0
        refine lv_tableIn (tgt := 144) (off := 111) C.1 C.2.1 d_Lw_law_33 (by rw [co_0]; decide) (by rw [co_0]; decide) (by rw [co_0]; decide +kernel) (by decide) ?_
        refine lv_aload_n C.1 C.2.1 d_Lw_law_144 rfl (lv_at hl 1 rfl) ?_
        refine lv_aload_n C.1 C.2.1 d_Lw_law_145 rfl (lv_at hl 0 rfl) ?_
        refine lv_iload_n C.1 C.2.1 d_Lw_law_146 rfl (lv_at hl 3 rfl) ?_
        refine lv_iconst (v := nI 1) C.1 C.2.1 d_Lw_law_147 rfl ?_
        refine lv_iadd C.1 C.2.1 d_Lw_law_148 ?_
        refine gm_eqi (nI_add _ _) ?_
        refine va_sld C.1 C.2.1 hX hbl hbA hh.2.1 (vp_in_nI (by omega) (by omega)) d_Lw_law_149 ?_
        refine gm_eqi (y := xs (i + 1)) (by rw [nI_clamp (by omega)]) ?_
        refine gc_i hh (gc_runV (As := [.int (xs (i + 1))]) (rest := []) (n := 1) C hml hh (c_FT_loop l D cs sh sz I J B hF hS.2.1 n8 en8 hn8 (xs (i + 1))) (tg_V tw_244 tw_245 tw_246 tw_57 tw_247) (by decide +kernel) ⟨rfl, rfl, by decide, by decide, Nat.le_of_ble_eq_true rfl, Nat.le_of_ble_eq_true rfl⟩ hF.1 rfl rfl hl.1 rfl (Nat.le_of_ble_eq_true rfl) d_Lw_law_150) (fun r_3 I_4 J_5 H locs hr_3 hh => ?_)
        obtain ⟨hv_, er_, hop_⟩ := op_loop hS hn8 en8 hr_3
        refine lv_pop C.1 C.2.1 d_Lw_law_153 rfl ?_
        refine lv_aload_n C.1 C.2.1 d_Lw_law_154 rfl (lv_at hl 2 rfl) ?_
        refine lv_aload_n C.1 C.2.1 d_Lw_law_155 rfl (lv_at hl 0 rfl) ?_
        refine lv_iload_n C.1 C.2.1 d_Lw_law_156 rfl (lv_at hl 3 rfl) ?_
        refine lv_iconst (v := nI 1) C.1 C.2.1 d_Lw_law_157 rfl ?_
        refine lv_iadd C.1 C.2.1 d_Lw_law_158 ?_
        refine gm_eqi (nI_add _ _) ?_
        refine va_sld C.1 C.2.1 hX hbl hbA hh.2.1 (vp_in_nI (by omega) (by omega)) d_Lw_law_159 ?_
        refine gm_eqi (y := xs (i + 1)) (by rw [nI_clamp (by omega)]) ?_
        refine gc_i hh (gc_runV (As := [.int (xs (i + 1))]) (rest := []) (n := 1) C hml hh (c_Md_loop l D cs sh sz I_4 J_5 r hM hv_ (xs (i + 1)) n8 hn8 er_) (tg_V tw_680 tw_681 tw_682 tw_64 tw_683) (by decide +kernel) ⟨rfl, rfl, by decide, by decide, Nat.le_of_ble_eq_true rfl, Nat.le_of_ble_eq_true rfl⟩ (Md_0 hM) rfl rfl hl.1 rfl (Nat.le_of_ble_eq_true rfl) d_Lw_law_160) (fun r_6 I_7 J_8 H locs hr_6 hh => ?_)
        obtain ⟨hS_9, xz_⟩ := hop_ _ _ _ hr_6
        have hJ_10 := sj_loop hS hJ hn8 en8 hr_3 hr_6
        refine lv_pop C.1 C.2.1 d_Lw_law_163 rfl ?_
        refine lv_goto (tgt := 1010) C.1 C.2.1 d_Lw_law_164 (by decide) ?_
        refine lv_iinc (v := nI (i + 7)) (lv' := [(3, .int (nI (i + 7))), (0, .ref b), (1, .ref B), (2, .ref r)]) C.1 C.2.1 d_Lw_law_1010 hl (k := 3) rfl (gm_inc i 7) (by decide) rfl (fun ls hl => ?_)
        refine lv_goto (tgt := 18) C.1 C.2.1 d_Lw_law_1013 (by decide) ?_
        exact ih (i + 7) I_7 J_8 (by omega) hS_9 hJ_10 (by omega) _ _ _ hh (lv_sub hl [1, 2, 3, 0] rfl)
      by_cases co_1 : x_2 = nI 1
      · -- 1
        refine lv_tableIn (tgt := 167) (off := 134) C.1 C.2.1 d_Lw_law_33 (by rw [co_1]; decide) (by rw [co_1]; decide) (by rw [co_1]; decide +kernel) (by decide) ?_
        refine lv_aload_n C.1 C.2.1 d_Lw_law_167 rfl (lv_at hl 1 rfl) ?_
        refine gc_i hh (gc_runV (As := []) (rest := []) (n := 0) C hml hh (c_FT_clear l D cs sh sz I J B hF) (tg_V tw_252 tw_253 tw_254 tw_57 tw_255) (by decide +kernel) ⟨rfl, rfl, by decide, by decide, Nat.le_of_ble_eq_true rfl, Nat.le_of_ble_eq_true rfl⟩ hF.1 rfl rfl hl.1 rfl (Nat.le_of_ble_eq_true rfl) d_Lw_law_168) (fun r_11 I_12 J_13 H locs hr_11 hh => ?_)
        obtain ⟨hv_, hop_⟩ := op_clear hS hr_11
        refine lv_pop C.1 C.2.1 d_Lw_law_171 rfl ?_
        refine lv_aload_n C.1 C.2.1 d_Lw_law_172 rfl (lv_at hl 2 rfl) ?_
        refine gc_i hh (gc_runV (As := []) (rest := []) (n := 0) C hml hh (c_Md_clear l D cs sh sz I_12 J_13 r hM hv_ ) (tg_V tw_687 tw_688 tw_689 tw_64 tw_690) (by decide +kernel) ⟨rfl, rfl, by decide, by decide, Nat.le_of_ble_eq_true rfl, Nat.le_of_ble_eq_true rfl⟩ (Md_0 hM) rfl rfl hl.1 rfl (Nat.le_of_ble_eq_true rfl) d_Lw_law_173) (fun r_14 I_15 J_16 H locs hr_14 hh => ?_)
        obtain ⟨hS_17, xz_⟩ := hop_ _ _ _ hr_14
        have hJ_18 := sj_clear hS hJ hr_11 hr_14
        refine lv_pop C.1 C.2.1 d_Lw_law_176 rfl ?_
        refine lv_goto (tgt := 1010) C.1 C.2.1 d_Lw_law_177 (by decide) ?_
        refine lv_iinc (v := nI (i + 7)) (lv' := [(3, .int (nI (i + 7))), (0, .ref b), (1, .ref B), (2, .ref r)]) C.1 C.2.1 d_Lw_law_1010 hl (k := 3) rfl (gm_inc i 7) (by decide) rfl (fun ls hl => ?_)
        refine lv_goto (tgt := 18) C.1 C.2.1 d_Lw_law_1013 (by decide) ?_
        exact ih (i + 7) I_15 J_16 (by omega) hS_17 hJ_18 (by omega) _ _ _ hh (lv_sub hl [1, 2, 3, 0] rfl)
      by_cases co_2 : x_2 = nI 2
      · -- 2
        refine lv_tableIn (tgt := 180) (off := 147) C.1 C.2.1 d_Lw_law_33 (by rw [co_2]; decide) (by rw [co_2]; decide) (by rw [co_2]; decide +kernel) (by decide) ?_
        refine lv_aload_n C.1 C.2.1 d_Lw_law_180 rfl (lv_at hl 1 rfl) ?_
        refine lv_aload_n C.1 C.2.1 d_Lw_law_181 rfl (lv_at hl 0 rfl) ?_
        refine lv_iload_n C.1 C.2.1 d_Lw_law_182 rfl (lv_at hl 3 rfl) ?_
        refine lv_iconst (v := nI 1) C.1 C.2.1 d_Lw_law_183 rfl ?_
        refine lv_iadd C.1 C.2.1 d_Lw_law_184 ?_
        refine gm_eqi (nI_add _ _) ?_
        refine va_sld C.1 C.2.1 hX hbl hbA hh.2.1 (vp_in_nI (by omega) (by omega)) d_Lw_law_185 ?_
        refine gm_eqi (y := xs (i + 1)) (by rw [nI_clamp (by omega)]) ?_
        refine lv_aload_n C.1 C.2.1 d_Lw_law_186 rfl (lv_at hl 0 rfl) ?_
        refine lv_iload_n C.1 C.2.1 d_Lw_law_187 rfl (lv_at hl 3 rfl) ?_
        refine lv_iconst (v := nI 2) C.1 C.2.1 d_Lw_law_188 rfl ?_
        refine lv_iadd C.1 C.2.1 d_Lw_law_189 ?_
        refine gm_eqi (nI_add _ _) ?_
        refine va_sld C.1 C.2.1 hX hbl hbA hh.2.1 (vp_in_nI (by omega) (by omega)) d_Lw_law_190 ?_
        refine gm_eqi (y := xs (i + 2)) (by rw [nI_clamp (by omega)]) ?_
        refine lv_aload_n C.1 C.2.1 d_Lw_law_191 rfl (lv_at hl 0 rfl) ?_
        refine lv_iload_n C.1 C.2.1 d_Lw_law_192 rfl (lv_at hl 3 rfl) ?_
        refine lv_iconst (v := nI 3) C.1 C.2.1 d_Lw_law_193 rfl ?_
        refine lv_iadd C.1 C.2.1 d_Lw_law_194 ?_
        refine gm_eqi (nI_add _ _) ?_
        refine va_sld C.1 C.2.1 hX hbl hbA hh.2.1 (vp_in_nI (by omega) (by omega)) d_Lw_law_195 ?_
        refine gm_eqi (y := xs (i + 3)) (by rw [nI_clamp (by omega)]) ?_
        refine lv_aload_n C.1 C.2.1 d_Lw_law_196 rfl (lv_at hl 0 rfl) ?_
        refine lv_iload_n C.1 C.2.1 d_Lw_law_197 rfl (lv_at hl 3 rfl) ?_
        refine lv_iconst (v := nI 4) C.1 C.2.1 d_Lw_law_198 rfl ?_
        refine lv_iadd C.1 C.2.1 d_Lw_law_199 ?_
        refine gm_eqi (nI_add _ _) ?_
        refine va_sld C.1 C.2.1 hX hbl hbA hh.2.1 (vp_in_nI (by omega) (by omega)) d_Lw_law_200 ?_
        refine gm_eqi (y := xs (i + 4)) (by rw [nI_clamp (by omega)]) ?_
        refine lv_aload_n C.1 C.2.1 d_Lw_law_201 rfl (lv_at hl 0 rfl) ?_
        refine lv_iload_n C.1 C.2.1 d_Lw_law_202 rfl (lv_at hl 3 rfl) ?_
        refine lv_iconst (v := nI 5) C.1 C.2.1 d_Lw_law_203 rfl ?_
        refine lv_iadd C.1 C.2.1 d_Lw_law_204 ?_
        refine gm_eqi (nI_add _ _) ?_
        refine va_sld C.1 C.2.1 hX hbl hbA hh.2.1 (vp_in_nI (by omega) (by omega)) d_Lw_law_205 ?_
        refine gm_eqi (y := xs (i + 5)) (by rw [nI_clamp (by omega)]) ?_
        refine gc_i hh (gc_runV (As := [.int (xs (i + 1)), .int (xs (i + 2)), .int (xs (i + 3)), .int (xs (i + 4)), .int (xs (i + 5))]) (rest := []) (n := 5) C hml hh (c_FT_guard l D cs sh sz I J B hF hS.2.1 n8 en8 hn8 (xs (i + 1)) (xs (i + 2)) (xs (i + 3)) (xs (i + 4)) (xs (i + 5))) (tg_V tw_260 tw_261 tw_262 tw_57 tw_263) (by decide +kernel) ⟨rfl, rfl, by decide, by decide, Nat.le_of_ble_eq_true rfl, Nat.le_of_ble_eq_true rfl⟩ hF.1 rfl rfl hl.1 rfl (Nat.le_of_ble_eq_true rfl) d_Lw_law_206) (fun r_19 I_20 J_21 H locs hr_19 hh => ?_)
        obtain ⟨hv_, hop_⟩ := op_guard hS hn8 en8 hr_19
        refine lv_pop C.1 C.2.1 d_Lw_law_209 rfl ?_
        refine lv_aload_n C.1 C.2.1 d_Lw_law_210 rfl (lv_at hl 2 rfl) ?_
        refine lv_aload_n C.1 C.2.1 d_Lw_law_211 rfl (lv_at hl 0 rfl) ?_
        refine lv_iload_n C.1 C.2.1 d_Lw_law_212 rfl (lv_at hl 3 rfl) ?_
        refine lv_iconst (v := nI 1) C.1 C.2.1 d_Lw_law_213 rfl ?_
        refine lv_iadd C.1 C.2.1 d_Lw_law_214 ?_
        refine gm_eqi (nI_add _ _) ?_
        refine va_sld C.1 C.2.1 hX hbl hbA hh.2.1 (vp_in_nI (by omega) (by omega)) d_Lw_law_215 ?_
        refine gm_eqi (y := xs (i + 1)) (by rw [nI_clamp (by omega)]) ?_
        refine lv_aload_n C.1 C.2.1 d_Lw_law_216 rfl (lv_at hl 0 rfl) ?_
        refine lv_iload_n C.1 C.2.1 d_Lw_law_217 rfl (lv_at hl 3 rfl) ?_
        refine lv_iconst (v := nI 2) C.1 C.2.1 d_Lw_law_218 rfl ?_
        refine lv_iadd C.1 C.2.1 d_Lw_law_219 ?_
        refine gm_eqi (nI_add _ _) ?_
        refine va_sld C.1 C.2.1 hX hbl hbA hh.2.1 (vp_in_nI (by omega) (by omega)) d_Lw_law_220 ?_
        refine gm_eqi (y := xs (i + 2)) (by rw [nI_clamp (by omega)]) ?_
        refine lv_aload_n C.1 C.2.1 d_Lw_law_221 rfl (lv_at hl 0 rfl) ?_
        refine lv_iload_n C.1 C.2.1 d_Lw_law_222 rfl (lv_at hl 3 rfl) ?_
        refine lv_iconst (v := nI 3) C.1 C.2.1 d_Lw_law_223 rfl ?_
        refine lv_iadd C.1 C.2.1 d_Lw_law_224 ?_
        refine gm_eqi (nI_add _ _) ?_
        refine va_sld C.1 C.2.1 hX hbl hbA hh.2.1 (vp_in_nI (by omega) (by omega)) d_Lw_law_225 ?_
        refine gm_eqi (y := xs (i + 3)) (by rw [nI_clamp (by omega)]) ?_
        refine lv_aload_n C.1 C.2.1 d_Lw_law_226 rfl (lv_at hl 0 rfl) ?_
        refine lv_iload_n C.1 C.2.1 d_Lw_law_227 rfl (lv_at hl 3 rfl) ?_
        refine lv_iconst (v := nI 4) C.1 C.2.1 d_Lw_law_228 rfl ?_
        refine lv_iadd C.1 C.2.1 d_Lw_law_229 ?_
        refine gm_eqi (nI_add _ _) ?_
        refine va_sld C.1 C.2.1 hX hbl hbA hh.2.1 (vp_in_nI (by omega) (by omega)) d_Lw_law_230 ?_
        refine gm_eqi (y := xs (i + 4)) (by rw [nI_clamp (by omega)]) ?_
        refine lv_aload_n C.1 C.2.1 d_Lw_law_231 rfl (lv_at hl 0 rfl) ?_
        refine lv_iload_n C.1 C.2.1 d_Lw_law_232 rfl (lv_at hl 3 rfl) ?_
        refine lv_iconst (v := nI 5) C.1 C.2.1 d_Lw_law_233 rfl ?_
        refine lv_iadd C.1 C.2.1 d_Lw_law_234 ?_
        refine gm_eqi (nI_add _ _) ?_
        refine va_sld C.1 C.2.1 hX hbl hbA hh.2.1 (vp_in_nI (by omega) (by omega)) d_Lw_law_235 ?_
        refine gm_eqi (y := xs (i + 5)) (by rw [nI_clamp (by omega)]) ?_
        refine gc_i hh (gc_runV (As := [.int (xs (i + 1)), .int (xs (i + 2)), .int (xs (i + 3)), .int (xs (i + 4)), .int (xs (i + 5))]) (rest := []) (n := 5) C hml hh (c_Md_guard l D cs sh sz I_20 J_21 r hM hv_ (xs (i + 1)) (xs (i + 2)) (xs (i + 3)) (xs (i + 4)) (xs (i + 5))) (tg_V tw_691 tw_692 tw_693 tw_64 tw_694) (by decide +kernel) ⟨rfl, rfl, by decide, by decide, Nat.le_of_ble_eq_true rfl, Nat.le_of_ble_eq_true rfl⟩ (Md_0 hM) rfl rfl hl.1 rfl (Nat.le_of_ble_eq_true rfl) d_Lw_law_236) (fun r_22 I_23 J_24 H locs hr_22 hh => ?_)
        obtain ⟨hS_25, xz_⟩ := hop_ _ _ _ hr_22
        have hJ_26 := sj_guard hS hJ hn8 hr_19 hr_22
        refine lv_pop C.1 C.2.1 d_Lw_law_239 rfl ?_
        refine lv_goto (tgt := 1010) C.1 C.2.1 d_Lw_law_240 (by decide) ?_
        refine lv_iinc (v := nI (i + 7)) (lv' := [(3, .int (nI (i + 7))), (0, .ref b), (1, .ref B), (2, .ref r)]) C.1 C.2.1 d_Lw_law_1010 hl (k := 3) rfl (gm_inc i 7) (by decide) rfl (fun ls hl => ?_)
        refine lv_goto (tgt := 18) C.1 C.2.1 d_Lw_law_1013 (by decide) ?_
        exact ih (i + 7) I_23 J_24 (by omega) hS_25 hJ_26 (by omega) _ _ _ hh (lv_sub hl [1, 2, 3, 0] rfl)
      by_cases co_3 : x_2 = nI 3
      · -- 3
        refine lv_tableIn (tgt := 243) (off := 210) C.1 C.2.1 d_Lw_law_33 (by rw [co_3]; decide) (by rw [co_3]; decide) (by rw [co_3]; decide +kernel) (by decide) ?_
        refine lv_aload_n C.1 C.2.1 d_Lw_law_243 rfl (lv_at hl 1 rfl) ?_
        refine lv_aload_n C.1 C.2.1 d_Lw_law_244 rfl (lv_at hl 0 rfl) ?_
        refine lv_iload_n C.1 C.2.1 d_Lw_law_245 rfl (lv_at hl 3 rfl) ?_
        refine lv_iconst (v := nI 1) C.1 C.2.1 d_Lw_law_246 rfl ?_
        refine lv_iadd C.1 C.2.1 d_Lw_law_247 ?_
        refine gm_eqi (nI_add _ _) ?_
        refine va_sld C.1 C.2.1 hX hbl hbA hh.2.1 (vp_in_nI (by omega) (by omega)) d_Lw_law_248 ?_
        refine gm_eqi (y := xs (i + 1)) (by rw [nI_clamp (by omega)]) ?_
        refine gc_i hh (gc_runV (As := [.int (xs (i + 1))]) (rest := []) (n := 1) C hml hh (c_FT_way l D cs sh sz I J B hF hS.2.1 n8 en8 hn8 (xs (i + 1))) (tg_V tw_282 tw_283 tw_284 tw_57 tw_285) (by decide +kernel) ⟨rfl, rfl, by decide, by decide, Nat.le_of_ble_eq_true rfl, Nat.le_of_ble_eq_true rfl⟩ hF.1 rfl rfl hl.1 rfl (Nat.le_of_ble_eq_true rfl) d_Lw_law_249) (fun r_27 I_28 J_29 H locs hr_27 hh => ?_)
        obtain ⟨hv_, hop_⟩ := op_way hS hn8 en8 hr_27
        refine lv_pop C.1 C.2.1 d_Lw_law_252 rfl ?_
        refine lv_aload_n C.1 C.2.1 d_Lw_law_253 rfl (lv_at hl 2 rfl) ?_
        refine lv_aload_n C.1 C.2.1 d_Lw_law_254 rfl (lv_at hl 0 rfl) ?_
        refine lv_iload_n C.1 C.2.1 d_Lw_law_255 rfl (lv_at hl 3 rfl) ?_
        refine lv_iconst (v := nI 1) C.1 C.2.1 d_Lw_law_256 rfl ?_
        refine lv_iadd C.1 C.2.1 d_Lw_law_257 ?_
        refine gm_eqi (nI_add _ _) ?_
        refine va_sld C.1 C.2.1 hX hbl hbA hh.2.1 (vp_in_nI (by omega) (by omega)) d_Lw_law_258 ?_
        refine gm_eqi (y := xs (i + 1)) (by rw [nI_clamp (by omega)]) ?_
        refine gc_i hh (gc_runV (As := [.int (xs (i + 1))]) (rest := []) (n := 1) C hml hh (c_Md_way l D cs sh sz I_28 J_29 r hM hv_ (xs (i + 1))) (tg_V tw_710 tw_711 tw_712 tw_64 tw_713) (by decide +kernel) ⟨rfl, rfl, by decide, by decide, Nat.le_of_ble_eq_true rfl, Nat.le_of_ble_eq_true rfl⟩ (Md_0 hM) rfl rfl hl.1 rfl (Nat.le_of_ble_eq_true rfl) d_Lw_law_259) (fun r_30 I_31 J_32 H locs hr_30 hh => ?_)
        obtain ⟨hS_33, xz_⟩ := hop_ _ _ _ hr_30
        have hJ_34 := sj_way hS hJ hn8 en8 hr_27 hr_30
        refine lv_pop C.1 C.2.1 d_Lw_law_262 rfl ?_
        refine lv_goto (tgt := 1010) C.1 C.2.1 d_Lw_law_263 (by decide) ?_
        refine lv_iinc (v := nI (i + 7)) (lv' := [(3, .int (nI (i + 7))), (0, .ref b), (1, .ref B), (2, .ref r)]) C.1 C.2.1 d_Lw_law_1010 hl (k := 3) rfl (gm_inc i 7) (by decide) rfl (fun ls hl => ?_)
        refine lv_goto (tgt := 18) C.1 C.2.1 d_Lw_law_1013 (by decide) ?_
        exact ih (i + 7) I_31 J_32 (by omega) hS_33 hJ_34 (by omega) _ _ _ hh (lv_sub hl [1, 2, 3, 0] rfl)
      by_cases co_4 : x_2 = nI 4
      · -- 4
        refine lv_tableIn (tgt := 266) (off := 233) C.1 C.2.1 d_Lw_law_33 (by rw [co_4]; decide) (by rw [co_4]; decide) (by rw [co_4]; decide +kernel) (by decide) ?_
        refine lv_aload_n C.1 C.2.1 d_Lw_law_266 rfl (lv_at hl 1 rfl) ?_
        refine lv_aload_n C.1 C.2.1 d_Lw_law_267 rfl (lv_at hl 0 rfl) ?_
        refine lv_iload_n C.1 C.2.1 d_Lw_law_268 rfl (lv_at hl 3 rfl) ?_
        refine lv_iconst (v := nI 1) C.1 C.2.1 d_Lw_law_269 rfl ?_
        refine lv_iadd C.1 C.2.1 d_Lw_law_270 ?_
        refine gm_eqi (nI_add _ _) ?_
        refine va_sld C.1 C.2.1 hX hbl hbA hh.2.1 (vp_in_nI (by omega) (by omega)) d_Lw_law_271 ?_
        refine gm_eqi (y := xs (i + 1)) (by rw [nI_clamp (by omega)]) ?_
        refine lv_aload_n C.1 C.2.1 d_Lw_law_272 rfl (lv_at hl 0 rfl) ?_
        refine lv_iload_n C.1 C.2.1 d_Lw_law_273 rfl (lv_at hl 3 rfl) ?_
        refine lv_iconst (v := nI 2) C.1 C.2.1 d_Lw_law_274 rfl ?_
        refine lv_iadd C.1 C.2.1 d_Lw_law_275 ?_
        refine gm_eqi (nI_add _ _) ?_
        refine va_sld C.1 C.2.1 hX hbl hbA hh.2.1 (vp_in_nI (by omega) (by omega)) d_Lw_law_276 ?_
        refine gm_eqi (y := xs (i + 2)) (by rw [nI_clamp (by omega)]) ?_
        refine lv_aload_n C.1 C.2.1 d_Lw_law_277 rfl (lv_at hl 0 rfl) ?_
        refine lv_iload_n C.1 C.2.1 d_Lw_law_278 rfl (lv_at hl 3 rfl) ?_
        refine lv_iconst (v := nI 3) C.1 C.2.1 d_Lw_law_279 rfl ?_
        refine lv_iadd C.1 C.2.1 d_Lw_law_280 ?_
        refine gm_eqi (nI_add _ _) ?_
        refine va_sld C.1 C.2.1 hX hbl hbA hh.2.1 (vp_in_nI (by omega) (by omega)) d_Lw_law_281 ?_
        refine gm_eqi (y := xs (i + 3)) (by rw [nI_clamp (by omega)]) ?_
        refine lv_aload_n C.1 C.2.1 d_Lw_law_282 rfl (lv_at hl 0 rfl) ?_
        refine lv_iload_n C.1 C.2.1 d_Lw_law_283 rfl (lv_at hl 3 rfl) ?_
        refine lv_iconst (v := nI 4) C.1 C.2.1 d_Lw_law_284 rfl ?_
        refine lv_iadd C.1 C.2.1 d_Lw_law_285 ?_
        refine gm_eqi (nI_add _ _) ?_
        refine va_sld C.1 C.2.1 hX hbl hbA hh.2.1 (vp_in_nI (by omega) (by omega)) d_Lw_law_286 ?_
        refine gm_eqi (y := xs (i + 4)) (by rw [nI_clamp (by omega)]) ?_
        refine lv_aload_n C.1 C.2.1 d_Lw_law_287 rfl (lv_at hl 0 rfl) ?_
        refine lv_iload_n C.1 C.2.1 d_Lw_law_288 rfl (lv_at hl 3 rfl) ?_
        refine lv_iconst (v := nI 5) C.1 C.2.1 d_Lw_law_289 rfl ?_
        refine lv_iadd C.1 C.2.1 d_Lw_law_290 ?_
        refine gm_eqi (nI_add _ _) ?_
        refine va_sld C.1 C.2.1 hX hbl hbA hh.2.1 (vp_in_nI (by omega) (by omega)) d_Lw_law_291 ?_
        refine gm_eqi (y := xs (i + 5)) (by rw [nI_clamp (by omega)]) ?_
        refine lv_aload_n C.1 C.2.1 d_Lw_law_292 rfl (lv_at hl 0 rfl) ?_
        refine lv_iload_n C.1 C.2.1 d_Lw_law_293 rfl (lv_at hl 3 rfl) ?_
        refine lv_bipush (v := nI 6) C.1 C.2.1 d_Lw_law_294 rfl ?_
        refine lv_iadd C.1 C.2.1 d_Lw_law_296 ?_
        refine gm_eqi (nI_add _ _) ?_
        refine va_sld C.1 C.2.1 hX hbl hbA hh.2.1 (vp_in_nI (by omega) (by omega)) d_Lw_law_297 ?_
        refine gm_eqi (y := xs (i + 6)) (by rw [nI_clamp (by omega)]) ?_
        refine gc_i hh (gc_runV (As := [.int (xs (i + 1)), .int (xs (i + 2)), .int (xs (i + 3)), .int (xs (i + 4)), .int (xs (i + 5)), .int (xs (i + 6))]) (rest := []) (n := 6) C hml hh (c_FT_row l D cs sh sz I J B hF hS.2.1 n8 en8 hn8 (xs (i + 1)) (xs (i + 2)) (xs (i + 3)) (xs (i + 4)) (xs (i + 5)) (xs (i + 6))) (tg_V tw_294 tw_295 tw_296 tw_57 tw_297) (by decide +kernel) ⟨rfl, rfl, by decide, by decide, Nat.le_of_ble_eq_true rfl, Nat.le_of_ble_eq_true rfl⟩ hF.1 rfl rfl hl.1 rfl (Nat.le_of_ble_eq_true rfl) d_Lw_law_298) (fun r_35 I_36 J_37 H locs hr_35 hh => ?_)
        obtain ⟨hv_, hop_⟩ := op_row hS hn8 en8 hr_35
        refine lv_pop C.1 C.2.1 d_Lw_law_301 rfl ?_
        refine lv_aload_n C.1 C.2.1 d_Lw_law_302 rfl (lv_at hl 2 rfl) ?_
        refine lv_aload_n C.1 C.2.1 d_Lw_law_303 rfl (lv_at hl 0 rfl) ?_
        refine lv_iload_n C.1 C.2.1 d_Lw_law_304 rfl (lv_at hl 3 rfl) ?_
        refine lv_iconst (v := nI 1) C.1 C.2.1 d_Lw_law_305 rfl ?_
        refine lv_iadd C.1 C.2.1 d_Lw_law_306 ?_
        refine gm_eqi (nI_add _ _) ?_
        refine va_sld C.1 C.2.1 hX hbl hbA hh.2.1 (vp_in_nI (by omega) (by omega)) d_Lw_law_307 ?_
        refine gm_eqi (y := xs (i + 1)) (by rw [nI_clamp (by omega)]) ?_
        refine lv_aload_n C.1 C.2.1 d_Lw_law_308 rfl (lv_at hl 0 rfl) ?_
        refine lv_iload_n C.1 C.2.1 d_Lw_law_309 rfl (lv_at hl 3 rfl) ?_
        refine lv_iconst (v := nI 2) C.1 C.2.1 d_Lw_law_310 rfl ?_
        refine lv_iadd C.1 C.2.1 d_Lw_law_311 ?_
        refine gm_eqi (nI_add _ _) ?_
        refine va_sld C.1 C.2.1 hX hbl hbA hh.2.1 (vp_in_nI (by omega) (by omega)) d_Lw_law_312 ?_
        refine gm_eqi (y := xs (i + 2)) (by rw [nI_clamp (by omega)]) ?_
        refine lv_aload_n C.1 C.2.1 d_Lw_law_313 rfl (lv_at hl 0 rfl) ?_
        refine lv_iload_n C.1 C.2.1 d_Lw_law_314 rfl (lv_at hl 3 rfl) ?_
        refine lv_iconst (v := nI 3) C.1 C.2.1 d_Lw_law_315 rfl ?_
        refine lv_iadd C.1 C.2.1 d_Lw_law_316 ?_
        refine gm_eqi (nI_add _ _) ?_
        refine va_sld C.1 C.2.1 hX hbl hbA hh.2.1 (vp_in_nI (by omega) (by omega)) d_Lw_law_317 ?_
        refine gm_eqi (y := xs (i + 3)) (by rw [nI_clamp (by omega)]) ?_
        refine lv_aload_n C.1 C.2.1 d_Lw_law_318 rfl (lv_at hl 0 rfl) ?_
        refine lv_iload_n C.1 C.2.1 d_Lw_law_319 rfl (lv_at hl 3 rfl) ?_
        refine lv_iconst (v := nI 4) C.1 C.2.1 d_Lw_law_320 rfl ?_
        refine lv_iadd C.1 C.2.1 d_Lw_law_321 ?_
        refine gm_eqi (nI_add _ _) ?_
        refine va_sld C.1 C.2.1 hX hbl hbA hh.2.1 (vp_in_nI (by omega) (by omega)) d_Lw_law_322 ?_
        refine gm_eqi (y := xs (i + 4)) (by rw [nI_clamp (by omega)]) ?_
        refine lv_aload_n C.1 C.2.1 d_Lw_law_323 rfl (lv_at hl 0 rfl) ?_
        refine lv_iload_n C.1 C.2.1 d_Lw_law_324 rfl (lv_at hl 3 rfl) ?_
        refine lv_iconst (v := nI 5) C.1 C.2.1 d_Lw_law_325 rfl ?_
        refine lv_iadd C.1 C.2.1 d_Lw_law_326 ?_
        refine gm_eqi (nI_add _ _) ?_
        refine va_sld C.1 C.2.1 hX hbl hbA hh.2.1 (vp_in_nI (by omega) (by omega)) d_Lw_law_327 ?_
        refine gm_eqi (y := xs (i + 5)) (by rw [nI_clamp (by omega)]) ?_
        refine lv_aload_n C.1 C.2.1 d_Lw_law_328 rfl (lv_at hl 0 rfl) ?_
        refine lv_iload_n C.1 C.2.1 d_Lw_law_329 rfl (lv_at hl 3 rfl) ?_
        refine lv_bipush (v := nI 6) C.1 C.2.1 d_Lw_law_330 rfl ?_
        refine lv_iadd C.1 C.2.1 d_Lw_law_332 ?_
        refine gm_eqi (nI_add _ _) ?_
        refine va_sld C.1 C.2.1 hX hbl hbA hh.2.1 (vp_in_nI (by omega) (by omega)) d_Lw_law_333 ?_
        refine gm_eqi (y := xs (i + 6)) (by rw [nI_clamp (by omega)]) ?_
        refine gc_i hh (gc_runV (As := [.int (xs (i + 1)), .int (xs (i + 2)), .int (xs (i + 3)), .int (xs (i + 4)), .int (xs (i + 5)), .int (xs (i + 6))]) (rest := []) (n := 6) C hml hh (c_Md_row l D cs sh sz I_36 J_37 r hM hv_ (xs (i + 1)) (xs (i + 2)) (xs (i + 3)) (xs (i + 4)) (xs (i + 5)) (xs (i + 6))) (tg_V tw_714 tw_715 tw_716 tw_64 tw_717) (by decide +kernel) ⟨rfl, rfl, by decide, by decide, Nat.le_of_ble_eq_true rfl, Nat.le_of_ble_eq_true rfl⟩ (Md_0 hM) rfl rfl hl.1 rfl (Nat.le_of_ble_eq_true rfl) d_Lw_law_334) (fun r_38 I_39 J_40 H locs hr_38 hh => ?_)
        obtain ⟨hS_41, xz_⟩ := hop_ _ _ _ hr_38
        have hJ_42 := sj_row hS hJ hn8 hr_35 hr_38
        refine lv_pop C.1 C.2.1 d_Lw_law_337 rfl ?_
        refine lv_goto (tgt := 1010) C.1 C.2.1 d_Lw_law_338 (by decide) ?_
        refine lv_iinc (v := nI (i + 7)) (lv' := [(3, .int (nI (i + 7))), (0, .ref b), (1, .ref B), (2, .ref r)]) C.1 C.2.1 d_Lw_law_1010 hl (k := 3) rfl (gm_inc i 7) (by decide) rfl (fun ls hl => ?_)
        refine lv_goto (tgt := 18) C.1 C.2.1 d_Lw_law_1013 (by decide) ?_
        exact ih (i + 7) I_39 J_40 (by omega) hS_41 hJ_42 (by omega) _ _ _ hh (lv_sub hl [1, 2, 3, 0] rfl)
      by_cases co_5 : x_2 = nI 5
      · -- 5
        refine lv_tableIn (tgt := 341) (off := 308) C.1 C.2.1 d_Lw_law_33 (by rw [co_5]; decide) (by rw [co_5]; decide) (by rw [co_5]; decide +kernel) (by decide) ?_
        refine lv_aload_n C.1 C.2.1 d_Lw_law_341 rfl (lv_at hl 1 rfl) ?_
        refine lv_aload_n C.1 C.2.1 d_Lw_law_342 rfl (lv_at hl 0 rfl) ?_
        refine lv_iload_n C.1 C.2.1 d_Lw_law_343 rfl (lv_at hl 3 rfl) ?_
        refine lv_iconst (v := nI 1) C.1 C.2.1 d_Lw_law_344 rfl ?_
        refine lv_iadd C.1 C.2.1 d_Lw_law_345 ?_
        refine gm_eqi (nI_add _ _) ?_
        refine va_sld C.1 C.2.1 hX hbl hbA hh.2.1 (vp_in_nI (by omega) (by omega)) d_Lw_law_346 ?_
        refine gm_eqi (y := xs (i + 1)) (by rw [nI_clamp (by omega)]) ?_
        refine lv_aload_n C.1 C.2.1 d_Lw_law_347 rfl (lv_at hl 0 rfl) ?_
        refine lv_iload_n C.1 C.2.1 d_Lw_law_348 rfl (lv_at hl 3 rfl) ?_
        refine lv_iconst (v := nI 2) C.1 C.2.1 d_Lw_law_349 rfl ?_
        refine lv_iadd C.1 C.2.1 d_Lw_law_350 ?_
        refine gm_eqi (nI_add _ _) ?_
        refine va_sld C.1 C.2.1 hX hbl hbA hh.2.1 (vp_in_nI (by omega) (by omega)) d_Lw_law_351 ?_
        refine gm_eqi (y := xs (i + 2)) (by rw [nI_clamp (by omega)]) ?_
        refine lv_aload_n C.1 C.2.1 d_Lw_law_352 rfl (lv_at hl 0 rfl) ?_
        refine lv_iload_n C.1 C.2.1 d_Lw_law_353 rfl (lv_at hl 3 rfl) ?_
        refine lv_iconst (v := nI 3) C.1 C.2.1 d_Lw_law_354 rfl ?_
        refine lv_iadd C.1 C.2.1 d_Lw_law_355 ?_
        refine gm_eqi (nI_add _ _) ?_
        refine va_sld C.1 C.2.1 hX hbl hbA hh.2.1 (vp_in_nI (by omega) (by omega)) d_Lw_law_356 ?_
        refine gm_eqi (y := xs (i + 3)) (by rw [nI_clamp (by omega)]) ?_
        refine lv_aload_n C.1 C.2.1 d_Lw_law_357 rfl (lv_at hl 0 rfl) ?_
        refine lv_iload_n C.1 C.2.1 d_Lw_law_358 rfl (lv_at hl 3 rfl) ?_
        refine lv_iconst (v := nI 4) C.1 C.2.1 d_Lw_law_359 rfl ?_
        refine lv_iadd C.1 C.2.1 d_Lw_law_360 ?_
        refine gm_eqi (nI_add _ _) ?_
        refine va_sld C.1 C.2.1 hX hbl hbA hh.2.1 (vp_in_nI (by omega) (by omega)) d_Lw_law_361 ?_
        refine gm_eqi (y := xs (i + 4)) (by rw [nI_clamp (by omega)]) ?_
        refine lv_aload_n C.1 C.2.1 d_Lw_law_362 rfl (lv_at hl 0 rfl) ?_
        refine lv_iload_n C.1 C.2.1 d_Lw_law_363 rfl (lv_at hl 3 rfl) ?_
        refine lv_iconst (v := nI 5) C.1 C.2.1 d_Lw_law_364 rfl ?_
        refine lv_iadd C.1 C.2.1 d_Lw_law_365 ?_
        refine gm_eqi (nI_add _ _) ?_
        refine va_sld C.1 C.2.1 hX hbl hbA hh.2.1 (vp_in_nI (by omega) (by omega)) d_Lw_law_366 ?_
        refine gm_eqi (y := xs (i + 5)) (by rw [nI_clamp (by omega)]) ?_
        refine gc_i hh (gc_runV (As := [.int (xs (i + 1)), .int (xs (i + 2)), .int (xs (i + 3)), .int (xs (i + 4)), .int (xs (i + 5))]) (rest := []) (n := 5) C hml hh (c_FT_factor l D cs sh sz I J B hF hS.2.1 n8 en8 hn8 (xs (i + 1)) (xs (i + 2)) (xs (i + 3)) (xs (i + 4)) (xs (i + 5))) (tg_V tw_302 tw_303 tw_304 tw_57 tw_305) (by decide +kernel) ⟨rfl, rfl, by decide, by decide, Nat.le_of_ble_eq_true rfl, Nat.le_of_ble_eq_true rfl⟩ hF.1 rfl rfl hl.1 rfl (Nat.le_of_ble_eq_true rfl) d_Lw_law_367) (fun r_43 I_44 J_45 H locs hr_43 hh => ?_)
        obtain ⟨hv_, hop_⟩ := op_factor hS hn8 en8 hr_43
        refine lv_pop C.1 C.2.1 d_Lw_law_370 rfl ?_
        refine lv_aload_n C.1 C.2.1 d_Lw_law_371 rfl (lv_at hl 2 rfl) ?_
        refine lv_aload_n C.1 C.2.1 d_Lw_law_372 rfl (lv_at hl 0 rfl) ?_
        refine lv_iload_n C.1 C.2.1 d_Lw_law_373 rfl (lv_at hl 3 rfl) ?_
        refine lv_iconst (v := nI 1) C.1 C.2.1 d_Lw_law_374 rfl ?_
        refine lv_iadd C.1 C.2.1 d_Lw_law_375 ?_
        refine gm_eqi (nI_add _ _) ?_
        refine va_sld C.1 C.2.1 hX hbl hbA hh.2.1 (vp_in_nI (by omega) (by omega)) d_Lw_law_376 ?_
        refine gm_eqi (y := xs (i + 1)) (by rw [nI_clamp (by omega)]) ?_
        refine lv_aload_n C.1 C.2.1 d_Lw_law_377 rfl (lv_at hl 0 rfl) ?_
        refine lv_iload_n C.1 C.2.1 d_Lw_law_378 rfl (lv_at hl 3 rfl) ?_
        refine lv_iconst (v := nI 2) C.1 C.2.1 d_Lw_law_379 rfl ?_
        refine lv_iadd C.1 C.2.1 d_Lw_law_380 ?_
        refine gm_eqi (nI_add _ _) ?_
        refine va_sld C.1 C.2.1 hX hbl hbA hh.2.1 (vp_in_nI (by omega) (by omega)) d_Lw_law_381 ?_
        refine gm_eqi (y := xs (i + 2)) (by rw [nI_clamp (by omega)]) ?_
        refine lv_aload_n C.1 C.2.1 d_Lw_law_382 rfl (lv_at hl 0 rfl) ?_
        refine lv_iload_n C.1 C.2.1 d_Lw_law_383 rfl (lv_at hl 3 rfl) ?_
        refine lv_iconst (v := nI 3) C.1 C.2.1 d_Lw_law_384 rfl ?_
        refine lv_iadd C.1 C.2.1 d_Lw_law_385 ?_
        refine gm_eqi (nI_add _ _) ?_
        refine va_sld C.1 C.2.1 hX hbl hbA hh.2.1 (vp_in_nI (by omega) (by omega)) d_Lw_law_386 ?_
        refine gm_eqi (y := xs (i + 3)) (by rw [nI_clamp (by omega)]) ?_
        refine lv_aload_n C.1 C.2.1 d_Lw_law_387 rfl (lv_at hl 0 rfl) ?_
        refine lv_iload_n C.1 C.2.1 d_Lw_law_388 rfl (lv_at hl 3 rfl) ?_
        refine lv_iconst (v := nI 4) C.1 C.2.1 d_Lw_law_389 rfl ?_
        refine lv_iadd C.1 C.2.1 d_Lw_law_390 ?_
        refine gm_eqi (nI_add _ _) ?_
        refine va_sld C.1 C.2.1 hX hbl hbA hh.2.1 (vp_in_nI (by omega) (by omega)) d_Lw_law_391 ?_
        refine gm_eqi (y := xs (i + 4)) (by rw [nI_clamp (by omega)]) ?_
        refine lv_aload_n C.1 C.2.1 d_Lw_law_392 rfl (lv_at hl 0 rfl) ?_
        refine lv_iload_n C.1 C.2.1 d_Lw_law_393 rfl (lv_at hl 3 rfl) ?_
        refine lv_iconst (v := nI 5) C.1 C.2.1 d_Lw_law_394 rfl ?_
        refine lv_iadd C.1 C.2.1 d_Lw_law_395 ?_
        refine gm_eqi (nI_add _ _) ?_
        refine va_sld C.1 C.2.1 hX hbl hbA hh.2.1 (vp_in_nI (by omega) (by omega)) d_Lw_law_396 ?_
        refine gm_eqi (y := xs (i + 5)) (by rw [nI_clamp (by omega)]) ?_
        refine gc_i hh (gc_runV (As := [.int (xs (i + 1)), .int (xs (i + 2)), .int (xs (i + 3)), .int (xs (i + 4)), .int (xs (i + 5))]) (rest := []) (n := 5) C hml hh (c_Md_factor l D cs sh sz I_44 J_45 r hM hv_ (xs (i + 1)) (xs (i + 2)) (xs (i + 3)) (xs (i + 4)) (xs (i + 5))) (tg_V tw_722 tw_723 tw_724 tw_64 tw_725) (by decide +kernel) ⟨rfl, rfl, by decide, by decide, Nat.le_of_ble_eq_true rfl, Nat.le_of_ble_eq_true rfl⟩ (Md_0 hM) rfl rfl hl.1 rfl (Nat.le_of_ble_eq_true rfl) d_Lw_law_397) (fun r_46 I_47 J_48 H locs hr_46 hh => ?_)
        obtain ⟨hS_49, xz_⟩ := hop_ _ _ _ hr_46
        have hJ_50 := sj_factor hS hJ hn8 en8 hr_43 hr_46
        refine lv_pop C.1 C.2.1 d_Lw_law_400 rfl ?_
        refine lv_goto (tgt := 1010) C.1 C.2.1 d_Lw_law_401 (by decide) ?_
        refine lv_iinc (v := nI (i + 7)) (lv' := [(3, .int (nI (i + 7))), (0, .ref b), (1, .ref B), (2, .ref r)]) C.1 C.2.1 d_Lw_law_1010 hl (k := 3) rfl (gm_inc i 7) (by decide) rfl (fun ls hl => ?_)
        refine lv_goto (tgt := 18) C.1 C.2.1 d_Lw_law_1013 (by decide) ?_
        exact ih (i + 7) I_47 J_48 (by omega) hS_49 hJ_50 (by omega) _ _ _ hh (lv_sub hl [1, 2, 3, 0] rfl)
      by_cases co_6 : x_2 = nI 6
      · -- 6
        refine lv_tableIn (tgt := 404) (off := 371) C.1 C.2.1 d_Lw_law_33 (by rw [co_6]; decide) (by rw [co_6]; decide) (by rw [co_6]; decide +kernel) (by decide) ?_
        refine lv_aload_n C.1 C.2.1 d_Lw_law_404 rfl (lv_at hl 1 rfl) ?_
        refine lv_aload_n C.1 C.2.1 d_Lw_law_405 rfl (lv_at hl 0 rfl) ?_
        refine lv_iload_n C.1 C.2.1 d_Lw_law_406 rfl (lv_at hl 3 rfl) ?_
        refine lv_iconst (v := nI 1) C.1 C.2.1 d_Lw_law_407 rfl ?_
        refine lv_iadd C.1 C.2.1 d_Lw_law_408 ?_
        refine gm_eqi (nI_add _ _) ?_
        refine va_sld C.1 C.2.1 hX hbl hbA hh.2.1 (vp_in_nI (by omega) (by omega)) d_Lw_law_409 ?_
        refine gm_eqi (y := xs (i + 1)) (by rw [nI_clamp (by omega)]) ?_
        refine lv_aload_n C.1 C.2.1 d_Lw_law_410 rfl (lv_at hl 0 rfl) ?_
        refine lv_iload_n C.1 C.2.1 d_Lw_law_411 rfl (lv_at hl 3 rfl) ?_
        refine lv_iconst (v := nI 2) C.1 C.2.1 d_Lw_law_412 rfl ?_
        refine lv_iadd C.1 C.2.1 d_Lw_law_413 ?_
        refine gm_eqi (nI_add _ _) ?_
        refine va_sld C.1 C.2.1 hX hbl hbA hh.2.1 (vp_in_nI (by omega) (by omega)) d_Lw_law_414 ?_
        refine gm_eqi (y := xs (i + 2)) (by rw [nI_clamp (by omega)]) ?_
        refine lv_aload_n C.1 C.2.1 d_Lw_law_415 rfl (lv_at hl 0 rfl) ?_
        refine lv_iload_n C.1 C.2.1 d_Lw_law_416 rfl (lv_at hl 3 rfl) ?_
        refine lv_iconst (v := nI 3) C.1 C.2.1 d_Lw_law_417 rfl ?_
        refine lv_iadd C.1 C.2.1 d_Lw_law_418 ?_
        refine gm_eqi (nI_add _ _) ?_
        refine va_sld C.1 C.2.1 hX hbl hbA hh.2.1 (vp_in_nI (by omega) (by omega)) d_Lw_law_419 ?_
        refine gm_eqi (y := xs (i + 3)) (by rw [nI_clamp (by omega)]) ?_
        refine lv_aload_n C.1 C.2.1 d_Lw_law_420 rfl (lv_at hl 0 rfl) ?_
        refine lv_iload_n C.1 C.2.1 d_Lw_law_421 rfl (lv_at hl 3 rfl) ?_
        refine lv_iconst (v := nI 4) C.1 C.2.1 d_Lw_law_422 rfl ?_
        refine lv_iadd C.1 C.2.1 d_Lw_law_423 ?_
        refine gm_eqi (nI_add _ _) ?_
        refine va_sld C.1 C.2.1 hX hbl hbA hh.2.1 (vp_in_nI (by omega) (by omega)) d_Lw_law_424 ?_
        refine gm_eqi (y := xs (i + 4)) (by rw [nI_clamp (by omega)]) ?_
        refine gc_i hh (gc_runV (As := [.int (xs (i + 1)), .int (xs (i + 2)), .int (xs (i + 3)), .int (xs (i + 4))]) (rest := []) (n := 4) C hml hh (c_FT_constant l D cs sh sz I J B hF hS.2.1 n8 en8 hn8 (xs (i + 1)) (xs (i + 2)) (xs (i + 3)) (xs (i + 4))) (tg_V tw_310 tw_311 tw_312 tw_57 tw_313) (by decide +kernel) ⟨rfl, rfl, by decide, by decide, Nat.le_of_ble_eq_true rfl, Nat.le_of_ble_eq_true rfl⟩ hF.1 rfl rfl hl.1 rfl (Nat.le_of_ble_eq_true rfl) d_Lw_law_425) (fun r_51 I_52 J_53 H locs hr_51 hh => ?_)
        obtain ⟨hv_, hop_⟩ := op_constant hS hn8 en8 hr_51
        refine lv_pop C.1 C.2.1 d_Lw_law_428 rfl ?_
        refine lv_aload_n C.1 C.2.1 d_Lw_law_429 rfl (lv_at hl 2 rfl) ?_
        refine lv_aload_n C.1 C.2.1 d_Lw_law_430 rfl (lv_at hl 0 rfl) ?_
        refine lv_iload_n C.1 C.2.1 d_Lw_law_431 rfl (lv_at hl 3 rfl) ?_
        refine lv_iconst (v := nI 1) C.1 C.2.1 d_Lw_law_432 rfl ?_
        refine lv_iadd C.1 C.2.1 d_Lw_law_433 ?_
        refine gm_eqi (nI_add _ _) ?_
        refine va_sld C.1 C.2.1 hX hbl hbA hh.2.1 (vp_in_nI (by omega) (by omega)) d_Lw_law_434 ?_
        refine gm_eqi (y := xs (i + 1)) (by rw [nI_clamp (by omega)]) ?_
        refine lv_aload_n C.1 C.2.1 d_Lw_law_435 rfl (lv_at hl 0 rfl) ?_
        refine lv_iload_n C.1 C.2.1 d_Lw_law_436 rfl (lv_at hl 3 rfl) ?_
        refine lv_iconst (v := nI 2) C.1 C.2.1 d_Lw_law_437 rfl ?_
        refine lv_iadd C.1 C.2.1 d_Lw_law_438 ?_
        refine gm_eqi (nI_add _ _) ?_
        refine va_sld C.1 C.2.1 hX hbl hbA hh.2.1 (vp_in_nI (by omega) (by omega)) d_Lw_law_439 ?_
        refine gm_eqi (y := xs (i + 2)) (by rw [nI_clamp (by omega)]) ?_
        refine lv_aload_n C.1 C.2.1 d_Lw_law_440 rfl (lv_at hl 0 rfl) ?_
        refine lv_iload_n C.1 C.2.1 d_Lw_law_441 rfl (lv_at hl 3 rfl) ?_
        refine lv_iconst (v := nI 3) C.1 C.2.1 d_Lw_law_442 rfl ?_
        refine lv_iadd C.1 C.2.1 d_Lw_law_443 ?_
        refine gm_eqi (nI_add _ _) ?_
        refine va_sld C.1 C.2.1 hX hbl hbA hh.2.1 (vp_in_nI (by omega) (by omega)) d_Lw_law_444 ?_
        refine gm_eqi (y := xs (i + 3)) (by rw [nI_clamp (by omega)]) ?_
        refine lv_aload_n C.1 C.2.1 d_Lw_law_445 rfl (lv_at hl 0 rfl) ?_
        refine lv_iload_n C.1 C.2.1 d_Lw_law_446 rfl (lv_at hl 3 rfl) ?_
        refine lv_iconst (v := nI 4) C.1 C.2.1 d_Lw_law_447 rfl ?_
        refine lv_iadd C.1 C.2.1 d_Lw_law_448 ?_
        refine gm_eqi (nI_add _ _) ?_
        refine va_sld C.1 C.2.1 hX hbl hbA hh.2.1 (vp_in_nI (by omega) (by omega)) d_Lw_law_449 ?_
        refine gm_eqi (y := xs (i + 4)) (by rw [nI_clamp (by omega)]) ?_
        refine gc_i hh (gc_runV (As := [.int (xs (i + 1)), .int (xs (i + 2)), .int (xs (i + 3)), .int (xs (i + 4))]) (rest := []) (n := 4) C hml hh (c_Md_constant l D cs sh sz I_52 J_53 r hM hv_ (xs (i + 1)) (xs (i + 2)) (xs (i + 3)) (xs (i + 4))) (tg_V tw_730 tw_731 tw_732 tw_64 tw_733) (by decide +kernel) ⟨rfl, rfl, by decide, by decide, Nat.le_of_ble_eq_true rfl, Nat.le_of_ble_eq_true rfl⟩ (Md_0 hM) rfl rfl hl.1 rfl (Nat.le_of_ble_eq_true rfl) d_Lw_law_450) (fun r_54 I_55 J_56 H locs hr_54 hh => ?_)
        obtain ⟨hS_57, xz_⟩ := hop_ _ _ _ hr_54
        have hJ_58 := sj_constant hS hJ hn8 en8 hr_51 hr_54
        refine lv_pop C.1 C.2.1 d_Lw_law_453 rfl ?_
        refine lv_goto (tgt := 1010) C.1 C.2.1 d_Lw_law_454 (by decide) ?_
        refine lv_iinc (v := nI (i + 7)) (lv' := [(3, .int (nI (i + 7))), (0, .ref b), (1, .ref B), (2, .ref r)]) C.1 C.2.1 d_Lw_law_1010 hl (k := 3) rfl (gm_inc i 7) (by decide) rfl (fun ls hl => ?_)
        refine lv_goto (tgt := 18) C.1 C.2.1 d_Lw_law_1013 (by decide) ?_
        exact ih (i + 7) I_55 J_56 (by omega) hS_57 hJ_58 (by omega) _ _ _ hh (lv_sub hl [1, 2, 3, 0] rfl)
      by_cases co_7 : x_2 = nI 7
      · -- 7
        refine lv_tableIn (tgt := 457) (off := 424) C.1 C.2.1 d_Lw_law_33 (by rw [co_7]; decide) (by rw [co_7]; decide) (by rw [co_7]; decide +kernel) (by decide) ?_
        refine lv_aload_n C.1 C.2.1 d_Lw_law_457 rfl (lv_at hl 1 rfl) ?_
        refine lv_aload_n C.1 C.2.1 d_Lw_law_458 rfl (lv_at hl 0 rfl) ?_
        refine lv_iload_n C.1 C.2.1 d_Lw_law_459 rfl (lv_at hl 3 rfl) ?_
        refine lv_iconst (v := nI 1) C.1 C.2.1 d_Lw_law_460 rfl ?_
        refine lv_iadd C.1 C.2.1 d_Lw_law_461 ?_
        refine gm_eqi (nI_add _ _) ?_
        refine va_sld C.1 C.2.1 hX hbl hbA hh.2.1 (vp_in_nI (by omega) (by omega)) d_Lw_law_462 ?_
        refine gm_eqi (y := xs (i + 1)) (by rw [nI_clamp (by omega)]) ?_
        refine lv_aload_n C.1 C.2.1 d_Lw_law_463 rfl (lv_at hl 0 rfl) ?_
        refine lv_iload_n C.1 C.2.1 d_Lw_law_464 rfl (lv_at hl 3 rfl) ?_
        refine lv_iconst (v := nI 2) C.1 C.2.1 d_Lw_law_465 rfl ?_
        refine lv_iadd C.1 C.2.1 d_Lw_law_466 ?_
        refine gm_eqi (nI_add _ _) ?_
        refine va_sld C.1 C.2.1 hX hbl hbA hh.2.1 (vp_in_nI (by omega) (by omega)) d_Lw_law_467 ?_
        refine gm_eqi (y := xs (i + 2)) (by rw [nI_clamp (by omega)]) ?_
        refine gc_i hh (gc_runV (As := [.int (xs (i + 1)), .int (xs (i + 2))]) (rest := []) (n := 2) C hml hh (c_FT_told l D cs sh sz I J B hF hS.2.1 n8 en8 hn8 (xs (i + 1)) (xs (i + 2))) (tg_V tw_314 tw_315 tw_316 tw_57 tw_317) (by decide +kernel) ⟨rfl, rfl, by decide, by decide, Nat.le_of_ble_eq_true rfl, Nat.le_of_ble_eq_true rfl⟩ hF.1 rfl rfl hl.1 rfl (Nat.le_of_ble_eq_true rfl) d_Lw_law_468) (fun r_59 I_60 J_61 H locs hr_59 hh => ?_)
        obtain ⟨hv_, hop_⟩ := op_told hS hn8 en8 hr_59
        refine lv_pop C.1 C.2.1 d_Lw_law_471 rfl ?_
        refine lv_aload_n C.1 C.2.1 d_Lw_law_472 rfl (lv_at hl 2 rfl) ?_
        refine lv_aload_n C.1 C.2.1 d_Lw_law_473 rfl (lv_at hl 0 rfl) ?_
        refine lv_iload_n C.1 C.2.1 d_Lw_law_474 rfl (lv_at hl 3 rfl) ?_
        refine lv_iconst (v := nI 1) C.1 C.2.1 d_Lw_law_475 rfl ?_
        refine lv_iadd C.1 C.2.1 d_Lw_law_476 ?_
        refine gm_eqi (nI_add _ _) ?_
        refine va_sld C.1 C.2.1 hX hbl hbA hh.2.1 (vp_in_nI (by omega) (by omega)) d_Lw_law_477 ?_
        refine gm_eqi (y := xs (i + 1)) (by rw [nI_clamp (by omega)]) ?_
        refine lv_aload_n C.1 C.2.1 d_Lw_law_478 rfl (lv_at hl 0 rfl) ?_
        refine lv_iload_n C.1 C.2.1 d_Lw_law_479 rfl (lv_at hl 3 rfl) ?_
        refine lv_iconst (v := nI 2) C.1 C.2.1 d_Lw_law_480 rfl ?_
        refine lv_iadd C.1 C.2.1 d_Lw_law_481 ?_
        refine gm_eqi (nI_add _ _) ?_
        refine va_sld C.1 C.2.1 hX hbl hbA hh.2.1 (vp_in_nI (by omega) (by omega)) d_Lw_law_482 ?_
        refine gm_eqi (y := xs (i + 2)) (by rw [nI_clamp (by omega)]) ?_
        refine gc_i hh (gc_runV (As := [.int (xs (i + 1)), .int (xs (i + 2))]) (rest := []) (n := 2) C hml hh (c_Md_told l D cs sh sz I_60 J_61 r hM hv_ (xs (i + 1)) (xs (i + 2))) (tg_V tw_734 tw_735 tw_736 tw_64 tw_737) (by decide +kernel) ⟨rfl, rfl, by decide, by decide, Nat.le_of_ble_eq_true rfl, Nat.le_of_ble_eq_true rfl⟩ (Md_0 hM) rfl rfl hl.1 rfl (Nat.le_of_ble_eq_true rfl) d_Lw_law_483) (fun r_62 I_63 J_64 H locs hr_62 hh => ?_)
        obtain ⟨hS_65, xz_⟩ := hop_ _ _ _ hr_62
        have hJ_66 := (hJ.eq hr_59.1).eq hr_62.1
        refine lv_pop C.1 C.2.1 d_Lw_law_486 rfl ?_
        refine lv_goto (tgt := 1010) C.1 C.2.1 d_Lw_law_487 (by decide) ?_
        refine lv_iinc (v := nI (i + 7)) (lv' := [(3, .int (nI (i + 7))), (0, .ref b), (1, .ref B), (2, .ref r)]) C.1 C.2.1 d_Lw_law_1010 hl (k := 3) rfl (gm_inc i 7) (by decide) rfl (fun ls hl => ?_)
        refine lv_goto (tgt := 18) C.1 C.2.1 d_Lw_law_1013 (by decide) ?_
        exact ih (i + 7) I_63 J_64 (by omega) hS_65 hJ_66 (by omega) _ _ _ hh (lv_sub hl [1, 2, 3, 0] rfl)
      by_cases co_8 : x_2 = nI 8
      · -- 8
        refine lv_tableIn (tgt := 490) (off := 457) C.1 C.2.1 d_Lw_law_33 (by rw [co_8]; decide) (by rw [co_8]; decide) (by rw [co_8]; decide +kernel) (by decide) ?_
        refine lv_aload_n C.1 C.2.1 d_Lw_law_490 rfl (lv_at hl 1 rfl) ?_
        refine lv_aload_n C.1 C.2.1 d_Lw_law_491 rfl (lv_at hl 0 rfl) ?_
        refine lv_iload_n C.1 C.2.1 d_Lw_law_492 rfl (lv_at hl 3 rfl) ?_
        refine lv_iconst (v := nI 1) C.1 C.2.1 d_Lw_law_493 rfl ?_
        refine lv_iadd C.1 C.2.1 d_Lw_law_494 ?_
        refine gm_eqi (nI_add _ _) ?_
        refine va_sld C.1 C.2.1 hX hbl hbA hh.2.1 (vp_in_nI (by omega) (by omega)) d_Lw_law_495 ?_
        refine gm_eqi (y := xs (i + 1)) (by rw [nI_clamp (by omega)]) ?_
        refine lv_aload_n C.1 C.2.1 d_Lw_law_496 rfl (lv_at hl 0 rfl) ?_
        refine lv_iload_n C.1 C.2.1 d_Lw_law_497 rfl (lv_at hl 3 rfl) ?_
        refine lv_iconst (v := nI 2) C.1 C.2.1 d_Lw_law_498 rfl ?_
        refine lv_iadd C.1 C.2.1 d_Lw_law_499 ?_
        refine gm_eqi (nI_add _ _) ?_
        refine va_sld C.1 C.2.1 hX hbl hbA hh.2.1 (vp_in_nI (by omega) (by omega)) d_Lw_law_500 ?_
        refine gm_eqi (y := xs (i + 2)) (by rw [nI_clamp (by omega)]) ?_
        refine gc_i hh (gc_runV (As := [.int (xs (i + 1)), .int (xs (i + 2))]) (rest := []) (n := 2) C hml hh (c_FT_empty l D cs sh sz I J B hF hS.2.1 (xs (i + 1)) (xs (i + 2))) (tg_V tw_318 tw_319 tw_320 tw_57 tw_321) (by decide +kernel) ⟨rfl, rfl, by decide, by decide, Nat.le_of_ble_eq_true rfl, Nat.le_of_ble_eq_true rfl⟩ hF.1 rfl rfl hl.1 rfl (Nat.le_of_ble_eq_true rfl) d_Lw_law_501) (fun r_67 I_68 J_69 H locs hr_67 hh => ?_)
        have hS1_ := hS.cls hr_67
        refine lv_pop C.1 C.2.1 d_Lw_law_504 rfl ?_
        refine lv_aload_n C.1 C.2.1 d_Lw_law_505 rfl (lv_at hl 2 rfl) ?_
        refine lv_aload_n C.1 C.2.1 d_Lw_law_506 rfl (lv_at hl 0 rfl) ?_
        refine lv_iload_n C.1 C.2.1 d_Lw_law_507 rfl (lv_at hl 3 rfl) ?_
        refine lv_iconst (v := nI 1) C.1 C.2.1 d_Lw_law_508 rfl ?_
        refine lv_iadd C.1 C.2.1 d_Lw_law_509 ?_
        refine gm_eqi (nI_add _ _) ?_
        refine va_sld C.1 C.2.1 hX hbl hbA hh.2.1 (vp_in_nI (by omega) (by omega)) d_Lw_law_510 ?_
        refine gm_eqi (y := xs (i + 1)) (by rw [nI_clamp (by omega)]) ?_
        refine lv_aload_n C.1 C.2.1 d_Lw_law_511 rfl (lv_at hl 0 rfl) ?_
        refine lv_iload_n C.1 C.2.1 d_Lw_law_512 rfl (lv_at hl 3 rfl) ?_
        refine lv_iconst (v := nI 2) C.1 C.2.1 d_Lw_law_513 rfl ?_
        refine lv_iadd C.1 C.2.1 d_Lw_law_514 ?_
        refine gm_eqi (nI_add _ _) ?_
        refine va_sld C.1 C.2.1 hX hbl hbA hh.2.1 (vp_in_nI (by omega) (by omega)) d_Lw_law_515 ?_
        refine gm_eqi (y := xs (i + 2)) (by rw [nI_clamp (by omega)]) ?_
        refine gc_i hh (gc_runV (As := [.int (xs (i + 1)), .int (xs (i + 2))]) (rest := []) (n := 2) C hml hh (c_Md_empty l D cs sh sz I_68 J_69 r hM hS1_.2.2.1 hS1_.2.2.2.1 (xs (i + 1)) (xs (i + 2))) (tg_V tw_738 tw_739 tw_740 tw_64 tw_741) (by decide +kernel) ⟨rfl, rfl, by decide, by decide, Nat.le_of_ble_eq_true rfl, Nat.le_of_ble_eq_true rfl⟩ (Md_0 hM) rfl rfl hl.1 rfl (Nat.le_of_ble_eq_true rfl) d_Lw_law_516) (fun r_70 I_71 J_72 H locs hr_70 hh => ?_)
        have hS_73 := hS1_.refS hr_70.2
        have hJ_74 := (hJ.cls hS.1 hr_67).refS hS.1 hr_70.2
        refine lv_pop C.1 C.2.1 d_Lw_law_519 rfl ?_
        refine lv_goto (tgt := 1010) C.1 C.2.1 d_Lw_law_520 (by decide) ?_
        refine lv_iinc (v := nI (i + 7)) (lv' := [(3, .int (nI (i + 7))), (0, .ref b), (1, .ref B), (2, .ref r)]) C.1 C.2.1 d_Lw_law_1010 hl (k := 3) rfl (gm_inc i 7) (by decide) rfl (fun ls hl => ?_)
        refine lv_goto (tgt := 18) C.1 C.2.1 d_Lw_law_1013 (by decide) ?_
        exact ih (i + 7) I_71 J_72 (by omega) hS_73 hJ_74 (by omega) _ _ _ hh (lv_sub hl [1, 2, 3, 0] rfl)
      by_cases co_9 : x_2 = nI 9
      · -- 9
        refine lv_tableIn (tgt := 523) (off := 490) C.1 C.2.1 d_Lw_law_33 (by rw [co_9]; decide) (by rw [co_9]; decide) (by rw [co_9]; decide +kernel) (by decide) ?_
        refine lv_aload_n C.1 C.2.1 d_Lw_law_523 rfl (lv_at hl 1 rfl) ?_
        refine lv_aload_n C.1 C.2.1 d_Lw_law_524 rfl (lv_at hl 0 rfl) ?_
        refine lv_iload_n C.1 C.2.1 d_Lw_law_525 rfl (lv_at hl 3 rfl) ?_
        refine lv_iconst (v := nI 1) C.1 C.2.1 d_Lw_law_526 rfl ?_
        refine lv_iadd C.1 C.2.1 d_Lw_law_527 ?_
        refine gm_eqi (nI_add _ _) ?_
        refine va_sld C.1 C.2.1 hX hbl hbA hh.2.1 (vp_in_nI (by omega) (by omega)) d_Lw_law_528 ?_
        refine gm_eqi (y := xs (i + 1)) (by rw [nI_clamp (by omega)]) ?_
        refine lv_aload_n C.1 C.2.1 d_Lw_law_529 rfl (lv_at hl 0 rfl) ?_
        refine lv_iload_n C.1 C.2.1 d_Lw_law_530 rfl (lv_at hl 3 rfl) ?_
        refine lv_iconst (v := nI 2) C.1 C.2.1 d_Lw_law_531 rfl ?_
        refine lv_iadd C.1 C.2.1 d_Lw_law_532 ?_
        refine gm_eqi (nI_add _ _) ?_
        refine va_sld C.1 C.2.1 hX hbl hbA hh.2.1 (vp_in_nI (by omega) (by omega)) d_Lw_law_533 ?_
        refine gm_eqi (y := xs (i + 2)) (by rw [nI_clamp (by omega)]) ?_
        refine lv_aload_n C.1 C.2.1 d_Lw_law_534 rfl (lv_at hl 0 rfl) ?_
        refine lv_iload_n C.1 C.2.1 d_Lw_law_535 rfl (lv_at hl 3 rfl) ?_
        refine lv_iconst (v := nI 3) C.1 C.2.1 d_Lw_law_536 rfl ?_
        refine lv_iadd C.1 C.2.1 d_Lw_law_537 ?_
        refine gm_eqi (nI_add _ _) ?_
        refine va_sld C.1 C.2.1 hX hbl hbA hh.2.1 (vp_in_nI (by omega) (by omega)) d_Lw_law_538 ?_
        refine gm_eqi (y := xs (i + 3)) (by rw [nI_clamp (by omega)]) ?_
        refine lv_aload_n C.1 C.2.1 d_Lw_law_539 rfl (lv_at hl 0 rfl) ?_
        refine lv_iload_n C.1 C.2.1 d_Lw_law_540 rfl (lv_at hl 3 rfl) ?_
        refine lv_iconst (v := nI 4) C.1 C.2.1 d_Lw_law_541 rfl ?_
        refine lv_iadd C.1 C.2.1 d_Lw_law_542 ?_
        refine gm_eqi (nI_add _ _) ?_
        refine va_sld C.1 C.2.1 hX hbl hbA hh.2.1 (vp_in_nI (by omega) (by omega)) d_Lw_law_543 ?_
        refine gm_eqi (y := xs (i + 4)) (by rw [nI_clamp (by omega)]) ?_
        refine lv_aload_n C.1 C.2.1 d_Lw_law_544 rfl (lv_at hl 0 rfl) ?_
        refine lv_iload_n C.1 C.2.1 d_Lw_law_545 rfl (lv_at hl 3 rfl) ?_
        refine lv_iconst (v := nI 5) C.1 C.2.1 d_Lw_law_546 rfl ?_
        refine lv_iadd C.1 C.2.1 d_Lw_law_547 ?_
        refine gm_eqi (nI_add _ _) ?_
        refine va_sld C.1 C.2.1 hX hbl hbA hh.2.1 (vp_in_nI (by omega) (by omega)) d_Lw_law_548 ?_
        refine gm_eqi (y := xs (i + 5)) (by rw [nI_clamp (by omega)]) ?_
        refine lv_aload_n C.1 C.2.1 d_Lw_law_549 rfl (lv_at hl 0 rfl) ?_
        refine lv_iload_n C.1 C.2.1 d_Lw_law_550 rfl (lv_at hl 3 rfl) ?_
        refine lv_bipush (v := nI 6) C.1 C.2.1 d_Lw_law_551 rfl ?_
        refine lv_iadd C.1 C.2.1 d_Lw_law_553 ?_
        refine gm_eqi (nI_add _ _) ?_
        refine va_sld C.1 C.2.1 hX hbl hbA hh.2.1 (vp_in_nI (by omega) (by omega)) d_Lw_law_554 ?_
        refine gm_eqi (y := xs (i + 6)) (by rw [nI_clamp (by omega)]) ?_
        refine gc_i hh (gc_runV (As := [.int (xs (i + 1)), .int (xs (i + 2)), .int (xs (i + 3)), .int (xs (i + 4)), .int (xs (i + 5)), .int (xs (i + 6))]) (rest := []) (n := 6) C hml hh (c_FT_holds l D cs sh sz I J B hF hS.2.1 (xs (i + 1)) (xs (i + 2)) (xs (i + 3)) (xs (i + 4)) (xs (i + 5)) (xs (i + 6))) (tg_V tw_390 tw_391 tw_392 tw_57 tw_393) (by decide +kernel) ⟨rfl, rfl, by decide, by decide, Nat.le_of_ble_eq_true rfl, Nat.le_of_ble_eq_true rfl⟩ hF.1 rfl rfl hl.1 rfl (Nat.le_of_ble_eq_true rfl) d_Lw_law_555) (fun r_75 I_76 J_77 H locs hr_75 hh => ?_)
        have hS1_ := hS.cls hr_75
        refine lv_pop C.1 C.2.1 d_Lw_law_558 rfl ?_
        refine lv_aload_n C.1 C.2.1 d_Lw_law_559 rfl (lv_at hl 2 rfl) ?_
        refine lv_aload_n C.1 C.2.1 d_Lw_law_560 rfl (lv_at hl 0 rfl) ?_
        refine lv_iload_n C.1 C.2.1 d_Lw_law_561 rfl (lv_at hl 3 rfl) ?_
        refine lv_iconst (v := nI 1) C.1 C.2.1 d_Lw_law_562 rfl ?_
        refine lv_iadd C.1 C.2.1 d_Lw_law_563 ?_
        refine gm_eqi (nI_add _ _) ?_
        refine va_sld C.1 C.2.1 hX hbl hbA hh.2.1 (vp_in_nI (by omega) (by omega)) d_Lw_law_564 ?_
        refine gm_eqi (y := xs (i + 1)) (by rw [nI_clamp (by omega)]) ?_
        refine lv_aload_n C.1 C.2.1 d_Lw_law_565 rfl (lv_at hl 0 rfl) ?_
        refine lv_iload_n C.1 C.2.1 d_Lw_law_566 rfl (lv_at hl 3 rfl) ?_
        refine lv_iconst (v := nI 2) C.1 C.2.1 d_Lw_law_567 rfl ?_
        refine lv_iadd C.1 C.2.1 d_Lw_law_568 ?_
        refine gm_eqi (nI_add _ _) ?_
        refine va_sld C.1 C.2.1 hX hbl hbA hh.2.1 (vp_in_nI (by omega) (by omega)) d_Lw_law_569 ?_
        refine gm_eqi (y := xs (i + 2)) (by rw [nI_clamp (by omega)]) ?_
        refine lv_aload_n C.1 C.2.1 d_Lw_law_570 rfl (lv_at hl 0 rfl) ?_
        refine lv_iload_n C.1 C.2.1 d_Lw_law_571 rfl (lv_at hl 3 rfl) ?_
        refine lv_iconst (v := nI 3) C.1 C.2.1 d_Lw_law_572 rfl ?_
        refine lv_iadd C.1 C.2.1 d_Lw_law_573 ?_
        refine gm_eqi (nI_add _ _) ?_
        refine va_sld C.1 C.2.1 hX hbl hbA hh.2.1 (vp_in_nI (by omega) (by omega)) d_Lw_law_574 ?_
        refine gm_eqi (y := xs (i + 3)) (by rw [nI_clamp (by omega)]) ?_
        refine lv_aload_n C.1 C.2.1 d_Lw_law_575 rfl (lv_at hl 0 rfl) ?_
        refine lv_iload_n C.1 C.2.1 d_Lw_law_576 rfl (lv_at hl 3 rfl) ?_
        refine lv_iconst (v := nI 4) C.1 C.2.1 d_Lw_law_577 rfl ?_
        refine lv_iadd C.1 C.2.1 d_Lw_law_578 ?_
        refine gm_eqi (nI_add _ _) ?_
        refine va_sld C.1 C.2.1 hX hbl hbA hh.2.1 (vp_in_nI (by omega) (by omega)) d_Lw_law_579 ?_
        refine gm_eqi (y := xs (i + 4)) (by rw [nI_clamp (by omega)]) ?_
        refine lv_aload_n C.1 C.2.1 d_Lw_law_580 rfl (lv_at hl 0 rfl) ?_
        refine lv_iload_n C.1 C.2.1 d_Lw_law_581 rfl (lv_at hl 3 rfl) ?_
        refine lv_iconst (v := nI 5) C.1 C.2.1 d_Lw_law_582 rfl ?_
        refine lv_iadd C.1 C.2.1 d_Lw_law_583 ?_
        refine gm_eqi (nI_add _ _) ?_
        refine va_sld C.1 C.2.1 hX hbl hbA hh.2.1 (vp_in_nI (by omega) (by omega)) d_Lw_law_584 ?_
        refine gm_eqi (y := xs (i + 5)) (by rw [nI_clamp (by omega)]) ?_
        refine lv_aload_n C.1 C.2.1 d_Lw_law_585 rfl (lv_at hl 0 rfl) ?_
        refine lv_iload_n C.1 C.2.1 d_Lw_law_586 rfl (lv_at hl 3 rfl) ?_
        refine lv_bipush (v := nI 6) C.1 C.2.1 d_Lw_law_587 rfl ?_
        refine lv_iadd C.1 C.2.1 d_Lw_law_589 ?_
        refine gm_eqi (nI_add _ _) ?_
        refine va_sld C.1 C.2.1 hX hbl hbA hh.2.1 (vp_in_nI (by omega) (by omega)) d_Lw_law_590 ?_
        refine gm_eqi (y := xs (i + 6)) (by rw [nI_clamp (by omega)]) ?_
        refine gc_i hh (gc_runV (As := [.int (xs (i + 1)), .int (xs (i + 2)), .int (xs (i + 3)), .int (xs (i + 4)), .int (xs (i + 5)), .int (xs (i + 6))]) (rest := []) (n := 6) C hml hh (c_Md_holds l D cs sh sz I_76 J_77 r hM hS1_.2.2.1 hS1_.2.2.2.1 (xs (i + 1)) (xs (i + 2)) (xs (i + 3)) (xs (i + 4)) (xs (i + 5)) (xs (i + 6))) (tg_V tw_783 tw_784 tw_785 tw_64 tw_786) (by decide +kernel) ⟨rfl, rfl, by decide, by decide, Nat.le_of_ble_eq_true rfl, Nat.le_of_ble_eq_true rfl⟩ (Md_0 hM) rfl rfl hl.1 rfl (Nat.le_of_ble_eq_true rfl) d_Lw_law_591) (fun r_78 I_79 J_80 H locs hr_78 hh => ?_)
        have hS_81 := hS1_.refS hr_78.2
        have hJ_82 := (hJ.cls hS.1 hr_75).refS hS.1 hr_78.2
        refine lv_pop C.1 C.2.1 d_Lw_law_594 rfl ?_
        refine lv_goto (tgt := 1010) C.1 C.2.1 d_Lw_law_595 (by decide) ?_
        refine lv_iinc (v := nI (i + 7)) (lv' := [(3, .int (nI (i + 7))), (0, .ref b), (1, .ref B), (2, .ref r)]) C.1 C.2.1 d_Lw_law_1010 hl (k := 3) rfl (gm_inc i 7) (by decide) rfl (fun ls hl => ?_)
        refine lv_goto (tgt := 18) C.1 C.2.1 d_Lw_law_1013 (by decide) ?_
        exact ih (i + 7) I_79 J_80 (by omega) hS_81 hJ_82 (by omega) _ _ _ hh (lv_sub hl [1, 2, 3, 0] rfl)
      by_cases co_10 : x_2 = nI 10
      · -- 10
        refine lv_tableIn (tgt := 598) (off := 565) C.1 C.2.1 d_Lw_law_33 (by rw [co_10]; decide) (by rw [co_10]; decide) (by rw [co_10]; decide +kernel) (by decide) ?_
        refine lv_aload_n C.1 C.2.1 d_Lw_law_598 rfl (lv_at hl 1 rfl) ?_
        refine lv_aload_n C.1 C.2.1 d_Lw_law_599 rfl (lv_at hl 0 rfl) ?_
        refine lv_iload_n C.1 C.2.1 d_Lw_law_600 rfl (lv_at hl 3 rfl) ?_
        refine lv_iconst (v := nI 1) C.1 C.2.1 d_Lw_law_601 rfl ?_
        refine lv_iadd C.1 C.2.1 d_Lw_law_602 ?_
        refine gm_eqi (nI_add _ _) ?_
        refine va_sld C.1 C.2.1 hX hbl hbA hh.2.1 (vp_in_nI (by omega) (by omega)) d_Lw_law_603 ?_
        refine gm_eqi (y := xs (i + 1)) (by rw [nI_clamp (by omega)]) ?_
        refine lv_aload_n C.1 C.2.1 d_Lw_law_604 rfl (lv_at hl 0 rfl) ?_
        refine lv_iload_n C.1 C.2.1 d_Lw_law_605 rfl (lv_at hl 3 rfl) ?_
        refine lv_iconst (v := nI 2) C.1 C.2.1 d_Lw_law_606 rfl ?_
        refine lv_iadd C.1 C.2.1 d_Lw_law_607 ?_
        refine gm_eqi (nI_add _ _) ?_
        refine va_sld C.1 C.2.1 hX hbl hbA hh.2.1 (vp_in_nI (by omega) (by omega)) d_Lw_law_608 ?_
        refine gm_eqi (y := xs (i + 2)) (by rw [nI_clamp (by omega)]) ?_
        refine lv_aload_n C.1 C.2.1 d_Lw_law_609 rfl (lv_at hl 0 rfl) ?_
        refine lv_iload_n C.1 C.2.1 d_Lw_law_610 rfl (lv_at hl 3 rfl) ?_
        refine lv_iconst (v := nI 3) C.1 C.2.1 d_Lw_law_611 rfl ?_
        refine lv_iadd C.1 C.2.1 d_Lw_law_612 ?_
        refine gm_eqi (nI_add _ _) ?_
        refine va_sld C.1 C.2.1 hX hbl hbA hh.2.1 (vp_in_nI (by omega) (by omega)) d_Lw_law_613 ?_
        refine gm_eqi (y := xs (i + 3)) (by rw [nI_clamp (by omega)]) ?_
        refine lv_aload_n C.1 C.2.1 d_Lw_law_614 rfl (lv_at hl 0 rfl) ?_
        refine lv_iload_n C.1 C.2.1 d_Lw_law_615 rfl (lv_at hl 3 rfl) ?_
        refine lv_iconst (v := nI 4) C.1 C.2.1 d_Lw_law_616 rfl ?_
        refine lv_iadd C.1 C.2.1 d_Lw_law_617 ?_
        refine gm_eqi (nI_add _ _) ?_
        refine va_sld C.1 C.2.1 hX hbl hbA hh.2.1 (vp_in_nI (by omega) (by omega)) d_Lw_law_618 ?_
        refine gm_eqi (y := xs (i + 4)) (by rw [nI_clamp (by omega)]) ?_
        refine lv_aload_n C.1 C.2.1 d_Lw_law_619 rfl (lv_at hl 0 rfl) ?_
        refine lv_iload_n C.1 C.2.1 d_Lw_law_620 rfl (lv_at hl 3 rfl) ?_
        refine lv_iconst (v := nI 5) C.1 C.2.1 d_Lw_law_621 rfl ?_
        refine lv_iadd C.1 C.2.1 d_Lw_law_622 ?_
        refine gm_eqi (nI_add _ _) ?_
        refine va_sld C.1 C.2.1 hX hbl hbA hh.2.1 (vp_in_nI (by omega) (by omega)) d_Lw_law_623 ?_
        refine gm_eqi (y := xs (i + 5)) (by rw [nI_clamp (by omega)]) ?_
        refine gc_i hh (gc_runV (As := [.int (xs (i + 1)), .int (xs (i + 2)), .int (xs (i + 3)), .int (xs (i + 4)), .int (xs (i + 5))]) (rest := []) (n := 5) C hml hh (c_FT_term l D cs sh sz I J B hF hS.2.1 (xs (i + 1)) (xs (i + 2)) (xs (i + 3)) (xs (i + 4)) (xs (i + 5))) (tg_V tw_398 tw_399 tw_400 tw_57 tw_401) (by decide +kernel) ⟨rfl, rfl, by decide, by decide, Nat.le_of_ble_eq_true rfl, Nat.le_of_ble_eq_true rfl⟩ hF.1 rfl rfl hl.1 rfl (Nat.le_of_ble_eq_true rfl) d_Lw_law_624) (fun r_83 I_84 J_85 H locs hr_83 hh => ?_)
        have hS1_ := hS.cls hr_83
        refine lv_pop C.1 C.2.1 d_Lw_law_627 rfl ?_
        refine lv_aload_n C.1 C.2.1 d_Lw_law_628 rfl (lv_at hl 2 rfl) ?_
        refine lv_aload_n C.1 C.2.1 d_Lw_law_629 rfl (lv_at hl 0 rfl) ?_
        refine lv_iload_n C.1 C.2.1 d_Lw_law_630 rfl (lv_at hl 3 rfl) ?_
        refine lv_iconst (v := nI 1) C.1 C.2.1 d_Lw_law_631 rfl ?_
        refine lv_iadd C.1 C.2.1 d_Lw_law_632 ?_
        refine gm_eqi (nI_add _ _) ?_
        refine va_sld C.1 C.2.1 hX hbl hbA hh.2.1 (vp_in_nI (by omega) (by omega)) d_Lw_law_633 ?_
        refine gm_eqi (y := xs (i + 1)) (by rw [nI_clamp (by omega)]) ?_
        refine lv_aload_n C.1 C.2.1 d_Lw_law_634 rfl (lv_at hl 0 rfl) ?_
        refine lv_iload_n C.1 C.2.1 d_Lw_law_635 rfl (lv_at hl 3 rfl) ?_
        refine lv_iconst (v := nI 2) C.1 C.2.1 d_Lw_law_636 rfl ?_
        refine lv_iadd C.1 C.2.1 d_Lw_law_637 ?_
        refine gm_eqi (nI_add _ _) ?_
        refine va_sld C.1 C.2.1 hX hbl hbA hh.2.1 (vp_in_nI (by omega) (by omega)) d_Lw_law_638 ?_
        refine gm_eqi (y := xs (i + 2)) (by rw [nI_clamp (by omega)]) ?_
        refine lv_aload_n C.1 C.2.1 d_Lw_law_639 rfl (lv_at hl 0 rfl) ?_
        refine lv_iload_n C.1 C.2.1 d_Lw_law_640 rfl (lv_at hl 3 rfl) ?_
        refine lv_iconst (v := nI 3) C.1 C.2.1 d_Lw_law_641 rfl ?_
        refine lv_iadd C.1 C.2.1 d_Lw_law_642 ?_
        refine gm_eqi (nI_add _ _) ?_
        refine va_sld C.1 C.2.1 hX hbl hbA hh.2.1 (vp_in_nI (by omega) (by omega)) d_Lw_law_643 ?_
        refine gm_eqi (y := xs (i + 3)) (by rw [nI_clamp (by omega)]) ?_
        refine lv_aload_n C.1 C.2.1 d_Lw_law_644 rfl (lv_at hl 0 rfl) ?_
        refine lv_iload_n C.1 C.2.1 d_Lw_law_645 rfl (lv_at hl 3 rfl) ?_
        refine lv_iconst (v := nI 4) C.1 C.2.1 d_Lw_law_646 rfl ?_
        refine lv_iadd C.1 C.2.1 d_Lw_law_647 ?_
        refine gm_eqi (nI_add _ _) ?_
        refine va_sld C.1 C.2.1 hX hbl hbA hh.2.1 (vp_in_nI (by omega) (by omega)) d_Lw_law_648 ?_
        refine gm_eqi (y := xs (i + 4)) (by rw [nI_clamp (by omega)]) ?_
        refine lv_aload_n C.1 C.2.1 d_Lw_law_649 rfl (lv_at hl 0 rfl) ?_
        refine lv_iload_n C.1 C.2.1 d_Lw_law_650 rfl (lv_at hl 3 rfl) ?_
        refine lv_iconst (v := nI 5) C.1 C.2.1 d_Lw_law_651 rfl ?_
        refine lv_iadd C.1 C.2.1 d_Lw_law_652 ?_
        refine gm_eqi (nI_add _ _) ?_
        refine va_sld C.1 C.2.1 hX hbl hbA hh.2.1 (vp_in_nI (by omega) (by omega)) d_Lw_law_653 ?_
        refine gm_eqi (y := xs (i + 5)) (by rw [nI_clamp (by omega)]) ?_
        refine gc_i hh (gc_runV (As := [.int (xs (i + 1)), .int (xs (i + 2)), .int (xs (i + 3)), .int (xs (i + 4)), .int (xs (i + 5))]) (rest := []) (n := 5) C hml hh (c_Md_term l D cs sh sz I_84 J_85 r hM hS1_.2.2.1 hS1_.2.2.2.1 (xs (i + 1)) (xs (i + 2)) (xs (i + 3)) (xs (i + 4)) (xs (i + 5))) (tg_V tw_791 tw_792 tw_793 tw_64 tw_794) (by decide +kernel) ⟨rfl, rfl, by decide, by decide, Nat.le_of_ble_eq_true rfl, Nat.le_of_ble_eq_true rfl⟩ (Md_0 hM) rfl rfl hl.1 rfl (Nat.le_of_ble_eq_true rfl) d_Lw_law_654) (fun r_86 I_87 J_88 H locs hr_86 hh => ?_)
        have hS_89 := hS1_.refS hr_86.2
        have hJ_90 := (hJ.cls hS.1 hr_83).refS hS.1 hr_86.2
        refine lv_pop C.1 C.2.1 d_Lw_law_657 rfl ?_
        refine lv_goto (tgt := 1010) C.1 C.2.1 d_Lw_law_658 (by decide) ?_
        refine lv_iinc (v := nI (i + 7)) (lv' := [(3, .int (nI (i + 7))), (0, .ref b), (1, .ref B), (2, .ref r)]) C.1 C.2.1 d_Lw_law_1010 hl (k := 3) rfl (gm_inc i 7) (by decide) rfl (fun ls hl => ?_)
        refine lv_goto (tgt := 18) C.1 C.2.1 d_Lw_law_1013 (by decide) ?_
        exact ih (i + 7) I_87 J_88 (by omega) hS_89 hJ_90 (by omega) _ _ _ hh (lv_sub hl [1, 2, 3, 0] rfl)
      by_cases co_11 : x_2 = nI 11
      · -- 11
        refine lv_tableIn (tgt := 661) (off := 628) C.1 C.2.1 d_Lw_law_33 (by rw [co_11]; decide) (by rw [co_11]; decide) (by rw [co_11]; decide +kernel) (by decide) ?_
        refine lv_aload_n C.1 C.2.1 d_Lw_law_661 rfl (lv_at hl 1 rfl) ?_
        refine lv_aload_n C.1 C.2.1 d_Lw_law_662 rfl (lv_at hl 0 rfl) ?_
        refine lv_iload_n C.1 C.2.1 d_Lw_law_663 rfl (lv_at hl 3 rfl) ?_
        refine lv_iconst (v := nI 1) C.1 C.2.1 d_Lw_law_664 rfl ?_
        refine lv_iadd C.1 C.2.1 d_Lw_law_665 ?_
        refine gm_eqi (nI_add _ _) ?_
        refine va_sld C.1 C.2.1 hX hbl hbA hh.2.1 (vp_in_nI (by omega) (by omega)) d_Lw_law_666 ?_
        refine gm_eqi (y := xs (i + 1)) (by rw [nI_clamp (by omega)]) ?_
        refine gc_i hh (gc_runV (As := [.int (xs (i + 1))]) (rest := []) (n := 1) C hml hh (c_FT_prove l D cs sh sz I J B hF hS.2.1 (xs (i + 1))) (tg_V tw_419 tw_420 tw_421 tw_57 tw_422) (by decide +kernel) ⟨rfl, rfl, by decide, by decide, Nat.le_of_ble_eq_true rfl, Nat.le_of_ble_eq_true rfl⟩ hF.1 rfl rfl hl.1 rfl (Nat.le_of_ble_eq_true rfl) d_Lw_law_667) (fun r_91 I_92 J_93 H locs hr_91 hh => ?_)
        have hS1_ := hS.cls hr_91
        refine lv_pop C.1 C.2.1 d_Lw_law_670 rfl ?_
        refine lv_aload_n C.1 C.2.1 d_Lw_law_671 rfl (lv_at hl 2 rfl) ?_
        refine lv_aload_n C.1 C.2.1 d_Lw_law_672 rfl (lv_at hl 0 rfl) ?_
        refine lv_iload_n C.1 C.2.1 d_Lw_law_673 rfl (lv_at hl 3 rfl) ?_
        refine lv_iconst (v := nI 1) C.1 C.2.1 d_Lw_law_674 rfl ?_
        refine lv_iadd C.1 C.2.1 d_Lw_law_675 ?_
        refine gm_eqi (nI_add _ _) ?_
        refine va_sld C.1 C.2.1 hX hbl hbA hh.2.1 (vp_in_nI (by omega) (by omega)) d_Lw_law_676 ?_
        refine gm_eqi (y := xs (i + 1)) (by rw [nI_clamp (by omega)]) ?_
        refine gc_i hh (gc_runV (As := [.int (xs (i + 1))]) (rest := []) (n := 1) C hml hh (c_Md_prove l D cs sh sz I_92 J_93 r hM hS1_.2.2.1 hS1_.2.2.2.1 (xs (i + 1))) (tg_V tw_807 tw_808 tw_809 tw_64 tw_810) (by decide +kernel) ⟨rfl, rfl, by decide, by decide, Nat.le_of_ble_eq_true rfl, Nat.le_of_ble_eq_true rfl⟩ (Md_0 hM) rfl rfl hl.1 rfl (Nat.le_of_ble_eq_true rfl) d_Lw_law_677) (fun r_94 I_95 J_96 H locs hr_94 hh => ?_)
        have hS_97 := m_prove hS1_ hr_94
        have hJ_98 := mj_prove (hJ.cls hS.1 hr_91) hS.1 hr_94
        refine lv_pop C.1 C.2.1 d_Lw_law_680 rfl ?_
        refine lv_goto (tgt := 1010) C.1 C.2.1 d_Lw_law_681 (by decide) ?_
        refine lv_iinc (v := nI (i + 7)) (lv' := [(3, .int (nI (i + 7))), (0, .ref b), (1, .ref B), (2, .ref r)]) C.1 C.2.1 d_Lw_law_1010 hl (k := 3) rfl (gm_inc i 7) (by decide) rfl (fun ls hl => ?_)
        refine lv_goto (tgt := 18) C.1 C.2.1 d_Lw_law_1013 (by decide) ?_
        exact ih (i + 7) I_95 J_96 (by omega) hS_97 hJ_98 (by omega) _ _ _ hh (lv_sub hl [1, 2, 3, 0] rfl)
      by_cases co_12 : x_2 = nI 12
      · -- 12
        refine lv_tableIn (tgt := 684) (off := 651) C.1 C.2.1 d_Lw_law_33 (by rw [co_12]; decide) (by rw [co_12]; decide) (by rw [co_12]; decide +kernel) (by decide) ?_
        refine lv_aload_n C.1 C.2.1 d_Lw_law_684 rfl (lv_at hl 1 rfl) ?_
        refine lv_aload_n C.1 C.2.1 d_Lw_law_685 rfl (lv_at hl 0 rfl) ?_
        refine lv_iload_n C.1 C.2.1 d_Lw_law_686 rfl (lv_at hl 3 rfl) ?_
        refine lv_iconst (v := nI 1) C.1 C.2.1 d_Lw_law_687 rfl ?_
        refine lv_iadd C.1 C.2.1 d_Lw_law_688 ?_
        refine gm_eqi (nI_add _ _) ?_
        refine va_sld C.1 C.2.1 hX hbl hbA hh.2.1 (vp_in_nI (by omega) (by omega)) d_Lw_law_689 ?_
        refine gm_eqi (y := xs (i + 1)) (by rw [nI_clamp (by omega)]) ?_
        refine lv_aload_n C.1 C.2.1 d_Lw_law_690 rfl (lv_at hl 0 rfl) ?_
        refine lv_iload_n C.1 C.2.1 d_Lw_law_691 rfl (lv_at hl 3 rfl) ?_
        refine lv_iconst (v := nI 2) C.1 C.2.1 d_Lw_law_692 rfl ?_
        refine lv_iadd C.1 C.2.1 d_Lw_law_693 ?_
        refine gm_eqi (nI_add _ _) ?_
        refine va_sld C.1 C.2.1 hX hbl hbA hh.2.1 (vp_in_nI (by omega) (by omega)) d_Lw_law_694 ?_
        refine gm_eqi (y := xs (i + 2)) (by rw [nI_clamp (by omega)]) ?_
        refine gc_i hh (gc_runV (As := [.int (xs (i + 1)), .int (xs (i + 2))]) (rest := []) (n := 2) C hml hh (c_FT_proof l D cs sh sz I J B hF hS.2.1 (xs (i + 1)) (xs (i + 2))) (tg_V tw_449 tw_450 tw_451 tw_57 tw_452) (by decide +kernel) ⟨rfl, rfl, by decide, by decide, Nat.le_of_ble_eq_true rfl, Nat.le_of_ble_eq_true rfl⟩ hF.1 rfl rfl hl.1 rfl (Nat.le_of_ble_eq_true rfl) d_Lw_law_695) (fun r_99 I_100 J_101 H locs hr_99 hh => ?_)
        have hS1_ := hS.eq (Prod.mk.inj hr_99).1
        refine lv_pop C.1 C.2.1 d_Lw_law_698 rfl ?_
        refine lv_aload_n C.1 C.2.1 d_Lw_law_699 rfl (lv_at hl 2 rfl) ?_
        refine lv_aload_n C.1 C.2.1 d_Lw_law_700 rfl (lv_at hl 0 rfl) ?_
        refine lv_iload_n C.1 C.2.1 d_Lw_law_701 rfl (lv_at hl 3 rfl) ?_
        refine lv_iconst (v := nI 1) C.1 C.2.1 d_Lw_law_702 rfl ?_
        refine lv_iadd C.1 C.2.1 d_Lw_law_703 ?_
        refine gm_eqi (nI_add _ _) ?_
        refine va_sld C.1 C.2.1 hX hbl hbA hh.2.1 (vp_in_nI (by omega) (by omega)) d_Lw_law_704 ?_
        refine gm_eqi (y := xs (i + 1)) (by rw [nI_clamp (by omega)]) ?_
        refine lv_aload_n C.1 C.2.1 d_Lw_law_705 rfl (lv_at hl 0 rfl) ?_
        refine lv_iload_n C.1 C.2.1 d_Lw_law_706 rfl (lv_at hl 3 rfl) ?_
        refine lv_iconst (v := nI 2) C.1 C.2.1 d_Lw_law_707 rfl ?_
        refine lv_iadd C.1 C.2.1 d_Lw_law_708 ?_
        refine gm_eqi (nI_add _ _) ?_
        refine va_sld C.1 C.2.1 hX hbl hbA hh.2.1 (vp_in_nI (by omega) (by omega)) d_Lw_law_709 ?_
        refine gm_eqi (y := xs (i + 2)) (by rw [nI_clamp (by omega)]) ?_
        refine gc_i hh (gc_runV (As := [.int (xs (i + 1)), .int (xs (i + 2))]) (rest := []) (n := 2) C hml hh (c_Md_proof l D cs sh sz I_100 J_101 r hM hS1_.2.2.1 (xs (i + 1)) (xs (i + 2))) (tg_V tw_819 tw_820 tw_821 tw_64 tw_822) (by decide +kernel) ⟨rfl, rfl, by decide, by decide, Nat.le_of_ble_eq_true rfl, Nat.le_of_ble_eq_true rfl⟩ (Md_0 hM) rfl rfl hl.1 rfl (Nat.le_of_ble_eq_true rfl) d_Lw_law_710) (fun r_102 I_103 J_104 H locs hr_102 hh => ?_)
        have hS_105 := hS1_.eq (Prod.mk.inj hr_102.1).1
        have hJ_106 := (hJ.eq hr_99).eq hr_102.1
        refine lv_pop C.1 C.2.1 d_Lw_law_713 rfl ?_
        refine lv_goto (tgt := 1010) C.1 C.2.1 d_Lw_law_714 (by decide) ?_
        refine lv_iinc (v := nI (i + 7)) (lv' := [(3, .int (nI (i + 7))), (0, .ref b), (1, .ref B), (2, .ref r)]) C.1 C.2.1 d_Lw_law_1010 hl (k := 3) rfl (gm_inc i 7) (by decide) rfl (fun ls hl => ?_)
        refine lv_goto (tgt := 18) C.1 C.2.1 d_Lw_law_1013 (by decide) ?_
        exact ih (i + 7) I_103 J_104 (by omega) hS_105 hJ_106 (by omega) _ _ _ hh (lv_sub hl [1, 2, 3, 0] rfl)
      by_cases co_13 : x_2 = nI 13
      · -- 13
        refine lv_tableIn (tgt := 717) (off := 684) C.1 C.2.1 d_Lw_law_33 (by rw [co_13]; decide) (by rw [co_13]; decide) (by rw [co_13]; decide +kernel) (by decide) ?_
        refine lv_aload_n C.1 C.2.1 d_Lw_law_717 rfl (lv_at hl 1 rfl) ?_
        refine gc_i hh (gc_runV (As := []) (rest := []) (n := 0) C hml hh (c_FT_left l D cs sh sz I J B hF) (tg_V tw_453 tw_454 tw_455 tw_57 tw_456) (by decide +kernel) ⟨rfl, rfl, by decide, by decide, Nat.le_of_ble_eq_true rfl, Nat.le_of_ble_eq_true rfl⟩ hF.1 rfl rfl hl.1 rfl (Nat.le_of_ble_eq_true rfl) d_Lw_law_718) (fun r_107 I_108 J_109 H locs hr_107 hh => ?_)
        have hS1_ := hS.eq (Prod.mk.inj hr_107.1).1
        refine lv_pop C.1 C.2.1 d_Lw_law_721 rfl ?_
        refine lv_aload_n C.1 C.2.1 d_Lw_law_722 rfl (lv_at hl 2 rfl) ?_
        refine gc_i hh (gc_runV (As := []) (rest := []) (n := 0) C hml hh (c_Md_left l D cs sh sz I_108 J_109 r hM hS1_.2.2.1 ) (tg_V tw_823 tw_824 tw_825 tw_64 tw_826) (by decide +kernel) ⟨rfl, rfl, by decide, by decide, Nat.le_of_ble_eq_true rfl, Nat.le_of_ble_eq_true rfl⟩ (Md_0 hM) rfl rfl hl.1 rfl (Nat.le_of_ble_eq_true rfl) d_Lw_law_723) (fun r_110 I_111 J_112 H locs hr_110 hh => ?_)
        have hS_113 := hS1_.eq (Prod.mk.inj hr_110.1).1
        have hJ_114 := (hJ.eq hr_107.1).eq hr_110.1
        refine lv_pop C.1 C.2.1 d_Lw_law_726 rfl ?_
        refine lv_goto (tgt := 1010) C.1 C.2.1 d_Lw_law_727 (by decide) ?_
        refine lv_iinc (v := nI (i + 7)) (lv' := [(3, .int (nI (i + 7))), (0, .ref b), (1, .ref B), (2, .ref r)]) C.1 C.2.1 d_Lw_law_1010 hl (k := 3) rfl (gm_inc i 7) (by decide) rfl (fun ls hl => ?_)
        refine lv_goto (tgt := 18) C.1 C.2.1 d_Lw_law_1013 (by decide) ?_
        exact ih (i + 7) I_111 J_112 (by omega) hS_113 hJ_114 (by omega) _ _ _ hh (lv_sub hl [1, 2, 3, 0] rfl)
      by_cases co_14 : x_2 = nI 14
      · -- 14
        refine lv_tableIn (tgt := 730) (off := 697) C.1 C.2.1 d_Lw_law_33 (by rw [co_14]; decide) (by rw [co_14]; decide) (by rw [co_14]; decide +kernel) (by decide) ?_
        refine lv_aload_n C.1 C.2.1 d_Lw_law_730 rfl (lv_at hl 1 rfl) ?_
        refine lv_aload_n C.1 C.2.1 d_Lw_law_731 rfl (lv_at hl 0 rfl) ?_
        refine lv_iload_n C.1 C.2.1 d_Lw_law_732 rfl (lv_at hl 3 rfl) ?_
        refine lv_iconst (v := nI 1) C.1 C.2.1 d_Lw_law_733 rfl ?_
        refine lv_iadd C.1 C.2.1 d_Lw_law_734 ?_
        refine gm_eqi (nI_add _ _) ?_
        refine va_sld C.1 C.2.1 hX hbl hbA hh.2.1 (vp_in_nI (by omega) (by omega)) d_Lw_law_735 ?_
        refine gm_eqi (y := xs (i + 1)) (by rw [nI_clamp (by omega)]) ?_
        refine gc_i hh (gc_runV (As := [.int (xs (i + 1))]) (rest := []) (n := 1) C hml hh (c_FT_need l D cs sh sz I J B hF hS.2.1 (xs (i + 1))) (tg_V tw_457 tw_458 tw_459 tw_57 tw_460) (by decide +kernel) ⟨rfl, rfl, by decide, by decide, Nat.le_of_ble_eq_true rfl, Nat.le_of_ble_eq_true rfl⟩ hF.1 rfl rfl hl.1 rfl (Nat.le_of_ble_eq_true rfl) d_Lw_law_736) (fun r_115 I_116 J_117 H locs hr_115 hh => ?_)
        have hS1_ := hS.cls hr_115
        refine lv_pop C.1 C.2.1 d_Lw_law_739 rfl ?_
        refine lv_aload_n C.1 C.2.1 d_Lw_law_740 rfl (lv_at hl 2 rfl) ?_
        refine lv_aload_n C.1 C.2.1 d_Lw_law_741 rfl (lv_at hl 0 rfl) ?_
        refine lv_iload_n C.1 C.2.1 d_Lw_law_742 rfl (lv_at hl 3 rfl) ?_
        refine lv_iconst (v := nI 1) C.1 C.2.1 d_Lw_law_743 rfl ?_
        refine lv_iadd C.1 C.2.1 d_Lw_law_744 ?_
        refine gm_eqi (nI_add _ _) ?_
        refine va_sld C.1 C.2.1 hX hbl hbA hh.2.1 (vp_in_nI (by omega) (by omega)) d_Lw_law_745 ?_
        refine gm_eqi (y := xs (i + 1)) (by rw [nI_clamp (by omega)]) ?_
        refine gc_i hh (gc_runV (As := [.int (xs (i + 1))]) (rest := []) (n := 1) C hml hh (c_Md_need l D cs sh sz I_116 J_117 r hM hS1_.2.2.1 hS1_.2.2.2.1 (xs (i + 1))) (tg_V tw_827 tw_828 tw_829 tw_64 tw_830) (by decide +kernel) ⟨rfl, rfl, by decide, by decide, Nat.le_of_ble_eq_true rfl, Nat.le_of_ble_eq_true rfl⟩ (Md_0 hM) rfl rfl hl.1 rfl (Nat.le_of_ble_eq_true rfl) d_Lw_law_746) (fun r_118 I_119 J_120 H locs hr_118 hh => ?_)
        have hS_121 := m_need hS1_ hr_118
        have hJ_122 := mj_need (hJ.cls hS.1 hr_115) hS.1 hr_118
        refine lv_pop C.1 C.2.1 d_Lw_law_749 rfl ?_
        refine lv_goto (tgt := 1010) C.1 C.2.1 d_Lw_law_750 (by decide) ?_
        refine lv_iinc (v := nI (i + 7)) (lv' := [(3, .int (nI (i + 7))), (0, .ref b), (1, .ref B), (2, .ref r)]) C.1 C.2.1 d_Lw_law_1010 hl (k := 3) rfl (gm_inc i 7) (by decide) rfl (fun ls hl => ?_)
        refine lv_goto (tgt := 18) C.1 C.2.1 d_Lw_law_1013 (by decide) ?_
        exact ih (i + 7) I_119 J_120 (by omega) hS_121 hJ_122 (by omega) _ _ _ hh (lv_sub hl [1, 2, 3, 0] rfl)
      by_cases co_15 : x_2 = nI 15
      · -- 15
        refine lv_tableIn (tgt := 753) (off := 720) C.1 C.2.1 d_Lw_law_33 (by rw [co_15]; decide) (by rw [co_15]; decide) (by rw [co_15]; decide +kernel) (by decide) ?_
        refine lv_aload_n C.1 C.2.1 d_Lw_law_753 rfl (lv_at hl 1 rfl) ?_
        refine lv_aload_n C.1 C.2.1 d_Lw_law_754 rfl (lv_at hl 0 rfl) ?_
        refine lv_iload_n C.1 C.2.1 d_Lw_law_755 rfl (lv_at hl 3 rfl) ?_
        refine lv_iconst (v := nI 1) C.1 C.2.1 d_Lw_law_756 rfl ?_
        refine lv_iadd C.1 C.2.1 d_Lw_law_757 ?_
        refine gm_eqi (nI_add _ _) ?_
        refine va_sld C.1 C.2.1 hX hbl hbA hh.2.1 (vp_in_nI (by omega) (by omega)) d_Lw_law_758 ?_
        refine gm_eqi (y := xs (i + 1)) (by rw [nI_clamp (by omega)]) ?_
        refine gc_i hh (gc_runV (As := [.int (xs (i + 1))]) (rest := []) (n := 1) C hml hh (c_FT_needed l D cs sh sz I J B hF hS.2.1 (xs (i + 1))) (tg_V tw_487 tw_488 tw_489 tw_57 tw_490) (by decide +kernel) ⟨rfl, rfl, by decide, by decide, Nat.le_of_ble_eq_true rfl, Nat.le_of_ble_eq_true rfl⟩ hF.1 rfl rfl hl.1 rfl (Nat.le_of_ble_eq_true rfl) d_Lw_law_759) (fun r_123 I_124 J_125 H locs hr_123 hh => ?_)
        have hS1_ := hS.eq (Prod.mk.inj hr_123).1
        refine lv_pop C.1 C.2.1 d_Lw_law_762 rfl ?_
        refine lv_aload_n C.1 C.2.1 d_Lw_law_763 rfl (lv_at hl 2 rfl) ?_
        refine lv_aload_n C.1 C.2.1 d_Lw_law_764 rfl (lv_at hl 0 rfl) ?_
        refine lv_iload_n C.1 C.2.1 d_Lw_law_765 rfl (lv_at hl 3 rfl) ?_
        refine lv_iconst (v := nI 1) C.1 C.2.1 d_Lw_law_766 rfl ?_
        refine lv_iadd C.1 C.2.1 d_Lw_law_767 ?_
        refine gm_eqi (nI_add _ _) ?_
        refine va_sld C.1 C.2.1 hX hbl hbA hh.2.1 (vp_in_nI (by omega) (by omega)) d_Lw_law_768 ?_
        refine gm_eqi (y := xs (i + 1)) (by rw [nI_clamp (by omega)]) ?_
        refine gc_i hh (gc_runV (As := [.int (xs (i + 1))]) (rest := []) (n := 1) C hml hh (c_Md_needed l D cs sh sz I_124 J_125 r hM hS1_.2.2.1 (xs (i + 1))) (tg_V tw_835 tw_836 tw_837 tw_64 tw_838) (by decide +kernel) ⟨rfl, rfl, by decide, by decide, Nat.le_of_ble_eq_true rfl, Nat.le_of_ble_eq_true rfl⟩ (Md_0 hM) rfl rfl hl.1 rfl (Nat.le_of_ble_eq_true rfl) d_Lw_law_769) (fun r_126 I_127 J_128 H locs hr_126 hh => ?_)
        have hS_129 := hS1_.eq (Prod.mk.inj hr_126.1).1
        have hJ_130 := (hJ.eq hr_123).eq hr_126.1
        refine lv_pop C.1 C.2.1 d_Lw_law_772 rfl ?_
        refine lv_goto (tgt := 1010) C.1 C.2.1 d_Lw_law_773 (by decide) ?_
        refine lv_iinc (v := nI (i + 7)) (lv' := [(3, .int (nI (i + 7))), (0, .ref b), (1, .ref B), (2, .ref r)]) C.1 C.2.1 d_Lw_law_1010 hl (k := 3) rfl (gm_inc i 7) (by decide) rfl (fun ls hl => ?_)
        refine lv_goto (tgt := 18) C.1 C.2.1 d_Lw_law_1013 (by decide) ?_
        exact ih (i + 7) I_127 J_128 (by omega) hS_129 hJ_130 (by omega) _ _ _ hh (lv_sub hl [1, 2, 3, 0] rfl)
      by_cases co_16 : x_2 = nI 16
      · -- 16
        refine lv_tableIn (tgt := 776) (off := 743) C.1 C.2.1 d_Lw_law_33 (by rw [co_16]; decide) (by rw [co_16]; decide) (by rw [co_16]; decide +kernel) (by decide) ?_
        refine lv_aload_n C.1 C.2.1 d_Lw_law_776 rfl (lv_at hl 1 rfl) ?_
        refine lv_aload_n C.1 C.2.1 d_Lw_law_777 rfl (lv_at hl 0 rfl) ?_
        refine lv_iload_n C.1 C.2.1 d_Lw_law_778 rfl (lv_at hl 3 rfl) ?_
        refine lv_iconst (v := nI 1) C.1 C.2.1 d_Lw_law_779 rfl ?_
        refine lv_iadd C.1 C.2.1 d_Lw_law_780 ?_
        refine gm_eqi (nI_add _ _) ?_
        refine va_sld C.1 C.2.1 hX hbl hbA hh.2.1 (vp_in_nI (by omega) (by omega)) d_Lw_law_781 ?_
        refine gm_eqi (y := xs (i + 1)) (by rw [nI_clamp (by omega)]) ?_
        refine lv_aload_n C.1 C.2.1 d_Lw_law_782 rfl (lv_at hl 0 rfl) ?_
        refine lv_iload_n C.1 C.2.1 d_Lw_law_783 rfl (lv_at hl 3 rfl) ?_
        refine lv_iconst (v := nI 2) C.1 C.2.1 d_Lw_law_784 rfl ?_
        refine lv_iadd C.1 C.2.1 d_Lw_law_785 ?_
        refine gm_eqi (nI_add _ _) ?_
        refine va_sld C.1 C.2.1 hX hbl hbA hh.2.1 (vp_in_nI (by omega) (by omega)) d_Lw_law_786 ?_
        refine gm_eqi (y := xs (i + 2)) (by rw [nI_clamp (by omega)]) ?_
        refine lv_aload_n C.1 C.2.1 d_Lw_law_787 rfl (lv_at hl 0 rfl) ?_
        refine lv_iload_n C.1 C.2.1 d_Lw_law_788 rfl (lv_at hl 3 rfl) ?_
        refine lv_iconst (v := nI 3) C.1 C.2.1 d_Lw_law_789 rfl ?_
        refine lv_iadd C.1 C.2.1 d_Lw_law_790 ?_
        refine gm_eqi (nI_add _ _) ?_
        refine va_sld C.1 C.2.1 hX hbl hbA hh.2.1 (vp_in_nI (by omega) (by omega)) d_Lw_law_791 ?_
        refine gm_eqi (y := xs (i + 3)) (by rw [nI_clamp (by omega)]) ?_
        refine gc_i hh (gc_runV (As := [.int (xs (i + 1)), .int (xs (i + 2)), .int (xs (i + 3))]) (rest := []) (n := 3) C hml hh (c_FT_put l D cs sh sz I J B hF hS.2.1 n8 en8 hn8 (xs (i + 1)) (xs (i + 2)) (xs (i + 3))) (tg_V tw_491 tw_492 tw_493 tw_57 tw_494) (by decide +kernel) ⟨rfl, rfl, by decide, by decide, Nat.le_of_ble_eq_true rfl, Nat.le_of_ble_eq_true rfl⟩ hF.1 rfl rfl hl.1 rfl (Nat.le_of_ble_eq_true rfl) d_Lw_law_792) (fun r_131 I_132 J_133 H locs hr_131 hh => ?_)
        obtain ⟨hv_, hop_⟩ := op_put hS hn8 en8 hr_131
        refine lv_pop C.1 C.2.1 d_Lw_law_795 rfl ?_
        refine lv_aload_n C.1 C.2.1 d_Lw_law_796 rfl (lv_at hl 2 rfl) ?_
        refine lv_aload_n C.1 C.2.1 d_Lw_law_797 rfl (lv_at hl 0 rfl) ?_
        refine lv_iload_n C.1 C.2.1 d_Lw_law_798 rfl (lv_at hl 3 rfl) ?_
        refine lv_iconst (v := nI 1) C.1 C.2.1 d_Lw_law_799 rfl ?_
        refine lv_iadd C.1 C.2.1 d_Lw_law_800 ?_
        refine gm_eqi (nI_add _ _) ?_
        refine va_sld C.1 C.2.1 hX hbl hbA hh.2.1 (vp_in_nI (by omega) (by omega)) d_Lw_law_801 ?_
        refine gm_eqi (y := xs (i + 1)) (by rw [nI_clamp (by omega)]) ?_
        refine lv_aload_n C.1 C.2.1 d_Lw_law_802 rfl (lv_at hl 0 rfl) ?_
        refine lv_iload_n C.1 C.2.1 d_Lw_law_803 rfl (lv_at hl 3 rfl) ?_
        refine lv_iconst (v := nI 2) C.1 C.2.1 d_Lw_law_804 rfl ?_
        refine lv_iadd C.1 C.2.1 d_Lw_law_805 ?_
        refine gm_eqi (nI_add _ _) ?_
        refine va_sld C.1 C.2.1 hX hbl hbA hh.2.1 (vp_in_nI (by omega) (by omega)) d_Lw_law_806 ?_
        refine gm_eqi (y := xs (i + 2)) (by rw [nI_clamp (by omega)]) ?_
        refine lv_aload_n C.1 C.2.1 d_Lw_law_807 rfl (lv_at hl 0 rfl) ?_
        refine lv_iload_n C.1 C.2.1 d_Lw_law_808 rfl (lv_at hl 3 rfl) ?_
        refine lv_iconst (v := nI 3) C.1 C.2.1 d_Lw_law_809 rfl ?_
        refine lv_iadd C.1 C.2.1 d_Lw_law_810 ?_
        refine gm_eqi (nI_add _ _) ?_
        refine va_sld C.1 C.2.1 hX hbl hbA hh.2.1 (vp_in_nI (by omega) (by omega)) d_Lw_law_811 ?_
        refine gm_eqi (y := xs (i + 3)) (by rw [nI_clamp (by omega)]) ?_
        refine gc_i hh (gc_runV (As := [.int (xs (i + 1)), .int (xs (i + 2)), .int (xs (i + 3))]) (rest := []) (n := 3) C hml hh (c_Md_put l D cs sh sz I_132 J_133 r hM hv_ (xs (i + 1)) (xs (i + 2)) (xs (i + 3))) (tg_V tw_839 tw_840 tw_841 tw_64 tw_842) (by decide +kernel) ⟨rfl, rfl, by decide, by decide, Nat.le_of_ble_eq_true rfl, Nat.le_of_ble_eq_true rfl⟩ (Md_0 hM) rfl rfl hl.1 rfl (Nat.le_of_ble_eq_true rfl) d_Lw_law_812) (fun r_134 I_135 J_136 H locs hr_134 hh => ?_)
        obtain ⟨hS_137, xz_⟩ := hop_ _ _ _ hr_134
        have hJ_138 := sj_put hS hJ hn8 en8 hr_131 hr_134
        refine lv_pop C.1 C.2.1 d_Lw_law_815 rfl ?_
        refine lv_goto (tgt := 1010) C.1 C.2.1 d_Lw_law_816 (by decide) ?_
        refine lv_iinc (v := nI (i + 7)) (lv' := [(3, .int (nI (i + 7))), (0, .ref b), (1, .ref B), (2, .ref r)]) C.1 C.2.1 d_Lw_law_1010 hl (k := 3) rfl (gm_inc i 7) (by decide) rfl (fun ls hl => ?_)
        refine lv_goto (tgt := 18) C.1 C.2.1 d_Lw_law_1013 (by decide) ?_
        exact ih (i + 7) I_135 J_136 (by omega) hS_137 hJ_138 (by omega) _ _ _ hh (lv_sub hl [1, 2, 3, 0] rfl)
      by_cases co_17 : x_2 = nI 17
      · -- 17
        refine lv_tableIn (tgt := 819) (off := 786) C.1 C.2.1 d_Lw_law_33 (by rw [co_17]; decide) (by rw [co_17]; decide) (by rw [co_17]; decide +kernel) (by decide) ?_
        refine lv_aload_n C.1 C.2.1 d_Lw_law_819 rfl (lv_at hl 1 rfl) ?_
        refine lv_aload_n C.1 C.2.1 d_Lw_law_820 rfl (lv_at hl 0 rfl) ?_
        refine lv_iload_n C.1 C.2.1 d_Lw_law_821 rfl (lv_at hl 3 rfl) ?_
        refine lv_iconst (v := nI 1) C.1 C.2.1 d_Lw_law_822 rfl ?_
        refine lv_iadd C.1 C.2.1 d_Lw_law_823 ?_
        refine gm_eqi (nI_add _ _) ?_
        refine va_sld C.1 C.2.1 hX hbl hbA hh.2.1 (vp_in_nI (by omega) (by omega)) d_Lw_law_824 ?_
        refine gm_eqi (y := xs (i + 1)) (by rw [nI_clamp (by omega)]) ?_
        refine lv_aload_n C.1 C.2.1 d_Lw_law_825 rfl (lv_at hl 0 rfl) ?_
        refine lv_iload_n C.1 C.2.1 d_Lw_law_826 rfl (lv_at hl 3 rfl) ?_
        refine lv_iconst (v := nI 2) C.1 C.2.1 d_Lw_law_827 rfl ?_
        refine lv_iadd C.1 C.2.1 d_Lw_law_828 ?_
        refine gm_eqi (nI_add _ _) ?_
        refine va_sld C.1 C.2.1 hX hbl hbA hh.2.1 (vp_in_nI (by omega) (by omega)) d_Lw_law_829 ?_
        refine gm_eqi (y := xs (i + 2)) (by rw [nI_clamp (by omega)]) ?_
        refine gc_l hh (gc_runV (As := [.int (xs (i + 1)), .int (xs (i + 2))]) (rest := []) (n := 2) C hml hh (c_FT_at l D cs sh sz I J B hF hS.2.1 n8 en8 hn8 (xs (i + 1)) (xs (i + 2))) (tg_V tw_496 tw_497 tw_498 tw_57 tw_499) (by decide +kernel) ⟨rfl, rfl, by decide, by decide, Nat.le_of_ble_eq_true rfl, Nat.le_of_ble_eq_true rfl⟩ hF.1 rfl rfl hl.1 rfl (Nat.le_of_ble_eq_true rfl) d_Lw_law_830) (fun r_139 I_140 J_141 H locs hr_139 hh => ?_)
        have hS1_ := hS.eq (Prod.mk.inj hr_139.1).1
        refine lv_pop2_2 C.1 C.2.1 d_Lw_law_833 rfl ?_
        refine lv_aload_n C.1 C.2.1 d_Lw_law_834 rfl (lv_at hl 2 rfl) ?_
        refine lv_aload_n C.1 C.2.1 d_Lw_law_835 rfl (lv_at hl 0 rfl) ?_
        refine lv_iload_n C.1 C.2.1 d_Lw_law_836 rfl (lv_at hl 3 rfl) ?_
        refine lv_iconst (v := nI 1) C.1 C.2.1 d_Lw_law_837 rfl ?_
        refine lv_iadd C.1 C.2.1 d_Lw_law_838 ?_
        refine gm_eqi (nI_add _ _) ?_
        refine va_sld C.1 C.2.1 hX hbl hbA hh.2.1 (vp_in_nI (by omega) (by omega)) d_Lw_law_839 ?_
        refine gm_eqi (y := xs (i + 1)) (by rw [nI_clamp (by omega)]) ?_
        refine lv_aload_n C.1 C.2.1 d_Lw_law_840 rfl (lv_at hl 0 rfl) ?_
        refine lv_iload_n C.1 C.2.1 d_Lw_law_841 rfl (lv_at hl 3 rfl) ?_
        refine lv_iconst (v := nI 2) C.1 C.2.1 d_Lw_law_842 rfl ?_
        refine lv_iadd C.1 C.2.1 d_Lw_law_843 ?_
        refine gm_eqi (nI_add _ _) ?_
        refine va_sld C.1 C.2.1 hX hbl hbA hh.2.1 (vp_in_nI (by omega) (by omega)) d_Lw_law_844 ?_
        refine gm_eqi (y := xs (i + 2)) (by rw [nI_clamp (by omega)]) ?_
        refine gc_l hh (gc_runV (As := [.int (xs (i + 1)), .int (xs (i + 2))]) (rest := []) (n := 2) C hml hh (c_Md_at l D cs sh sz I_140 J_141 r hM hS1_.2.2.1 (xs (i + 1)) (xs (i + 2))) (tg_V tw_845 tw_846 tw_847 tw_64 tw_848) (by decide +kernel) ⟨rfl, rfl, by decide, by decide, Nat.le_of_ble_eq_true rfl, Nat.le_of_ble_eq_true rfl⟩ (Md_0 hM) rfl rfl hl.1 rfl (Nat.le_of_ble_eq_true rfl) d_Lw_law_845) (fun r_142 I_143 J_144 H locs hr_142 hh => ?_)
        have hS_145 := hS1_.eq (Prod.mk.inj hr_142.1).1
        obtain ⟨hJ_146, xz_⟩ := sj_at hS hJ hn8 en8 hr_139 hr_142
        refine lv_pop2_2 C.1 C.2.1 d_Lw_law_848 rfl ?_
        refine lv_goto (tgt := 1010) C.1 C.2.1 d_Lw_law_849 (by decide) ?_
        refine lv_iinc (v := nI (i + 7)) (lv' := [(3, .int (nI (i + 7))), (0, .ref b), (1, .ref B), (2, .ref r)]) C.1 C.2.1 d_Lw_law_1010 hl (k := 3) rfl (gm_inc i 7) (by decide) rfl (fun ls hl => ?_)
        refine lv_goto (tgt := 18) C.1 C.2.1 d_Lw_law_1013 (by decide) ?_
        exact ih (i + 7) I_143 J_144 (by omega) hS_145 hJ_146 (by omega) _ _ _ hh (lv_sub hl [1, 2, 3, 0] rfl)
      by_cases co_18 : x_2 = nI 18
      · -- 18
        refine lv_tableIn (tgt := 852) (off := 819) C.1 C.2.1 d_Lw_law_33 (by rw [co_18]; decide) (by rw [co_18]; decide) (by rw [co_18]; decide +kernel) (by decide) ?_
        refine lv_aload_n C.1 C.2.1 d_Lw_law_852 rfl (lv_at hl 1 rfl) ?_
        refine lv_aload_n C.1 C.2.1 d_Lw_law_853 rfl (lv_at hl 0 rfl) ?_
        refine lv_iload_n C.1 C.2.1 d_Lw_law_854 rfl (lv_at hl 3 rfl) ?_
        refine lv_iconst (v := nI 1) C.1 C.2.1 d_Lw_law_855 rfl ?_
        refine lv_iadd C.1 C.2.1 d_Lw_law_856 ?_
        refine gm_eqi (nI_add _ _) ?_
        refine va_sld C.1 C.2.1 hX hbl hbA hh.2.1 (vp_in_nI (by omega) (by omega)) d_Lw_law_857 ?_
        refine gm_eqi (y := xs (i + 1)) (by rw [nI_clamp (by omega)]) ?_
        refine gc_i hh (gc_runV (As := [.int (xs (i + 1))]) (rest := []) (n := 1) C hml hh (c_FT_open l D cs sh sz I J B hF hS.2.1 n8 en8 hn8 (xs (i + 1))) (tg_V tw_501 tw_502 tw_503 tw_57 tw_504) (by decide +kernel) ⟨rfl, rfl, by decide, by decide, Nat.le_of_ble_eq_true rfl, Nat.le_of_ble_eq_true rfl⟩ hF.1 rfl rfl hl.1 rfl (Nat.le_of_ble_eq_true rfl) d_Lw_law_858) (fun r_147 I_148 J_149 H locs hr_147 hh => ?_)
        have hS1_ := hS.eq (Prod.mk.inj hr_147.1).1
        refine lv_pop C.1 C.2.1 d_Lw_law_861 rfl ?_
        refine lv_aload_n C.1 C.2.1 d_Lw_law_862 rfl (lv_at hl 2 rfl) ?_
        refine lv_aload_n C.1 C.2.1 d_Lw_law_863 rfl (lv_at hl 0 rfl) ?_
        refine lv_iload_n C.1 C.2.1 d_Lw_law_864 rfl (lv_at hl 3 rfl) ?_
        refine lv_iconst (v := nI 1) C.1 C.2.1 d_Lw_law_865 rfl ?_
        refine lv_iadd C.1 C.2.1 d_Lw_law_866 ?_
        refine gm_eqi (nI_add _ _) ?_
        refine va_sld C.1 C.2.1 hX hbl hbA hh.2.1 (vp_in_nI (by omega) (by omega)) d_Lw_law_867 ?_
        refine gm_eqi (y := xs (i + 1)) (by rw [nI_clamp (by omega)]) ?_
        refine gc_i hh (gc_runV (As := [.int (xs (i + 1))]) (rest := []) (n := 1) C hml hh (c_Md_open l D cs sh sz I_148 J_149 r hM hS1_.2.2.1 (xs (i + 1))) (tg_V tw_850 tw_851 tw_852 tw_64 tw_853) (by decide +kernel) ⟨rfl, rfl, by decide, by decide, Nat.le_of_ble_eq_true rfl, Nat.le_of_ble_eq_true rfl⟩ (Md_0 hM) rfl rfl hl.1 rfl (Nat.le_of_ble_eq_true rfl) d_Lw_law_868) (fun r_150 I_151 J_152 H locs hr_150 hh => ?_)
        have hS_153 := hS1_.eq (m_open hr_150)
        obtain ⟨hJ_154, xz_⟩ := sj_open hS hJ hn8 en8 hr_147 hr_150
        refine lv_pop C.1 C.2.1 d_Lw_law_871 rfl ?_
        refine lv_goto (tgt := 1010) C.1 C.2.1 d_Lw_law_872 (by decide) ?_
        refine lv_iinc (v := nI (i + 7)) (lv' := [(3, .int (nI (i + 7))), (0, .ref b), (1, .ref B), (2, .ref r)]) C.1 C.2.1 d_Lw_law_1010 hl (k := 3) rfl (gm_inc i 7) (by decide) rfl (fun ls hl => ?_)
        refine lv_goto (tgt := 18) C.1 C.2.1 d_Lw_law_1013 (by decide) ?_
        exact ih (i + 7) I_151 J_152 (by omega) hS_153 hJ_154 (by omega) _ _ _ hh (lv_sub hl [1, 2, 3, 0] rfl)
      by_cases co_19 : x_2 = nI 19
      · -- 19
        refine lv_tableIn (tgt := 875) (off := 842) C.1 C.2.1 d_Lw_law_33 (by rw [co_19]; decide) (by rw [co_19]; decide) (by rw [co_19]; decide +kernel) (by decide) ?_
        refine lv_aload_n C.1 C.2.1 d_Lw_law_875 rfl (lv_at hl 1 rfl) ?_
        refine lv_aload_n C.1 C.2.1 d_Lw_law_876 rfl (lv_at hl 0 rfl) ?_
        refine lv_iload_n C.1 C.2.1 d_Lw_law_877 rfl (lv_at hl 3 rfl) ?_
        refine lv_iconst (v := nI 1) C.1 C.2.1 d_Lw_law_878 rfl ?_
        refine lv_iadd C.1 C.2.1 d_Lw_law_879 ?_
        refine gm_eqi (nI_add _ _) ?_
        refine va_sld C.1 C.2.1 hX hbl hbA hh.2.1 (vp_in_nI (by omega) (by omega)) d_Lw_law_880 ?_
        refine gm_eqi (y := xs (i + 1)) (by rw [nI_clamp (by omega)]) ?_
        refine gc_i hh (gc_runV (As := [.int (xs (i + 1))]) (rest := []) (n := 1) C hml hh (c_FT_step l D cs sh sz I J B hF hS.2.1 n8 en8 hn8 (xs (i + 1))) (tg_V tw_513 tw_514 tw_515 tw_57 tw_516) (by decide +kernel) ⟨rfl, rfl, by decide, by decide, Nat.le_of_ble_eq_true rfl, Nat.le_of_ble_eq_true rfl⟩ hF.1 rfl rfl hl.1 rfl (Nat.le_of_ble_eq_true rfl) d_Lw_law_881) (fun r_155 I_156 J_157 H locs hr_155 hh => ?_)
        have hS1_ := hS.eq (i_step hr_155)
        refine lv_pop C.1 C.2.1 d_Lw_law_884 rfl ?_
        refine lv_aload_n C.1 C.2.1 d_Lw_law_885 rfl (lv_at hl 2 rfl) ?_
        refine lv_aload_n C.1 C.2.1 d_Lw_law_886 rfl (lv_at hl 0 rfl) ?_
        refine lv_iload_n C.1 C.2.1 d_Lw_law_887 rfl (lv_at hl 3 rfl) ?_
        refine lv_iconst (v := nI 1) C.1 C.2.1 d_Lw_law_888 rfl ?_
        refine lv_iadd C.1 C.2.1 d_Lw_law_889 ?_
        refine gm_eqi (nI_add _ _) ?_
        refine va_sld C.1 C.2.1 hX hbl hbA hh.2.1 (vp_in_nI (by omega) (by omega)) d_Lw_law_890 ?_
        refine gm_eqi (y := xs (i + 1)) (by rw [nI_clamp (by omega)]) ?_
        refine gc_i hh (gc_runV (As := [.int (xs (i + 1))]) (rest := []) (n := 1) C hml hh (c_Md_step l D cs sh sz I_156 J_157 r hM hS1_.2.2.1 (xs (i + 1))) (tg_V tw_866 tw_867 tw_868 tw_64 tw_869) (by decide +kernel) ⟨rfl, rfl, by decide, by decide, Nat.le_of_ble_eq_true rfl, Nat.le_of_ble_eq_true rfl⟩ (Md_0 hM) rfl rfl hl.1 rfl (Nat.le_of_ble_eq_true rfl) d_Lw_law_891) (fun r_158 I_159 J_160 H locs hr_158 hh => ?_)
        have hS_161 := hS1_.eq (m_step hr_158)
        obtain ⟨hJ_162, xz_⟩ := sj_step hS hJ hn8 en8 hr_155 hr_158
        refine lv_pop C.1 C.2.1 d_Lw_law_894 rfl ?_
        refine lv_goto (tgt := 1010) C.1 C.2.1 d_Lw_law_895 (by decide) ?_
        refine lv_iinc (v := nI (i + 7)) (lv' := [(3, .int (nI (i + 7))), (0, .ref b), (1, .ref B), (2, .ref r)]) C.1 C.2.1 d_Lw_law_1010 hl (k := 3) rfl (gm_inc i 7) (by decide) rfl (fun ls hl => ?_)
        refine lv_goto (tgt := 18) C.1 C.2.1 d_Lw_law_1013 (by decide) ?_
        exact ih (i + 7) I_159 J_160 (by omega) hS_161 hJ_162 (by omega) _ _ _ hh (lv_sub hl [1, 2, 3, 0] rfl)
      by_cases co_20 : x_2 = nI 20
      · -- 20
        refine lv_tableIn (tgt := 898) (off := 865) C.1 C.2.1 d_Lw_law_33 (by rw [co_20]; decide) (by rw [co_20]; decide) (by rw [co_20]; decide +kernel) (by decide) ?_
        refine lv_aload_n C.1 C.2.1 d_Lw_law_898 rfl (lv_at hl 1 rfl) ?_
        refine lv_aload_n C.1 C.2.1 d_Lw_law_899 rfl (lv_at hl 0 rfl) ?_
        refine lv_iload_n C.1 C.2.1 d_Lw_law_900 rfl (lv_at hl 3 rfl) ?_
        refine lv_iconst (v := nI 1) C.1 C.2.1 d_Lw_law_901 rfl ?_
        refine lv_iadd C.1 C.2.1 d_Lw_law_902 ?_
        refine gm_eqi (nI_add _ _) ?_
        refine va_sld C.1 C.2.1 hX hbl hbA hh.2.1 (vp_in_nI (by omega) (by omega)) d_Lw_law_903 ?_
        refine gm_eqi (y := xs (i + 1)) (by rw [nI_clamp (by omega)]) ?_
        refine lv_aload_n C.1 C.2.1 d_Lw_law_904 rfl (lv_at hl 0 rfl) ?_
        refine lv_iload_n C.1 C.2.1 d_Lw_law_905 rfl (lv_at hl 3 rfl) ?_
        refine lv_iconst (v := nI 2) C.1 C.2.1 d_Lw_law_906 rfl ?_
        refine lv_iadd C.1 C.2.1 d_Lw_law_907 ?_
        refine gm_eqi (nI_add _ _) ?_
        refine va_sld C.1 C.2.1 hX hbl hbA hh.2.1 (vp_in_nI (by omega) (by omega)) d_Lw_law_908 ?_
        refine gm_eqi (y := xs (i + 2)) (by rw [nI_clamp (by omega)]) ?_
        refine gc_i hh (gc_runV (As := [.int (xs (i + 1)), .int (xs (i + 2))]) (rest := []) (n := 2) C hml hh (c_FT_go l D cs sh sz I J B hF hS.2.1 n8 en8 hn8 (xs (i + 1)) (xs (i + 2))) (tg_V tw_534 tw_535 tw_536 tw_57 tw_537) (by decide +kernel) ⟨rfl, rfl, by decide, by decide, Nat.le_of_ble_eq_true rfl, Nat.le_of_ble_eq_true rfl⟩ hF.1 rfl rfl hl.1 rfl (Nat.le_of_ble_eq_true rfl) d_Lw_law_909) (fun r_163 I_164 J_165 H locs hr_163 hh => ?_)
        have hS1_ := hS.eq (i_go hr_163)
        refine lv_pop C.1 C.2.1 d_Lw_law_912 rfl ?_
        refine lv_aload_n C.1 C.2.1 d_Lw_law_913 rfl (lv_at hl 2 rfl) ?_
        refine lv_aload_n C.1 C.2.1 d_Lw_law_914 rfl (lv_at hl 0 rfl) ?_
        refine lv_iload_n C.1 C.2.1 d_Lw_law_915 rfl (lv_at hl 3 rfl) ?_
        refine lv_iconst (v := nI 1) C.1 C.2.1 d_Lw_law_916 rfl ?_
        refine lv_iadd C.1 C.2.1 d_Lw_law_917 ?_
        refine gm_eqi (nI_add _ _) ?_
        refine va_sld C.1 C.2.1 hX hbl hbA hh.2.1 (vp_in_nI (by omega) (by omega)) d_Lw_law_918 ?_
        refine gm_eqi (y := xs (i + 1)) (by rw [nI_clamp (by omega)]) ?_
        refine lv_aload_n C.1 C.2.1 d_Lw_law_919 rfl (lv_at hl 0 rfl) ?_
        refine lv_iload_n C.1 C.2.1 d_Lw_law_920 rfl (lv_at hl 3 rfl) ?_
        refine lv_iconst (v := nI 2) C.1 C.2.1 d_Lw_law_921 rfl ?_
        refine lv_iadd C.1 C.2.1 d_Lw_law_922 ?_
        refine gm_eqi (nI_add _ _) ?_
        refine va_sld C.1 C.2.1 hX hbl hbA hh.2.1 (vp_in_nI (by omega) (by omega)) d_Lw_law_923 ?_
        refine gm_eqi (y := xs (i + 2)) (by rw [nI_clamp (by omega)]) ?_
        refine gc_i hh (gc_runV (As := [.int (xs (i + 1)), .int (xs (i + 2))]) (rest := []) (n := 2) C hml hh (c_Md_go l D cs sh sz I_164 J_165 r hM hS1_.2.2.1 (xs (i + 1)) (xs (i + 2))) (tg_V tw_891 tw_892 tw_893 tw_64 tw_894) (by decide +kernel) ⟨rfl, rfl, by decide, by decide, Nat.le_of_ble_eq_true rfl, Nat.le_of_ble_eq_true rfl⟩ (Md_0 hM) rfl rfl hl.1 rfl (Nat.le_of_ble_eq_true rfl) d_Lw_law_924) (fun r_166 I_167 J_168 H locs hr_166 hh => ?_)
        have hS_169 := hS1_.eq (m_go hr_166)
        obtain ⟨hJ_170, xz_⟩ := sj_go hS hJ hn8 en8 hr_163 hr_166
        refine lv_pop C.1 C.2.1 d_Lw_law_927 rfl ?_
        refine lv_goto (tgt := 1010) C.1 C.2.1 d_Lw_law_928 (by decide) ?_
        refine lv_iinc (v := nI (i + 7)) (lv' := [(3, .int (nI (i + 7))), (0, .ref b), (1, .ref B), (2, .ref r)]) C.1 C.2.1 d_Lw_law_1010 hl (k := 3) rfl (gm_inc i 7) (by decide) rfl (fun ls hl => ?_)
        refine lv_goto (tgt := 18) C.1 C.2.1 d_Lw_law_1013 (by decide) ?_
        exact ih (i + 7) I_167 J_168 (by omega) hS_169 hJ_170 (by omega) _ _ _ hh (lv_sub hl [1, 2, 3, 0] rfl)
      by_cases co_21 : x_2 = nI 21
      · -- 21
        refine lv_tableIn (tgt := 931) (off := 898) C.1 C.2.1 d_Lw_law_33 (by rw [co_21]; decide) (by rw [co_21]; decide) (by rw [co_21]; decide +kernel) (by decide) ?_
        refine lv_aload_n C.1 C.2.1 d_Lw_law_931 rfl (lv_at hl 1 rfl) ?_
        refine lv_aload_n C.1 C.2.1 d_Lw_law_932 rfl (lv_at hl 0 rfl) ?_
        refine lv_iload_n C.1 C.2.1 d_Lw_law_933 rfl (lv_at hl 3 rfl) ?_
        refine lv_iconst (v := nI 1) C.1 C.2.1 d_Lw_law_934 rfl ?_
        refine lv_iadd C.1 C.2.1 d_Lw_law_935 ?_
        refine gm_eqi (nI_add _ _) ?_
        refine va_sld C.1 C.2.1 hX hbl hbA hh.2.1 (vp_in_nI (by omega) (by omega)) d_Lw_law_936 ?_
        refine gm_eqi (y := xs (i + 1)) (by rw [nI_clamp (by omega)]) ?_
        refine lv_aload_n C.1 C.2.1 d_Lw_law_937 rfl (lv_at hl 0 rfl) ?_
        refine lv_iload_n C.1 C.2.1 d_Lw_law_938 rfl (lv_at hl 3 rfl) ?_
        refine lv_iconst (v := nI 2) C.1 C.2.1 d_Lw_law_939 rfl ?_
        refine lv_iadd C.1 C.2.1 d_Lw_law_940 ?_
        refine gm_eqi (nI_add _ _) ?_
        refine va_sld C.1 C.2.1 hX hbl hbA hh.2.1 (vp_in_nI (by omega) (by omega)) d_Lw_law_941 ?_
        refine gm_eqi (y := xs (i + 2)) (by rw [nI_clamp (by omega)]) ?_
        refine gc_i hh (gc_runV (As := [.int (xs (i + 1)), .int (xs (i + 2))]) (rest := []) (n := 2) C hml hh (c_FT_walkF l D cs sh sz I J B hF hS.2.1 n8 en8 hn8 (xs (i + 1)) (xs (i + 2))) (tg_V tw_539 tw_540 tw_541 tw_57 tw_542) (by decide +kernel) ⟨rfl, rfl, by decide, by decide, Nat.le_of_ble_eq_true rfl, Nat.le_of_ble_eq_true rfl⟩ hF.1 rfl rfl hl.1 rfl (Nat.le_of_ble_eq_true rfl) d_Lw_law_942) (fun r_171 I_172 J_173 H locs hr_171 hh => ?_)
        have hS1_ := hS.eq (i_walkF hr_171)
        refine lv_pop C.1 C.2.1 d_Lw_law_945 rfl ?_
        refine lv_aload_n C.1 C.2.1 d_Lw_law_946 rfl (lv_at hl 2 rfl) ?_
        refine lv_aload_n C.1 C.2.1 d_Lw_law_947 rfl (lv_at hl 0 rfl) ?_
        refine lv_iload_n C.1 C.2.1 d_Lw_law_948 rfl (lv_at hl 3 rfl) ?_
        refine lv_iconst (v := nI 1) C.1 C.2.1 d_Lw_law_949 rfl ?_
        refine lv_iadd C.1 C.2.1 d_Lw_law_950 ?_
        refine gm_eqi (nI_add _ _) ?_
        refine va_sld C.1 C.2.1 hX hbl hbA hh.2.1 (vp_in_nI (by omega) (by omega)) d_Lw_law_951 ?_
        refine gm_eqi (y := xs (i + 1)) (by rw [nI_clamp (by omega)]) ?_
        refine lv_aload_n C.1 C.2.1 d_Lw_law_952 rfl (lv_at hl 0 rfl) ?_
        refine lv_iload_n C.1 C.2.1 d_Lw_law_953 rfl (lv_at hl 3 rfl) ?_
        refine lv_iconst (v := nI 2) C.1 C.2.1 d_Lw_law_954 rfl ?_
        refine lv_iadd C.1 C.2.1 d_Lw_law_955 ?_
        refine gm_eqi (nI_add _ _) ?_
        refine va_sld C.1 C.2.1 hX hbl hbA hh.2.1 (vp_in_nI (by omega) (by omega)) d_Lw_law_956 ?_
        refine gm_eqi (y := xs (i + 2)) (by rw [nI_clamp (by omega)]) ?_
        refine gc_i hh (gc_runV (As := [.int (xs (i + 1)), .int (xs (i + 2))]) (rest := []) (n := 2) C hml hh (c_Md_walk l D cs sh sz I_172 J_173 r hM hS1_.2.2.1 (xs (i + 1)) (xs (i + 2))) (tg_V tw_895 tw_896 tw_897 tw_64 tw_898) (by decide +kernel) ⟨rfl, rfl, by decide, by decide, Nat.le_of_ble_eq_true rfl, Nat.le_of_ble_eq_true rfl⟩ (Md_0 hM) rfl rfl hl.1 rfl (Nat.le_of_ble_eq_true rfl) d_Lw_law_957) (fun r_174 I_175 J_176 H locs hr_174 hh => ?_)
        have hS_177 := hS1_.eq (m_walk hr_174)
        obtain ⟨hJ_178, xz_⟩ := sj_walk hS hJ hn8 en8 hr_171 hr_174
        refine lv_pop C.1 C.2.1 d_Lw_law_960 rfl ?_
        refine lv_goto (tgt := 1010) C.1 C.2.1 d_Lw_law_961 (by decide) ?_
        refine lv_iinc (v := nI (i + 7)) (lv' := [(3, .int (nI (i + 7))), (0, .ref b), (1, .ref B), (2, .ref r)]) C.1 C.2.1 d_Lw_law_1010 hl (k := 3) rfl (gm_inc i 7) (by decide) rfl (fun ls hl => ?_)
        refine lv_goto (tgt := 18) C.1 C.2.1 d_Lw_law_1013 (by decide) ?_
        exact ih (i + 7) I_175 J_176 (by omega) hS_177 hJ_178 (by omega) _ _ _ hh (lv_sub hl [1, 2, 3, 0] rfl)
      by_cases co_22 : x_2 = nI 22
      · -- 22
        refine lv_tableIn (tgt := 964) (off := 931) C.1 C.2.1 d_Lw_law_33 (by rw [co_22]; decide) (by rw [co_22]; decide) (by rw [co_22]; decide +kernel) (by decide) ?_
        refine lv_aload_n C.1 C.2.1 d_Lw_law_964 rfl (lv_at hl 1 rfl) ?_
        refine lv_aload_n C.1 C.2.1 d_Lw_law_965 rfl (lv_at hl 0 rfl) ?_
        refine lv_iload_n C.1 C.2.1 d_Lw_law_966 rfl (lv_at hl 3 rfl) ?_
        refine lv_iconst (v := nI 1) C.1 C.2.1 d_Lw_law_967 rfl ?_
        refine lv_iadd C.1 C.2.1 d_Lw_law_968 ?_
        refine gm_eqi (nI_add _ _) ?_
        refine va_sld C.1 C.2.1 hX hbl hbA hh.2.1 (vp_in_nI (by omega) (by omega)) d_Lw_law_969 ?_
        refine gm_eqi (y := xs (i + 1)) (by rw [nI_clamp (by omega)]) ?_
        refine lv_aload_n C.1 C.2.1 d_Lw_law_970 rfl (lv_at hl 0 rfl) ?_
        refine lv_iload_n C.1 C.2.1 d_Lw_law_971 rfl (lv_at hl 3 rfl) ?_
        refine lv_iconst (v := nI 2) C.1 C.2.1 d_Lw_law_972 rfl ?_
        refine lv_iadd C.1 C.2.1 d_Lw_law_973 ?_
        refine gm_eqi (nI_add _ _) ?_
        refine va_sld C.1 C.2.1 hX hbl hbA hh.2.1 (vp_in_nI (by omega) (by omega)) d_Lw_law_974 ?_
        refine gm_eqi (y := xs (i + 2)) (by rw [nI_clamp (by omega)]) ?_
        refine gc_i hh (gc_runV (As := [.int (xs (i + 1)), .int (xs (i + 2))]) (rest := []) (n := 2) C hml hh (c_FT_ringF l D cs sh sz I J B hF hS.2.1 n8 en8 hn8 (xs (i + 1)) (xs (i + 2))) (tg_V tw_543 tw_544 tw_545 tw_57 tw_546) (by decide +kernel) ⟨rfl, rfl, by decide, by decide, Nat.le_of_ble_eq_true rfl, Nat.le_of_ble_eq_true rfl⟩ hF.1 rfl rfl hl.1 rfl (Nat.le_of_ble_eq_true rfl) d_Lw_law_975) (fun r_179 I_180 J_181 H locs hr_179 hh => ?_)
        have hS1_ := hS.eq (i_ringF hr_179)
        refine lv_aload_n C.1 C.2.1 d_Lw_law_978 rfl (lv_at hl 2 rfl) ?_
        refine lv_aload_n C.1 C.2.1 d_Lw_law_979 rfl (lv_at hl 0 rfl) ?_
        refine lv_iload_n C.1 C.2.1 d_Lw_law_980 rfl (lv_at hl 3 rfl) ?_
        refine lv_iconst (v := nI 1) C.1 C.2.1 d_Lw_law_981 rfl ?_
        refine lv_iadd C.1 C.2.1 d_Lw_law_982 ?_
        refine gm_eqi (nI_add _ _) ?_
        refine va_sld C.1 C.2.1 hX hbl hbA hh.2.1 (vp_in_nI (by omega) (by omega)) d_Lw_law_983 ?_
        refine gm_eqi (y := xs (i + 1)) (by rw [nI_clamp (by omega)]) ?_
        refine lv_aload_n C.1 C.2.1 d_Lw_law_984 rfl (lv_at hl 0 rfl) ?_
        refine lv_iload_n C.1 C.2.1 d_Lw_law_985 rfl (lv_at hl 3 rfl) ?_
        refine lv_iconst (v := nI 2) C.1 C.2.1 d_Lw_law_986 rfl ?_
        refine lv_iadd C.1 C.2.1 d_Lw_law_987 ?_
        refine gm_eqi (nI_add _ _) ?_
        refine va_sld C.1 C.2.1 hX hbl hbA hh.2.1 (vp_in_nI (by omega) (by omega)) d_Lw_law_988 ?_
        refine gm_eqi (y := xs (i + 2)) (by rw [nI_clamp (by omega)]) ?_
        refine gc_i hh (gc_runV (As := [.int (xs (i + 1)), .int (xs (i + 2))]) (rest := [.int r_179]) (n := 2) C hml hh (c_Md_ring l D cs sh sz I_180 J_181 r hM hS1_.2.2.1 (xs (i + 1)) (xs (i + 2))) (tg_V tw_899 tw_900 tw_901 tw_64 tw_902) (by decide +kernel) ⟨rfl, rfl, by decide, by decide, Nat.le_of_ble_eq_true rfl, Nat.le_of_ble_eq_true rfl⟩ (Md_0 hM) rfl rfl hl.1 rfl (Nat.le_of_ble_eq_true rfl) d_Lw_law_989) (fun r_182 I_183 J_184 H locs hr_182 hh => ?_)
        have hS_185 := hS1_.eq (m_ring hr_182)
        obtain ⟨hJ_186, xz_⟩ := sj_ring hS hJ hn8 en8 hr_179 hr_182
        refine lv_icmp_eq (tgt := 1010) C.1 C.2.1 d_Lw_law_992 (by decide) (fun c_ => ?_) (fun c_ => absurd xz_ c_)
        refine lv_iinc (v := nI (i + 7)) (lv' := [(3, .int (nI (i + 7))), (0, .ref b), (1, .ref B), (2, .ref r)]) C.1 C.2.1 d_Lw_law_1010 hl (k := 3) rfl (gm_inc i 7) (by decide) rfl (fun ls hl => ?_)
        refine lv_goto (tgt := 18) C.1 C.2.1 d_Lw_law_1013 (by decide) ?_
        exact ih (i + 7) I_183 J_184 (by omega) hS_185 hJ_186 (by omega) _ _ _ hh (lv_sub hl [1, 2, 3, 0] rfl)
      by_cases co_23 : x_2 = nI 23
      · -- 23
        refine lv_tableIn (tgt := 997) (off := 964) C.1 C.2.1 d_Lw_law_33 (by rw [co_23]; decide) (by rw [co_23]; decide) (by rw [co_23]; decide +kernel) (by decide) ?_
        refine lv_aload_n C.1 C.2.1 d_Lw_law_997 rfl (lv_at hl 1 rfl) ?_
        refine gc_i hh (gc_runV (As := []) (rest := []) (n := 0) C hml hh (c_FT_loops l D cs sh sz I J B hF) (tg_V tw_555 tw_556 tw_557 tw_57 tw_558) (by decide +kernel) ⟨rfl, rfl, by decide, by decide, Nat.le_of_ble_eq_true rfl, Nat.le_of_ble_eq_true rfl⟩ hF.1 rfl rfl hl.1 rfl (Nat.le_of_ble_eq_true rfl) d_Lw_law_998) (fun r_187 I_188 J_189 H locs hr_187 hh => ?_)
        have hS1_ := hS.eq (Prod.mk.inj hr_187.1).1
        refine lv_pop C.1 C.2.1 d_Lw_law_1001 rfl ?_
        refine lv_aload_n C.1 C.2.1 d_Lw_law_1002 rfl (lv_at hl 2 rfl) ?_
        refine gc_i hh (gc_runV (As := []) (rest := []) (n := 0) C hml hh (c_Md_loops l D cs sh sz I_188 J_189 r hM hS1_.2.2.1 ) (tg_V tw_907 tw_908 tw_909 tw_64 tw_910) (by decide +kernel) ⟨rfl, rfl, by decide, by decide, Nat.le_of_ble_eq_true rfl, Nat.le_of_ble_eq_true rfl⟩ (Md_0 hM) rfl rfl hl.1 rfl (Nat.le_of_ble_eq_true rfl) d_Lw_law_1003) (fun r_190 I_191 J_192 H locs hr_190 hh => ?_)
        have hS_193 := hS1_.eq (Prod.mk.inj hr_190.1).1
        have xz_ : r_187 = r_190 := by rw [hr_187.2, hr_190.2, (Prod.mk.inj hr_187.1).1]; exact hS.2.2.2.2.1
        have hJ_194 := (hJ.eq hr_187.1).eq hr_190.1
        refine lv_pop C.1 C.2.1 d_Lw_law_1006 rfl ?_
        refine lv_goto (tgt := 1010) C.1 C.2.1 d_Lw_law_1007 (by decide) ?_
        refine lv_iinc (v := nI (i + 7)) (lv' := [(3, .int (nI (i + 7))), (0, .ref b), (1, .ref B), (2, .ref r)]) C.1 C.2.1 d_Lw_law_1010 hl (k := 3) rfl (gm_inc i 7) (by decide) rfl (fun ls hl => ?_)
        refine lv_goto (tgt := 18) C.1 C.2.1 d_Lw_law_1013 (by decide) ?_
        exact ih (i + 7) I_191 J_192 (by omega) hS_193 hJ_194 (by omega) _ _ _ hh (lv_sub hl [1, 2, 3, 0] rfl)
      refine lv_tableOut (tgt := 1010) C.1 C.2.1 d_Lw_law_33 (sw24 (fun k hk => by rcases (show k = 0 ∨ k = 1 ∨ k = 2 ∨ k = 3 ∨ k = 4 ∨ k = 5 ∨ k = 6 ∨ k = 7 ∨ k = 8 ∨ k = 9 ∨ k = 10 ∨ k = 11 ∨ k = 12 ∨ k = 13 ∨ k = 14 ∨ k = 15 ∨ k = 16 ∨ k = 17 ∨ k = 18 ∨ k = 19 ∨ k = 20 ∨ k = 21 ∨ k = 22 ∨ k = 23 by omega) with rfl | rfl | rfl | rfl | rfl | rfl | rfl | rfl | rfl | rfl | rfl | rfl | rfl | rfl | rfl | rfl | rfl | rfl | rfl | rfl | rfl | rfl | rfl | rfl <;> assumption)) (by decide) ?_
      refine lv_iinc (v := nI (i + 7)) (lv' := [(3, .int (nI (i + 7))), (0, .ref b), (1, .ref B), (2, .ref r)]) C.1 C.2.1 d_Lw_law_1010 hl (k := 3) rfl (gm_inc i 7) (by decide) rfl (fun ls hl => ?_)
      refine lv_goto (tgt := 18) C.1 C.2.1 d_Lw_law_1013 (by decide) ?_
      exact ih (i + 7) I J (by omega) hS hJ (by omega) _ _ _ hh (lv_sub hl [1, 2, 3, 0] rfl)
