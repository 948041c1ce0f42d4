theorem wd_263 : Cond.fieldLink RJ0 38 "java/lang/String" "COMPACT_STRINGS" "Z" ∈ am_TB := List.mem_filter.mpr ⟨List.mem_of_getElem? (i := 263) (by decide +kernel), by decide +kernel⟩
theorem wd_2358 : Cond.fieldLink RJ0 15 "java/lang/String" "coder" "B" ∈ am_TB := List.mem_filter.mpr ⟨List.mem_of_getElem? (i := 2358) (by decide +kernel), by decide +kernel⟩
theorem wd_2357 : Cond.fieldLink RJ0 9 "java/lang/String" "value" "[B" ∈ am_TB := List.mem_filter.mpr ⟨List.mem_of_getElem? (i := 2357) (by decide +kernel), by decide +kernel⟩
theorem wd_259 : Cond.methodLink RJ0 335 yJ0_coder_7d493 ∈ am_TB := List.mem_filter.mpr ⟨List.mem_of_getElem? (i := 259) (by decide +kernel), by decide +kernel⟩
theorem wd_221 : Cond.initialized RJ0 ∈ am_TB := List.mem_filter.mpr ⟨List.mem_of_getElem? (i := 221) (by decide +kernel), by decide +kernel⟩
theorem wd_262 : Cond.code yJ0_coder_7d493 cJ0_coder_7d493 1 (some .byte) ∈ am_TB := List.mem_filter.mpr ⟨List.mem_of_getElem? (i := 262) (by decide +kernel), by decide +kernel⟩
theorem yy_J0_coder_7d493 : am_Y yJ0_coder_7d493 cJ0_coder_7d493 1 (some .byte) 0 := ⟨wd_262, wd_221, by decide +kernel, by decide +kernel, by decide⟩
theorem wd_260 : Cond.instanceMethod yJ0_coder_7d493 ∈ am_TB := List.mem_filter.mpr ⟨List.mem_of_getElem? (i := 260) (by decide +kernel), by decide +kernel⟩
theorem wd_261 : Cond.selects "java/lang/String" yJ0_coder_7d493 yJ0_coder_7d493 ∈ am_TB := List.mem_filter.mpr ⟨List.mem_of_getElem? (i := 261) (by decide +kernel), by decide +kernel⟩
theorem wd_279 : Cond.fieldLink RJ0 1053 "jdk/internal/util/Preconditions" "SIOOBE_FORMATTER" "Ljava/util/function/BiFunction;" ∈ am_TB := List.mem_filter.mpr ⟨List.mem_of_getElem? (i := 279) (by decide +kernel), by decide +kernel⟩
theorem wd_281 : Cond.methodLink RJ0 1059 yJ3_checkIndex_8e157 ∈ am_TB := List.mem_filter.mpr ⟨List.mem_of_getElem? (i := 281) (by decide +kernel), by decide +kernel⟩
theorem wd_223 : Cond.initialized RJ3 ∈ am_TB := List.mem_filter.mpr ⟨List.mem_of_getElem? (i := 223) (by decide +kernel), by decide +kernel⟩
theorem wd_283 : Cond.code yJ3_checkIndex_8e157 cJ3_checkIndex_8e157 3 (some .int) ∈ am_TB := List.mem_filter.mpr ⟨List.mem_of_getElem? (i := 283) (by decide +kernel), by decide +kernel⟩
theorem yy_J3_checkIndex_8e157 : am_Y yJ3_checkIndex_8e157 cJ3_checkIndex_8e157 3 (some .int) 3 := ⟨wd_283, wd_223, by decide +kernel, by decide +kernel, by decide⟩
theorem wd_282 : Cond.static yJ3_checkIndex_8e157 ∈ am_TB := List.mem_filter.mpr ⟨List.mem_of_getElem? (i := 282) (by decide +kernel), by decide +kernel⟩
theorem wd_276 : Cond.methodLink RJ1 9 yJ0_checkIndex_df160 ∈ am_TB := List.mem_filter.mpr ⟨List.mem_of_getElem? (i := 276) (by decide +kernel), by decide +kernel⟩
theorem wd_278 : Cond.code yJ0_checkIndex_df160 cJ0_checkIndex_df160 2 none ∈ am_TB := List.mem_filter.mpr ⟨List.mem_of_getElem? (i := 278) (by decide +kernel), by decide +kernel⟩
theorem yy_J0_checkIndex_df160 : am_Y yJ0_checkIndex_df160 cJ0_checkIndex_df160 2 none 2 := ⟨wd_278, wd_221, by decide +kernel, by decide +kernel, by decide⟩
theorem wd_277 : Cond.static yJ0_checkIndex_df160 ∈ am_TB := List.mem_filter.mpr ⟨List.mem_of_getElem? (i := 277) (by decide +kernel), by decide +kernel⟩
theorem wd_269 : Cond.methodLink RJ0 492 yJ0_isLatin1_aae02 ∈ am_TB := List.mem_filter.mpr ⟨List.mem_of_getElem? (i := 269) (by decide +kernel), by decide +kernel⟩
theorem wd_272 : Cond.code yJ0_isLatin1_aae02 cJ0_isLatin1_aae02 1 (some .boolean) ∈ am_TB := List.mem_filter.mpr ⟨List.mem_of_getElem? (i := 272) (by decide +kernel), by decide +kernel⟩
theorem yy_J0_isLatin1_aae02 : am_Y yJ0_isLatin1_aae02 cJ0_isLatin1_aae02 1 (some .boolean) 0 := ⟨wd_272, wd_221, by decide +kernel, by decide +kernel, by decide⟩
theorem wd_270 : Cond.instanceMethod yJ0_isLatin1_aae02 ∈ am_TB := List.mem_filter.mpr ⟨List.mem_of_getElem? (i := 270) (by decide +kernel), by decide +kernel⟩
theorem wd_271 : Cond.selects "java/lang/String" yJ0_isLatin1_aae02 yJ0_isLatin1_aae02 ∈ am_TB := List.mem_filter.mpr ⟨List.mem_of_getElem? (i := 271) (by decide +kernel), by decide +kernel⟩
theorem wd_273 : Cond.methodLink RJ0 495 yJ1_charAt_3b067 ∈ am_TB := List.mem_filter.mpr ⟨List.mem_of_getElem? (i := 273) (by decide +kernel), by decide +kernel⟩
theorem wd_222 : Cond.initialized RJ1 ∈ am_TB := List.mem_filter.mpr ⟨List.mem_of_getElem? (i := 222) (by decide +kernel), by decide +kernel⟩
theorem wd_275 : Cond.code yJ1_charAt_3b067 cJ1_charAt_3b067 2 (some .char) ∈ am_TB := List.mem_filter.mpr ⟨List.mem_of_getElem? (i := 275) (by decide +kernel), by decide +kernel⟩
theorem yy_J1_charAt_3b067 : am_Y yJ1_charAt_3b067 cJ1_charAt_3b067 2 (some .char) 2 := ⟨wd_275, wd_222, by decide +kernel, by decide +kernel, by decide⟩
theorem wd_274 : Cond.static yJ1_charAt_3b067 ∈ am_TB := List.mem_filter.mpr ⟨List.mem_of_getElem? (i := 274) (by decide +kernel), by decide +kernel⟩
set_option maxRecDepth 100000 in
theorem jm_coder (l : Launch) (q : gS) : jm_Met l q yJ0_coder_7d493 cJ0_coder_7d493 1 (some .byte) 0 [.ref q.2.1] (some (.int 0)) := by
  refine jm_of (by decide +kernel) (Nat.le_of_ble_eq_true rfl) ?_
  intro p e s m below meth c ls hx hb hml hown hts hlocks hr hG hl
  have hS : va_S (bA q.1) s.heap s.heap [] := va_S.rf
  refine va_gets hx hb hG.2.2.2.2.2.2.2.2.1 hS hown (hts _ wd_263) (fun _ h9 => h9) dJ0_coder_7d493_0 ?_
  refine lv_if_eq (tgt := 13) hx hb dJ0_coder_7d493_3 rfl (fun h => absurd h (by decide)) (fun _ => ?_)
  refine lv_aload_n hx hb dJ0_coder_7d493_6 rfl (lv_at hl 0 rfl) ?_
  refine vk_getf hx hb hG.2.2.2.2.2.1 hS hown (hts _ wd_2358) (fun _ h9 => h9) dJ0_coder_7d493_7 ?_
  refine lv_goto (tgt := 14) hx hb dJ0_coder_7d493_10 rfl ?_
  exact W.zret hx hb hr rfl (fun t ht hW => ⟨rfl, ht⟩) (fun _ h => absurd h List.not_mem_nil) dJ0_coder_7d493_14 hlocks
set_option maxRecDepth 100000 in
theorem jm_length (l : Launch) (q : gS) : jm_Met l q yJ0_length_8abf5 cJ0_length_8abf5 1 (some .int) 1 [.ref q.2.1] (some (.int 115)) := by
  refine jm_of (by decide +kernel) (Nat.le_of_ble_eq_true rfl) ?_
  intro p e s m below meth c ls hx hb hml hown hts hlocks hr hG hl
  have hS : va_S (bA q.1) s.heap s.heap [] := va_S.rf
  refine lv_aload_n hx hb dJ0_length_8abf5_0 rfl (lv_at hl 0 rfl) ?_
  refine vk_getf hx hb hG.2.2.2.2.2.2.1 hS hown (hts _ wd_2357) (fun _ h9 => h9) dJ0_length_8abf5_1 ?_
  refine va_tlen (v := 115) hx hb hG.2.2.2.2.2.2.2.1 hS rfl dJ0_length_8abf5_4 ?_
  refine lv_aload_n hx hb dJ0_length_8abf5_5 rfl (lv_at hl 0 rfl) ?_
  refine jm_callV (As := []) (jm_coder l q) hx hb hml hown hts hG hS (Nat.le_refl _) wd_259 yy_J0_coder_7d493 wd_260 wd_261 (Nat.le_of_ble_eq_true rfl) (Nat.le_of_ble_eq_true rfl) rfl hl.1 (Nat.le_of_ble_eq_true rfl) (Nat.le_refl _) (Nat.le_refl _) dJ0_length_8abf5_6 ?_
  refine lv_ishr hx hb dJ0_length_8abf5_9 ?_
  exact W.zret (v := 115) hx hb hr rfl (fun t ht hW => ⟨rfl, ht⟩) (fun _ h => absurd h List.not_mem_nil) dJ0_length_8abf5_10 hlocks
set_option maxRecDepth 100000 in
theorem jm_latin (l : Launch) (q : gS) : jm_Met l q yJ0_isLatin1_aae02 cJ0_isLatin1_aae02 1 (some .boolean) 0 [.ref q.2.1] (some (.int 1)) := by
  refine jm_of (by decide +kernel) (Nat.le_of_ble_eq_true rfl) ?_
  intro p e s m below meth c ls hx hb hml hown hts hlocks hr hG hl
  have hS : va_S (bA q.1) s.heap s.heap [] := va_S.rf
  refine va_gets hx hb hG.2.2.2.2.2.2.2.2.1 hS hown (hts _ wd_263) (fun _ h9 => h9) dJ0_isLatin1_aae02_0 ?_
  refine lv_if_eq (tgt := 17) hx hb dJ0_isLatin1_aae02_3 rfl (fun h => absurd h (by decide)) (fun _ => ?_)
  refine lv_aload_n hx hb dJ0_isLatin1_aae02_6 rfl (lv_at hl 0 rfl) ?_
  refine vk_getf hx hb hG.2.2.2.2.2.1 hS hown (hts _ wd_2358) (fun _ h9 => h9) dJ0_isLatin1_aae02_7 ?_
  refine lv_if_ne (tgt := 17) hx hb dJ0_isLatin1_aae02_10 rfl (fun h => absurd rfl h) (fun _ => ?_)
  refine lv_iconst (v := 1) hx hb dJ0_isLatin1_aae02_13 (by decide) ?_
  refine lv_goto (tgt := 18) hx hb dJ0_isLatin1_aae02_14 rfl ?_
  exact W.zret hx hb hr rfl (fun t ht hW => ⟨rfl, ht⟩) (fun _ h => absurd h List.not_mem_nil) dJ0_isLatin1_aae02_18 hlocks
theorem sg_in {k : Nat} (h : k < 115) : ¬ nI k < 0 ∧ nI k < nI 115 := by
  rw [show (0 : Int32) = nI 0 from rfl, x_lt (by omega) (by omega), x_lt (by omega) (by omega)]
  omega
set_option maxRecDepth 100000 in
theorem jm_pre (l : Launch) (q : gS) {k : Nat} (hk : k < 115) {z : Value} (hz : z = .null ∨ ∃ a : Nat, z = .ref a) : jm_Met l q yJ3_checkIndex_8e157 cJ3_checkIndex_8e157 3 (some .int) 0 [.int (nI k), .int (nI 115), z] (some (.int (nI k))) := by
  obtain ⟨i1, i2⟩ := sg_in hk
  rcases hz with rfl | ⟨a, rfl⟩
  all_goals
    refine jm_of (by decide +kernel) (Nat.le_of_ble_eq_true rfl) ?_
    intro p e s m below meth c ls hx hb hml hown hts hlocks hr hG hl
    have hS : va_S (bA q.1) s.heap s.heap [] := va_S.rf
    refine lv_iload_n hx hb dJ3_checkIndex_8e157_0 rfl (lv_at hl 0 rfl) ?_
    refine lv_if_lt (tgt := 9) hx hb dJ3_checkIndex_8e157_1 rfl (fun h => absurd h i1) (fun _ => ?_)
    refine lv_iload_n hx hb dJ3_checkIndex_8e157_4 rfl (lv_at hl 0 rfl) ?_
    refine lv_iload_n hx hb dJ3_checkIndex_8e157_5 rfl (lv_at hl 1 rfl) ?_
    refine lv_icmp_lt (tgt := 16) hx hb dJ3_checkIndex_8e157_6 rfl (fun _ => ?_) (fun h => absurd i2 h)
    refine lv_iload_n hx hb dJ3_checkIndex_8e157_16 rfl (lv_at hl 0 rfl) ?_
    exact W.zret hx hb hr rfl (fun t ht hW => ⟨rfl, ht⟩) (fun _ h => absurd h List.not_mem_nil) dJ3_checkIndex_8e157_17 hlocks
set_option maxRecDepth 100000 in
theorem jm_check (l : Launch) (q : gS) {k : Nat} (hk : k < 115) : jm_Met l q yJ0_checkIndex_df160 cJ0_checkIndex_df160 2 none 1 [.int (nI k), .int (nI 115)] none := by
  refine jm_of (by decide +kernel) (Nat.le_of_ble_eq_true rfl) ?_
  intro p e s m below meth c ls hx hb hml hown hts hlocks hr hG hl
  have hS : va_S (bA q.1) s.heap s.heap [] := va_S.rf
  refine lv_iload_n hx hb dJ0_checkIndex_df160_0 rfl (lv_at hl 0 rfl) ?_
  refine lv_iload_n hx hb dJ0_checkIndex_df160_1 rfl (lv_at hl 1 rfl) ?_
  refine va_gets hx hb hG.2.2.2.2.2.2.2.2.2 hS hown (hts _ wd_279) (fun _ h9 => h9) dJ0_checkIndex_df160_2 ?_
  refine jm_callS (As := [.int (nI k), .int (nI 115), q.2.2.2]) (rest := []) (jm_pre l q hk hG.1) hx hb hml hown hts hG hS (Nat.le_refl _) wd_281 yy_J3_checkIndex_8e157 wd_282 (Nat.le_of_ble_eq_true rfl) (Nat.le_of_ble_eq_true rfl) rfl hl.1 (Nat.le_of_ble_eq_true rfl) (Nat.le_refl _) (Nat.le_refl _) dJ0_checkIndex_df160_5 ?_
  refine lv_pop hx hb dJ0_checkIndex_df160_8 rfl ?_
  exact W.vret hx hb hr (fun t ht hW => ⟨rfl, ht⟩) (fun _ h => absurd h List.not_mem_nil) dJ0_checkIndex_df160_9 hlocks
def sgC (k : Nat) : Int32 := ((sgB k &&& 255).toUInt32 % 65536).toInt32
theorem sg_nar : ∀ k, k < 115 → narrow .char (.int (sgC k)) = .int (sgC k) := by decide +kernel
set_option maxRecDepth 100000 in
theorem jm_char1 (l : Launch) (q : gS) {k : Nat} (hk : k < 115) : jm_Met l q yJ1_charAt_3b067 cJ1_charAt_3b067 2 (some .char) 2 [.ref q.2.2.1, .int (nI k)] (some (.int (sgC k))) := by
  refine jm_of (by decide +kernel) (Nat.le_of_ble_eq_true rfl) ?_
  intro p e s m below meth c ls hx hb hml hown hts hlocks hr hG hl
  have hS : va_S (bA q.1) s.heap s.heap [] := va_S.rf
  refine lv_iload_n hx hb dJ1_charAt_3b067_0 rfl (lv_at hl 1 rfl) ?_
  refine lv_aload_n hx hb dJ1_charAt_3b067_1 rfl (lv_at hl 0 rfl) ?_
  refine va_tlen (v := nI 115) hx hb hG.2.2.2.2.2.2.2.1 hS rfl dJ1_charAt_3b067_2 ?_
  refine jm_callS (As := [.int (nI k), .int (nI 115)]) (rest := []) (jm_check l q hk) hx hb hml hown hts hG hS (Nat.le_refl _) wd_276 yy_J0_checkIndex_df160 wd_277 (Nat.le_of_ble_eq_true rfl) (Nat.le_of_ble_eq_true rfl) rfl hl.1 (Nat.le_of_ble_eq_true rfl) (Nat.le_refl _) (Nat.le_refl _) dJ1_charAt_3b067_3 ?_
  refine lv_aload_n hx hb dJ1_charAt_3b067_6 rfl (lv_at hl 0 rfl) ?_
  refine lv_iload_n hx hb dJ1_charAt_3b067_7 rfl (lv_at hl 1 rfl) ?_
  refine va_tb (v := .int (sgB k)) hx hb hG.2.2.2.2.2.2.2.1 hS (fun h => by rcases h with h | h; exact (sg_in hk).1 h; rw [x_cl (by omega)] at h; omega) (by show Value.int (sgB (nI k).toNatClampNeg) = _; rw [x_cl (by omega)]) dJ1_charAt_3b067_8 ?_
  refine lv_sipush (v := 255) hx hb dJ1_charAt_3b067_9 (by decide) ?_
  refine lv_iand hx hb dJ1_charAt_3b067_12 ?_
  refine lv_i2c (v := sgC k) hx hb dJ1_charAt_3b067_13 rfl ?_
  exact W.zret hx hb hr (sg_nar k hk) (fun t ht hW => ⟨rfl, ht⟩) (fun _ h => absurd h List.not_mem_nil) dJ1_charAt_3b067_14 hlocks
set_option maxRecDepth 100000 in
theorem jm_charAt (l : Launch) (q : gS) {k : Nat} (hk : k < 115) : jm_Met l q yJ0_charAt_5068e cJ0_charAt_5068e 2 (some .char) 3 [.ref q.2.1, .int (nI k)] (some (.int (sgC k))) := by
  refine jm_of (by decide +kernel) (Nat.le_of_ble_eq_true rfl) ?_
  intro p e s m below meth c ls hx hb hml hown hts hlocks hr hG hl
  have hS : va_S (bA q.1) s.heap s.heap [] := va_S.rf
  refine lv_aload_n hx hb dJ0_charAt_5068e_0 rfl (lv_at hl 0 rfl) ?_
  refine jm_callV (As := []) (rest := []) (jm_latin l q) hx hb hml hown hts hG hS (Nat.le_refl _) wd_269 yy_J0_isLatin1_aae02 wd_270 wd_271 (Nat.le_of_ble_eq_true rfl) (Nat.le_of_ble_eq_true rfl) rfl hl.1 (Nat.le_of_ble_eq_true rfl) (Nat.le_refl _) (Nat.le_refl _) dJ0_charAt_5068e_1 ?_
  refine lv_if_eq (tgt := 16) hx hb dJ0_charAt_5068e_4 rfl (fun h => absurd h (by decide)) (fun _ => ?_)
  refine lv_aload_n hx hb dJ0_charAt_5068e_7 rfl (lv_at hl 0 rfl) ?_
  refine vk_getf hx hb hG.2.2.2.2.2.2.1 hS hown (hts _ wd_2357) (fun _ h9 => h9) dJ0_charAt_5068e_8 ?_
  refine lv_iload_n hx hb dJ0_charAt_5068e_11 rfl (lv_at hl 1 rfl) ?_
  refine jm_callS (As := [.ref q.2.2.1, .int (nI k)]) (rest := []) (jm_char1 l q hk) hx hb hml hown hts hG hS (Nat.le_refl _) wd_273 yy_J1_charAt_3b067 wd_274 (Nat.le_of_ble_eq_true rfl) (Nat.le_of_ble_eq_true rfl) rfl hl.1 (Nat.le_of_ble_eq_true rfl) (Nat.le_refl _) (Nat.le_refl _) dJ0_charAt_5068e_12 ?_
  exact W.zret hx hb hr (sg_nar k hk) (fun t ht hW => ⟨rfl, ht⟩) (fun _ h => absurd h List.not_mem_nil) dJ0_charAt_5068e_15 hlocks
set_option maxRecDepth 100000 in
theorem jm_letter (l : Launch) (q : gS) (key : Int64) (x : Int32) : jm_Met l q yX3_withLetter cX3_withLetter 3 (some .long) 0 [.long key, .int x] (some (.long (key * 27 + (x - 97 + 1).toInt64))) := by
  refine jm_of (by decide +kernel) (Nat.le_of_ble_eq_true rfl) ?_
  intro p e s m below meth c ls hx hb hml hown hts hlocks hr hG hl
  have hS : va_S (bA q.1) s.heap s.heap [] := va_S.rf
  refine lv_lload_n hx hb dX3_withLetter_0 rfl (lv_at hl 0 rfl) ?_
  refine lv_ldc2 hx hb hown (hts _ wd_306) dX3_withLetter_1 ?_
  refine lv_lmul hx hb dX3_withLetter_4 ?_
  refine lv_iload_n hx hb dX3_withLetter_5 rfl (lv_at hl 1 rfl) ?_
  refine lv_bipush (v := 97) hx hb dX3_withLetter_6 (by decide) ?_
  refine lv_isub hx hb dX3_withLetter_8 ?_
  refine lv_iconst (v := 1) hx hb dX3_withLetter_9 (by decide) ?_
  refine lv_iadd hx hb dX3_withLetter_10 ?_
  refine lv_i2l hx hb dX3_withLetter_11 rfl ?_
  refine lv_ladd hx hb dX3_withLetter_12 ?_
  exact W.lret hx hb hr (fun t ht hW => ⟨rfl, ht⟩) (fun _ h => absurd h List.not_mem_nil) dX3_withLetter_13 hlocks
