/-! dealing, the model -/
theorem cpy_s (f g : Nat → Int32) (sp dp k : Nat) : va_up (va_cpy f g sp dp k) (dp + k) (f (sp + k)) = va_cpy f g sp dp (k + 1) := by
  funext j
  unfold va_cpy
  by_cases e : j = dp + k
  · subst e
    rw [up_s, if_pos (by omega)]
    congr 1; omega
  · rw [up_n e]
    by_cases h : dp ≤ j ∧ j < dp + k
    · rw [if_pos h, if_pos (by omega)]
    · rw [if_neg h, if_neg (by omega)]
theorem cpy_0 (f g : Nat → Int32) (sp dp : Nat) : va_cpy f g sp dp 0 = g := by
  funext j
  unfold va_cpy
  rw [if_neg (by omega)]
theorem cpy_out {f g : Nat → Int32} {sp dp n j : Nat} (h : j < dp ∨ dp + n ≤ j) : va_cpy f g sp dp n j = g j := by
  unfold va_cpy; rw [if_neg (by omega)]
theorem cpy_in {f g : Nat → Int32} {sp dp n j : Nat} (h : j < n) : va_cpy f g sp dp n (dp + j) = f (sp + j) := by
  unfold va_cpy
  rw [if_pos (by omega)]
  congr 1; omega
theorem MD_sh {f : Nat → Int32} {L : Nat} (hL : L ≤ 24) (h8 : f 8 = nI L) : ∀ (m k n : Nat) (σ : am_M), L - k = m → k ≤ L → σ.1 128 = va_cpy f f 93 92 k →
    ∃ d, am_it hd_X11_deals (n + m + 1) 131 [some (.ref 123), some (.int (nI k))] [] σ = dn_X11_deals_168 (am_it hd_X11_deals n) [some (.ref 123), d] [] (am_uA σ 128 (va_cpy f f 93 92 L)) := by
  intro m
  induction m with
  | zero =>
    intro k n σ hm hk hc
    have e : k = L := by omega
    subst e
    have q8 : σ.1 128 8 = nI k := by rw [hc, cpy_out (by omega)]; exact h8
    refine ⟨some (.int (nI k)), ?_⟩
    rw [uA_id hc]
    simp (disch := omega) only [↓e_X11_deals_131, ↓h_X11_deals_131, ↓it_s, ↓y_iload, ↓y_lload, ↓y_aload, ↓y_istore, ↓y_lstore, ↓y_astore, ↓y_iinc, ↓y_cI, ↓y_cL, ↓y_bin, ↓y_binL, ↓y_div, ↓y_divL, ↓y_lshl, ↓y_un, ↓y_i2l, ↓y_lneg, ↓y_l2i, ↓y_lcmp, ↓y_dupI, ↓y_dupR, ↓y_dup2, ↓y_pop, ↓y_goto, ↓y_eq0, ↓y_lt0, ↓y_le0, ↓y_eq, ↓y_lt, ↓y_le, ↓y_switch, ↓y_sw0, ↓y_sw1, ↓y_getI, ↓y_getL, ↓y_getR, ↓y_getT, ↓y_putI, ↓y_putZ, ↓y_putL, ↓y_putT, ↓y_iald, ↓y_bald, ↓y_lald, ↓y_aald, ↓y_iast, ↓y_bast, ↓y_last, ↓y_alen, ↓y_iret, ↓y_zret, ↓y_lret, ↓y_vret, ↓y_svI, ↓y_svL, ↓y_svV, ↓y_ivI, ↓y_ivL, ↓y_ivV, ↓y_max, ↓y_min, ↓y_absL, ↓y_cpI, ↓y_cpL, ↓x_n1I, ↓x_n1L, ↓x_n1R, ↓x_n0I, ↓x_n0L, ↓x_n0R, ↓x_s0, ↓x_s1i, ↓x_s1r, ↓x_s1n, ↓x_s2, ↓x_c0, ↓x_c2, ↓x_tk0, ↓x_tk1, ↓x_rcv, x_rI1, x_rL1, x_rV1, x_rIn, x_rLn, x_rVn, x_rIf, x_rLf, x_rVf, x_40, x_41, x_42, x_43, x_44, ↓reduceIte, if_true, if_false, ao_iadd, ao_isub, ao_imul, ao_iand, ao_ior, ao_ishl, ao_ishr, ao_iushr, ao_ladd, ao_lsub, ao_lmul, ao_land, ao_lor, ao_idiv, ao_irem, ao_ldiv, ao_lrem, ao_ineg, ao_i2b, ao_i2s, Nat.reduceAdd, Nat.reduceMul, Nat.reduceSub, Nat.reduceEqDiff, Nat.reduceLeDiff, and_self, true_and, x_lit, x_ofn, x_z0, x_z1, x_inbT, x_ltT, x_ltF, x_leT, x_leF, x_eqF, x_eqT, x_inb, x_lt, x_le, x_eq, x_cl, x_sub, nI_add, pk_mul, x_m1e, x_m1e', x_m1l, x_m1n, x_m1s, Nat.not_lt_zero, x_zb, x_b0, x_b1, decide_eq_false_iff_not, decide_eq_true_eq, Bool.false_eq_true, Bool.true_eq_false, kd_123, kd_128, ln_128, q8, Nat.add_zero]
  | succ m ih =>
    intro k n σ hm hk hc
    have q8 : σ.1 128 8 = nI L := by rw [hc, cpy_out (by omega)]; exact h8
    have qk : σ.1 128 (92 + k + 1) = f (93 + k) := by rw [hc, cpy_out (by omega)]; congr 1; omega
    obtain ⟨d, a1⟩ := ih (k + 1) n (am_uI σ 128 (92 + k) (f (93 + k))) (by omega) (by omega) (by rw [uI_s, hc, cpy_s])
    obtain ⟨N, eN⟩ : ∃ N, N = n + m + 1 := ⟨_, rfl⟩
    rw [show n + (m + 1) + 1 = N + 1 by omega]
    rw [← eN, uI_uA, uA_uA] at a1
    refine ⟨d, ?_⟩
    rw [← a1]
    obtain ⟨M, eM⟩ : ∃ M, M = N := ⟨_, rfl⟩
    rw [← eM]
    simp (disch := omega) only [↓e_X11_deals_131, ↓h_X11_deals_131, ↓it_s, ↓y_iload, ↓y_lload, ↓y_aload, ↓y_istore, ↓y_lstore, ↓y_astore, ↓y_iinc, ↓y_cI, ↓y_cL, ↓y_bin, ↓y_binL, ↓y_div, ↓y_divL, ↓y_lshl, ↓y_un, ↓y_i2l, ↓y_lneg, ↓y_l2i, ↓y_lcmp, ↓y_dupI, ↓y_dupR, ↓y_dup2, ↓y_pop, ↓y_goto, ↓y_eq0, ↓y_lt0, ↓y_le0, ↓y_eq, ↓y_lt, ↓y_le, ↓y_switch, ↓y_sw0, ↓y_sw1, ↓y_getI, ↓y_getL, ↓y_getR, ↓y_getT, ↓y_putI, ↓y_putZ, ↓y_putL, ↓y_putT, ↓y_iald, ↓y_bald, ↓y_lald, ↓y_aald, ↓y_iast, ↓y_bast, ↓y_last, ↓y_alen, ↓y_iret, ↓y_zret, ↓y_lret, ↓y_vret, ↓y_svI, ↓y_svL, ↓y_svV, ↓y_ivI, ↓y_ivL, ↓y_ivV, ↓y_max, ↓y_min, ↓y_absL, ↓y_cpI, ↓y_cpL, ↓x_n1I, ↓x_n1L, ↓x_n1R, ↓x_n0I, ↓x_n0L, ↓x_n0R, ↓x_s0, ↓x_s1i, ↓x_s1r, ↓x_s1n, ↓x_s2, ↓x_c0, ↓x_c2, ↓x_tk0, ↓x_tk1, ↓x_rcv, x_rI1, x_rL1, x_rV1, x_rIn, x_rLn, x_rVn, x_rIf, x_rLf, x_rVf, x_40, x_41, x_42, x_43, x_44, ↓reduceIte, if_true, if_false, ao_iadd, ao_isub, ao_imul, ao_iand, ao_ior, ao_ishl, ao_ishr, ao_iushr, ao_ladd, ao_lsub, ao_lmul, ao_land, ao_lor, ao_idiv, ao_irem, ao_ldiv, ao_lrem, ao_ineg, ao_i2b, ao_i2s, Nat.reduceAdd, Nat.reduceMul, Nat.reduceSub, Nat.reduceEqDiff, Nat.reduceLeDiff, and_self, true_and, x_lit, x_ofn, x_z0, x_z1, x_inbT, x_ltT, x_ltF, x_leT, x_leF, x_eqF, x_eqT, x_inb, x_lt, x_le, x_eq, x_cl, x_sub, nI_add, pk_mul, x_m1e, x_m1e', x_m1l, x_m1n, x_m1s, Nat.not_lt_zero, x_zb, x_b0, x_b1, decide_eq_false_iff_not, decide_eq_true_eq, Bool.false_eq_true, Bool.true_eq_false, kd_123, kd_128, ln_128, q8, qk, uI_uA]
theorem MD_re {f : Nat → Int32} {L : Nat} (hL : L ≤ 24) (h9 : f 9 = nI L) : ∀ (m k n : Nat) (σ : am_M), L - k = m → k ≤ L → σ.1 128 = va_cpy f f 116 92 k →
    ∃ d, am_it hd_X11_deals (n + m + 1) 33 [some (.ref 123), some (.int (nI k))] [] σ = dn_X11_deals_68 (am_it hd_X11_deals n) [some (.ref 123), d] [] (am_uA σ 128 (va_cpy f f 116 92 L)) := by
  intro m
  induction m with
  | zero =>
    intro k n σ hm hk hc
    have e : k = L := by omega
    subst e
    have q8 : σ.1 128 9 = nI k := by rw [hc, cpy_out (by omega)]; exact h9
    refine ⟨some (.int (nI k)), ?_⟩
    rw [uA_id hc]
    simp (disch := omega) only [↓e_X11_deals_33, ↓h_X11_deals_33, ↓it_s, ↓y_iload, ↓y_lload, ↓y_aload, ↓y_istore, ↓y_lstore, ↓y_astore, ↓y_iinc, ↓y_cI, ↓y_cL, ↓y_bin, ↓y_binL, ↓y_div, ↓y_divL, ↓y_lshl, ↓y_un, ↓y_i2l, ↓y_lneg, ↓y_l2i, ↓y_lcmp, ↓y_dupI, ↓y_dupR, ↓y_dup2, ↓y_pop, ↓y_goto, ↓y_eq0, ↓y_lt0, ↓y_le0, ↓y_eq, ↓y_lt, ↓y_le, ↓y_switch, ↓y_sw0, ↓y_sw1, ↓y_getI, ↓y_getL, ↓y_getR, ↓y_getT, ↓y_putI, ↓y_putZ, ↓y_putL, ↓y_putT, ↓y_iald, ↓y_bald, ↓y_lald, ↓y_aald, ↓y_iast, ↓y_bast, ↓y_last, ↓y_alen, ↓y_iret, ↓y_zret, ↓y_lret, ↓y_vret, ↓y_svI, ↓y_svL, ↓y_svV, ↓y_ivI, ↓y_ivL, ↓y_ivV, ↓y_max, ↓y_min, ↓y_absL, ↓y_cpI, ↓y_cpL, ↓x_n1I, ↓x_n1L, ↓x_n1R, ↓x_n0I, ↓x_n0L, ↓x_n0R, ↓x_s0, ↓x_s1i, ↓x_s1r, ↓x_s1n, ↓x_s2, ↓x_c0, ↓x_c2, ↓x_tk0, ↓x_tk1, ↓x_rcv, x_rI1, x_rL1, x_rV1, x_rIn, x_rLn, x_rVn, x_rIf, x_rLf, x_rVf, x_40, x_41, x_42, x_43, x_44, ↓reduceIte, if_true, if_false, ao_iadd, ao_isub, ao_imul, ao_iand, ao_ior, ao_ishl, ao_ishr, ao_iushr, ao_ladd, ao_lsub, ao_lmul, ao_land, ao_lor, ao_idiv, ao_irem, ao_ldiv, ao_lrem, ao_ineg, ao_i2b, ao_i2s, Nat.reduceAdd, Nat.reduceMul, Nat.reduceSub, Nat.reduceEqDiff, Nat.reduceLeDiff, and_self, true_and, x_lit, x_ofn, x_z0, x_z1, x_inbT, x_ltT, x_ltF, x_leT, x_leF, x_eqF, x_eqT, x_inb, x_lt, x_le, x_eq, x_cl, x_sub, nI_add, pk_mul, x_m1e, x_m1e', x_m1l, x_m1n, x_m1s, Nat.not_lt_zero, x_zb, x_b0, x_b1, decide_eq_false_iff_not, decide_eq_true_eq, Bool.false_eq_true, Bool.true_eq_false, kd_123, kd_128, ln_128, q8, Nat.add_zero]
  | succ m ih =>
    intro k n σ hm hk hc
    have q8 : σ.1 128 9 = nI L := by rw [hc, cpy_out (by omega)]; exact h9
    have qk : σ.1 128 (116 + k) = f (116 + k) := by rw [hc, cpy_out (by omega)]
    obtain ⟨d, a1⟩ := ih (k + 1) n (am_uI σ 128 (92 + k) (f (116 + k))) (by omega) (by omega) (by rw [uI_s, hc, cpy_s])
    obtain ⟨N, eN⟩ : ∃ N, N = n + m + 1 := ⟨_, rfl⟩
    rw [show n + (m + 1) + 1 = N + 1 by omega]
    rw [← eN, uI_uA, uA_uA] at a1
    refine ⟨d, ?_⟩
    rw [← a1]
    obtain ⟨M, eM⟩ : ∃ M, M = N := ⟨_, rfl⟩
    rw [← eM]
    simp (disch := omega) only [↓e_X11_deals_33, ↓h_X11_deals_33, ↓it_s, ↓y_iload, ↓y_lload, ↓y_aload, ↓y_istore, ↓y_lstore, ↓y_astore, ↓y_iinc, ↓y_cI, ↓y_cL, ↓y_bin, ↓y_binL, ↓y_div, ↓y_divL, ↓y_lshl, ↓y_un, ↓y_i2l, ↓y_lneg, ↓y_l2i, ↓y_lcmp, ↓y_dupI, ↓y_dupR, ↓y_dup2, ↓y_pop, ↓y_goto, ↓y_eq0, ↓y_lt0, ↓y_le0, ↓y_eq, ↓y_lt, ↓y_le, ↓y_switch, ↓y_sw0, ↓y_sw1, ↓y_getI, ↓y_getL, ↓y_getR, ↓y_getT, ↓y_putI, ↓y_putZ, ↓y_putL, ↓y_putT, ↓y_iald, ↓y_bald, ↓y_lald, ↓y_aald, ↓y_iast, ↓y_bast, ↓y_last, ↓y_alen, ↓y_iret, ↓y_zret, ↓y_lret, ↓y_vret, ↓y_svI, ↓y_svL, ↓y_svV, ↓y_ivI, ↓y_ivL, ↓y_ivV, ↓y_max, ↓y_min, ↓y_absL, ↓y_cpI, ↓y_cpL, ↓x_n1I, ↓x_n1L, ↓x_n1R, ↓x_n0I, ↓x_n0L, ↓x_n0R, ↓x_s0, ↓x_s1i, ↓x_s1r, ↓x_s1n, ↓x_s2, ↓x_c0, ↓x_c2, ↓x_tk0, ↓x_tk1, ↓x_rcv, x_rI1, x_rL1, x_rV1, x_rIn, x_rLn, x_rVn, x_rIf, x_rLf, x_rVf, x_40, x_41, x_42, x_43, x_44, ↓reduceIte, if_true, if_false, ao_iadd, ao_isub, ao_imul, ao_iand, ao_ior, ao_ishl, ao_ishr, ao_iushr, ao_ladd, ao_lsub, ao_lmul, ao_land, ao_lor, ao_idiv, ao_irem, ao_ldiv, ao_lrem, ao_ineg, ao_i2b, ao_i2s, Nat.reduceAdd, Nat.reduceMul, Nat.reduceSub, Nat.reduceEqDiff, Nat.reduceLeDiff, and_self, true_and, x_lit, x_ofn, x_z0, x_z1, x_inbT, x_ltT, x_ltF, x_leT, x_leF, x_eqF, x_eqT, x_inb, x_lt, x_le, x_eq, x_cl, x_sub, nI_add, pk_mul, x_m1e, x_m1e', x_m1l, x_m1n, x_m1s, Nat.not_lt_zero, x_zb, x_b0, x_b1, decide_eq_false_iff_not, decide_eq_true_eq, Bool.false_eq_true, Bool.true_eq_false, kd_123, kd_128, ln_128, q8, qk, uI_uA]
theorem M_dealsN {σ : am_M} {V : Vt} (h : MC (σ.1 128) 0 V) (wn : WN V) (wc : WC V) (hD : hasD V = false) : S_X11_deals [.ref 123] σ = some (some (.int (nI 0)), σ) := by
  obtain ⟨m1, m2, m3, m4, m5, m6⟩ := MC_0 h
  have h3 := m1 3 (by omega)
  have hr9 := wn.2.2.2.1
  have w6 := wc.len (p := 6) (by omega)
  have hd := of_decide_eq_false hD
  have e7 : (vP V 7).length = 0 := by omega
  have q8 := m2.1
  have q9 := m3.1
  rw [e7] at q8
  by_cases e3 : vN V 3 = 0
  · rw [e3] at h3
    simp (disch := omega) only [↓e_X11_deals_0, ↓e_X11_deals_29, g_X11_deals, ↓it_s, ↓y_iload, ↓y_lload, ↓y_aload, ↓y_istore, ↓y_lstore, ↓y_astore, ↓y_iinc, ↓y_cI, ↓y_cL, ↓y_bin, ↓y_binL, ↓y_div, ↓y_divL, ↓y_lshl, ↓y_un, ↓y_i2l, ↓y_lneg, ↓y_l2i, ↓y_lcmp, ↓y_dupI, ↓y_dupR, ↓y_dup2, ↓y_pop, ↓y_goto, ↓y_eq0, ↓y_lt0, ↓y_le0, ↓y_eq, ↓y_lt, ↓y_le, ↓y_switch, ↓y_sw0, ↓y_sw1, ↓y_getI, ↓y_getL, ↓y_getR, ↓y_getT, ↓y_putI, ↓y_putZ, ↓y_putL, ↓y_putT, ↓y_iald, ↓y_bald, ↓y_lald, ↓y_aald, ↓y_iast, ↓y_bast, ↓y_last, ↓y_alen, ↓y_iret, ↓y_zret, ↓y_lret, ↓y_vret, ↓y_svI, ↓y_svL, ↓y_svV, ↓y_ivI, ↓y_ivL, ↓y_ivV, ↓y_max, ↓y_min, ↓y_absL, ↓y_cpI, ↓y_cpL, ↓x_n1I, ↓x_n1L, ↓x_n1R, ↓x_n0I, ↓x_n0L, ↓x_n0R, ↓x_s0, ↓x_s1i, ↓x_s1r, ↓x_s1n, ↓x_s2, ↓x_c0, ↓x_c2, ↓x_tk0, ↓x_tk1, ↓x_rcv, x_rI1, x_rL1, x_rV1, x_rIn, x_rLn, x_rVn, x_rIf, x_rLf, x_rVf, x_40, x_41, x_42, x_43, x_44, ↓reduceIte, if_true, if_false, ao_iadd, ao_isub, ao_imul, ao_iand, ao_ior, ao_ishl, ao_ishr, ao_iushr, ao_ladd, ao_lsub, ao_lmul, ao_land, ao_lor, ao_idiv, ao_irem, ao_ldiv, ao_lrem, ao_ineg, ao_i2b, ao_i2s, Nat.reduceAdd, Nat.reduceMul, Nat.reduceSub, Nat.reduceEqDiff, Nat.reduceLeDiff, and_self, true_and, x_lit, x_ofn, x_z0, x_z1, x_inbT, x_ltT, x_ltF, x_leT, x_leF, x_eqF, x_eqT, x_inb, x_lt, x_le, x_eq, x_cl, x_sub, nI_add, pk_mul, x_m1e, x_m1e', x_m1l, x_m1n, x_m1s, Nat.not_lt_zero, x_zb, x_b0, x_b1, decide_eq_false_iff_not, decide_eq_true_eq, Bool.false_eq_true, Bool.true_eq_false, kd_123, kd_128, ln_128, q8, h3]
  · have e6 : (vP V 6).length = 0 := by omega
    rw [e6] at q9
    simp (disch := omega) only [↓e_X11_deals_0, ↓e_X11_deals_29, g_X11_deals, ↓it_s, ↓y_iload, ↓y_lload, ↓y_aload, ↓y_istore, ↓y_lstore, ↓y_astore, ↓y_iinc, ↓y_cI, ↓y_cL, ↓y_bin, ↓y_binL, ↓y_div, ↓y_divL, ↓y_lshl, ↓y_un, ↓y_i2l, ↓y_lneg, ↓y_l2i, ↓y_lcmp, ↓y_dupI, ↓y_dupR, ↓y_dup2, ↓y_pop, ↓y_goto, ↓y_eq0, ↓y_lt0, ↓y_le0, ↓y_eq, ↓y_lt, ↓y_le, ↓y_switch, ↓y_sw0, ↓y_sw1, ↓y_getI, ↓y_getL, ↓y_getR, ↓y_getT, ↓y_putI, ↓y_putZ, ↓y_putL, ↓y_putT, ↓y_iald, ↓y_bald, ↓y_lald, ↓y_aald, ↓y_iast, ↓y_bast, ↓y_last, ↓y_alen, ↓y_iret, ↓y_zret, ↓y_lret, ↓y_vret, ↓y_svI, ↓y_svL, ↓y_svV, ↓y_ivI, ↓y_ivL, ↓y_ivV, ↓y_max, ↓y_min, ↓y_absL, ↓y_cpI, ↓y_cpL, ↓x_n1I, ↓x_n1L, ↓x_n1R, ↓x_n0I, ↓x_n0L, ↓x_n0R, ↓x_s0, ↓x_s1i, ↓x_s1r, ↓x_s1n, ↓x_s2, ↓x_c0, ↓x_c2, ↓x_tk0, ↓x_tk1, ↓x_rcv, x_rI1, x_rL1, x_rV1, x_rIn, x_rLn, x_rVn, x_rIf, x_rLf, x_rVf, x_40, x_41, x_42, x_43, x_44, ↓reduceIte, if_true, if_false, ao_iadd, ao_isub, ao_imul, ao_iand, ao_ior, ao_ishl, ao_ishr, ao_iushr, ao_ladd, ao_lsub, ao_lmul, ao_land, ao_lor, ao_idiv, ao_irem, ao_ldiv, ao_lrem, ao_ineg, ao_i2b, ao_i2s, Nat.reduceAdd, Nat.reduceMul, Nat.reduceSub, Nat.reduceEqDiff, Nat.reduceLeDiff, and_self, true_and, x_lit, x_ofn, x_z0, x_z1, x_inbT, x_ltT, x_ltF, x_leT, x_leF, x_eqF, x_eqT, x_inb, x_lt, x_le, x_eq, x_cl, x_sub, nI_add, pk_mul, x_m1e, x_m1e', x_m1l, x_m1n, x_m1s, Nat.not_lt_zero, x_zb, x_b0, x_b1, decide_eq_false_iff_not, decide_eq_true_eq, Bool.false_eq_true, Bool.true_eq_false, kd_123, kd_128, ln_128, q8, h3, q9]
theorem M_deals {σ : am_M} {V : Vt} (h : MC (σ.1 128) 0 V) (wn : WN V) (wc : WC V) (hD : hasD V = true) : ∃ τ, S_X11_deals [.ref 123] σ = some (some (.int (nI 1)), τ) ∧ MC (τ.1 128) 0 (dealV V) ∧ τ.1 123 29 = dealI V ∧ τ.2 = σ.2 ∧ (∀ j, j ≠ 123 → j ≠ 128 → τ.1 j = σ.1 j) ∧ (∀ i, i ≠ 29 → τ.1 123 i = σ.1 123 i) ∧ ∀ i, 170 ≤ i → τ.1 128 i = σ.1 128 i := by
  obtain ⟨m1, m2, m3, m4, m5, m6⟩ := MC_0 h
  have h3 := m1 3 (by omega)
  have hr9 := wn.2.2.2.1
  have w6 := wc.len (p := 6) (by omega)
  have w7 := wc.len (p := 7) (by omega)
  have q8 := m2.1
  have q9 := m3.1
  cases h7 : vP V 7 with
  | cons c l =>
    have s7 := m2.2
    rw [h7] at q8 s7
    simp only [List.length_cons] at q8
    rw [h7] at w7
    simp only [List.length_cons] at w7
    have hc := seg_at s7 (k := 0) (c := c) rfl
    rw [Nat.add_zero] at hc
    have hl6 : (vP V 6).length < 24 := by
      have := wc.allLen
      unfold allC at this
      simp only [List.range, List.range.loop, List.flatMap_cons, List.flatMap_nil, List.append_nil, List.length_append, h7, List.length_cons] at this
      omega
    obtain ⟨f1, ef⟩ : ∃ f1, f1 = va_up (σ.1 128) 8 (nI l.length) := ⟨_, rfl⟩
    obtain ⟨F, eF⟩ : ∃ F, am_fuel = F + l.length := ⟨am_fuel - l.length, by unfold am_fuel; omega⟩
    obtain ⟨d, a1⟩ := MD_sh (f := f1) (L := l.length) (by omega) (by rw [ef, up_s]) l.length 0 F (am_uI (am_uI σ 123 29 (nI c)) 128 8 (nI l.length)) rfl (by omega) (by rw [cpy_0, ef, uI_s, uI_n (by omega)])
    have eV : dealV V = vuP (vuP V 7 l) 6 (vP V 6 ++ [c]) := by unfold dealV; rw [h7]
    have eI : dealI V = nI c := by unfold dealI; rw [h7]
    obtain ⟨g, eg⟩ : ∃ g, g = va_cpy f1 f1 93 92 l.length := ⟨_, rfl⟩
    rw [← eg] at a1
    have hg : ∀ j, j ≠ 8 → (j < 92 ∨ 116 ≤ j) → g j = σ.1 128 j := by
      intro j q1 q2
      rw [eg, cpy_out (by omega), ef, up_n q1]
    have hM1 : MC g 0 (vuP V 7 l) := by
      refine MC_uP h wc (by omega) (fun j q1 q2 => hg j (by simpa [mLen] using q1) (by simpa [mBeg] using q2)) ?_ ?_
      · show g 8 = _
        rw [eg, cpy_out (by omega), ef, up_s]
      · show seg g 92 l
        refine seg_cg (seg_tl s7) (fun k hk => ?_)
        rw [eg, cpy_in hk, ef, up_n (by omega)]
    have hw1 : WC (vuP V 7 l) := by
      refine WC_up wc (by omega) (fun x hx => wc.1 7 (by omega) x (by rw [h7]; exact List.mem_cons_of_mem _ hx)) (fun q => by omega) (fun q => by omega) (fun a => ?_)
      have := wc.cnt a
      have e : (vP V 7).count a = (c :: l).count a := by rw [h7]
      have : l.count a ≤ (c :: l).count a := (List.sublist_cons_self c l).count_le a
      omega
    have e6 : vP (vuP V 7 l) 6 = vP V 6 := (up_n (show (6 : Nat) ≠ 7 by omega) : va_up V.2.1 7 l 6 = V.2.1 6)
    have s6 : seg g 116 (vP V 6) := seg_cg m3.2 (fun k hk => hg _ (by omega) (by omega))
    have g9 : g 9 = nI (vP V 6).length := by rw [hg 9 (by omega) (by omega)]; exact q9
    have hM2 : MC (va_up (va_up g (116 + (vP V 6).length) (nI c)) 9 (nI ((vP V 6).length + 1))) 0 (vuP (vuP V 7 l) 6 (vP V 6 ++ [c])) := by
      refine MC_uP hM1 hw1 (by omega) (fun j q1 q2 => ?_) ?_ ?_
      · have q1' : j ≠ 9 := by simpa [mLen] using q1
        have q2' : j < 116 ∨ 140 ≤ j := by simpa [mBeg] using q2
        rw [up_n q1', up_n (by omega)]
      · show va_up _ 9 _ 9 = _
        rw [up_s, List.length_append]; rfl
      · show seg _ 116 _
        exact seg_out (seg_push s6 c rfl) (by omega)
    refine ⟨am_uA (am_uI σ 123 29 (nI c)) 128 (va_up (va_up g (116 + (vP V 6).length) (nI c)) 9 (nI ((vP V 6).length + 1))), ?_, ?_, ?_, rfl, fun j q1 q2 => ?_, fun i q => ?_, fun i hi => ?_⟩
    · have e2 : S_X11_deals [.ref 123] σ = am_it hd_X11_deals (am_fuel + 1) 131 [some (.ref 123), some (.int (nI 0))] [] (am_uI (am_uI σ 123 29 (nI c)) 128 8 (nI l.length)) := by
        have e3 : ∀ lv st τ, am_it hd_X11_deals (am_fuel + 1) 131 lv st τ = dn_X11_deals_131 (am_it hd_X11_deals am_fuel) lv st τ := fun _ _ _ => rfl
        rw [e3]
        simp (disch := omega) only [↓e_X11_deals_0, ↓e_X11_deals_107, g_X11_deals, ↓it_s, ↓y_iload, ↓y_lload, ↓y_aload, ↓y_istore, ↓y_lstore, ↓y_astore, ↓y_iinc, ↓y_cI, ↓y_cL, ↓y_bin, ↓y_binL, ↓y_div, ↓y_divL, ↓y_lshl, ↓y_un, ↓y_i2l, ↓y_lneg, ↓y_l2i, ↓y_lcmp, ↓y_dupI, ↓y_dupR, ↓y_dup2, ↓y_pop, ↓y_goto, ↓y_eq0, ↓y_lt0, ↓y_le0, ↓y_eq, ↓y_lt, ↓y_le, ↓y_switch, ↓y_sw0, ↓y_sw1, ↓y_getI, ↓y_getL, ↓y_getR, ↓y_getT, ↓y_putI, ↓y_putZ, ↓y_putL, ↓y_putT, ↓y_iald, ↓y_bald, ↓y_lald, ↓y_aald, ↓y_iast, ↓y_bast, ↓y_last, ↓y_alen, ↓y_iret, ↓y_zret, ↓y_lret, ↓y_vret, ↓y_svI, ↓y_svL, ↓y_svV, ↓y_ivI, ↓y_ivL, ↓y_ivV, ↓y_max, ↓y_min, ↓y_absL, ↓y_cpI, ↓y_cpL, ↓x_n1I, ↓x_n1L, ↓x_n1R, ↓x_n0I, ↓x_n0L, ↓x_n0R, ↓x_s0, ↓x_s1i, ↓x_s1r, ↓x_s1n, ↓x_s2, ↓x_c0, ↓x_c2, ↓x_tk0, ↓x_tk1, ↓x_rcv, x_rI1, x_rL1, x_rV1, x_rIn, x_rLn, x_rVn, x_rIf, x_rLf, x_rVf, x_40, x_41, x_42, x_43, x_44, ↓reduceIte, if_true, if_false, ao_iadd, ao_isub, ao_imul, ao_iand, ao_ior, ao_ishl, ao_ishr, ao_iushr, ao_ladd, ao_lsub, ao_lmul, ao_land, ao_lor, ao_idiv, ao_irem, ao_ldiv, ao_lrem, ao_ineg, ao_i2b, ao_i2s, Nat.reduceAdd, Nat.reduceMul, Nat.reduceSub, Nat.reduceEqDiff, Nat.reduceLeDiff, and_self, true_and, x_lit, x_ofn, x_z0, x_z1, x_inbT, x_ltT, x_ltF, x_leT, x_leF, x_eqF, x_eqT, x_inb, x_lt, x_le, x_eq, x_cl, x_sub, nI_add, pk_mul, x_m1e, x_m1e', x_m1l, x_m1n, x_m1s, Nat.not_lt_zero, x_zb, x_b0, x_b1, decide_eq_false_iff_not, decide_eq_true_eq, Bool.false_eq_true, Bool.true_eq_false, kd_123, kd_128, ln_128, q8, hc, uI_n]
        rfl
      rw [e2, eF, a1]
      have u1 : (am_uA (am_uI (am_uI σ 123 29 (nI c)) 128 8 (nI l.length)) 128 g) = am_uA (am_uI σ 123 29 (nI c)) 128 g := by rw [uI_uA _ 128, uA_uA]
      rw [u1]
      simp (disch := omega) only [↓e_X11_deals_168, ↓it_s, ↓y_iload, ↓y_lload, ↓y_aload, ↓y_istore, ↓y_lstore, ↓y_astore, ↓y_iinc, ↓y_cI, ↓y_cL, ↓y_bin, ↓y_binL, ↓y_div, ↓y_divL, ↓y_lshl, ↓y_un, ↓y_i2l, ↓y_lneg, ↓y_l2i, ↓y_lcmp, ↓y_dupI, ↓y_dupR, ↓y_dup2, ↓y_pop, ↓y_goto, ↓y_eq0, ↓y_lt0, ↓y_le0, ↓y_eq, ↓y_lt, ↓y_le, ↓y_switch, ↓y_sw0, ↓y_sw1, ↓y_getI, ↓y_getL, ↓y_getR, ↓y_getT, ↓y_putI, ↓y_putZ, ↓y_putL, ↓y_putT, ↓y_iald, ↓y_bald, ↓y_lald, ↓y_aald, ↓y_iast, ↓y_bast, ↓y_last, ↓y_alen, ↓y_iret, ↓y_zret, ↓y_lret, ↓y_vret, ↓y_svI, ↓y_svL, ↓y_svV, ↓y_ivI, ↓y_ivL, ↓y_ivV, ↓y_max, ↓y_min, ↓y_absL, ↓y_cpI, ↓y_cpL, ↓x_n1I, ↓x_n1L, ↓x_n1R, ↓x_n0I, ↓x_n0L, ↓x_n0R, ↓x_s0, ↓x_s1i, ↓x_s1r, ↓x_s1n, ↓x_s2, ↓x_c0, ↓x_c2, ↓x_tk0, ↓x_tk1, ↓x_rcv, x_rI1, x_rL1, x_rV1, x_rIn, x_rLn, x_rVn, x_rIf, x_rLf, x_rVf, x_40, x_41, x_42, x_43, x_44, ↓reduceIte, if_true, if_false, ao_iadd, ao_isub, ao_imul, ao_iand, ao_ior, ao_ishl, ao_ishr, ao_iushr, ao_ladd, ao_lsub, ao_lmul, ao_land, ao_lor, ao_idiv, ao_irem, ao_ldiv, ao_lrem, ao_ineg, ao_i2b, ao_i2s, Nat.reduceAdd, Nat.reduceMul, Nat.reduceSub, Nat.reduceEqDiff, Nat.reduceLeDiff, and_self, true_and, x_lit, x_ofn, x_z0, x_z1, x_inbT, x_ltT, x_ltF, x_leT, x_leF, x_eqF, x_eqT, x_inb, x_lt, x_le, x_eq, x_cl, x_sub, nI_add, pk_mul, x_m1e, x_m1e', x_m1l, x_m1n, x_m1s, Nat.not_lt_zero, x_zb, x_b0, x_b1, decide_eq_false_iff_not, decide_eq_true_eq, Bool.false_eq_true, Bool.true_eq_false, kd_123, kd_128, ln_128, uA_s, uA_n, uI_s, up_s, up_n, g9, uI_uA, uA_uA]
    · rw [uA_s, eV]; exact hM2
    · rw [uA_n (by omega), uI_s, up_s, eI]
    · rw [uA_n q2, uI_n q1]
    · rw [uA_n (by omega), uI_s, up_n q]
    · rw [uA_s, up_n (by omega), up_n (by omega)]; exact hg i (by omega) (by omega)
  | nil =>
    have hd2 : 0 < vN V 3 ∧ 0 < (vP V 6).length := by
      unfold hasD at hD
      have := of_decide_eq_true hD
      rw [h7] at this
      simpa using this
    rw [h7] at q8
    simp only [List.length_nil] at q8
    obtain ⟨F, eF⟩ : ∃ F, am_fuel = F + (vP V 6).length := ⟨am_fuel - (vP V 6).length, by unfold am_fuel; omega⟩
    obtain ⟨d, a1⟩ := MD_re (f := σ.1 128) (L := (vP V 6).length) w6 q9 (vP V 6).length 0 F σ rfl (by omega) (by rw [cpy_0])
    obtain ⟨g, eg⟩ : ∃ g, g = va_cpy (σ.1 128) (σ.1 128) 116 92 (vP V 6).length := ⟨_, rfl⟩
    rw [← eg] at a1
    have hg : ∀ j, (j < 92 ∨ 116 ≤ j) → g j = σ.1 128 j := by
      intro j q2
      rw [eg, cpy_out (by omega)]
    have g9 : g 9 = nI (vP V 6).length := by rw [hg 9 (by omega)]; exact q9
    have g3 : g 3 = nI (vN V 3) := by rw [hg 3 (by omega)]; exact h3
    have hw1 : WC (vuP V 6 []) := by
      refine WC_up wc (by omega) (fun x hx => by cases hx) (fun q => by omega) (fun q => by omega) (fun a => ?_)
      have := wc.cnt a
      simp; omega
    have hM1 : MC (va_up (σ.1 128) 9 (nI 0)) 0 (vuP V 6 []) := by
      refine MC_uP h wc (by omega) (fun j q1 q2 => up_n (by simpa [mLen] using q1)) ?_ ?_
      · show va_up _ 9 _ 9 = _
        rw [up_s]; rfl
      · exact seg_nil
    have hM2 : MC (va_up (va_up g 8 (nI (vP V 6).length)) 9 (nI 0)) 0 (vuP (vuP V 6 []) 7 (vP V 6)) := by
      refine MC_uP hM1 hw1 (by omega) (fun j q1 q2 => ?_) ?_ ?_
      · have q1' : j ≠ 8 := by simpa [mLen] using q1
        have q2' : j < 92 ∨ 116 ≤ j := by simpa [mBeg] using q2
        by_cases e : j = 9
        · subst e; rw [up_s, up_s]
        · rw [up_n e, up_n q1', up_n e]; exact hg j q2'
      · show va_up _ 9 _ 8 = _
        rw [up_n (by omega), up_s]
      · show seg _ 92 _
        refine seg_out (seg_out (seg_cg m3.2 (fun k hk => ?_)) (by omega)) (by omega)
        rw [eg, cpy_in hk]
    have hM3 := MC_uN (k := 3) (x := vN V 3 - 1) hM2 (by omega) (by omega)
    rw [Nat.add_zero] at hM3
    have eV : dealV V = vuN (vuP (vuP V 6 []) 7 (vP V 6)) 3 (vN V 3 - 1) := by
      unfold dealV
      rw [h7]
      have : vuP (vuP V 7 (vP V 6)) 6 [] = vuP (vuP V 6 []) 7 (vP V 6) := by
        refine Prod.ext rfl (Prod.ext (funext fun q => ?_) rfl)
        show va_up (va_up V.2.1 7 _) 6 [] q = va_up (va_up V.2.1 6 []) 7 _ q
        by_cases e1 : q = 6
        · subst e1; rw [up_s, up_n (by omega), up_s]
        · by_cases e2 : q = 7
          · subst e2; rw [up_n e1, up_s, up_s]
          · rw [up_n e1, up_n e2, up_n e2, up_n e1]
      rw [this]
    have eI : dealI V = -nI 1 := by unfold dealI; rw [h7]
    refine ⟨am_uI (am_uA σ 128 (va_up (va_up (va_up g 8 (nI (vP V 6).length)) 9 (nI 0)) 3 (nI (vN V 3 - 1)))) 123 29 (-nI 1), ?_, ?_, ?_, rfl, fun j q1 q2 => ?_, fun i q => ?_, fun i hi => ?_⟩
    · have e2 : S_X11_deals [.ref 123] σ = am_it hd_X11_deals (am_fuel + 1) 33 [some (.ref 123), some (.int (nI 0))] [] σ := by
        have e3 : ∀ lv st τ, am_it hd_X11_deals (am_fuel + 1) 33 lv st τ = dn_X11_deals_33 (am_it hd_X11_deals am_fuel) lv st τ := fun _ _ _ => rfl
        rw [e3]
        simp (disch := omega) only [↓e_X11_deals_0, ↓e_X11_deals_31, g_X11_deals, ↓it_s, ↓y_iload, ↓y_lload, ↓y_aload, ↓y_istore, ↓y_lstore, ↓y_astore, ↓y_iinc, ↓y_cI, ↓y_cL, ↓y_bin, ↓y_binL, ↓y_div, ↓y_divL, ↓y_lshl, ↓y_un, ↓y_i2l, ↓y_lneg, ↓y_l2i, ↓y_lcmp, ↓y_dupI, ↓y_dupR, ↓y_dup2, ↓y_pop, ↓y_goto, ↓y_eq0, ↓y_lt0, ↓y_le0, ↓y_eq, ↓y_lt, ↓y_le, ↓y_switch, ↓y_sw0, ↓y_sw1, ↓y_getI, ↓y_getL, ↓y_getR, ↓y_getT, ↓y_putI, ↓y_putZ, ↓y_putL, ↓y_putT, ↓y_iald, ↓y_bald, ↓y_lald, ↓y_aald, ↓y_iast, ↓y_bast, ↓y_last, ↓y_alen, ↓y_iret, ↓y_zret, ↓y_lret, ↓y_vret, ↓y_svI, ↓y_svL, ↓y_svV, ↓y_ivI, ↓y_ivL, ↓y_ivV, ↓y_max, ↓y_min, ↓y_absL, ↓y_cpI, ↓y_cpL, ↓x_n1I, ↓x_n1L, ↓x_n1R, ↓x_n0I, ↓x_n0L, ↓x_n0R, ↓x_s0, ↓x_s1i, ↓x_s1r, ↓x_s1n, ↓x_s2, ↓x_c0, ↓x_c2, ↓x_tk0, ↓x_tk1, ↓x_rcv, x_rI1, x_rL1, x_rV1, x_rIn, x_rLn, x_rVn, x_rIf, x_rLf, x_rVf, x_40, x_41, x_42, x_43, x_44, ↓reduceIte, if_true, if_false, ao_iadd, ao_isub, ao_imul, ao_iand, ao_ior, ao_ishl, ao_ishr, ao_iushr, ao_ladd, ao_lsub, ao_lmul, ao_land, ao_lor, ao_idiv, ao_irem, ao_ldiv, ao_lrem, ao_ineg, ao_i2b, ao_i2s, Nat.reduceAdd, Nat.reduceMul, Nat.reduceSub, Nat.reduceEqDiff, Nat.reduceLeDiff, and_self, true_and, x_lit, x_ofn, x_z0, x_z1, x_inbT, x_ltT, x_ltF, x_leT, x_leF, x_eqF, x_eqT, x_inb, x_lt, x_le, x_eq, x_cl, x_sub, nI_add, pk_mul, x_m1e, x_m1e', x_m1l, x_m1n, x_m1s, Nat.not_lt_zero, x_zb, x_b0, x_b1, decide_eq_false_iff_not, decide_eq_true_eq, Bool.false_eq_true, Bool.true_eq_false, kd_123, kd_128, ln_128, q8, h3, q9]
      rw [e2, eF, a1]
      simp (disch := omega) only [↓e_X11_deals_68, ↓it_s, ↓y_iload, ↓y_lload, ↓y_aload, ↓y_istore, ↓y_lstore, ↓y_astore, ↓y_iinc, ↓y_cI, ↓y_cL, ↓y_bin, ↓y_binL, ↓y_div, ↓y_divL, ↓y_lshl, ↓y_un, ↓y_i2l, ↓y_lneg, ↓y_l2i, ↓y_lcmp, ↓y_dupI, ↓y_dupR, ↓y_dup2, ↓y_pop, ↓y_goto, ↓y_eq0, ↓y_lt0, ↓y_le0, ↓y_eq, ↓y_lt, ↓y_le, ↓y_switch, ↓y_sw0, ↓y_sw1, ↓y_getI, ↓y_getL, ↓y_getR, ↓y_getT, ↓y_putI, ↓y_putZ, ↓y_putL, ↓y_putT, ↓y_iald, ↓y_bald, ↓y_lald, ↓y_aald, ↓y_iast, ↓y_bast, ↓y_last, ↓y_alen, ↓y_iret, ↓y_zret, ↓y_lret, ↓y_vret, ↓y_svI, ↓y_svL, ↓y_svV, ↓y_ivI, ↓y_ivL, ↓y_ivV, ↓y_max, ↓y_min, ↓y_absL, ↓y_cpI, ↓y_cpL, ↓x_n1I, ↓x_n1L, ↓x_n1R, ↓x_n0I, ↓x_n0L, ↓x_n0R, ↓x_s0, ↓x_s1i, ↓x_s1r, ↓x_s1n, ↓x_s2, ↓x_c0, ↓x_c2, ↓x_tk0, ↓x_tk1, ↓x_rcv, x_rI1, x_rL1, x_rV1, x_rIn, x_rLn, x_rVn, x_rIf, x_rLf, x_rVf, x_40, x_41, x_42, x_43, x_44, ↓reduceIte, if_true, if_false, ao_iadd, ao_isub, ao_imul, ao_iand, ao_ior, ao_ishl, ao_ishr, ao_iushr, ao_ladd, ao_lsub, ao_lmul, ao_land, ao_lor, ao_idiv, ao_irem, ao_ldiv, ao_lrem, ao_ineg, ao_i2b, ao_i2s, Nat.reduceAdd, Nat.reduceMul, Nat.reduceSub, Nat.reduceEqDiff, Nat.reduceLeDiff, and_self, true_and, x_lit, x_ofn, x_z0, x_z1, x_inbT, x_ltT, x_ltF, x_leT, x_leF, x_eqF, x_eqT, x_inb, x_lt, x_le, x_eq, x_cl, x_sub, nI_add, pk_mul, x_m1e, x_m1e', x_m1l, x_m1n, x_m1s, Nat.not_lt_zero, x_zb, x_b0, x_b1, decide_eq_false_iff_not, decide_eq_true_eq, Bool.false_eq_true, Bool.true_eq_false, kd_123, kd_128, ln_128, uA_s, up_s, up_n, g9, g3, uI_uA σ, uI_uA (am_uA σ 128 _) 128, uA_uA]
    · rw [uI_n (by omega), uA_s, eV]; exact hM3
    · rw [uI_s, up_s, eI]
    · rw [uI_n q1, uA_n q2]
    · rw [uI_s, up_n q, uA_n (by omega)]
    · rw [uI_n (by omega), uA_s, up_n (by omega), up_n (by omega), up_n (by omega)]; exact hg i (by omega)
