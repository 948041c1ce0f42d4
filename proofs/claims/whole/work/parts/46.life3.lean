/-! the seasons: one step with all that is in it; stretches; passings -/
theorem D_lt {E : am_F} {k n q : Nat} {b : Bool} {σ τ : am_M} (hk : k < 30) (h44 : σ.1 123 44 = nI n) (hn : n < 300) (hq : σ.1 128 (172 + 9 * k) = nI q) (hq5 : q < 5) (hd : S_X11_does [.ref 123, .int (nI (172 + 9 * k))] (am_uI σ 123 44 (nI (n + 1))) = some (some (.int (nI (b2 b))), τ)) : F_X11_doOne E [.ref 123, .int (nI k)] σ = some (none, am_uI τ 123 45 (σ.1 123 45 + missI b)) := by
  have h1 : F_X11_doOne E [.ref 123, .int (nI k)] σ = dn_X11_doOne_21 E (am_it (hd_X11_doOne E) am_fuel) [some (.ref 123), some (.int (nI k)), none, none, none] [] σ := by
    simp (disch := omega) only [g_X11_doOne, ↓e_X11_doOne_0, ↓it_s, ↓y_iload, ↓y_lload, ↓y_aload, ↓y_istore, ↓y_lstore, ↓y_astore, ↓y_iinc, ↓y_cI, ↓y_cL, ↓y_bin, ↓y_binL, ↓y_div, ↓y_divL, ↓y_lshl, ↓y_un, ↓y_i2l, ↓y_lneg, ↓y_l2i, ↓y_lcmp, ↓y_dupI, ↓y_dupR, ↓y_dup2, ↓y_pop, ↓y_goto, ↓y_eq0, ↓y_lt0, ↓y_le0, ↓y_eq, ↓y_lt, ↓y_le, ↓y_switch, ↓y_sw0, ↓y_sw1, ↓y_getI, ↓y_getL, ↓y_getR, ↓y_getT, ↓y_putI, ↓y_putZ, ↓y_putL, ↓y_putT, ↓y_iald, ↓y_bald, ↓y_lald, ↓y_aald, ↓y_iast, ↓y_bast, ↓y_last, ↓y_alen, ↓y_iret, ↓y_zret, ↓y_lret, ↓y_vret, ↓y_svI, ↓y_svL, ↓y_svV, ↓y_ivI, ↓y_ivL, ↓y_ivV, ↓y_max, ↓y_min, ↓y_absL, ↓y_cpI, ↓y_cpL, ↓x_n1I, ↓x_n1L, ↓x_n1R, ↓x_n0I, ↓x_n0L, ↓x_n0R, ↓x_s0, ↓x_s1i, ↓x_s1r, ↓x_s1n, ↓x_s2, ↓x_c0, ↓x_c2, ↓x_tk0, ↓x_tk1, ↓x_rcv, x_rI1, x_rL1, x_rV1, x_rIn, x_rLn, x_rVn, x_rIf, x_rLf, x_rVf, x_40, x_41, x_42, x_43, x_44, ↓reduceIte, if_true, if_false, ao_iadd, ao_isub, ao_imul, ao_iand, ao_ior, ao_ishl, ao_ishr, ao_iushr, ao_ladd, ao_lsub, ao_lmul, ao_land, ao_lor, ao_idiv, ao_irem, ao_ldiv, ao_lrem, ao_ineg, ao_i2b, ao_i2s, Nat.reduceAdd, Nat.reduceMul, Nat.reduceSub, Nat.reduceEqDiff, Nat.reduceLeDiff, and_self, true_and, x_lit, x_ofn, x_z0, x_z1, x_inbT, x_ltT, x_ltF, x_leT, x_leF, x_eqF, x_eqT, x_inb, x_lt, x_le, x_eq, x_cl, x_sub, nI_add, pk_mul, x_m1e, x_m1e', x_m1l, x_m1n, x_m1s, Nat.not_lt_zero, x_zb, x_b0, x_b1, decide_eq_false_iff_not, decide_eq_true_eq, Bool.false_eq_true, Bool.true_eq_false, h44, kd_123]
  have hq' : (am_uI σ 123 44 (nI (n + 1))).1 128 (172 + 9 * k) = nI q := by rw [uI_n (by omega)]; exact hq
  have h45 : (am_uI σ 123 44 (nI (n + 1))).1 123 45 = σ.1 123 45 := by rw [uI_s, up_n (by omega)]
  rw [h1]
  obtain ⟨B, eB⟩ : ∃ B, B = am_it (hd_X11_doOne E) am_fuel := ⟨_, rfl⟩
  rw [← eB]
  unfold missI
  cases b
  · rw [if_neg (by simp)]
    simp (disch := omega) only [↓e_X11_doOne_21, ↓e_X11_doOne_69, ↓e_X11_doOne_70, ↓e_X11_doOne_174, ↓it_s, ↓y_iload, ↓y_lload, ↓y_aload, ↓y_istore, ↓y_lstore, ↓y_astore, ↓y_iinc, ↓y_cI, ↓y_cL, ↓y_bin, ↓y_binL, ↓y_div, ↓y_divL, ↓y_lshl, ↓y_un, ↓y_i2l, ↓y_lneg, ↓y_l2i, ↓y_lcmp, ↓y_dupI, ↓y_dupR, ↓y_dup2, ↓y_pop, ↓y_goto, ↓y_eq0, ↓y_lt0, ↓y_le0, ↓y_eq, ↓y_lt, ↓y_le, ↓y_switch, ↓y_sw0, ↓y_sw1, ↓y_getI, ↓y_getL, ↓y_getR, ↓y_getT, ↓y_putI, ↓y_putZ, ↓y_putL, ↓y_putT, ↓y_iald, ↓y_bald, ↓y_lald, ↓y_aald, ↓y_iast, ↓y_bast, ↓y_last, ↓y_alen, ↓y_iret, ↓y_zret, ↓y_lret, ↓y_vret, ↓y_svI, ↓y_svL, ↓y_svV, ↓y_ivI, ↓y_ivL, ↓y_ivV, ↓y_max, ↓y_min, ↓y_absL, ↓y_cpI, ↓y_cpL, ↓x_n1I, ↓x_n1L, ↓x_n1R, ↓x_n0I, ↓x_n0L, ↓x_n0R, ↓x_s0, ↓x_s1i, ↓x_s1r, ↓x_s1n, ↓x_s2, ↓x_c0, ↓x_c2, ↓x_tk0, ↓x_tk1, ↓x_rcv, x_rI1, x_rL1, x_rV1, x_rIn, x_rLn, x_rVn, x_rIf, x_rLf, x_rVf, x_40, x_41, x_42, x_43, x_44, ↓reduceIte, if_true, if_false, ao_iadd, ao_isub, ao_imul, ao_iand, ao_ior, ao_ishl, ao_ishr, ao_iushr, ao_ladd, ao_lsub, ao_lmul, ao_land, ao_lor, ao_idiv, ao_irem, ao_ldiv, ao_lrem, ao_ineg, ao_i2b, ao_i2s, Nat.reduceAdd, Nat.reduceMul, Nat.reduceSub, Nat.reduceEqDiff, Nat.reduceLeDiff, and_self, true_and, x_lit, x_ofn, x_z0, x_z1, x_inbT, x_ltT, x_ltF, x_leT, x_leF, x_eqF, x_eqT, x_inb, x_lt, x_le, x_eq, x_cl, x_sub, nI_add, pk_mul, x_m1e, x_m1e', x_m1l, x_m1n, x_m1s, Nat.not_lt_zero, x_zb, x_b0, x_b1, decide_eq_false_iff_not, decide_eq_true_eq, Bool.false_eq_true, Bool.true_eq_false, h44, hq', h45, hd, b2_f, kd_123, kd_128, ln_128]
  · rw [if_pos rfl]
    simp (disch := omega) only [↓e_X11_doOne_21, ↓e_X11_doOne_69, ↓e_X11_doOne_70, ↓e_X11_doOne_174, ↓it_s, ↓y_iload, ↓y_lload, ↓y_aload, ↓y_istore, ↓y_lstore, ↓y_astore, ↓y_iinc, ↓y_cI, ↓y_cL, ↓y_bin, ↓y_binL, ↓y_div, ↓y_divL, ↓y_lshl, ↓y_un, ↓y_i2l, ↓y_lneg, ↓y_l2i, ↓y_lcmp, ↓y_dupI, ↓y_dupR, ↓y_dup2, ↓y_pop, ↓y_goto, ↓y_eq0, ↓y_lt0, ↓y_le0, ↓y_eq, ↓y_lt, ↓y_le, ↓y_switch, ↓y_sw0, ↓y_sw1, ↓y_getI, ↓y_getL, ↓y_getR, ↓y_getT, ↓y_putI, ↓y_putZ, ↓y_putL, ↓y_putT, ↓y_iald, ↓y_bald, ↓y_lald, ↓y_aald, ↓y_iast, ↓y_bast, ↓y_last, ↓y_alen, ↓y_iret, ↓y_zret, ↓y_lret, ↓y_vret, ↓y_svI, ↓y_svL, ↓y_svV, ↓y_ivI, ↓y_ivL, ↓y_ivV, ↓y_max, ↓y_min, ↓y_absL, ↓y_cpI, ↓y_cpL, ↓x_n1I, ↓x_n1L, ↓x_n1R, ↓x_n0I, ↓x_n0L, ↓x_n0R, ↓x_s0, ↓x_s1i, ↓x_s1r, ↓x_s1n, ↓x_s2, ↓x_c0, ↓x_c2, ↓x_tk0, ↓x_tk1, ↓x_rcv, x_rI1, x_rL1, x_rV1, x_rIn, x_rLn, x_rVn, x_rIf, x_rLf, x_rVf, x_40, x_41, x_42, x_43, x_44, ↓reduceIte, if_true, if_false, ao_iadd, ao_isub, ao_imul, ao_iand, ao_ior, ao_ishl, ao_ishr, ao_iushr, ao_ladd, ao_lsub, ao_lmul, ao_land, ao_lor, ao_idiv, ao_irem, ao_ldiv, ao_lrem, ao_ineg, ao_i2b, ao_i2s, Nat.reduceAdd, Nat.reduceMul, Nat.reduceSub, Nat.reduceEqDiff, Nat.reduceLeDiff, and_self, true_and, x_lit, x_ofn, x_z0, x_z1, x_inbT, x_ltT, x_ltF, x_leT, x_leF, x_eqF, x_eqT, x_inb, x_lt, x_le, x_eq, x_cl, x_sub, nI_add, pk_mul, x_m1e, x_m1e', x_m1l, x_m1n, x_m1s, Nat.not_lt_zero, x_zb, x_b0, x_b1, decide_eq_false_iff_not, decide_eq_true_eq, Bool.false_eq_true, Bool.true_eq_false, h44, hq', h45, hd, b2_t, kd_123, kd_128, ln_128]
theorem D_ge {E : am_F} {k n q : Nat} {σ : am_M} (hk : k < 30) (h44 : σ.1 123 44 = nI n) (hn : n < 300) (hq : σ.1 128 (172 + 9 * k) = nI q) (hq5 : 5 ≤ q) (hq9 : q < 9) : F_X11_doOne E [.ref 123, .int (nI k)] σ = dn_X11_doOne_77 E (am_it (hd_X11_doOne E) am_fuel) [some (.ref 123), some (.int (nI k)), some (.int (nI (172 + 9 * k))), some (.int (nI q)), none] [] (am_uI σ 123 44 (nI (n + 1))) := by
  have h1 : F_X11_doOne E [.ref 123, .int (nI k)] σ = dn_X11_doOne_21 E (am_it (hd_X11_doOne E) am_fuel) [some (.ref 123), some (.int (nI k)), none, none, none] [] σ := by
    simp (disch := omega) only [g_X11_doOne, ↓e_X11_doOne_0, ↓it_s, ↓y_iload, ↓y_lload, ↓y_aload, ↓y_istore, ↓y_lstore, ↓y_astore, ↓y_iinc, ↓y_cI, ↓y_cL, ↓y_bin, ↓y_binL, ↓y_div, ↓y_divL, ↓y_lshl, ↓y_un, ↓y_i2l, ↓y_lneg, ↓y_l2i, ↓y_lcmp, ↓y_dupI, ↓y_dupR, ↓y_dup2, ↓y_pop, ↓y_goto, ↓y_eq0, ↓y_lt0, ↓y_le0, ↓y_eq, ↓y_lt, ↓y_le, ↓y_switch, ↓y_sw0, ↓y_sw1, ↓y_getI, ↓y_getL, ↓y_getR, ↓y_getT, ↓y_putI, ↓y_putZ, ↓y_putL, ↓y_putT, ↓y_iald, ↓y_bald, ↓y_lald, ↓y_aald, ↓y_iast, ↓y_bast, ↓y_last, ↓y_alen, ↓y_iret, ↓y_zret, ↓y_lret, ↓y_vret, ↓y_svI, ↓y_svL, ↓y_svV, ↓y_ivI, ↓y_ivL, ↓y_ivV, ↓y_max, ↓y_min, ↓y_absL, ↓y_cpI, ↓y_cpL, ↓x_n1I, ↓x_n1L, ↓x_n1R, ↓x_n0I, ↓x_n0L, ↓x_n0R, ↓x_s0, ↓x_s1i, ↓x_s1r, ↓x_s1n, ↓x_s2, ↓x_c0, ↓x_c2, ↓x_tk0, ↓x_tk1, ↓x_rcv, x_rI1, x_rL1, x_rV1, x_rIn, x_rLn, x_rVn, x_rIf, x_rLf, x_rVf, x_40, x_41, x_42, x_43, x_44, ↓reduceIte, if_true, if_false, ao_iadd, ao_isub, ao_imul, ao_iand, ao_ior, ao_ishl, ao_ishr, ao_iushr, ao_ladd, ao_lsub, ao_lmul, ao_land, ao_lor, ao_idiv, ao_irem, ao_ldiv, ao_lrem, ao_ineg, ao_i2b, ao_i2s, Nat.reduceAdd, Nat.reduceMul, Nat.reduceSub, Nat.reduceEqDiff, Nat.reduceLeDiff, and_self, true_and, x_lit, x_ofn, x_z0, x_z1, x_inbT, x_ltT, x_ltF, x_leT, x_leF, x_eqF, x_eqT, x_inb, x_lt, x_le, x_eq, x_cl, x_sub, nI_add, pk_mul, x_m1e, x_m1e', x_m1l, x_m1n, x_m1s, Nat.not_lt_zero, x_zb, x_b0, x_b1, decide_eq_false_iff_not, decide_eq_true_eq, Bool.false_eq_true, Bool.true_eq_false, h44, kd_123]
  have hq' : (am_uI σ 123 44 (nI (n + 1))).1 128 (172 + 9 * k) = nI q := by rw [uI_n (by omega)]; exact hq
  rw [h1]
  simp (disch := omega) only [↓e_X11_doOne_21, ↓it_s, ↓y_iload, ↓y_lload, ↓y_aload, ↓y_istore, ↓y_lstore, ↓y_astore, ↓y_iinc, ↓y_cI, ↓y_cL, ↓y_bin, ↓y_binL, ↓y_div, ↓y_divL, ↓y_lshl, ↓y_un, ↓y_i2l, ↓y_lneg, ↓y_l2i, ↓y_lcmp, ↓y_dupI, ↓y_dupR, ↓y_dup2, ↓y_pop, ↓y_goto, ↓y_eq0, ↓y_lt0, ↓y_le0, ↓y_eq, ↓y_lt, ↓y_le, ↓y_switch, ↓y_sw0, ↓y_sw1, ↓y_getI, ↓y_getL, ↓y_getR, ↓y_getT, ↓y_putI, ↓y_putZ, ↓y_putL, ↓y_putT, ↓y_iald, ↓y_bald, ↓y_lald, ↓y_aald, ↓y_iast, ↓y_bast, ↓y_last, ↓y_alen, ↓y_iret, ↓y_zret, ↓y_lret, ↓y_vret, ↓y_svI, ↓y_svL, ↓y_svV, ↓y_ivI, ↓y_ivL, ↓y_ivV, ↓y_max, ↓y_min, ↓y_absL, ↓y_cpI, ↓y_cpL, ↓x_n1I, ↓x_n1L, ↓x_n1R, ↓x_n0I, ↓x_n0L, ↓x_n0R, ↓x_s0, ↓x_s1i, ↓x_s1r, ↓x_s1n, ↓x_s2, ↓x_c0, ↓x_c2, ↓x_tk0, ↓x_tk1, ↓x_rcv, x_rI1, x_rL1, x_rV1, x_rIn, x_rLn, x_rVn, x_rIf, x_rLf, x_rVf, x_40, x_41, x_42, x_43, x_44, ↓reduceIte, if_true, if_false, ao_iadd, ao_isub, ao_imul, ao_iand, ao_ior, ao_ishl, ao_ishr, ao_iushr, ao_ladd, ao_lsub, ao_lmul, ao_land, ao_lor, ao_idiv, ao_irem, ao_ldiv, ao_lrem, ao_ineg, ao_i2b, ao_i2s, Nat.reduceAdd, Nat.reduceMul, Nat.reduceSub, Nat.reduceEqDiff, Nat.reduceLeDiff, and_self, true_and, x_lit, x_ofn, x_z0, x_z1, x_inbT, x_ltT, x_ltF, x_leT, x_leF, x_eqF, x_eqT, x_inb, x_lt, x_le, x_eq, x_cl, x_sub, nI_add, pk_mul, x_m1e, x_m1e', x_m1l, x_m1n, x_m1s, Nat.not_lt_zero, x_zb, x_b0, x_b1, decide_eq_false_iff_not, decide_eq_true_eq, Bool.false_eq_true, Bool.true_eq_false, h44, hq', kd_123, kd_128, ln_128]
theorem D_cut {E : am_F} {k : Nat} {σ : am_M} (h44 : σ.1 123 44 = nI 300) : F_X11_doOne E [.ref 123, .int (nI k)] σ = some (none, am_uI (am_uI σ 123 42 (nI 1)) 123 49 (nI 1)) := by
  simp (disch := omega) only [g_X11_doOne, ↓e_X11_doOne_0, ↓it_s, ↓y_iload, ↓y_lload, ↓y_aload, ↓y_istore, ↓y_lstore, ↓y_astore, ↓y_iinc, ↓y_cI, ↓y_cL, ↓y_bin, ↓y_binL, ↓y_div, ↓y_divL, ↓y_lshl, ↓y_un, ↓y_i2l, ↓y_lneg, ↓y_l2i, ↓y_lcmp, ↓y_dupI, ↓y_dupR, ↓y_dup2, ↓y_pop, ↓y_goto, ↓y_eq0, ↓y_lt0, ↓y_le0, ↓y_eq, ↓y_lt, ↓y_le, ↓y_switch, ↓y_sw0, ↓y_sw1, ↓y_getI, ↓y_getL, ↓y_getR, ↓y_getT, ↓y_putI, ↓y_putZ, ↓y_putL, ↓y_putT, ↓y_iald, ↓y_bald, ↓y_lald, ↓y_aald, ↓y_iast, ↓y_bast, ↓y_last, ↓y_alen, ↓y_iret, ↓y_zret, ↓y_lret, ↓y_vret, ↓y_svI, ↓y_svL, ↓y_svV, ↓y_ivI, ↓y_ivL, ↓y_ivV, ↓y_max, ↓y_min, ↓y_absL, ↓y_cpI, ↓y_cpL, ↓x_n1I, ↓x_n1L, ↓x_n1R, ↓x_n0I, ↓x_n0L, ↓x_n0R, ↓x_s0, ↓x_s1i, ↓x_s1r, ↓x_s1n, ↓x_s2, ↓x_c0, ↓x_c2, ↓x_tk0, ↓x_tk1, ↓x_rcv, x_rI1, x_rL1, x_rV1, x_rIn, x_rLn, x_rVn, x_rIf, x_rLf, x_rVf, x_40, x_41, x_42, x_43, x_44, ↓reduceIte, if_true, if_false, ao_iadd, ao_isub, ao_imul, ao_iand, ao_ior, ao_ishl, ao_ishr, ao_iushr, ao_ladd, ao_lsub, ao_lmul, ao_land, ao_lor, ao_idiv, ao_irem, ao_ldiv, ao_lrem, ao_ineg, ao_i2b, ao_i2s, Nat.reduceAdd, Nat.reduceMul, Nat.reduceSub, Nat.reduceEqDiff, Nat.reduceLeDiff, and_self, true_and, x_lit, x_ofn, x_z0, x_z1, x_inbT, x_ltT, x_ltF, x_leT, x_leF, x_eqF, x_eqT, x_inb, x_lt, x_le, x_eq, x_cl, x_sub, nI_add, pk_mul, x_m1e, x_m1e', x_m1l, x_m1n, x_m1s, Nat.not_lt_zero, x_zb, x_b0, x_b1, decide_eq_false_iff_not, decide_eq_true_eq, Bool.false_eq_true, Bool.true_eq_false, h44, kd_123]
theorem X_startRounds {h i A : Nat} {σ : am_M} (hh : isH h) (hi : i < 60) : S_X0_startRounds [.ref h, .int (nI i), .int (nI A)] σ = some (none, am_uI σ (h + 1) i (nI A)) := by
  obtain ⟨k0, k1, k2, l1, l2⟩ := isH_k hh
  have k1' : (20 ≤ am_kd (h + 1) ∧ am_kd (h + 1) ≤ 24) = True := by rw [k1]; simp
  simp (disch := omega) only [g_X0_startRounds, ↓e_X0_startRounds_20, ↓e_X0_startRounds_0, ↓it_s, ↓y_iload, ↓y_lload, ↓y_aload, ↓y_istore, ↓y_lstore, ↓y_astore, ↓y_iinc, ↓y_cI, ↓y_cL, ↓y_bin, ↓y_binL, ↓y_div, ↓y_divL, ↓y_lshl, ↓y_un, ↓y_i2l, ↓y_lneg, ↓y_l2i, ↓y_lcmp, ↓y_dupI, ↓y_dupR, ↓y_dup2, ↓y_pop, ↓y_goto, ↓y_eq0, ↓y_lt0, ↓y_le0, ↓y_eq, ↓y_lt, ↓y_le, ↓y_switch, ↓y_sw0, ↓y_sw1, ↓y_getI, ↓y_getL, ↓y_getR, ↓y_getT, ↓y_putI, ↓y_putZ, ↓y_putL, ↓y_putT, ↓y_iald, ↓y_bald, ↓y_lald, ↓y_aald, ↓y_iast, ↓y_bast, ↓y_last, ↓y_alen, ↓y_iret, ↓y_zret, ↓y_lret, ↓y_vret, ↓y_svI, ↓y_svL, ↓y_svV, ↓y_ivI, ↓y_ivL, ↓y_ivV, ↓y_max, ↓y_min, ↓y_absL, ↓y_cpI, ↓y_cpL, ↓x_n1I, ↓x_n1L, ↓x_n1R, ↓x_n0I, ↓x_n0L, ↓x_n0R, ↓x_s0, ↓x_s1i, ↓x_s1r, ↓x_s1n, ↓x_s2, ↓x_c0, ↓x_c2, ↓x_tk0, ↓x_tk1, ↓x_rcv, x_rI1, x_rL1, x_rV1, x_rIn, x_rLn, x_rVn, x_rIf, x_rLf, x_rVf, x_40, x_41, x_42, x_43, x_44, ↓reduceIte, if_true, if_false, ao_iadd, ao_isub, ao_imul, ao_iand, ao_ior, ao_ishl, ao_ishr, ao_iushr, ao_ladd, ao_lsub, ao_lmul, ao_land, ao_lor, ao_idiv, ao_irem, ao_ldiv, ao_lrem, ao_ineg, ao_i2b, ao_i2s, Nat.reduceAdd, Nat.reduceMul, Nat.reduceSub, Nat.reduceEqDiff, Nat.reduceLeDiff, and_self, true_and, x_lit, x_ofn, x_z0, x_z1, x_inbT, x_ltT, x_ltF, x_leT, x_leF, x_eqF, x_eqT, x_inb, x_lt, x_le, x_eq, x_cl, x_sub, nI_add, pk_mul, x_m1e, x_m1e', x_m1l, x_m1n, x_m1s, Nat.not_lt_zero, x_zb, x_b0, x_b1, decide_eq_false_iff_not, decide_eq_true_eq, Bool.false_eq_true, Bool.true_eq_false, k0, k1, k1', l1]
theorem LS_item {h v nf ns sd Lt i i' k k' n T : Nat} {g f : Nat → Int32} {E : am_F} {Sub : Nat → Nat → Nat → Nat → Prop} {V : Vt} {d : Nat} {σx σm : am_M} (hh : isH h) (hv : isLV v) (hsub : SubOK h v nf ns sd Lt g f E Sub) (hle : ∀ l L k K, Sub l L k K → l ≤ L ∧ k ≤ K) (hI : ItR Sub nf g f i i' k k') (hi' : i' ≤ Lt) (hLt : Lt ≤ 60) (hk' : k' ≤ 30) (hE : EnvR v Lt g f σx σm) (hL : LRl h v nf ns 0 n σx σm V d) (hT : T ≤ 100 * n) :
    ∃ τm, F_X11_doOne E [.ref 123, .int (nI k)] σm = some (none, τm) ∧ LSr h v nf ns sd σx σm τm n T i i' := by
  obtain ⟨k0, k1, k2, l1, l2⟩ := isH_k hh
  obtain ⟨k8, k9, l9⟩ := isLV_k hv
  have kv := (isV_k (isLV_V hv)).1
  have hap := hv_apart hh hv
  have hlt := ItR_lt hle hI
  have hn300 := hL.2.2.2.2.2.2.2.2.2.2.2.2.2.2.2
  have h44 := hL.2.2.2.2.2.2.2.2.1
  have w0 : 172 + (9 * k + 0) = 172 + 9 * k := by omega
  have w8 : 172 + (9 * k + 8) = 172 + 9 * k + 8 := by omega
  obtain ⟨e1, e2, e3⟩ := hE
  have hE : EnvR v Lt g f σx σm := ⟨e1, e2, e3⟩
  have hword : ∃ w q, g (i * 6 + 0) = nI w ∧ w ≠ 21 ∧ w < 30 ∧ f (9 * k + 0) = nI q ∧ q < 9 := by
    rcases hI.2 with ⟨-, -, (⟨m, -, -, a, b, -⟩ | ⟨m, o, -, -, a, b, -⟩ | ⟨a, b⟩ | ⟨a, b⟩ | ⟨a, b⟩) | ⟨a, b⟩⟩ | ⟨p, -, -, -, -, -, -, ⟨m, -, -, a, b, -⟩ | ⟨a, b, -⟩⟩
    all_goals exact ⟨_, _, a, by omega, by omega, b, by omega⟩
  obtain ⟨w, q, hgw, hw21, hw30, hfq, hq9⟩ := hword
  have hmq : σm.1 128 (172 + 9 * k) = nI q := by rw [← w0]; exact (congrFun e3 _).trans hfq
  by_cases hn : n = 300
  · refine ⟨_, D_cut (by rw [← hn]; exact h44), am_uI σx h 8 (nI 1), n, V, d, Nat.le_refl _, fX_uI (fX_rf _ _ _) (Or.inl rfl), fM_uI (fM_uI (fM_rf _) (by omega)) (by omega), fun j hj => by rw [uI_n (by omega)], Or.inr ⟨LR_cut hh hv (LR_over hL), fin_mono (LS_cut hh hv e1 e2 hL hn (by omega) (by omega) hLt hgw hw21 hw30) (by omega)⟩⟩
  have hn' : n < 300 := by omega
  -- one step more is done
  obtain ⟨σx', ex'⟩ : ∃ s, s = am_uI σx h 3 (nI (n + 1)) := ⟨_, rfl⟩
  obtain ⟨σm', em'⟩ : ∃ s, s = am_uI σm 123 44 (nI (n + 1)) := ⟨_, rfl⟩
  have hL' : LRl h v nf ns 0 (n + 1) σx' σm' V d := by rw [ex', em']; exact LR_done hh hv hL (by omega)
  have hfx' : fX h v σx σx' := by rw [ex']; exact fX_uI (fX_rf _ _ _) (Or.inl rfl)
  have hfm' : fM σm σm' := by rw [em']; exact fM_uI (fM_rf _) (by omega)
  have hE' : EnvR v Lt g f σx' σm' := EnvR_fr hh hv hE hfx' hfm'
  have hr' : ∀ q, σx'.1 (h + 1) q = σx.1 (h + 1) q := fun q => by rw [ex', uI_n (by omega)]
  have stp : ∀ (i1 : Nat) (τx : am_M), S_X0_afterStep [.ref h, .ref v, .int (nI i)] σx' = some (some (.int (nI i1)), τx) → rch hd_X0_pass 1 46 (lc h v sd i T) σx 46 (lc h v sd i1 (T + 1)) τx := fun i1 τx ha => LS_step hh hv e1 e2 hL hn' (by omega) (by omega) hLt hgw hw21 hw30 (by rw [← ex']; exact ha)
  have p0 := X_part (σ := σx') (i := i) (w := 0) hv (by omega) (by omega)
  have p1 := X_part (σ := σx') (i := i) (w := 1) hv (by omega) (by omega)
  have p5 := X_part (σ := σx') (i := i) (w := 5) hv (by omega) (by omega)
  rw [hE'.1] at p0 p1 p5
  rcases hI.2 with ⟨c1, c2, hB | ⟨c3, c4⟩⟩ | ⟨p, c1, c2, c3, c4, c5, c6, c7⟩
  · -- a plain step
    subst c1
    have hB' : BasR (σx'.1 (v + 9)) (fun j => σm'.1 128 (172 + j)) i k := by rw [hE'.1, hE'.2.2]; exact hB
    have hq5 : q < 5 := by
      rcases hB with ⟨m, -, -, a, b, -⟩ | ⟨m, o, -, -, a, b, -⟩ | ⟨a, b⟩ | ⟨a, b⟩ | ⟨a, b⟩
      all_goals
        have := (nI_eq (by omega) (by omega)).mp (hfq.symm.trans b)
        omega
    obtain ⟨τx, τm, b, V', d', y1, y2, y3, y4, y5, y6, y7⟩ := L_bas hh hv hL' (by omega) (by omega) hB'
    have h45 : σm'.1 123 45 = σm.1 123 45 := by rw [em', uI_s, up_n (by omega)]
    rw [h45] at y4
    refine ⟨_, D_lt (by omega) h44 hn' hmq hq5 (by rw [← em']; exact y2), τx, n + 1, V', d', by omega, fX_tr hfx' y5, fM_tr hfm' (fM_uI y6 (by omega)), fun j hj => by rw [y7, hr'], Or.inl ⟨T + 1, by omega, y4, rch_mono (stp _ _ y1) (by omega)⟩⟩
  · -- stop
    subst c1
    have hw : w = 22 := (nI_eq (by omega) (by omega)).mp (hgw.symm.trans c3)
    have hq : q = 7 := (nI_eq (by omega) (by omega)).mp (hfq.symm.trans c4)
    rw [hgw, hw] at p0
    have ha : S_X0_afterStep [.ref h, .ref v, .int (nI i)] σx' = some (some (.int (nI Lt)), σx') := by
      have e2' := hE'.2.1
      simp (disch := omega) only [g_X0_afterStep, ↓e_X0_afterStep_0, ↓e_X0_afterStep_104, ↓it_s, ↓y_iload, ↓y_lload, ↓y_aload, ↓y_istore, ↓y_lstore, ↓y_astore, ↓y_iinc, ↓y_cI, ↓y_cL, ↓y_bin, ↓y_binL, ↓y_div, ↓y_divL, ↓y_lshl, ↓y_un, ↓y_i2l, ↓y_lneg, ↓y_l2i, ↓y_lcmp, ↓y_dupI, ↓y_dupR, ↓y_dup2, ↓y_pop, ↓y_goto, ↓y_eq0, ↓y_lt0, ↓y_le0, ↓y_eq, ↓y_lt, ↓y_le, ↓y_switch, ↓y_sw0, ↓y_sw1, ↓y_getI, ↓y_getL, ↓y_getR, ↓y_getT, ↓y_putI, ↓y_putZ, ↓y_putL, ↓y_putT, ↓y_iald, ↓y_bald, ↓y_lald, ↓y_aald, ↓y_iast, ↓y_bast, ↓y_last, ↓y_alen, ↓y_iret, ↓y_zret, ↓y_lret, ↓y_vret, ↓y_svI, ↓y_svL, ↓y_svV, ↓y_ivI, ↓y_ivL, ↓y_ivV, ↓y_max, ↓y_min, ↓y_absL, ↓y_cpI, ↓y_cpL, ↓x_n1I, ↓x_n1L, ↓x_n1R, ↓x_n0I, ↓x_n0L, ↓x_n0R, ↓x_s0, ↓x_s1i, ↓x_s1r, ↓x_s1n, ↓x_s2, ↓x_c0, ↓x_c2, ↓x_tk0, ↓x_tk1, ↓x_rcv, x_rI1, x_rL1, x_rV1, x_rIn, x_rLn, x_rVn, x_rIf, x_rLf, x_rVf, x_40, x_41, x_42, x_43, x_44, ↓reduceIte, if_true, if_false, ao_iadd, ao_isub, ao_imul, ao_iand, ao_ior, ao_ishl, ao_ishr, ao_iushr, ao_ladd, ao_lsub, ao_lmul, ao_land, ao_lor, ao_idiv, ao_irem, ao_ldiv, ao_lrem, ao_ineg, ao_i2b, ao_i2s, Nat.reduceAdd, Nat.reduceMul, Nat.reduceSub, Nat.reduceEqDiff, Nat.reduceLeDiff, and_self, true_and, x_lit, x_ofn, x_z0, x_z1, x_inbT, x_ltT, x_ltF, x_leT, x_leF, x_eqF, x_eqT, x_inb, x_lt, x_le, x_eq, x_cl, x_sub, nI_add, pk_mul, x_m1e, x_m1e', x_m1l, x_m1n, x_m1s, Nat.not_lt_zero, x_zb, x_b0, x_b1, decide_eq_false_iff_not, decide_eq_true_eq, Bool.false_eq_true, Bool.true_eq_false, k0, kv, k8, p0, p1, e2']
    have hm := D_ge (E := E) (by omega) h44 hn' hmq (by omega) hq9
    rw [← em', hq] at hm
    obtain ⟨B, eB⟩ : ∃ B, B = am_it (hd_X11_doOne E) am_fuel := ⟨_, rfl⟩
    rw [← eB] at hm
    have hm2 : F_X11_doOne E [.ref 123, .int (nI k)] σm = some (none, am_uI σm' 123 42 (nI 1)) := by
      rw [hm]
      simp (disch := omega) only [↓e_X11_doOne_77, ↓e_X11_doOne_109, ↓e_X11_doOne_163, ↓e_X11_doOne_174, ↓it_s, ↓y_iload, ↓y_lload, ↓y_aload, ↓y_istore, ↓y_lstore, ↓y_astore, ↓y_iinc, ↓y_cI, ↓y_cL, ↓y_bin, ↓y_binL, ↓y_div, ↓y_divL, ↓y_lshl, ↓y_un, ↓y_i2l, ↓y_lneg, ↓y_l2i, ↓y_lcmp, ↓y_dupI, ↓y_dupR, ↓y_dup2, ↓y_pop, ↓y_goto, ↓y_eq0, ↓y_lt0, ↓y_le0, ↓y_eq, ↓y_lt, ↓y_le, ↓y_switch, ↓y_sw0, ↓y_sw1, ↓y_getI, ↓y_getL, ↓y_getR, ↓y_getT, ↓y_putI, ↓y_putZ, ↓y_putL, ↓y_putT, ↓y_iald, ↓y_bald, ↓y_lald, ↓y_aald, ↓y_iast, ↓y_bast, ↓y_last, ↓y_alen, ↓y_iret, ↓y_zret, ↓y_lret, ↓y_vret, ↓y_svI, ↓y_svL, ↓y_svV, ↓y_ivI, ↓y_ivL, ↓y_ivV, ↓y_max, ↓y_min, ↓y_absL, ↓y_cpI, ↓y_cpL, ↓x_n1I, ↓x_n1L, ↓x_n1R, ↓x_n0I, ↓x_n0L, ↓x_n0R, ↓x_s0, ↓x_s1i, ↓x_s1r, ↓x_s1n, ↓x_s2, ↓x_c0, ↓x_c2, ↓x_tk0, ↓x_tk1, ↓x_rcv, x_rI1, x_rL1, x_rV1, x_rIn, x_rLn, x_rVn, x_rIf, x_rLf, x_rVf, x_40, x_41, x_42, x_43, x_44, ↓reduceIte, if_true, if_false, ao_iadd, ao_isub, ao_imul, ao_iand, ao_ior, ao_ishl, ao_ishr, ao_iushr, ao_ladd, ao_lsub, ao_lmul, ao_land, ao_lor, ao_idiv, ao_irem, ao_ldiv, ao_lrem, ao_ineg, ao_i2b, ao_i2s, Nat.reduceAdd, Nat.reduceMul, Nat.reduceSub, Nat.reduceEqDiff, Nat.reduceLeDiff, and_self, true_and, x_lit, x_ofn, x_z0, x_z1, x_inbT, x_ltT, x_ltF, x_leT, x_leF, x_eqF, x_eqT, x_inb, x_lt, x_le, x_eq, x_cl, x_sub, nI_add, pk_mul, x_m1e, x_m1e', x_m1l, x_m1n, x_m1s, Nat.not_lt_zero, x_zb, x_b0, x_b1, decide_eq_false_iff_not, decide_eq_true_eq, Bool.false_eq_true, Bool.true_eq_false, kd_123]
    exact ⟨_, hm2, σx', n + 1, V, d, by omega, hfx', fM_tr hfm' (fM_uI (fM_rf _) (by omega)), fun j hj => hr' j, Or.inr ⟨LR_over hL', fin_mono (rch_fin (stp _ _ ha) (LS_exit hv hE'.2.1 (by omega) rfl hLt)) (by omega)⟩⟩
  · subst c1
    have hkk := hle _ _ _ _ c6
    have f8m : σm'.1 128 (172 + 9 * k + 8) = nI k' := by rw [← w8]; exact (congrFun hE'.2.2 _).trans hI.1
    rcases c7 with ⟨A, a1, a2, a3, a4, a5, a6⟩ | ⟨a3, a4, a5⟩
    · -- a loop
      have hw : w = 20 := (nI_eq (by omega) (by omega)).mp (hgw.symm.trans a3)
      have hq : q = 6 := (nI_eq (by omega) (by omega)).mp (hfq.symm.trans a4)
      rw [hgw, hw] at p0
      rw [a5] at p1
      have hsr := X_startRounds (A := A) (σ := σx') hh (show i < 60 by omega)
      have ha : S_X0_afterStep [.ref h, .ref v, .int (nI i)] σx' = some (some (.int (nI (i + 1))), am_uI σx' (h + 1) i (nI A)) := by
        simp (disch := omega) only [g_X0_afterStep, ↓e_X0_afterStep_0, ↓e_X0_afterStep_109, ↓e_X0_afterStep_178, ↓e_X0_afterStep_193, ↓it_s, ↓y_iload, ↓y_lload, ↓y_aload, ↓y_istore, ↓y_lstore, ↓y_astore, ↓y_iinc, ↓y_cI, ↓y_cL, ↓y_bin, ↓y_binL, ↓y_div, ↓y_divL, ↓y_lshl, ↓y_un, ↓y_i2l, ↓y_lneg, ↓y_l2i, ↓y_lcmp, ↓y_dupI, ↓y_dupR, ↓y_dup2, ↓y_pop, ↓y_goto, ↓y_eq0, ↓y_lt0, ↓y_le0, ↓y_eq, ↓y_lt, ↓y_le, ↓y_switch, ↓y_sw0, ↓y_sw1, ↓y_getI, ↓y_getL, ↓y_getR, ↓y_getT, ↓y_putI, ↓y_putZ, ↓y_putL, ↓y_putT, ↓y_iald, ↓y_bald, ↓y_lald, ↓y_aald, ↓y_iast, ↓y_bast, ↓y_last, ↓y_alen, ↓y_iret, ↓y_zret, ↓y_lret, ↓y_vret, ↓y_svI, ↓y_svL, ↓y_svV, ↓y_ivI, ↓y_ivL, ↓y_ivV, ↓y_max, ↓y_min, ↓y_absL, ↓y_cpI, ↓y_cpL, ↓x_n1I, ↓x_n1L, ↓x_n1R, ↓x_n0I, ↓x_n0L, ↓x_n0R, ↓x_s0, ↓x_s1i, ↓x_s1r, ↓x_s1n, ↓x_s2, ↓x_c0, ↓x_c2, ↓x_tk0, ↓x_tk1, ↓x_rcv, x_rI1, x_rL1, x_rV1, x_rIn, x_rLn, x_rVn, x_rIf, x_rLf, x_rVf, x_40, x_41, x_42, x_43, x_44, ↓reduceIte, if_true, if_false, ao_iadd, ao_isub, ao_imul, ao_iand, ao_ior, ao_ishl, ao_ishr, ao_iushr, ao_ladd, ao_lsub, ao_lmul, ao_land, ao_lor, ao_idiv, ao_irem, ao_ldiv, ao_lrem, ao_ineg, ao_i2b, ao_i2s, Nat.reduceAdd, Nat.reduceMul, Nat.reduceSub, Nat.reduceEqDiff, Nat.reduceLeDiff, and_self, true_and, x_lit, x_ofn, x_z0, x_z1, x_inbT, x_ltT, x_ltF, x_leT, x_leF, x_eqF, x_eqT, x_inb, x_lt, x_le, x_eq, x_cl, x_sub, nI_add, pk_mul, x_m1e, x_m1e', x_m1l, x_m1n, x_m1s, Nat.not_lt_zero, x_zb, x_b0, x_b1, decide_eq_false_iff_not, decide_eq_true_eq, Bool.false_eq_true, Bool.true_eq_false, k0, kv, k8, p0, p1, hsr]
      obtain ⟨σx2, ex2⟩ : ∃ s, s = am_uI σx' (h + 1) i (nI A) := ⟨_, rfl⟩
      rw [← ex2] at ha
      have hfx2 : fX h v σx' σx2 := by rw [ex2]; exact fX_h1 _
      have hL2 : LRl h v nf ns 0 (n + 1) σx2 σm' V d := by rw [ex2]; exact LR_x hL' (VG_fr hL'.1 (fun a b c => uI_n (by omega))) (uI_n (by omega))
      obtain ⟨τm, z0, τx, n', V', d', z1, z2, z3, z4, z5⟩ := LS_loop (sd := sd) (n0 := n) (T0 := T) hh hv hsub c2 (show p < Lt by omega) hLt hk' (show k < 30 by omega) c6 a3 c4 c5 a6 hI.1 a2 hT (A - 1) 0 (n + 1) (T + 1) V d σx2 σm' (by omega) (EnvR_fr hh hv hE' hfx2 (fM_rf _)) hL2 (by omega) (by omega) (by rw [ex2, uI_s, up_s, show A - 1 + 1 = A by omega])
      have hm := D_ge (E := E) (by omega) h44 hn' hmq (by omega) hq9
      rw [← em', hq] at hm
      have hrun := fin_run z0 (by unfold am_fuel; omega)
      have hm2 : F_X11_doOne E [.ref 123, .int (nI k)] σm = some (none, τm) := by
        rw [hm, ← hrun]
        simp (disch := omega) only [↓e_X11_doOne_77, ↓e_X11_doOne_109, ↓h_X11_doOne_118, ↓it_s, ↓y_iload, ↓y_lload, ↓y_aload, ↓y_istore, ↓y_lstore, ↓y_astore, ↓y_iinc, ↓y_cI, ↓y_cL, ↓y_bin, ↓y_binL, ↓y_div, ↓y_divL, ↓y_lshl, ↓y_un, ↓y_i2l, ↓y_lneg, ↓y_l2i, ↓y_lcmp, ↓y_dupI, ↓y_dupR, ↓y_dup2, ↓y_pop, ↓y_goto, ↓y_eq0, ↓y_lt0, ↓y_le0, ↓y_eq, ↓y_lt, ↓y_le, ↓y_switch, ↓y_sw0, ↓y_sw1, ↓y_getI, ↓y_getL, ↓y_getR, ↓y_getT, ↓y_putI, ↓y_putZ, ↓y_putL, ↓y_putT, ↓y_iald, ↓y_bald, ↓y_lald, ↓y_aald, ↓y_iast, ↓y_bast, ↓y_last, ↓y_alen, ↓y_iret, ↓y_zret, ↓y_lret, ↓y_vret, ↓y_svI, ↓y_svL, ↓y_svV, ↓y_ivI, ↓y_ivL, ↓y_ivV, ↓y_max, ↓y_min, ↓y_absL, ↓y_cpI, ↓y_cpL, ↓x_n1I, ↓x_n1L, ↓x_n1R, ↓x_n0I, ↓x_n0L, ↓x_n0R, ↓x_s0, ↓x_s1i, ↓x_s1r, ↓x_s1n, ↓x_s2, ↓x_c0, ↓x_c2, ↓x_tk0, ↓x_tk1, ↓x_rcv, x_rI1, x_rL1, x_rV1, x_rIn, x_rLn, x_rVn, x_rIf, x_rLf, x_rVf, x_40, x_41, x_42, x_43, x_44, ↓reduceIte, if_true, if_false, ao_iadd, ao_isub, ao_imul, ao_iand, ao_ior, ao_ishl, ao_ishr, ao_iushr, ao_ladd, ao_lsub, ao_lmul, ao_land, ao_lor, ao_idiv, ao_irem, ao_ldiv, ao_lrem, ao_ineg, ao_i2b, ao_i2s, Nat.reduceAdd, Nat.reduceMul, Nat.reduceSub, Nat.reduceEqDiff, Nat.reduceLeDiff, and_self, true_and, x_lit, x_ofn, x_z0, x_z1, x_inbT, x_ltT, x_ltF, x_leT, x_leF, x_eqF, x_eqT, x_inb, x_lt, x_le, x_eq, x_cl, x_sub, nI_add, pk_mul, x_m1e, x_m1e', x_m1l, x_m1n, x_m1s, Nat.not_lt_zero, x_zb, x_b0, x_b1, decide_eq_false_iff_not, decide_eq_true_eq, Bool.false_eq_true, Bool.true_eq_false, kd_123]
      refine ⟨τm, hm2, τx, n', V', d', by omega, fX_tr hfx' (fX_tr hfx2 z2), fM_tr hfm' z3, fun j hj => ?_, ?_⟩
      · rw [z4 j (by omega), ex2, uI_s, up_n (by omega), hr']
      · rcases z5 with ⟨T', s1, s2, s3⟩ | ⟨s2, s3⟩
        · exact Or.inl ⟨T', by omega, s2, rch_mono (rch_tr (stp _ _ ha) s3) (by omega)⟩
        · exact Or.inr ⟨s2, fin_mono (rch_fin (stp _ _ ha) s3) (by omega)⟩
    · -- a when
      have hw : w = 17 := (nI_eq (by omega) (by omega)).mp (hgw.symm.trans a3)
      have hq : q = 5 := (nI_eq (by omega) (by omega)).mp (hfq.symm.trans a4)
      rw [hgw, hw] at p0
      rw [c3] at p5
      have hnf := Nat.le_of_eq hL'.2.2.2.1.1
      obtain ⟨σx2, x1, x2, x3⟩ := X_holds (f := f) (k := k) (i := i) hh hv hL'.1 hL'.2.1 (by omega) (by rw [hE'.1]; exact a5) hnf
      have y1 := M_isSo (i := i) (g := g) hL'.2.2.1 hL'.2.1 (show k < 30 by omega) (by rw [hE'.2.2]; exact a5) hnf
      rw [hE'.1] at x1
      have hfx2 : fX h v σx' σx2 := ⟨x2, fun j a b c d => x3 j d⟩
      have hL2 : LRl h v nf ns 0 (n + 1) σx2 σm' V d := LR_x hL' (VG_fr hL'.1 (fun a b c => x3 a (by omega))) (x3 h (by omega))
      have hE2 := EnvR_fr hh hv hE' hfx2 (fM_rf _)
      have p5' := X_part (σ := σx2) (i := i) (w := 5) hv (by omega) (by omega)
      rw [hE2.1, c3] at p5'
      have hm := D_ge (E := E) (by omega) h44 hn' hmq (by omega) hq9
      rw [← em', hq] at hm
      obtain ⟨B, eB⟩ : ∃ B, B = am_it (hd_X11_doOne E) am_fuel := ⟨_, rfl⟩
      rw [← eB] at hm
      cases hb : testB V g i with
      | true =>
        rw [hb] at x1 y1
        have ha : S_X0_afterStep [.ref h, .ref v, .int (nI i)] σx' = some (some (.int (nI (i + 1))), σx2) := by
          simp (disch := omega) only [g_X0_afterStep, ↓e_X0_afterStep_0, ↓e_X0_afterStep_80, ↓e_X0_afterStep_103, ↓it_s, ↓y_iload, ↓y_lload, ↓y_aload, ↓y_istore, ↓y_lstore, ↓y_astore, ↓y_iinc, ↓y_cI, ↓y_cL, ↓y_bin, ↓y_binL, ↓y_div, ↓y_divL, ↓y_lshl, ↓y_un, ↓y_i2l, ↓y_lneg, ↓y_l2i, ↓y_lcmp, ↓y_dupI, ↓y_dupR, ↓y_dup2, ↓y_pop, ↓y_goto, ↓y_eq0, ↓y_lt0, ↓y_le0, ↓y_eq, ↓y_lt, ↓y_le, ↓y_switch, ↓y_sw0, ↓y_sw1, ↓y_getI, ↓y_getL, ↓y_getR, ↓y_getT, ↓y_putI, ↓y_putZ, ↓y_putL, ↓y_putT, ↓y_iald, ↓y_bald, ↓y_lald, ↓y_aald, ↓y_iast, ↓y_bast, ↓y_last, ↓y_alen, ↓y_iret, ↓y_zret, ↓y_lret, ↓y_vret, ↓y_svI, ↓y_svL, ↓y_svV, ↓y_ivI, ↓y_ivL, ↓y_ivV, ↓y_max, ↓y_min, ↓y_absL, ↓y_cpI, ↓y_cpL, ↓x_n1I, ↓x_n1L, ↓x_n1R, ↓x_n0I, ↓x_n0L, ↓x_n0R, ↓x_s0, ↓x_s1i, ↓x_s1r, ↓x_s1n, ↓x_s2, ↓x_c0, ↓x_c2, ↓x_tk0, ↓x_tk1, ↓x_rcv, x_rI1, x_rL1, x_rV1, x_rIn, x_rLn, x_rVn, x_rIf, x_rLf, x_rVf, x_40, x_41, x_42, x_43, x_44, ↓reduceIte, if_true, if_false, ao_iadd, ao_isub, ao_imul, ao_iand, ao_ior, ao_ishl, ao_ishr, ao_iushr, ao_ladd, ao_lsub, ao_lmul, ao_land, ao_lor, ao_idiv, ao_irem, ao_ldiv, ao_lrem, ao_ineg, ao_i2b, ao_i2s, Nat.reduceAdd, Nat.reduceMul, Nat.reduceSub, Nat.reduceEqDiff, Nat.reduceLeDiff, and_self, true_and, x_lit, x_ofn, x_z0, x_z1, x_inbT, x_ltT, x_ltF, x_leT, x_leF, x_eqF, x_eqT, x_inb, x_lt, x_le, x_eq, x_cl, x_sub, nI_add, pk_mul, x_m1e, x_m1e', x_m1l, x_m1n, x_m1s, Nat.not_lt_zero, x_zb, x_b0, x_b1, decide_eq_false_iff_not, decide_eq_true_eq, Bool.false_eq_true, Bool.true_eq_false, k0, kv, k8, p0, p1, x1, b2_t]
        obtain ⟨τm, z0, τx, n', V', d', z1, z2, z3, z4, z5⟩ := hsub _ _ _ _ c6 (by omega) hk' (n + 1) (T + 1) V d σx2 σm' hE2 hL2 (by omega)
        have hm2 : F_X11_doOne E [.ref 123, .int (nI k)] σm = some (none, τm) := by
          rw [hm]
          simp (disch := omega) only [↓e_X11_doOne_77, ↓e_X11_doOne_174, ↓it_s, ↓y_iload, ↓y_lload, ↓y_aload, ↓y_istore, ↓y_lstore, ↓y_astore, ↓y_iinc, ↓y_cI, ↓y_cL, ↓y_bin, ↓y_binL, ↓y_div, ↓y_divL, ↓y_lshl, ↓y_un, ↓y_i2l, ↓y_lneg, ↓y_l2i, ↓y_lcmp, ↓y_dupI, ↓y_dupR, ↓y_dup2, ↓y_pop, ↓y_goto, ↓y_eq0, ↓y_lt0, ↓y_le0, ↓y_eq, ↓y_lt, ↓y_le, ↓y_switch, ↓y_sw0, ↓y_sw1, ↓y_getI, ↓y_getL, ↓y_getR, ↓y_getT, ↓y_putI, ↓y_putZ, ↓y_putL, ↓y_putT, ↓y_iald, ↓y_bald, ↓y_lald, ↓y_aald, ↓y_iast, ↓y_bast, ↓y_last, ↓y_alen, ↓y_iret, ↓y_zret, ↓y_lret, ↓y_vret, ↓y_svI, ↓y_svL, ↓y_svV, ↓y_ivI, ↓y_ivL, ↓y_ivV, ↓y_max, ↓y_min, ↓y_absL, ↓y_cpI, ↓y_cpL, ↓x_n1I, ↓x_n1L, ↓x_n1R, ↓x_n0I, ↓x_n0L, ↓x_n0R, ↓x_s0, ↓x_s1i, ↓x_s1r, ↓x_s1n, ↓x_s2, ↓x_c0, ↓x_c2, ↓x_tk0, ↓x_tk1, ↓x_rcv, x_rI1, x_rL1, x_rV1, x_rIn, x_rLn, x_rVn, x_rIf, x_rLf, x_rVf, x_40, x_41, x_42, x_43, x_44, ↓reduceIte, if_true, if_false, ao_iadd, ao_isub, ao_imul, ao_iand, ao_ior, ao_ishl, ao_ishr, ao_iushr, ao_ladd, ao_lsub, ao_lmul, ao_land, ao_lor, ao_idiv, ao_irem, ao_ldiv, ao_lrem, ao_ineg, ao_i2b, ao_i2s, Nat.reduceAdd, Nat.reduceMul, Nat.reduceSub, Nat.reduceEqDiff, Nat.reduceLeDiff, and_self, true_and, x_lit, x_ofn, x_z0, x_z1, x_inbT, x_ltT, x_ltF, x_leT, x_leF, x_eqF, x_eqT, x_inb, x_lt, x_le, x_eq, x_cl, x_sub, nI_add, pk_mul, x_m1e, x_m1e', x_m1l, x_m1n, x_m1s, Nat.not_lt_zero, x_zb, x_b0, x_b1, decide_eq_false_iff_not, decide_eq_true_eq, Bool.false_eq_true, Bool.true_eq_false, y1, b2_t, f8m, z0, kd_123, kd_128, ln_128]
        have hE3 := EnvR_fr hh hv hE2 z2 z3
        have hrr : ∀ j, (j < i ∨ p + 1 ≤ j) → τx.1 (h + 1) j = σx.1 (h + 1) j := fun j hj => by rw [z4 j (by omega), x3 (h + 1) (by omega), hr']
        refine ⟨τm, hm2, τx, n', V', d', by omega, fX_tr hfx' (fX_tr hfx2 z2), fM_tr hfm' z3, hrr, ?_⟩
        rcases z5 with ⟨T', s1, s2, s3⟩ | ⟨s2, s3⟩
        · have hn1 := s2.2.2.2.2.2.2.2.2.2.2.2.2.2.2.2
          have hend := X_endWhen hh hv (show p < 60 by omega) c2 (by rw [hE3.1]; exact c5) (by rw [hE3.1]; exact a3)
          have r3 := LS_end (sd := sd) (T := T') hh hv hE3.1 hE3.2.1 (by omega) (show p < Lt by omega) hLt c4 hend
          exact Or.inl ⟨T' + 1, by omega, s2, rch_mono (rch_tr (stp _ _ ha) (rch_tr s3 r3)) (by omega)⟩
        · exact Or.inr ⟨s2, fin_mono (rch_fin (stp _ _ ha) s3) (by omega)⟩
      | false =>
        rw [hb] at x1 y1
        have ha : S_X0_afterStep [.ref h, .ref v, .int (nI i)] σx' = some (some (.int (nI (p + 1))), σx2) := by
          simp (disch := omega) only [g_X0_afterStep, ↓e_X0_afterStep_0, ↓e_X0_afterStep_80, ↓e_X0_afterStep_95, ↓e_X0_afterStep_103, ↓it_s, ↓y_iload, ↓y_lload, ↓y_aload, ↓y_istore, ↓y_lstore, ↓y_astore, ↓y_iinc, ↓y_cI, ↓y_cL, ↓y_bin, ↓y_binL, ↓y_div, ↓y_divL, ↓y_lshl, ↓y_un, ↓y_i2l, ↓y_lneg, ↓y_l2i, ↓y_lcmp, ↓y_dupI, ↓y_dupR, ↓y_dup2, ↓y_pop, ↓y_goto, ↓y_eq0, ↓y_lt0, ↓y_le0, ↓y_eq, ↓y_lt, ↓y_le, ↓y_switch, ↓y_sw0, ↓y_sw1, ↓y_getI, ↓y_getL, ↓y_getR, ↓y_getT, ↓y_putI, ↓y_putZ, ↓y_putL, ↓y_putT, ↓y_iald, ↓y_bald, ↓y_lald, ↓y_aald, ↓y_iast, ↓y_bast, ↓y_last, ↓y_alen, ↓y_iret, ↓y_zret, ↓y_lret, ↓y_vret, ↓y_svI, ↓y_svL, ↓y_svV, ↓y_ivI, ↓y_ivL, ↓y_ivV, ↓y_max, ↓y_min, ↓y_absL, ↓y_cpI, ↓y_cpL, ↓x_n1I, ↓x_n1L, ↓x_n1R, ↓x_n0I, ↓x_n0L, ↓x_n0R, ↓x_s0, ↓x_s1i, ↓x_s1r, ↓x_s1n, ↓x_s2, ↓x_c0, ↓x_c2, ↓x_tk0, ↓x_tk1, ↓x_rcv, x_rI1, x_rL1, x_rV1, x_rIn, x_rLn, x_rVn, x_rIf, x_rLf, x_rVf, x_40, x_41, x_42, x_43, x_44, ↓reduceIte, if_true, if_false, ao_iadd, ao_isub, ao_imul, ao_iand, ao_ior, ao_ishl, ao_ishr, ao_iushr, ao_ladd, ao_lsub, ao_lmul, ao_land, ao_lor, ao_idiv, ao_irem, ao_ldiv, ao_lrem, ao_ineg, ao_i2b, ao_i2s, Nat.reduceAdd, Nat.reduceMul, Nat.reduceSub, Nat.reduceEqDiff, Nat.reduceLeDiff, and_self, true_and, x_lit, x_ofn, x_z0, x_z1, x_inbT, x_ltT, x_ltF, x_leT, x_leF, x_eqF, x_eqT, x_inb, x_lt, x_le, x_eq, x_cl, x_sub, nI_add, pk_mul, x_m1e, x_m1e', x_m1l, x_m1n, x_m1s, Nat.not_lt_zero, x_zb, x_b0, x_b1, decide_eq_false_iff_not, decide_eq_true_eq, Bool.false_eq_true, Bool.true_eq_false, k0, kv, k8, p0, p1, x1, p5', b2_f]
        have hm2 : F_X11_doOne E [.ref 123, .int (nI k)] σm = some (none, σm') := by
          rw [hm]
          simp (disch := omega) only [↓e_X11_doOne_77, ↓e_X11_doOne_109, ↓e_X11_doOne_163, ↓e_X11_doOne_174, ↓it_s, ↓y_iload, ↓y_lload, ↓y_aload, ↓y_istore, ↓y_lstore, ↓y_astore, ↓y_iinc, ↓y_cI, ↓y_cL, ↓y_bin, ↓y_binL, ↓y_div, ↓y_divL, ↓y_lshl, ↓y_un, ↓y_i2l, ↓y_lneg, ↓y_l2i, ↓y_lcmp, ↓y_dupI, ↓y_dupR, ↓y_dup2, ↓y_pop, ↓y_goto, ↓y_eq0, ↓y_lt0, ↓y_le0, ↓y_eq, ↓y_lt, ↓y_le, ↓y_switch, ↓y_sw0, ↓y_sw1, ↓y_getI, ↓y_getL, ↓y_getR, ↓y_getT, ↓y_putI, ↓y_putZ, ↓y_putL, ↓y_putT, ↓y_iald, ↓y_bald, ↓y_lald, ↓y_aald, ↓y_iast, ↓y_bast, ↓y_last, ↓y_alen, ↓y_iret, ↓y_zret, ↓y_lret, ↓y_vret, ↓y_svI, ↓y_svL, ↓y_svV, ↓y_ivI, ↓y_ivL, ↓y_ivV, ↓y_max, ↓y_min, ↓y_absL, ↓y_cpI, ↓y_cpL, ↓x_n1I, ↓x_n1L, ↓x_n1R, ↓x_n0I, ↓x_n0L, ↓x_n0R, ↓x_s0, ↓x_s1i, ↓x_s1r, ↓x_s1n, ↓x_s2, ↓x_c0, ↓x_c2, ↓x_tk0, ↓x_tk1, ↓x_rcv, x_rI1, x_rL1, x_rV1, x_rIn, x_rLn, x_rVn, x_rIf, x_rLf, x_rVf, x_40, x_41, x_42, x_43, x_44, ↓reduceIte, if_true, if_false, ao_iadd, ao_isub, ao_imul, ao_iand, ao_ior, ao_ishl, ao_ishr, ao_iushr, ao_ladd, ao_lsub, ao_lmul, ao_land, ao_lor, ao_idiv, ao_irem, ao_ldiv, ao_lrem, ao_ineg, ao_i2b, ao_i2s, Nat.reduceAdd, Nat.reduceMul, Nat.reduceSub, Nat.reduceEqDiff, Nat.reduceLeDiff, and_self, true_and, x_lit, x_ofn, x_z0, x_z1, x_inbT, x_ltT, x_ltF, x_leT, x_leF, x_eqF, x_eqT, x_inb, x_lt, x_le, x_eq, x_cl, x_sub, nI_add, pk_mul, x_m1e, x_m1e', x_m1l, x_m1n, x_m1s, Nat.not_lt_zero, x_zb, x_b0, x_b1, decide_eq_false_iff_not, decide_eq_true_eq, Bool.false_eq_true, Bool.true_eq_false, y1, b2_f, kd_123, kd_128, ln_128]
        exact ⟨σm', hm2, σx2, n + 1, V, d, by omega, fX_tr hfx' hfx2, hfm', fun j hj => by rw [x3 (h + 1) (by omega), hr'], Or.inl ⟨T + 1, by omega, hL2, rch_mono (stp _ _ ha) (by omega)⟩⟩
theorem LS_seq {h v nf ns sd Lt : Nat} {g f : Nat → Int32} {E : am_F} {Sub : Nat → Nat → Nat → Nat → Prop} (hh : isH h) (hv : isLV v) (hsub : SubOK h v nf ns sd Lt g f E Sub) (hle : ∀ l L k K, Sub l L k K → l ≤ L ∧ k ≤ K) (hLt : Lt ≤ 60) : ∀ (N l L k K k0 n T : Nat) (V : Vt) (d : Nat) (σx σm : am_M), SqR Sub nf g f N l L k K → L ≤ Lt → K ≤ 30 → EnvR v Lt g f σx σm → LRl h v nf ns 0 n σx σm V d → T ≤ 100 * n →
    ∃ τm, fin (hd_X11_doAll (F_X11_doOne E)) N 2 [some (.ref 123), some (.int (nI k0)), some (.int (nI K)), some (.int (nI k))] σm (some (none, τm)) ∧ LSr h v nf ns sd σx σm τm n T l L := by
  intro N
  induction N with
  | zero =>
    intro l L k K k0 n T V d σx σm hS hLL hK hE hL hT
    obtain ⟨e1, e2⟩ := hS
    subst e1
    subst e2
    refine ⟨σm, fin_0 fun B => ?_, σx, n, V, d, Nat.le_refl _, fX_rf _ _ _, fM_rf _, fun _ _ => rfl, Or.inl ⟨T, by omega, hL, rch_rf _ _ _ _⟩⟩
    simp (disch := omega) only [↓e_X11_doAll_2, ↓e_X11_doAll_39, ↓h_X11_doAll_2, ↓it_s, ↓y_iload, ↓y_lload, ↓y_aload, ↓y_istore, ↓y_lstore, ↓y_astore, ↓y_iinc, ↓y_cI, ↓y_cL, ↓y_bin, ↓y_binL, ↓y_div, ↓y_divL, ↓y_lshl, ↓y_un, ↓y_i2l, ↓y_lneg, ↓y_l2i, ↓y_lcmp, ↓y_dupI, ↓y_dupR, ↓y_dup2, ↓y_pop, ↓y_goto, ↓y_eq0, ↓y_lt0, ↓y_le0, ↓y_eq, ↓y_lt, ↓y_le, ↓y_switch, ↓y_sw0, ↓y_sw1, ↓y_getI, ↓y_getL, ↓y_getR, ↓y_getT, ↓y_putI, ↓y_putZ, ↓y_putL, ↓y_putT, ↓y_iald, ↓y_bald, ↓y_lald, ↓y_aald, ↓y_iast, ↓y_bast, ↓y_last, ↓y_alen, ↓y_iret, ↓y_zret, ↓y_lret, ↓y_vret, ↓y_svI, ↓y_svL, ↓y_svV, ↓y_ivI, ↓y_ivL, ↓y_ivV, ↓y_max, ↓y_min, ↓y_absL, ↓y_cpI, ↓y_cpL, ↓x_n1I, ↓x_n1L, ↓x_n1R, ↓x_n0I, ↓x_n0L, ↓x_n0R, ↓x_s0, ↓x_s1i, ↓x_s1r, ↓x_s1n, ↓x_s2, ↓x_c0, ↓x_c2, ↓x_tk0, ↓x_tk1, ↓x_rcv, x_rI1, x_rL1, x_rV1, x_rIn, x_rLn, x_rVn, x_rIf, x_rLf, x_rVf, x_40, x_41, x_42, x_43, x_44, ↓reduceIte, if_true, if_false, ao_iadd, ao_isub, ao_imul, ao_iand, ao_ior, ao_ishl, ao_ishr, ao_iushr, ao_ladd, ao_lsub, ao_lmul, ao_land, ao_lor, ao_idiv, ao_irem, ao_ldiv, ao_lrem, ao_ineg, ao_i2b, ao_i2s, Nat.reduceAdd, Nat.reduceMul, Nat.reduceSub, Nat.reduceEqDiff, Nat.reduceLeDiff, and_self, true_and, x_lit, x_ofn, x_z0, x_z1, x_inbT, x_ltT, x_ltF, x_leT, x_leF, x_eqF, x_eqT, x_inb, x_lt, x_le, x_eq, x_cl, x_sub, nI_add, pk_mul, x_m1e, x_m1e', x_m1l, x_m1n, x_m1s, Nat.not_lt_zero, x_zb, x_b0, x_b1, decide_eq_false_iff_not, decide_eq_true_eq, Bool.false_eq_true, Bool.true_eq_false]
  | succ N ih =>
    intro l L k K k0 n T V d σx σm hS hLL hK hE hL hT
    obtain ⟨i, k1, hI, hR⟩ := hS
    have hlt := ItR_lt hle hI
    have hle2 := SqR_le hle N _ _ _ _ hR
    obtain ⟨τm1, y1, τx1, n1, V1, d1, z1, z2, z3, z4, z5⟩ := LS_item (T := T) hh hv hsub hle hI (by omega) hLt (by omega) hE hL hT
    have hE1 := EnvR_fr hh hv hE z2 z3
    have w8 : 172 + (9 * k + 8) = 172 + 9 * k + 8 := by omega
    have f8m : τm1.1 128 (172 + 9 * k + 8) = nI k1 := by rw [← w8]; exact (congrFun hE1.2.2 _).trans hI.1
    have m42 := hL.2.2.2.2.2.2.2.2.2.2.2.2.2.2.1
    obtain ⟨F, eF⟩ : ∃ F, F = F_X11_doOne E := ⟨_, rfl⟩
    rw [← eF] at y1
    have r1 : rch (hd_X11_doAll F) 1 2 [some (.ref 123), some (.int (nI k0)), some (.int (nI K)), some (.int (nI k))] σm 2 [some (.ref 123), some (.int (nI k0)), some (.int (nI K)), some (.int (nI k1))] τm1 := rch_1 fun B => by
      simp (disch := omega) only [↓e_X11_doAll_2, ↓h_X11_doAll_2, ↓it_s, ↓y_iload, ↓y_lload, ↓y_aload, ↓y_istore, ↓y_lstore, ↓y_astore, ↓y_iinc, ↓y_cI, ↓y_cL, ↓y_bin, ↓y_binL, ↓y_div, ↓y_divL, ↓y_lshl, ↓y_un, ↓y_i2l, ↓y_lneg, ↓y_l2i, ↓y_lcmp, ↓y_dupI, ↓y_dupR, ↓y_dup2, ↓y_pop, ↓y_goto, ↓y_eq0, ↓y_lt0, ↓y_le0, ↓y_eq, ↓y_lt, ↓y_le, ↓y_switch, ↓y_sw0, ↓y_sw1, ↓y_getI, ↓y_getL, ↓y_getR, ↓y_getT, ↓y_putI, ↓y_putZ, ↓y_putL, ↓y_putT, ↓y_iald, ↓y_bald, ↓y_lald, ↓y_aald, ↓y_iast, ↓y_bast, ↓y_last, ↓y_alen, ↓y_iret, ↓y_zret, ↓y_lret, ↓y_vret, ↓y_svI, ↓y_svL, ↓y_svV, ↓y_ivI, ↓y_ivL, ↓y_ivV, ↓y_max, ↓y_min, ↓y_absL, ↓y_cpI, ↓y_cpL, ↓x_n1I, ↓x_n1L, ↓x_n1R, ↓x_n0I, ↓x_n0L, ↓x_n0R, ↓x_s0, ↓x_s1i, ↓x_s1r, ↓x_s1n, ↓x_s2, ↓x_c0, ↓x_c2, ↓x_tk0, ↓x_tk1, ↓x_rcv, x_rI1, x_rL1, x_rV1, x_rIn, x_rLn, x_rVn, x_rIf, x_rLf, x_rVf, x_40, x_41, x_42, x_43, x_44, ↓reduceIte, if_true, if_false, ao_iadd, ao_isub, ao_imul, ao_iand, ao_ior, ao_ishl, ao_ishr, ao_iushr, ao_ladd, ao_lsub, ao_lmul, ao_land, ao_lor, ao_idiv, ao_irem, ao_ldiv, ao_lrem, ao_ineg, ao_i2b, ao_i2s, Nat.reduceAdd, Nat.reduceMul, Nat.reduceSub, Nat.reduceEqDiff, Nat.reduceLeDiff, and_self, true_and, x_lit, x_ofn, x_z0, x_z1, x_inbT, x_ltT, x_ltF, x_leT, x_leF, x_eqF, x_eqT, x_inb, x_lt, x_le, x_eq, x_cl, x_sub, nI_add, pk_mul, x_m1e, x_m1e', x_m1l, x_m1n, x_m1s, Nat.not_lt_zero, x_zb, x_b0, x_b1, decide_eq_false_iff_not, decide_eq_true_eq, Bool.false_eq_true, Bool.true_eq_false, m42, y1, f8m, kd_123, kd_128, ln_128]
    rcases z5 with ⟨T1, s1, s2, s3⟩ | ⟨s2, s3⟩
    · obtain ⟨τm2, u1, τx2, n2, V2, d2, v1, v2, v3, v4, v5⟩ := ih i L k1 K k0 n1 T1 V1 d1 τx1 τm1 hR hLL hK hE1 s2 (by omega)
      rw [← eF] at u1
      rw [← eF]
      refine ⟨τm2, fin_mono (rch_fin r1 u1) (by omega), τx2, n2, V2, d2, by omega, fX_tr z2 v2, fM_tr z3 v3, fun j hj => by rw [v4 j (by omega), z4 j (by omega)], ?_⟩
      rcases v5 with ⟨T2, t1, t2, t3⟩ | ⟨t2, t3⟩
      · exact Or.inl ⟨T2, by omega, t2, rch_mono (rch_tr s3 t3) (by omega)⟩
      · exact Or.inr ⟨t2, fin_mono (rch_fin s3 t3) (by omega)⟩
    · have o42 := s2.2.2.2.2.2.2.2.2.2.2.2.2.2.2.1
      rw [← eF]
      refine ⟨τm1, fin_mono (rch_fin r1 (fin_0 (r := some (none, τm1)) fun B => ?_)) (by omega), τx1, n1, V1, d1, z1, z2, z3, fun j hj => z4 j (by omega), Or.inr ⟨s2, s3⟩⟩
      by_cases e : k1 < K
      · simp (disch := omega) only [↓e_X11_doAll_2, ↓e_X11_doAll_39, ↓h_X11_doAll_2, ↓it_s, ↓y_iload, ↓y_lload, ↓y_aload, ↓y_istore, ↓y_lstore, ↓y_astore, ↓y_iinc, ↓y_cI, ↓y_cL, ↓y_bin, ↓y_binL, ↓y_div, ↓y_divL, ↓y_lshl, ↓y_un, ↓y_i2l, ↓y_lneg, ↓y_l2i, ↓y_lcmp, ↓y_dupI, ↓y_dupR, ↓y_dup2, ↓y_pop, ↓y_goto, ↓y_eq0, ↓y_lt0, ↓y_le0, ↓y_eq, ↓y_lt, ↓y_le, ↓y_switch, ↓y_sw0, ↓y_sw1, ↓y_getI, ↓y_getL, ↓y_getR, ↓y_getT, ↓y_putI, ↓y_putZ, ↓y_putL, ↓y_putT, ↓y_iald, ↓y_bald, ↓y_lald, ↓y_aald, ↓y_iast, ↓y_bast, ↓y_last, ↓y_alen, ↓y_iret, ↓y_zret, ↓y_lret, ↓y_vret, ↓y_svI, ↓y_svL, ↓y_svV, ↓y_ivI, ↓y_ivL, ↓y_ivV, ↓y_max, ↓y_min, ↓y_absL, ↓y_cpI, ↓y_cpL, ↓x_n1I, ↓x_n1L, ↓x_n1R, ↓x_n0I, ↓x_n0L, ↓x_n0R, ↓x_s0, ↓x_s1i, ↓x_s1r, ↓x_s1n, ↓x_s2, ↓x_c0, ↓x_c2, ↓x_tk0, ↓x_tk1, ↓x_rcv, x_rI1, x_rL1, x_rV1, x_rIn, x_rLn, x_rVn, x_rIf, x_rLf, x_rVf, x_40, x_41, x_42, x_43, x_44, ↓reduceIte, if_true, if_false, ao_iadd, ao_isub, ao_imul, ao_iand, ao_ior, ao_ishl, ao_ishr, ao_iushr, ao_ladd, ao_lsub, ao_lmul, ao_land, ao_lor, ao_idiv, ao_irem, ao_ldiv, ao_lrem, ao_ineg, ao_i2b, ao_i2s, Nat.reduceAdd, Nat.reduceMul, Nat.reduceSub, Nat.reduceEqDiff, Nat.reduceLeDiff, and_self, true_and, x_lit, x_ofn, x_z0, x_z1, x_inbT, x_ltT, x_ltF, x_leT, x_leF, x_eqF, x_eqT, x_inb, x_lt, x_le, x_eq, x_cl, x_sub, nI_add, pk_mul, x_m1e, x_m1e', x_m1l, x_m1n, x_m1s, Nat.not_lt_zero, x_zb, x_b0, x_b1, decide_eq_false_iff_not, decide_eq_true_eq, Bool.false_eq_true, Bool.true_eq_false, o42, kd_123]
      · simp (disch := omega) only [↓e_X11_doAll_2, ↓e_X11_doAll_39, ↓h_X11_doAll_2, ↓it_s, ↓y_iload, ↓y_lload, ↓y_aload, ↓y_istore, ↓y_lstore, ↓y_astore, ↓y_iinc, ↓y_cI, ↓y_cL, ↓y_bin, ↓y_binL, ↓y_div, ↓y_divL, ↓y_lshl, ↓y_un, ↓y_i2l, ↓y_lneg, ↓y_l2i, ↓y_lcmp, ↓y_dupI, ↓y_dupR, ↓y_dup2, ↓y_pop, ↓y_goto, ↓y_eq0, ↓y_lt0, ↓y_le0, ↓y_eq, ↓y_lt, ↓y_le, ↓y_switch, ↓y_sw0, ↓y_sw1, ↓y_getI, ↓y_getL, ↓y_getR, ↓y_getT, ↓y_putI, ↓y_putZ, ↓y_putL, ↓y_putT, ↓y_iald, ↓y_bald, ↓y_lald, ↓y_aald, ↓y_iast, ↓y_bast, ↓y_last, ↓y_alen, ↓y_iret, ↓y_zret, ↓y_lret, ↓y_vret, ↓y_svI, ↓y_svL, ↓y_svV, ↓y_ivI, ↓y_ivL, ↓y_ivV, ↓y_max, ↓y_min, ↓y_absL, ↓y_cpI, ↓y_cpL, ↓x_n1I, ↓x_n1L, ↓x_n1R, ↓x_n0I, ↓x_n0L, ↓x_n0R, ↓x_s0, ↓x_s1i, ↓x_s1r, ↓x_s1n, ↓x_s2, ↓x_c0, ↓x_c2, ↓x_tk0, ↓x_tk1, ↓x_rcv, x_rI1, x_rL1, x_rV1, x_rIn, x_rLn, x_rVn, x_rIf, x_rLf, x_rVf, x_40, x_41, x_42, x_43, x_44, ↓reduceIte, if_true, if_false, ao_iadd, ao_isub, ao_imul, ao_iand, ao_ior, ao_ishl, ao_ishr, ao_iushr, ao_ladd, ao_lsub, ao_lmul, ao_land, ao_lor, ao_idiv, ao_irem, ao_ldiv, ao_lrem, ao_ineg, ao_i2b, ao_i2s, Nat.reduceAdd, Nat.reduceMul, Nat.reduceSub, Nat.reduceEqDiff, Nat.reduceLeDiff, and_self, true_and, x_lit, x_ofn, x_z0, x_z1, x_inbT, x_ltT, x_ltF, x_leT, x_leF, x_eqF, x_eqT, x_inb, x_lt, x_le, x_eq, x_cl, x_sub, nI_add, pk_mul, x_m1e, x_m1e', x_m1l, x_m1n, x_m1s, Nat.not_lt_zero, x_zb, x_b0, x_b1, decide_eq_false_iff_not, decide_eq_true_eq, Bool.false_eq_true, Bool.true_eq_false]
theorem SqR_len {Sub : Nat → Nat → Nat → Nat → Prop} {nf : Nat} {g f : Nat → Int32} (hs : ∀ l L k K, Sub l L k K → l ≤ L ∧ k ≤ K) : ∀ (n l L k K : Nat), SqR Sub nf g f n l L k K → n ≤ L
  | 0, l, L, k, K, h => Nat.zero_le _
  | n + 1, l, L, k, K, h => by
    have : ∀ (n l L k K : Nat), SqR Sub nf g f n l L k K → l + n ≤ L := by
      intro n
      induction n with
      | zero => intro l L k K h; obtain ⟨a, b⟩ := h; omega
      | succ n ih =>
        intro l L k K h
        obtain ⟨i, k1, h1, h2⟩ := h
        have := ItR_lt hs h1
        have := ih _ _ _ _ h2
        omega
    have := this _ _ _ _ _ h
    omega
theorem LS_all {h v nf ns sd Lt : Nat} {g f : Nat → Int32} (hh : isH h) (hv : isLV v) (hLt : Lt ≤ 60) : ∀ (d m : Nat), d < m → SubOK h v nf ns sd Lt g f (S_X11_doAll m) (DpR nf g f d) := by
  have ent : ∀ (E : am_F) (N k K : Nat) (σ : am_M) (r : Option am_R), N ≤ 100 → fin (hd_X11_doAll (F_X11_doOne E)) N 2 [some (.ref 123), some (.int (nI k)), some (.int (nI K)), some (.int (nI k))] σ r → F_X11_doAll (F_X11_doOne E) [.ref 123, .int (nI k), .int (nI K)] σ = r := by
    intro E N k K σ r hN hf
    rw [← fin_run hf (by unfold am_fuel; omega)]
    obtain ⟨F, eF⟩ : ∃ F, F = F_X11_doOne E := ⟨_, rfl⟩
    rw [← eF]
    simp (disch := omega) only [g_X11_doAll, ↓e_X11_doAll_0, ↓h_X11_doAll_2, ↓it_s, ↓y_iload, ↓y_lload, ↓y_aload, ↓y_istore, ↓y_lstore, ↓y_astore, ↓y_iinc, ↓y_cI, ↓y_cL, ↓y_bin, ↓y_binL, ↓y_div, ↓y_divL, ↓y_lshl, ↓y_un, ↓y_i2l, ↓y_lneg, ↓y_l2i, ↓y_lcmp, ↓y_dupI, ↓y_dupR, ↓y_dup2, ↓y_pop, ↓y_goto, ↓y_eq0, ↓y_lt0, ↓y_le0, ↓y_eq, ↓y_lt, ↓y_le, ↓y_switch, ↓y_sw0, ↓y_sw1, ↓y_getI, ↓y_getL, ↓y_getR, ↓y_getT, ↓y_putI, ↓y_putZ, ↓y_putL, ↓y_putT, ↓y_iald, ↓y_bald, ↓y_lald, ↓y_aald, ↓y_iast, ↓y_bast, ↓y_last, ↓y_alen, ↓y_iret, ↓y_zret, ↓y_lret, ↓y_vret, ↓y_svI, ↓y_svL, ↓y_svV, ↓y_ivI, ↓y_ivL, ↓y_ivV, ↓y_max, ↓y_min, ↓y_absL, ↓y_cpI, ↓y_cpL, ↓x_n1I, ↓x_n1L, ↓x_n1R, ↓x_n0I, ↓x_n0L, ↓x_n0R, ↓x_s0, ↓x_s1i, ↓x_s1r, ↓x_s1n, ↓x_s2, ↓x_c0, ↓x_c2, ↓x_tk0, ↓x_tk1, ↓x_rcv, x_rI1, x_rL1, x_rV1, x_rIn, x_rLn, x_rVn, x_rIf, x_rLf, x_rVf, x_40, x_41, x_42, x_43, x_44, ↓reduceIte, if_true, if_false, ao_iadd, ao_isub, ao_imul, ao_iand, ao_ior, ao_ishl, ao_ishr, ao_iushr, ao_ladd, ao_lsub, ao_lmul, ao_land, ao_lor, ao_idiv, ao_irem, ao_ldiv, ao_lrem, ao_ineg, ao_i2b, ao_i2s, Nat.reduceAdd, Nat.reduceMul, Nat.reduceSub, Nat.reduceEqDiff, Nat.reduceLeDiff, and_self, true_and]
  intro d
  induction d with
  | zero =>
    intro m hm
    obtain ⟨m, rfl⟩ : ∃ q, m = q + 1 := ⟨m - 1, by omega⟩
    intro l L k K hS hL hK n T V dd σx σm hE hLR hT
    obtain ⟨N, hS⟩ := hS
    have hle : ∀ l L k K, (fun _ _ _ _ => False : Nat → Nat → Nat → Nat → Prop) l L k K → l ≤ L ∧ k ≤ K := fun _ _ _ _ z => z.elim
    obtain ⟨τm, a1, a2⟩ := LS_seq (E := S_X11_doAll m) (Sub := fun _ _ _ _ => False) hh hv (fun _ _ _ _ z => z.elim) hle hLt N l L k K k n T V dd σx σm hS hL hK hE hLR hT
    have := SqR_len hle _ _ _ _ _ hS
    exact ⟨τm, ent _ N k K σm _ (by omega) a1, a2⟩
  | succ d ih =>
    intro m hm
    obtain ⟨m, rfl⟩ : ∃ q, m = q + 1 := ⟨m - 1, by omega⟩
    intro l L k K hS hL hK n T V dd σx σm hE hLR hT
    obtain ⟨N, hS⟩ := hS
    obtain ⟨τm, a1, a2⟩ := LS_seq (E := S_X11_doAll m) hh hv (ih m (by omega)) (DpR_le d) hLt N l L k K k n T V dd σx σm hS hL hK hE hLR hT
    have := SqR_len (DpR_le d) _ _ _ _ _ hS
    exact ⟨τm, ent _ N k K σm _ (by omega) a1, a2⟩
/-- a valley's seasons on both sides: the class's at v, the model's in the block at o -/
def PlanR (σx σm : am_M) (v o nf : Nat) : Prop := (σx.1 (v + 8) 3 = nI 0 ∧ σm.1 128 (170 + o) = nI 0) ∨ (σx.1 (v + 8) 3 = nI 1 ∧ σm.1 128 (170 + o) = nI 1 ∧ ∃ L K, L ≤ 60 ∧ K ≤ 30 ∧ σx.1 (v + 8) 1 = nI L ∧ σx.1 (v + 8) 2 = nI K ∧ σm.1 128 (171 + o) = nI K ∧ DpR nf (σx.1 (v + 9)) (fun j => σm.1 128 (172 + j + o)) 3 0 L 0 K)
theorem LS_pass {h v sd L K : Nat} {V : Vt} {σx σm : am_M} (hh : isH h) (hv : isLV v) (hV : VG σx v V) (hw : WG V) (hM : MC (σm.1 128) 0 V) (hL60 : L ≤ 60) (hK30 : K ≤ 30) (e1 : σx.1 (v + 8) 1 = nI L) (e2 : σm.1 128 171 = nI K) (hD : DpR (vN V 5) (σx.1 (v + 9)) (fun j => σm.1 128 (172 + j)) 3 0 L 0 K) (hsd : sd < 65536) :
    ∃ (τx τm : am_M) (n o : Nat) (V' : Vt) (d : Nat), S_X0_pass [.ref h, .ref v, .int (nI sd)] σx = some (none, τx) ∧ S_X11_runsSeasons [.ref 123, .int (nI sd)] σm = some (none, τm) ∧ LRl h v (vN V 5) (vN V 1) o n τx τm V' d ∧ fX h v σx τx ∧ fM σm τm := by
  obtain ⟨k0, k1, k2, l1, l2⟩ := isH_k hh
  have kv := (isV_k (isLV_V hv)).1
  have hap := hv_apart hh hv
  obtain ⟨x1, ex1⟩ : ∃ s, s = am_uI (am_uI (am_uI (am_uI (am_uI (am_uI (am_uI σx h 2 (nI sd)) h 3 (nI 0)) h 4 (nI 0)) h 5 (nI 0)) h 6 (nI 0)) h 7 (nI 0)) h 8 (nI 0) := ⟨_, rfl⟩
  obtain ⟨m1, em1⟩ : ∃ s, s = am_uI (am_uI (am_uI (am_uI (am_uI (am_uI (am_uI (am_uI σm 123 43 (nI sd)) 123 44 (nI 0)) 123 45 (nI 0)) 123 46 (nI 0)) 123 47 (nI 0)) 123 48 (nI 0)) 123 49 (nI 0)) 123 42 (nI 0) := ⟨_, rfl⟩
  have hfx : fX h v σx x1 := by
    rw [ex1]
    exact fX_uI (fX_uI (fX_uI (fX_uI (fX_uI (fX_uI (fX_uI (fX_rf _ _ _) (Or.inl rfl)) (Or.inl rfl)) (Or.inl rfl)) (Or.inl rfl)) (Or.inl rfl)) (Or.inl rfl)) (Or.inl rfl)
  have hfm : fM σm m1 := by
    rw [em1]
    exact fM_uI (fM_uI (fM_uI (fM_uI (fM_uI (fM_uI (fM_uI (fM_uI (fM_rf _) (by omega)) (by omega)) (by omega)) (by omega)) (by omega)) (by omega)) (by omega)) (by omega)
  have hxh : ∀ q, x1.1 h q = if q = 8 then nI 0 else if q = 7 then nI 0 else if q = 6 then nI 0 else if q = 5 then nI 0 else if q = 4 then nI 0 else if q = 3 then nI 0 else if q = 2 then nI sd else σx.1 h q := fun q => by
    rw [ex1]
    simp only [uI_s]
    unfold va_up
    rfl
  have hmh : ∀ q, m1.1 123 q = if q = 42 then nI 0 else if q = 49 then nI 0 else if q = 48 then nI 0 else if q = 47 then nI 0 else if q = 46 then nI 0 else if q = 45 then nI 0 else if q = 44 then nI 0 else if q = 43 then nI sd else σm.1 123 q := fun q => by
    rw [em1]
    simp only [uI_s]
    unfold va_up
    rfl
  have h128 : m1.1 128 = σm.1 128 := by rw [em1, uI_n (by omega), uI_n (by omega), uI_n (by omega), uI_n (by omega), uI_n (by omega), uI_n (by omega), uI_n (by omega), uI_n (by omega)]
  have hL0 : LRl h v (vN V 5) (vN V 1) 0 0 x1 m1 V sd := by
    refine ⟨VG_fr hV (fun j p q => ?_), hw, by rw [h128]; exact hM, ⟨rfl, rfl⟩, hsd, ?_, ?_, ?_, ?_, ?_, ?_, ?_, ?_, ?_, ?_, by omega⟩
    · rw [ex1, uI_n (by omega), uI_n (by omega), uI_n (by omega), uI_n (by omega), uI_n (by omega), uI_n (by omega), uI_n (by omega)]
    all_goals simp [hxh, hmh]
  have hE : EnvR v L (σx.1 (v + 9)) (fun j => σm.1 128 (172 + j)) x1 m1 := by
    refine ⟨hfx.2 _ (by omega) (by omega) (by omega) (by omega), by rw [hfx.2 (v + 8) (by omega) (by omega) (by omega) (by omega)]; exact e1, by rw [h128]⟩
  obtain ⟨τm, a1, τx, n', V', d', z1, z2, z3, z4, z5⟩ := LS_all (sd := sd) hh hv hL60 3 8 (by omega) 0 L 0 K hD (Nat.le_refl _) hK30 0 0 V sd x1 m1 hE hL0 (by omega)
  have hE2 := EnvR_fr hh hv hE z2 z3
  have hms : S_X11_runsSeasons [.ref 123, .int (nI sd)] σm = some (none, τm) := by
    have e2' : m1.1 128 171 = nI K := by rw [h128]; exact e2
    rw [em1] at a1 e2'
    obtain ⟨F, eF⟩ : ∃ F, F = S_X11_doAll 8 := ⟨_, rfl⟩
    rw [← eF] at a1
    have hg : S_X11_runsSeasons [.ref 123, .int (nI sd)] σm = dn_X11_runsSeasons_0 [some (.ref 123), some (.int (nI sd))] [] σm := g_X11_runsSeasons 123 (nI sd) σm
    rw [hg]
    simp only [↓e_X11_runsSeasons_0, ← eF]
    simp (disch := omega) only [↓it_s, ↓y_iload, ↓y_lload, ↓y_aload, ↓y_istore, ↓y_lstore, ↓y_astore, ↓y_iinc, ↓y_cI, ↓y_cL, ↓y_bin, ↓y_binL, ↓y_div, ↓y_divL, ↓y_lshl, ↓y_un, ↓y_i2l, ↓y_lneg, ↓y_l2i, ↓y_lcmp, ↓y_dupI, ↓y_dupR, ↓y_dup2, ↓y_pop, ↓y_goto, ↓y_eq0, ↓y_lt0, ↓y_le0, ↓y_eq, ↓y_lt, ↓y_le, ↓y_switch, ↓y_sw0, ↓y_sw1, ↓y_getI, ↓y_getL, ↓y_getR, ↓y_getT, ↓y_putI, ↓y_putZ, ↓y_putL, ↓y_putT, ↓y_iald, ↓y_bald, ↓y_lald, ↓y_aald, ↓y_iast, ↓y_bast, ↓y_last, ↓y_alen, ↓y_iret, ↓y_zret, ↓y_lret, ↓y_vret, ↓y_svI, ↓y_svL, ↓y_svV, ↓y_ivI, ↓y_ivL, ↓y_ivV, ↓y_max, ↓y_min, ↓y_absL, ↓y_cpI, ↓y_cpL, ↓x_n1I, ↓x_n1L, ↓x_n1R, ↓x_n0I, ↓x_n0L, ↓x_n0R, ↓x_s0, ↓x_s1i, ↓x_s1r, ↓x_s1n, ↓x_s2, ↓x_c0, ↓x_c2, ↓x_tk0, ↓x_tk1, ↓x_rcv, x_rI1, x_rL1, x_rV1, x_rIn, x_rLn, x_rVn, x_rIf, x_rLf, x_rVf, x_40, x_41, x_42, x_43, x_44, ↓reduceIte, if_true, if_false, ao_iadd, ao_isub, ao_imul, ao_iand, ao_ior, ao_ishl, ao_ishr, ao_iushr, ao_ladd, ao_lsub, ao_lmul, ao_land, ao_lor, ao_idiv, ao_irem, ao_ldiv, ao_lrem, ao_ineg, ao_i2b, ao_i2s, Nat.reduceAdd, Nat.reduceMul, Nat.reduceSub, Nat.reduceEqDiff, Nat.reduceLeDiff, and_self, true_and, x_lit, x_ofn, x_z0, x_z1, x_inbT, x_ltT, x_ltF, x_leT, x_leF, x_eqF, x_eqT, x_inb, x_lt, x_le, x_eq, x_cl, x_sub, nI_add, pk_mul, x_m1e, x_m1e', x_m1l, x_m1n, x_m1s, Nat.not_lt_zero, x_zb, x_b0, x_b1, decide_eq_false_iff_not, decide_eq_true_eq, Bool.false_eq_true, Bool.true_eq_false, e2', a1, kd_123, kd_128, ln_128]
  have hent : ∀ r, hd_X0_pass (am_it hd_X0_pass am_fuel) 46 (lc h v sd 0 0) [] x1 = r → S_X0_pass [.ref h, .ref v, .int (nI sd)] σx = r := fun r hr => by
    rw [← hr, ex1]
    simp (disch := omega) only [lc, g_X0_pass, ↓e_X0_pass_0, ↓h_X0_pass_46, ↓it_s, ↓y_iload, ↓y_lload, ↓y_aload, ↓y_istore, ↓y_lstore, ↓y_astore, ↓y_iinc, ↓y_cI, ↓y_cL, ↓y_bin, ↓y_binL, ↓y_div, ↓y_divL, ↓y_lshl, ↓y_un, ↓y_i2l, ↓y_lneg, ↓y_l2i, ↓y_lcmp, ↓y_dupI, ↓y_dupR, ↓y_dup2, ↓y_pop, ↓y_goto, ↓y_eq0, ↓y_lt0, ↓y_le0, ↓y_eq, ↓y_lt, ↓y_le, ↓y_switch, ↓y_sw0, ↓y_sw1, ↓y_getI, ↓y_getL, ↓y_getR, ↓y_getT, ↓y_putI, ↓y_putZ, ↓y_putL, ↓y_putT, ↓y_iald, ↓y_bald, ↓y_lald, ↓y_aald, ↓y_iast, ↓y_bast, ↓y_last, ↓y_alen, ↓y_iret, ↓y_zret, ↓y_lret, ↓y_vret, ↓y_svI, ↓y_svL, ↓y_svV, ↓y_ivI, ↓y_ivL, ↓y_ivV, ↓y_max, ↓y_min, ↓y_absL, ↓y_cpI, ↓y_cpL, ↓x_n1I, ↓x_n1L, ↓x_n1R, ↓x_n0I, ↓x_n0L, ↓x_n0R, ↓x_s0, ↓x_s1i, ↓x_s1r, ↓x_s1n, ↓x_s2, ↓x_c0, ↓x_c2, ↓x_tk0, ↓x_tk1, ↓x_rcv, x_rI1, x_rL1, x_rV1, x_rIn, x_rLn, x_rVn, x_rIf, x_rLf, x_rVf, x_40, x_41, x_42, x_43, x_44, ↓reduceIte, if_true, if_false, ao_iadd, ao_isub, ao_imul, ao_iand, ao_ior, ao_ishl, ao_ishr, ao_iushr, ao_ladd, ao_lsub, ao_lmul, ao_land, ao_lor, ao_idiv, ao_irem, ao_ldiv, ao_lrem, ao_ineg, ao_i2b, ao_i2s, Nat.reduceAdd, Nat.reduceMul, Nat.reduceSub, Nat.reduceEqDiff, Nat.reduceLeDiff, and_self, true_and, x_lit, x_ofn, x_z0, x_z1, x_inbT, x_ltT, x_ltF, x_leT, x_leF, x_eqF, x_eqT, x_inb, x_lt, x_le, x_eq, x_cl, x_sub, nI_add, pk_mul, x_m1e, x_m1e', x_m1l, x_m1n, x_m1s, Nat.not_lt_zero, x_zb, x_b0, x_b1, decide_eq_false_iff_not, decide_eq_true_eq, Bool.false_eq_true, Bool.true_eq_false, k0, kv]
  rcases z5 with ⟨T', s1, s2, s3⟩ | ⟨s2, s3⟩
  · have hn := s2.2.2.2.2.2.2.2.2.2.2.2.2.2.2.2
    refine ⟨τx, τm, n', 0, V', d', hent _ (fin_run (rch_fin s3 (LS_exit hv hE2.2.1 (by omega) rfl hL60)) (by unfold am_fuel; omega)), hms, s2, fX_tr hfx z2, fM_tr hfm z3⟩
  · have hn := s2.2.2.2.2.2.2.2.2.2.2.2.2.2.2.2
    exact ⟨τx, τm, n', 1, V', d', hent _ (fin_run s3 (by unfold am_fuel; omega)), hms, s2, fX_tr hfx z2, fM_tr hfm z3⟩
