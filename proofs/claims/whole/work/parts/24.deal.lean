/-! dealing -/
def hasD (V : Vt) : Bool := decide (0 < (vP V 7).length ∨ (0 < vN V 3 ∧ 0 < (vP V 6).length))
/-- the card dealt (none: the waste is the stock again), and the valley then -/
def dealI (V : Vt) : Int32 := match vP V 7 with
  | [] => -nI 1
  | c :: _ => nI c
def dealV (V : Vt) : Vt := match vP V 7 with
  | [] => vuN (vuP (vuP V 7 (vP V 6)) 6 []) 3 (vN V 3 - 1)
  | c :: l => vuP (vuP V 7 l) 6 (vP V 6 ++ [c])
theorem X_hasDeal {t : Nat} {σ : am_M} {V : Vt} (ht : isT t) (hP : TP σ t V) (hN : TN σ t V) (wn : WN V) (wc : WC V) : S_X6_hasDeal [.ref t] σ = some (some (.int (nI (b2 (hasD V)))), σ) := by
  obtain ⟨k0, k1, k2, k3, k4, k5, k6, l1, l2, l3, l4, l5, l6⟩ := isT_k ht
  have h1 := X_stockMany ht hP
  have h2 := hN.2.2.2.1
  have h3 := hP.1 6 (by omega)
  have h4 := wn.2.2.2.1
  have h5 := wc.len (p := 7) (by omega)
  have h6 := wc.len (p := 6) (by omega)
  unfold hasD
  rw [b2_d]
  by_cases e1 : 0 < (vP V 7).length
  · simp (disch := omega) only [g_X6_hasDeal, ↓e_X6_hasDeal_29, ↓e_X6_hasDeal_28, ↓e_X6_hasDeal_24, ↓e_X6_hasDeal_0, ↓it_s, ↓y_iload, ↓y_lload, ↓y_aload, ↓y_istore, ↓y_lstore, ↓y_astore, ↓y_iinc, ↓y_cI, ↓y_cL, ↓y_bin, ↓y_binL, ↓y_div, ↓y_divL, ↓y_lshl, ↓y_un, ↓y_i2l, ↓y_lneg, ↓y_l2i, ↓y_lcmp, ↓y_dupI, ↓y_dupR, ↓y_dup2, ↓y_pop, ↓y_goto, ↓y_eq0, ↓y_lt0, ↓y_le0, ↓y_eq, ↓y_lt, ↓y_le, ↓y_switch, ↓y_sw0, ↓y_sw1, ↓y_getI, ↓y_getL, ↓y_getR, ↓y_getT, ↓y_putI, ↓y_putZ, ↓y_putL, ↓y_putT, ↓y_iald, ↓y_bald, ↓y_lald, ↓y_aald, ↓y_iast, ↓y_bast, ↓y_last, ↓y_alen, ↓y_iret, ↓y_zret, ↓y_lret, ↓y_vret, ↓y_svI, ↓y_svL, ↓y_svV, ↓y_ivI, ↓y_ivL, ↓y_ivV, ↓y_max, ↓y_min, ↓y_absL, ↓y_cpI, ↓y_cpL, ↓x_n1I, ↓x_n1L, ↓x_n1R, ↓x_n0I, ↓x_n0L, ↓x_n0R, ↓x_s0, ↓x_s1i, ↓x_s1r, ↓x_s1n, ↓x_s2, ↓x_c0, ↓x_c2, ↓x_tk0, ↓x_tk1, ↓x_rcv, x_rI1, x_rL1, x_rV1, x_rIn, x_rLn, x_rVn, x_rIf, x_rLf, x_rVf, x_40, x_41, x_42, x_43, x_44, ↓reduceIte, if_true, if_false, ao_iadd, ao_isub, ao_imul, ao_iand, ao_ior, ao_ishl, ao_ishr, ao_iushr, ao_ladd, ao_lsub, ao_lmul, ao_land, ao_lor, ao_idiv, ao_irem, ao_ldiv, ao_lrem, ao_ineg, ao_i2b, ao_i2s, Nat.reduceAdd, Nat.reduceMul, Nat.reduceSub, Nat.reduceEqDiff, Nat.reduceLeDiff, and_self, true_and, x_lit, x_ofn, x_z0, x_z1, x_inbT, x_ltT, x_ltF, x_leT, x_leF, x_eqF, x_eqT, x_inb, x_lt, x_le, x_eq, x_cl, x_sub, nI_add, pk_mul, x_m1e, x_m1e', x_m1l, x_m1n, x_m1s, Nat.not_lt_zero, x_zb, x_b0, x_b1, decide_eq_false_iff_not, decide_eq_true_eq, Bool.false_eq_true, Bool.true_eq_false, k0, h1]
    simp [e1]
  · by_cases e2 : 0 < vN V 3
    · by_cases e3 : 0 < (vP V 6).length
      · simp (disch := omega) only [g_X6_hasDeal, ↓e_X6_hasDeal_29, ↓e_X6_hasDeal_28, ↓e_X6_hasDeal_24, ↓e_X6_hasDeal_0, ↓it_s, ↓y_iload, ↓y_lload, ↓y_aload, ↓y_istore, ↓y_lstore, ↓y_astore, ↓y_iinc, ↓y_cI, ↓y_cL, ↓y_bin, ↓y_binL, ↓y_div, ↓y_divL, ↓y_lshl, ↓y_un, ↓y_i2l, ↓y_lneg, ↓y_l2i, ↓y_lcmp, ↓y_dupI, ↓y_dupR, ↓y_dup2, ↓y_pop, ↓y_goto, ↓y_eq0, ↓y_lt0, ↓y_le0, ↓y_eq, ↓y_lt, ↓y_le, ↓y_switch, ↓y_sw0, ↓y_sw1, ↓y_getI, ↓y_getL, ↓y_getR, ↓y_getT, ↓y_putI, ↓y_putZ, ↓y_putL, ↓y_putT, ↓y_iald, ↓y_bald, ↓y_lald, ↓y_aald, ↓y_iast, ↓y_bast, ↓y_last, ↓y_alen, ↓y_iret, ↓y_zret, ↓y_lret, ↓y_vret, ↓y_svI, ↓y_svL, ↓y_svV, ↓y_ivI, ↓y_ivL, ↓y_ivV, ↓y_max, ↓y_min, ↓y_absL, ↓y_cpI, ↓y_cpL, ↓x_n1I, ↓x_n1L, ↓x_n1R, ↓x_n0I, ↓x_n0L, ↓x_n0R, ↓x_s0, ↓x_s1i, ↓x_s1r, ↓x_s1n, ↓x_s2, ↓x_c0, ↓x_c2, ↓x_tk0, ↓x_tk1, ↓x_rcv, x_rI1, x_rL1, x_rV1, x_rIn, x_rLn, x_rVn, x_rIf, x_rLf, x_rVf, x_40, x_41, x_42, x_43, x_44, ↓reduceIte, if_true, if_false, ao_iadd, ao_isub, ao_imul, ao_iand, ao_ior, ao_ishl, ao_ishr, ao_iushr, ao_ladd, ao_lsub, ao_lmul, ao_land, ao_lor, ao_idiv, ao_irem, ao_ldiv, ao_lrem, ao_ineg, ao_i2b, ao_i2s, Nat.reduceAdd, Nat.reduceMul, Nat.reduceSub, Nat.reduceEqDiff, Nat.reduceLeDiff, and_self, true_and, x_lit, x_ofn, x_z0, x_z1, x_inbT, x_ltT, x_ltF, x_leT, x_leF, x_eqF, x_eqT, x_inb, x_lt, x_le, x_eq, x_cl, x_sub, nI_add, pk_mul, x_m1e, x_m1e', x_m1l, x_m1n, x_m1s, Nat.not_lt_zero, x_zb, x_b0, x_b1, decide_eq_false_iff_not, decide_eq_true_eq, Bool.false_eq_true, Bool.true_eq_false, k0, k2, l2, h1, h2, h3]
        simp [e1, e2, e3]
      · simp (disch := omega) only [g_X6_hasDeal, ↓e_X6_hasDeal_29, ↓e_X6_hasDeal_28, ↓e_X6_hasDeal_24, ↓e_X6_hasDeal_0, ↓it_s, ↓y_iload, ↓y_lload, ↓y_aload, ↓y_istore, ↓y_lstore, ↓y_astore, ↓y_iinc, ↓y_cI, ↓y_cL, ↓y_bin, ↓y_binL, ↓y_div, ↓y_divL, ↓y_lshl, ↓y_un, ↓y_i2l, ↓y_lneg, ↓y_l2i, ↓y_lcmp, ↓y_dupI, ↓y_dupR, ↓y_dup2, ↓y_pop, ↓y_goto, ↓y_eq0, ↓y_lt0, ↓y_le0, ↓y_eq, ↓y_lt, ↓y_le, ↓y_switch, ↓y_sw0, ↓y_sw1, ↓y_getI, ↓y_getL, ↓y_getR, ↓y_getT, ↓y_putI, ↓y_putZ, ↓y_putL, ↓y_putT, ↓y_iald, ↓y_bald, ↓y_lald, ↓y_aald, ↓y_iast, ↓y_bast, ↓y_last, ↓y_alen, ↓y_iret, ↓y_zret, ↓y_lret, ↓y_vret, ↓y_svI, ↓y_svL, ↓y_svV, ↓y_ivI, ↓y_ivL, ↓y_ivV, ↓y_max, ↓y_min, ↓y_absL, ↓y_cpI, ↓y_cpL, ↓x_n1I, ↓x_n1L, ↓x_n1R, ↓x_n0I, ↓x_n0L, ↓x_n0R, ↓x_s0, ↓x_s1i, ↓x_s1r, ↓x_s1n, ↓x_s2, ↓x_c0, ↓x_c2, ↓x_tk0, ↓x_tk1, ↓x_rcv, x_rI1, x_rL1, x_rV1, x_rIn, x_rLn, x_rVn, x_rIf, x_rLf, x_rVf, x_40, x_41, x_42, x_43, x_44, ↓reduceIte, if_true, if_false, ao_iadd, ao_isub, ao_imul, ao_iand, ao_ior, ao_ishl, ao_ishr, ao_iushr, ao_ladd, ao_lsub, ao_lmul, ao_land, ao_lor, ao_idiv, ao_irem, ao_ldiv, ao_lrem, ao_ineg, ao_i2b, ao_i2s, Nat.reduceAdd, Nat.reduceMul, Nat.reduceSub, Nat.reduceEqDiff, Nat.reduceLeDiff, and_self, true_and, x_lit, x_ofn, x_z0, x_z1, x_inbT, x_ltT, x_ltF, x_leT, x_leF, x_eqF, x_eqT, x_inb, x_lt, x_le, x_eq, x_cl, x_sub, nI_add, pk_mul, x_m1e, x_m1e', x_m1l, x_m1n, x_m1s, Nat.not_lt_zero, x_zb, x_b0, x_b1, decide_eq_false_iff_not, decide_eq_true_eq, Bool.false_eq_true, Bool.true_eq_false, k0, k2, l2, h1, h2, h3]
        simp [e1, e3]
    · simp (disch := omega) only [g_X6_hasDeal, ↓e_X6_hasDeal_29, ↓e_X6_hasDeal_28, ↓e_X6_hasDeal_24, ↓e_X6_hasDeal_0, ↓it_s, ↓y_iload, ↓y_lload, ↓y_aload, ↓y_istore, ↓y_lstore, ↓y_astore, ↓y_iinc, ↓y_cI, ↓y_cL, ↓y_bin, ↓y_binL, ↓y_div, ↓y_divL, ↓y_lshl, ↓y_un, ↓y_i2l, ↓y_lneg, ↓y_l2i, ↓y_lcmp, ↓y_dupI, ↓y_dupR, ↓y_dup2, ↓y_pop, ↓y_goto, ↓y_eq0, ↓y_lt0, ↓y_le0, ↓y_eq, ↓y_lt, ↓y_le, ↓y_switch, ↓y_sw0, ↓y_sw1, ↓y_getI, ↓y_getL, ↓y_getR, ↓y_getT, ↓y_putI, ↓y_putZ, ↓y_putL, ↓y_putT, ↓y_iald, ↓y_bald, ↓y_lald, ↓y_aald, ↓y_iast, ↓y_bast, ↓y_last, ↓y_alen, ↓y_iret, ↓y_zret, ↓y_lret, ↓y_vret, ↓y_svI, ↓y_svL, ↓y_svV, ↓y_ivI, ↓y_ivL, ↓y_ivV, ↓y_max, ↓y_min, ↓y_absL, ↓y_cpI, ↓y_cpL, ↓x_n1I, ↓x_n1L, ↓x_n1R, ↓x_n0I, ↓x_n0L, ↓x_n0R, ↓x_s0, ↓x_s1i, ↓x_s1r, ↓x_s1n, ↓x_s2, ↓x_c0, ↓x_c2, ↓x_tk0, ↓x_tk1, ↓x_rcv, x_rI1, x_rL1, x_rV1, x_rIn, x_rLn, x_rVn, x_rIf, x_rLf, x_rVf, x_40, x_41, x_42, x_43, x_44, ↓reduceIte, if_true, if_false, ao_iadd, ao_isub, ao_imul, ao_iand, ao_ior, ao_ishl, ao_ishr, ao_iushr, ao_ladd, ao_lsub, ao_lmul, ao_land, ao_lor, ao_idiv, ao_irem, ao_ldiv, ao_lrem, ao_ineg, ao_i2b, ao_i2s, Nat.reduceAdd, Nat.reduceMul, Nat.reduceSub, Nat.reduceEqDiff, Nat.reduceLeDiff, and_self, true_and, x_lit, x_ofn, x_z0, x_z1, x_inbT, x_ltT, x_ltF, x_leT, x_leF, x_eqF, x_eqT, x_inb, x_lt, x_le, x_eq, x_cl, x_sub, nI_add, pk_mul, x_m1e, x_m1e', x_m1l, x_m1n, x_m1s, Nat.not_lt_zero, x_zb, x_b0, x_b1, decide_eq_false_iff_not, decide_eq_true_eq, Bool.false_eq_true, Bool.true_eq_false, k0, k2, l2, h1, h2]
      simp [e1, e2]
theorem X_cardAtL {t p k c : Nat} {σ : am_M} (ht : isT t) {l : List Nat} (h1 : σ.1 (t + 2) p = nI l.length) (h2 : seg (σ.1 (t + 1)) (p * 24) l) (hl : l.length ≤ 24) (hp : p < 7) (hc : l[k]? = some c) : S_X6_cardAt [.ref t, .int (nI p), .int (nI k)] σ = some (some (.int (nI c)), σ) := by
  obtain ⟨k0, k1, k2, -, -, -, -, l1, l2, -⟩ := isT_k ht
  have hk := (List.getElem?_eq_some_iff.mp hc).1
  have h3 := seg_at h2 hc
  simp (disch := omega) only [g_X6_cardAt, ↓e_X6_cardAt_32, ↓e_X6_cardAt_30, ↓e_X6_cardAt_0, ↓it_s, ↓y_iload, ↓y_lload, ↓y_aload, ↓y_istore, ↓y_lstore, ↓y_astore, ↓y_iinc, ↓y_cI, ↓y_cL, ↓y_bin, ↓y_binL, ↓y_div, ↓y_divL, ↓y_lshl, ↓y_un, ↓y_i2l, ↓y_lneg, ↓y_l2i, ↓y_lcmp, ↓y_dupI, ↓y_dupR, ↓y_dup2, ↓y_pop, ↓y_goto, ↓y_eq0, ↓y_lt0, ↓y_le0, ↓y_eq, ↓y_lt, ↓y_le, ↓y_switch, ↓y_sw0, ↓y_sw1, ↓y_getI, ↓y_getL, ↓y_getR, ↓y_getT, ↓y_putI, ↓y_putZ, ↓y_putL, ↓y_putT, ↓y_iald, ↓y_bald, ↓y_lald, ↓y_aald, ↓y_iast, ↓y_bast, ↓y_last, ↓y_alen, ↓y_iret, ↓y_zret, ↓y_lret, ↓y_vret, ↓y_svI, ↓y_svL, ↓y_svV, ↓y_ivI, ↓y_ivL, ↓y_ivV, ↓y_max, ↓y_min, ↓y_absL, ↓y_cpI, ↓y_cpL, ↓x_n1I, ↓x_n1L, ↓x_n1R, ↓x_n0I, ↓x_n0L, ↓x_n0R, ↓x_s0, ↓x_s1i, ↓x_s1r, ↓x_s1n, ↓x_s2, ↓x_c0, ↓x_c2, ↓x_tk0, ↓x_tk1, ↓x_rcv, x_rI1, x_rL1, x_rV1, x_rIn, x_rLn, x_rVn, x_rIf, x_rLf, x_rVf, x_40, x_41, x_42, x_43, x_44, ↓reduceIte, if_true, if_false, ao_iadd, ao_isub, ao_imul, ao_iand, ao_ior, ao_ishl, ao_ishr, ao_iushr, ao_ladd, ao_lsub, ao_lmul, ao_land, ao_lor, ao_idiv, ao_irem, ao_ldiv, ao_lrem, ao_ineg, ao_i2b, ao_i2s, Nat.reduceAdd, Nat.reduceMul, Nat.reduceSub, Nat.reduceEqDiff, Nat.reduceLeDiff, and_self, true_and, k0, k1, k2, l1, l2, x_lit, x_ofn, x_z0, x_z1, x_inbT, x_ltT, x_ltF, x_leT, x_leF, x_eqF, x_eqT, x_inb, x_lt, x_le, x_eq, x_cl, x_sub, nI_add, pk_mul, x_m1e, x_m1e', x_m1l, x_m1n, x_m1s, Nat.not_lt_zero, x_zb, x_b0, x_b1, decide_eq_false_iff_not, decide_eq_true_eq, Bool.false_eq_true, Bool.true_eq_false, h1, h3]
theorem X_layInStock {t c n : Nat} {σ : am_M} (ht : isT t) (h4 : σ.1 t 4 = nI n) (hn : n < 24) : S_X6_layInStock [.ref t, .int (nI c)] σ = some (none, am_uI (am_uI σ (t + 3) n (nI c)) t 4 (nI (n + 1))) := by
  obtain ⟨k0, k1, k2, k3, k4, k5, k6, l1, l2, l3, l4, l5, l6⟩ := isT_k ht
  have k3' : (20 ≤ am_kd (t + 3) ∧ am_kd (t + 3) ≤ 24) = True := by rw [k3]; simp
  simp (disch := omega) only [g_X6_layInStock, ↓e_X6_layInStock_39, ↓e_X6_layInStock_0, ↓it_s, ↓y_iload, ↓y_lload, ↓y_aload, ↓y_istore, ↓y_lstore, ↓y_astore, ↓y_iinc, ↓y_cI, ↓y_cL, ↓y_bin, ↓y_binL, ↓y_div, ↓y_divL, ↓y_lshl, ↓y_un, ↓y_i2l, ↓y_lneg, ↓y_l2i, ↓y_lcmp, ↓y_dupI, ↓y_dupR, ↓y_dup2, ↓y_pop, ↓y_goto, ↓y_eq0, ↓y_lt0, ↓y_le0, ↓y_eq, ↓y_lt, ↓y_le, ↓y_switch, ↓y_sw0, ↓y_sw1, ↓y_getI, ↓y_getL, ↓y_getR, ↓y_getT, ↓y_putI, ↓y_putZ, ↓y_putL, ↓y_putT, ↓y_iald, ↓y_bald, ↓y_lald, ↓y_aald, ↓y_iast, ↓y_bast, ↓y_last, ↓y_alen, ↓y_iret, ↓y_zret, ↓y_lret, ↓y_vret, ↓y_svI, ↓y_svL, ↓y_svV, ↓y_ivI, ↓y_ivL, ↓y_ivV, ↓y_max, ↓y_min, ↓y_absL, ↓y_cpI, ↓y_cpL, ↓x_n1I, ↓x_n1L, ↓x_n1R, ↓x_n0I, ↓x_n0L, ↓x_n0R, ↓x_s0, ↓x_s1i, ↓x_s1r, ↓x_s1n, ↓x_s2, ↓x_c0, ↓x_c2, ↓x_tk0, ↓x_tk1, ↓x_rcv, x_rI1, x_rL1, x_rV1, x_rIn, x_rLn, x_rVn, x_rIf, x_rLf, x_rVf, x_40, x_41, x_42, x_43, x_44, ↓reduceIte, if_true, if_false, ao_iadd, ao_isub, ao_imul, ao_iand, ao_ior, ao_ishl, ao_ishr, ao_iushr, ao_ladd, ao_lsub, ao_lmul, ao_land, ao_lor, ao_idiv, ao_irem, ao_ldiv, ao_lrem, ao_ineg, ao_i2b, ao_i2s, Nat.reduceAdd, Nat.reduceMul, Nat.reduceSub, Nat.reduceEqDiff, Nat.reduceLeDiff, and_self, true_and, x_lit, x_ofn, x_z0, x_z1, x_inbT, x_ltT, x_ltF, x_leT, x_leF, x_eqF, x_eqT, x_inb, x_lt, x_le, x_eq, x_cl, x_sub, nI_add, pk_mul, x_m1e, x_m1e', x_m1l, x_m1n, x_m1s, Nat.not_lt_zero, x_zb, x_b0, x_b1, decide_eq_false_iff_not, decide_eq_true_eq, Bool.false_eq_true, Bool.true_eq_false, k0, k3, l3, h4, k3', uI_n]
/-- along the turning over of the waste: k cards are in the stock -/
theorem XT_loop {t : Nat} {W : List Nat} (ht : isT t) (hW : W.length ≤ 24) : ∀ (m k n : Nat) (σ : am_M), W.length - k = m → k ≤ W.length → σ.1 (t + 2) 6 = nI W.length → seg (σ.1 (t + 1)) 144 W → σ.1 t 4 = nI k → seg (σ.1 (t + 3)) 0 (W.take k) →
    ∃ τ, am_it hd_X6_turnUp (n + m + 1) 44 [some (.ref t), some (.int (nI k))] [] σ = dn_X6_turnUp_72 (am_it hd_X6_turnUp n) [some (.ref t), some (.int (nI W.length))] [] τ ∧ τ.1 t 4 = nI W.length ∧ seg (τ.1 (t + 3)) 0 W ∧ τ.2 = σ.2 ∧ (∀ j, j ≠ t → j ≠ t + 3 → τ.1 j = σ.1 j) ∧ (∀ i, i ≠ 4 → τ.1 t i = σ.1 t i) := by
  obtain ⟨k0, k1, k2, k3, k4, k5, k6, l1, l2, l3, l4, l5, l6⟩ := isT_k ht
  intro m
  induction m with
  | zero =>
    intro k n σ hm hk h1 h2 h3 h4
    have e : k = W.length := by omega
    subst e
    refine ⟨σ, ?_, h3, by rw [List.take_length] at h4; exact h4, rfl, fun _ _ _ => rfl, fun _ _ => rfl⟩
    simp (disch := omega) only [↓e_X6_turnUp_44, ↓h_X6_turnUp_44, ↓it_s, ↓y_iload, ↓y_lload, ↓y_aload, ↓y_istore, ↓y_lstore, ↓y_astore, ↓y_iinc, ↓y_cI, ↓y_cL, ↓y_bin, ↓y_binL, ↓y_div, ↓y_divL, ↓y_lshl, ↓y_un, ↓y_i2l, ↓y_lneg, ↓y_l2i, ↓y_lcmp, ↓y_dupI, ↓y_dupR, ↓y_dup2, ↓y_pop, ↓y_goto, ↓y_eq0, ↓y_lt0, ↓y_le0, ↓y_eq, ↓y_lt, ↓y_le, ↓y_switch, ↓y_sw0, ↓y_sw1, ↓y_getI, ↓y_getL, ↓y_getR, ↓y_getT, ↓y_putI, ↓y_putZ, ↓y_putL, ↓y_putT, ↓y_iald, ↓y_bald, ↓y_lald, ↓y_aald, ↓y_iast, ↓y_bast, ↓y_last, ↓y_alen, ↓y_iret, ↓y_zret, ↓y_lret, ↓y_vret, ↓y_svI, ↓y_svL, ↓y_svV, ↓y_ivI, ↓y_ivL, ↓y_ivV, ↓y_max, ↓y_min, ↓y_absL, ↓y_cpI, ↓y_cpL, ↓x_n1I, ↓x_n1L, ↓x_n1R, ↓x_n0I, ↓x_n0L, ↓x_n0R, ↓x_s0, ↓x_s1i, ↓x_s1r, ↓x_s1n, ↓x_s2, ↓x_c0, ↓x_c2, ↓x_tk0, ↓x_tk1, ↓x_rcv, x_rI1, x_rL1, x_rV1, x_rIn, x_rLn, x_rVn, x_rIf, x_rLf, x_rVf, x_40, x_41, x_42, x_43, x_44, ↓reduceIte, if_true, if_false, ao_iadd, ao_isub, ao_imul, ao_iand, ao_ior, ao_ishl, ao_ishr, ao_iushr, ao_ladd, ao_lsub, ao_lmul, ao_land, ao_lor, ao_idiv, ao_irem, ao_ldiv, ao_lrem, ao_ineg, ao_i2b, ao_i2s, Nat.reduceAdd, Nat.reduceMul, Nat.reduceSub, Nat.reduceEqDiff, Nat.reduceLeDiff, and_self, true_and, x_lit, x_ofn, x_z0, x_z1, x_inbT, x_ltT, x_ltF, x_leT, x_leF, x_eqF, x_eqT, x_inb, x_lt, x_le, x_eq, x_cl, x_sub, nI_add, pk_mul, x_m1e, x_m1e', x_m1l, x_m1n, x_m1s, Nat.not_lt_zero, x_zb, x_b0, x_b1, decide_eq_false_iff_not, decide_eq_true_eq, Bool.false_eq_true, Bool.true_eq_false, k0, k2, l2, h1, Nat.add_zero]
  | succ m ih =>
    intro k n σ hm hk h1 h2 h3 h4
    have hlt : k < W.length := by omega
    have hc : W[k]? = some W[k] := List.getElem?_eq_getElem hlt
    have hcard := X_cardAtL (p := 6) ht h1 h2 hW (by omega) hc
    have hlay := X_layInStock (c := W[k]) ht h3 (by omega)
    have hs : seg ((am_uI (am_uI σ (t + 3) k (nI W[k])) t 4 (nI (k + 1))).1 (t + 3)) 0 (W.take (k + 1)) := by
      rw [uI_n (by omega), uI_s, List.take_add_one, hc]
      exact seg_push h4 W[k] (by rw [List.length_take]; omega)
    obtain ⟨τ, a1, a2, a3, a4, a5, a6⟩ := ih (k + 1) n (am_uI (am_uI σ (t + 3) k (nI W[k])) t 4 (nI (k + 1))) (by omega) (by omega) (by rw [uI_n (by omega), uI_n (by omega)]; exact h1) (by rw [uI_n (by omega), uI_n (by omega)]; exact h2) (by rw [uI_s, up_s]) hs
    obtain ⟨N, eN⟩ : ∃ N, N = n + m + 1 := ⟨_, rfl⟩
    rw [show n + (m + 1) + 1 = N + 1 by omega]
    rw [← eN] at a1
    refine ⟨τ, ?_, a2, a3, a4, fun j q1 q2 => by rw [a5 j q1 q2, uI_n q1, uI_n q2], fun i q => by rw [a6 i q, uI_s, up_n q, uI_n (by omega)]⟩
    rw [← a1]
    obtain ⟨M, eM⟩ : ∃ M, M = N := ⟨_, rfl⟩
    rw [← eM]
    simp (disch := omega) only [↓e_X6_turnUp_44, ↓h_X6_turnUp_44, ↓it_s, ↓y_iload, ↓y_lload, ↓y_aload, ↓y_istore, ↓y_lstore, ↓y_astore, ↓y_iinc, ↓y_cI, ↓y_cL, ↓y_bin, ↓y_binL, ↓y_div, ↓y_divL, ↓y_lshl, ↓y_un, ↓y_i2l, ↓y_lneg, ↓y_l2i, ↓y_lcmp, ↓y_dupI, ↓y_dupR, ↓y_dup2, ↓y_pop, ↓y_goto, ↓y_eq0, ↓y_lt0, ↓y_le0, ↓y_eq, ↓y_lt, ↓y_le, ↓y_switch, ↓y_sw0, ↓y_sw1, ↓y_getI, ↓y_getL, ↓y_getR, ↓y_getT, ↓y_putI, ↓y_putZ, ↓y_putL, ↓y_putT, ↓y_iald, ↓y_bald, ↓y_lald, ↓y_aald, ↓y_iast, ↓y_bast, ↓y_last, ↓y_alen, ↓y_iret, ↓y_zret, ↓y_lret, ↓y_vret, ↓y_svI, ↓y_svL, ↓y_svV, ↓y_ivI, ↓y_ivL, ↓y_ivV, ↓y_max, ↓y_min, ↓y_absL, ↓y_cpI, ↓y_cpL, ↓x_n1I, ↓x_n1L, ↓x_n1R, ↓x_n0I, ↓x_n0L, ↓x_n0R, ↓x_s0, ↓x_s1i, ↓x_s1r, ↓x_s1n, ↓x_s2, ↓x_c0, ↓x_c2, ↓x_tk0, ↓x_tk1, ↓x_rcv, x_rI1, x_rL1, x_rV1, x_rIn, x_rLn, x_rVn, x_rIf, x_rLf, x_rVf, x_40, x_41, x_42, x_43, x_44, ↓reduceIte, if_true, if_false, ao_iadd, ao_isub, ao_imul, ao_iand, ao_ior, ao_ishl, ao_ishr, ao_iushr, ao_ladd, ao_lsub, ao_lmul, ao_land, ao_lor, ao_idiv, ao_irem, ao_ldiv, ao_lrem, ao_ineg, ao_i2b, ao_i2s, Nat.reduceAdd, Nat.reduceMul, Nat.reduceSub, Nat.reduceEqDiff, Nat.reduceLeDiff, and_self, true_and, x_lit, x_ofn, x_z0, x_z1, x_inbT, x_ltT, x_ltF, x_leT, x_leF, x_eqF, x_eqT, x_inb, x_lt, x_le, x_eq, x_cl, x_sub, nI_add, pk_mul, x_m1e, x_m1e', x_m1l, x_m1n, x_m1s, Nat.not_lt_zero, x_zb, x_b0, x_b1, decide_eq_false_iff_not, decide_eq_true_eq, Bool.false_eq_true, Bool.true_eq_false, k0, k2, l2, h1, hcard, hlay]
theorem X_turnUp {t : Nat} {σ : am_M} {V : Vt} (ht : isT t) (hP : TP σ t V) (hN : TN σ t V) (wn : WN V) (wc : WC V) (hD : hasD V = true) : ∃ τ, S_X6_turnUp [.ref t] σ = some (some (.int (dealI V)), τ) ∧ TP τ t (dealV V) ∧ TN τ t (dealV V) ∧ τ.2 = σ.2 ∧ ∀ j, j ≠ t → j ≠ t + 1 → j ≠ t + 2 → j ≠ t + 3 → τ.1 j = σ.1 j := by
  obtain ⟨k0, k1, k2, k3, k4, k5, k6, l1, l2, l3, l4, l5, l6⟩ := isT_k ht
  have h1 := X_stockMany ht hP
  have w7 := wc.len (p := 7) (by omega)
  have w6 := wc.len (p := 6) (by omega)
  obtain ⟨p1, p2, ⟨sf, p3, p4, p5, p6⟩, p7⟩ := hP
  have hP : TP σ t V := ⟨p1, p2, ⟨sf, p3, p4, p5, p6⟩, p7⟩
  cases h7 : vP V 7 with
  | cons c l =>
    rw [h7] at h1 p4 p5 p6
    have hc24 : c < 24 := wc.1 7 (by omega) c (by rw [h7]; exact List.mem_cons_self)
    have hsc := X_stockCard (k := 0) ht hP (by omega)
    rw [h7, cardI_some (c := c) rfl] at hsc
    simp only [List.length_cons] at h1 p4 p5
    have hT1 : TP (am_uI σ t 3 (nI (sf + 1))) t (vuP V 7 l) := by
      refine ⟨fun q hq => ?_, fun q hq => ?_, ⟨sf + 1, ?_, ?_, ?_, ?_⟩, fun s hs => ?_⟩
      · rw [uI_n (by omega)]; show _ = nI (va_up V.2.1 7 l q).length; rw [up_n (by omega)]; exact p1 q hq
      · rw [uI_n (by omega)]; show seg _ _ (va_up V.2.1 7 l q); rw [up_n (by omega)]; exact p2 q hq
      · rw [uI_s, up_s]
      · rw [uI_s, up_n (by omega), p4]; show _ = nI (sf + 1 + (va_up V.2.1 7 l 7).length); rw [up_s]; congr 1; omega
      · show sf + 1 + (va_up V.2.1 7 l 7).length ≤ 24; rw [up_s]; omega
      · rw [uI_n (by omega)]; show seg _ _ (va_up V.2.1 7 l 7); rw [up_s]; exact seg_tl p6
      · rw [uI_n (by omega)]; exact p7 s hs
    have e6 : vP (vuP V 7 l) 6 = vP V 6 := (up_n (show (6 : Nat) ≠ 7 by omega) : va_up V.2.1 7 l 6 = V.2.1 6)
    have hl6 : (vP V 6).length < 24 := by
      have := wc.allLen
      unfold allC at this
      simp only [List.range, List.range.loop, List.flatMap_cons, List.flatMap_nil, List.append_nil, List.length_append, h7, List.length_cons] at this
      omega
    have hlay := X_lay (p := 6) (c := c) ht hT1 (by omega) (by rw [e6]; exact hl6)
    have hpush := TP_push (p := 6) (c := c) hT1 (fun q hq => by show (va_up V.2.1 7 l q).length ≤ 24; rw [up_n (by omega)]; exact wc.len (by omega)) (by omega) (by rw [e6]; exact hl6)
    have eV : dealV V = vuP (vuP V 7 l) 6 (vP (vuP V 7 l) 6 ++ [c]) := by unfold dealV; rw [h7, e6]
    have eI : dealI V = nI c := by unfold dealI; rw [h7]
    rw [eV, eI]
    refine ⟨_, ?_, hpush, ?_, rfl, fun j a b d e => by rw [uI_n d, uI_n b, uI_n a]⟩
    · simp (disch := omega) only [↓e_X6_turnUp_0, g_X6_turnUp, ↓it_s, ↓y_iload, ↓y_lload, ↓y_aload, ↓y_istore, ↓y_lstore, ↓y_astore, ↓y_iinc, ↓y_cI, ↓y_cL, ↓y_bin, ↓y_binL, ↓y_div, ↓y_divL, ↓y_lshl, ↓y_un, ↓y_i2l, ↓y_lneg, ↓y_l2i, ↓y_lcmp, ↓y_dupI, ↓y_dupR, ↓y_dup2, ↓y_pop, ↓y_goto, ↓y_eq0, ↓y_lt0, ↓y_le0, ↓y_eq, ↓y_lt, ↓y_le, ↓y_switch, ↓y_sw0, ↓y_sw1, ↓y_getI, ↓y_getL, ↓y_getR, ↓y_getT, ↓y_putI, ↓y_putZ, ↓y_putL, ↓y_putT, ↓y_iald, ↓y_bald, ↓y_lald, ↓y_aald, ↓y_iast, ↓y_bast, ↓y_last, ↓y_alen, ↓y_iret, ↓y_zret, ↓y_lret, ↓y_vret, ↓y_svI, ↓y_svL, ↓y_svV, ↓y_ivI, ↓y_ivL, ↓y_ivV, ↓y_max, ↓y_min, ↓y_absL, ↓y_cpI, ↓y_cpL, ↓x_n1I, ↓x_n1L, ↓x_n1R, ↓x_n0I, ↓x_n0L, ↓x_n0R, ↓x_s0, ↓x_s1i, ↓x_s1r, ↓x_s1n, ↓x_s2, ↓x_c0, ↓x_c2, ↓x_tk0, ↓x_tk1, ↓x_rcv, x_rI1, x_rL1, x_rV1, x_rIn, x_rLn, x_rVn, x_rIf, x_rLf, x_rVf, x_40, x_41, x_42, x_43, x_44, ↓reduceIte, if_true, if_false, ao_iadd, ao_isub, ao_imul, ao_iand, ao_ior, ao_ishl, ao_ishr, ao_iushr, ao_ladd, ao_lsub, ao_lmul, ao_land, ao_lor, ao_idiv, ao_irem, ao_ldiv, ao_lrem, ao_ineg, ao_i2b, ao_i2s, Nat.reduceAdd, Nat.reduceMul, Nat.reduceSub, Nat.reduceEqDiff, Nat.reduceLeDiff, and_self, true_and, x_lit, x_ofn, x_z0, x_z1, x_inbT, x_ltT, x_ltF, x_leT, x_leF, x_eqF, x_eqT, x_inb, x_lt, x_le, x_eq, x_cl, x_sub, nI_add, pk_mul, x_m1e, x_m1e', x_m1l, x_m1n, x_m1s, Nat.not_lt_zero, x_zb, x_b0, x_b1, decide_eq_false_iff_not, decide_eq_true_eq, Bool.false_eq_true, Bool.true_eq_false, k0, h1, hsc, p3, hlay]
    · unfold TN at *
      rw [uI_n (by omega), uI_n (by omega), uI_s]
      simp only [va_up]
      exact hN
  | nil =>
    rw [h7] at h1 p4 p5
    have hd2 : 0 < vN V 3 ∧ 0 < (vP V 6).length := by
      unfold hasD at hD
      have := of_decide_eq_true hD
      rw [h7] at this
      simpa using this
    have hr9 := wn.2.2.2.1
    obtain ⟨F, eF⟩ : ∃ F, am_fuel = F + (vP V 6).length := ⟨am_fuel - (vP V 6).length, by unfold am_fuel; omega⟩
    obtain ⟨τ, a1, a2, a3, a4, a5, a6⟩ := XT_loop ht w6 (vP V 6).length 0 F (am_uI (am_uI σ t 3 (nI 0)) t 4 (nI 0)) rfl (by omega) (by rw [uI_n (by omega), uI_n (by omega)]; exact p1 6 (by omega)) (by rw [uI_n (by omega), uI_n (by omega)]; exact p2 6 (by omega)) (by rw [uI_s, up_s]) seg_nil
    have q10 : τ.1 t 10 = nI (vN V 3) := by rw [a6 10 (by omega), uI_s, up_n (by omega), uI_s, up_n (by omega)]; exact hN.2.2.2.1
    have q3 : τ.1 t 3 = nI 0 := by rw [a6 3 (by omega), uI_s, up_n (by omega), uI_s, up_s]
    have eV : dealV V = vuN (vuP (vuP V 7 (vP V 6)) 6 []) 3 (vN V 3 - 1) := by unfold dealV; rw [h7]
    have eI : dealI V = -nI 1 := by unfold dealI; rw [h7]
    rw [eV, eI]
    have hoth : ∀ j, j ≠ t → j ≠ t + 3 → τ.1 j = σ.1 j := fun j b c => by rw [a5 j b c, uI_n b, uI_n b]
    refine ⟨am_uI (am_uI τ (t + 2) 6 (nI 0)) t 10 (nI (vN V 3 - 1)), ?_, ?_, ?_, ?_, fun j b c d e => ?_⟩
    · have e2 : S_X6_turnUp [.ref t] σ = am_it hd_X6_turnUp (am_fuel + 1) 44 [some (.ref t), some (.int (nI 0))] [] (am_uI (am_uI σ t 3 (nI 0)) t 4 (nI 0)) := by
        have e3 : ∀ lv st τ, am_it hd_X6_turnUp (am_fuel + 1) 44 lv st τ = dn_X6_turnUp_44 (am_it hd_X6_turnUp am_fuel) lv st τ := fun _ _ _ => rfl
        rw [e3]
        simp (disch := omega) only [↓e_X6_turnUp_0, ↓e_X6_turnUp_32, g_X6_turnUp, ↓it_s, ↓y_iload, ↓y_lload, ↓y_aload, ↓y_istore, ↓y_lstore, ↓y_astore, ↓y_iinc, ↓y_cI, ↓y_cL, ↓y_bin, ↓y_binL, ↓y_div, ↓y_divL, ↓y_lshl, ↓y_un, ↓y_i2l, ↓y_lneg, ↓y_l2i, ↓y_lcmp, ↓y_dupI, ↓y_dupR, ↓y_dup2, ↓y_pop, ↓y_goto, ↓y_eq0, ↓y_lt0, ↓y_le0, ↓y_eq, ↓y_lt, ↓y_le, ↓y_switch, ↓y_sw0, ↓y_sw1, ↓y_getI, ↓y_getL, ↓y_getR, ↓y_getT, ↓y_putI, ↓y_putZ, ↓y_putL, ↓y_putT, ↓y_iald, ↓y_bald, ↓y_lald, ↓y_aald, ↓y_iast, ↓y_bast, ↓y_last, ↓y_alen, ↓y_iret, ↓y_zret, ↓y_lret, ↓y_vret, ↓y_svI, ↓y_svL, ↓y_svV, ↓y_ivI, ↓y_ivL, ↓y_ivV, ↓y_max, ↓y_min, ↓y_absL, ↓y_cpI, ↓y_cpL, ↓x_n1I, ↓x_n1L, ↓x_n1R, ↓x_n0I, ↓x_n0L, ↓x_n0R, ↓x_s0, ↓x_s1i, ↓x_s1r, ↓x_s1n, ↓x_s2, ↓x_c0, ↓x_c2, ↓x_tk0, ↓x_tk1, ↓x_rcv, x_rI1, x_rL1, x_rV1, x_rIn, x_rLn, x_rVn, x_rIf, x_rLf, x_rVf, x_40, x_41, x_42, x_43, x_44, ↓reduceIte, if_true, if_false, ao_iadd, ao_isub, ao_imul, ao_iand, ao_ior, ao_ishl, ao_ishr, ao_iushr, ao_ladd, ao_lsub, ao_lmul, ao_land, ao_lor, ao_idiv, ao_irem, ao_ldiv, ao_lrem, ao_ineg, ao_i2b, ao_i2s, Nat.reduceAdd, Nat.reduceMul, Nat.reduceSub, Nat.reduceEqDiff, Nat.reduceLeDiff, and_self, true_and, x_lit, x_ofn, x_z0, x_z1, x_inbT, x_ltT, x_ltF, x_leT, x_leF, x_eqF, x_eqT, x_inb, x_lt, x_le, x_eq, x_cl, x_sub, nI_add, pk_mul, x_m1e, x_m1e', x_m1l, x_m1n, x_m1s, Nat.not_lt_zero, x_zb, x_b0, x_b1, decide_eq_false_iff_not, decide_eq_true_eq, Bool.false_eq_true, Bool.true_eq_false, k0, h1, List.length_nil]
      rw [e2, eF, a1]
      simp (disch := omega) only [↓e_X6_turnUp_72, ↓it_s, ↓y_iload, ↓y_lload, ↓y_aload, ↓y_istore, ↓y_lstore, ↓y_astore, ↓y_iinc, ↓y_cI, ↓y_cL, ↓y_bin, ↓y_binL, ↓y_div, ↓y_divL, ↓y_lshl, ↓y_un, ↓y_i2l, ↓y_lneg, ↓y_l2i, ↓y_lcmp, ↓y_dupI, ↓y_dupR, ↓y_dup2, ↓y_pop, ↓y_goto, ↓y_eq0, ↓y_lt0, ↓y_le0, ↓y_eq, ↓y_lt, ↓y_le, ↓y_switch, ↓y_sw0, ↓y_sw1, ↓y_getI, ↓y_getL, ↓y_getR, ↓y_getT, ↓y_putI, ↓y_putZ, ↓y_putL, ↓y_putT, ↓y_iald, ↓y_bald, ↓y_lald, ↓y_aald, ↓y_iast, ↓y_bast, ↓y_last, ↓y_alen, ↓y_iret, ↓y_zret, ↓y_lret, ↓y_vret, ↓y_svI, ↓y_svL, ↓y_svV, ↓y_ivI, ↓y_ivL, ↓y_ivV, ↓y_max, ↓y_min, ↓y_absL, ↓y_cpI, ↓y_cpL, ↓x_n1I, ↓x_n1L, ↓x_n1R, ↓x_n0I, ↓x_n0L, ↓x_n0R, ↓x_s0, ↓x_s1i, ↓x_s1r, ↓x_s1n, ↓x_s2, ↓x_c0, ↓x_c2, ↓x_tk0, ↓x_tk1, ↓x_rcv, x_rI1, x_rL1, x_rV1, x_rIn, x_rLn, x_rVn, x_rIf, x_rLf, x_rVf, x_40, x_41, x_42, x_43, x_44, ↓reduceIte, if_true, if_false, ao_iadd, ao_isub, ao_imul, ao_iand, ao_ior, ao_ishl, ao_ishr, ao_iushr, ao_ladd, ao_lsub, ao_lmul, ao_land, ao_lor, ao_idiv, ao_irem, ao_ldiv, ao_lrem, ao_ineg, ao_i2b, ao_i2s, Nat.reduceAdd, Nat.reduceMul, Nat.reduceSub, Nat.reduceEqDiff, Nat.reduceLeDiff, and_self, true_and, x_lit, x_ofn, x_z0, x_z1, x_inbT, x_ltT, x_ltF, x_leT, x_leF, x_eqF, x_eqT, x_inb, x_lt, x_le, x_eq, x_cl, x_sub, nI_add, pk_mul, x_m1e, x_m1e', x_m1l, x_m1n, x_m1s, Nat.not_lt_zero, x_zb, x_b0, x_b1, decide_eq_false_iff_not, decide_eq_true_eq, Bool.false_eq_true, Bool.true_eq_false, k0, k2, l2, uI_n, q10]
    · refine ⟨fun q hq => ?_, fun q hq => ?_, ⟨0, ?_, ?_, ?_, ?_⟩, fun s hs => ?_⟩
      · rw [uI_n (by omega), uI_s]
        show _ = nI (va_up (va_up V.2.1 7 (vP V 6)) 6 [] q).length
        by_cases e : q = 6
        · subst e; rw [up_s, up_s]; rfl
        · rw [up_n e, up_n e, up_n (by omega), hoth _ (by omega) (by omega)]; exact p1 q hq
      · rw [uI_n (by omega), uI_n (by omega), hoth _ (by omega) (by omega)]
        show seg _ _ (va_up (va_up V.2.1 7 (vP V 6)) 6 [] q)
        by_cases e : q = 6
        · subst e; rw [up_s]; exact seg_nil
        · rw [up_n e, up_n (by omega)]; exact p2 q hq
      · rw [uI_s, up_n (by omega), uI_n (by omega)]; exact q3
      · rw [uI_s, up_n (by omega), uI_n (by omega), a2]
        show _ = nI (0 + (va_up (va_up V.2.1 7 (vP V 6)) 6 [] 7).length)
        rw [up_n (by omega), up_s, Nat.zero_add]
      · show 0 + (va_up (va_up V.2.1 7 (vP V 6)) 6 [] 7).length ≤ 24
        rw [up_n (by omega), up_s]; omega
      · rw [uI_n (by omega), uI_n (by omega)]
        show seg _ _ (va_up (va_up V.2.1 7 (vP V 6)) 6 [] 7)
        rw [up_n (by omega), up_s]; exact a3
      · rw [uI_n (by omega), uI_n (by omega), hoth _ (by omega) (by omega)]; exact p7 s hs
    · obtain ⟨n0, n1, n2, n3, n4, n5⟩ := hN
      have g : ∀ i, i ≠ 3 → i ≠ 4 → i ≠ 10 → (am_uI (am_uI τ (t + 2) 6 (nI 0)) t 10 (nI (vN V 3 - 1))).1 t i = σ.1 t i := by
        intro i q1 q2 q4
        rw [uI_s, up_n q4, uI_n (by omega), a6 i q2, uI_s, up_n q2, uI_s, up_n q1]
      refine ⟨?_, ?_, ?_, ?_, ?_, ?_⟩
      · rw [g 6 (by omega) (by omega) (by omega)]; exact n0
      · rw [g 7 (by omega) (by omega) (by omega)]; exact n1
      · rw [g 9 (by omega) (by omega) (by omega)]; exact n2
      · rw [uI_s, up_s]; rfl
      · rw [g 11 (by omega) (by omega) (by omega)]; exact n4
      · rw [g 8 (by omega) (by omega) (by omega)]; exact n5
    · show τ.2 = σ.2
      rw [a4]; rfl
    · rw [uI_n b, uI_n d, hoth j b e]
