/-! a row is told; a part that is none -/
theorem WC_row {V : Vt} {r : Nat} (h : WC V) (hr : r = vN V 4) : WC (vuN V 4 (r + 1)) := by
  obtain ⟨a1, a2, a3, a4, a5⟩ := h
  refine ⟨a1, a2, a3, fun p hp hv => ?_, a5⟩
  rw [vuN_s] at hv
  exact a4 p hp (by omega)
theorem P_row {t : Nat → Nat} {e : Nat} {σx σm : am_M} {V : Vt} {Ns Nf : List (List Nat)} {rT lT dT cT : Bool} {X a : Nat} (h : PS t e σx σm V Ns Nf rT lT dT cT X a) (hx : TokX t e a σx) (hw : twi t e a = some 5) :
    (vN V 4 = 6 → POut t e σx σm (S_X9_addRow [.ref 3, .ref 27] σx) (bodyM σm) a) ∧
    (vN V 4 < 6 → S_X9_addRow [.ref 3, .ref 27] σx = some (some (.int (nI 1)), am_uI σx 27 11 (nI (vN V 4 + 1))) ∧ POut t e σx σm (S_X9_takeCards [.ref 6, .ref 3, .ref 26, .int (nI (vN V 4))] (am_uI σx 27 11 (nI (vN V 4 + 1)))) (bodyM σm) a) := by
  obtain ⟨e1, e2, e3, e4, e5⟩ := h.2.2.2.2.1
  obtain ⟨r, er⟩ : ∃ r, r = vN V 4 := ⟨_, rfl⟩
  have x11 : σx.1 27 11 = nI r := by rw [er]; exact h.1.1.1.2.2.2.2.1
  have m72 : σm.1 128 1772 = nI r := by rw [er]; exact h.1.2.2.1 4 (by omega)
  have h15 := e3.1
  have h5 := hx.2.1
  have hk1 := tw_kd hw
  have hbe := (tq_le (t := t) e4).2
  have hgt := tq_gt e4 (show tkd t e a ≠ 0 by omega)
  rw [← er]
  constructor
  · intro h6
    subst h6
    have hbl := X_blame (k := 6) (σ := σx)
    have hfa := M_fail0 (k := 6) (p := tp t e a) e5
    have hb12 := bdM_12 σm 6 (tp t e a)
    have hm := body_bad (M_part5 e4 e3 hw (τ := bdM σm 6 (tp t e a)) (by
      simp (disch := omega) only [g_X11_readRow, ↓e_X11_readRow_0, ↓e_X11_readRow_25, ↓it_s, ↓y_iload, ↓y_lload, ↓y_aload, ↓y_istore, ↓y_lstore, ↓y_astore, ↓y_iinc, ↓y_cI, ↓y_cL, ↓y_bin, ↓y_binL, ↓y_div, ↓y_divL, ↓y_lshl, ↓y_un, ↓y_i2l, ↓y_lneg, ↓y_l2i, ↓y_lcmp, ↓y_dupI, ↓y_dupR, ↓y_dup2, ↓y_pop, ↓y_goto, ↓y_eq0, ↓y_lt0, ↓y_le0, ↓y_eq, ↓y_lt, ↓y_le, ↓y_switch, ↓y_sw0, ↓y_sw1, ↓y_getI, ↓y_getL, ↓y_getR, ↓y_getT, ↓y_putI, ↓y_putZ, ↓y_putL, ↓y_putT, ↓y_iald, ↓y_bald, ↓y_lald, ↓y_aald, ↓y_iast, ↓y_bast, ↓y_last, ↓y_alen, ↓y_iret, ↓y_zret, ↓y_lret, ↓y_vret, ↓y_svI, ↓y_svL, ↓y_svV, ↓y_ivI, ↓y_ivL, ↓y_ivV, ↓y_max, ↓y_min, ↓y_absL, ↓y_cpI, ↓y_cpL, ↓x_n1I, ↓x_n1L, ↓x_n1R, ↓x_n0I, ↓x_n0L, ↓x_n0R, ↓x_s0, ↓x_s1i, ↓x_s1r, ↓x_s1n, ↓x_s2, ↓x_c0, ↓x_c2, ↓x_tk0, ↓x_tk1, ↓x_rcv, x_rI1, x_rL1, x_rV1, x_rIn, x_rLn, x_rVn, x_rIf, x_rLf, x_rVf, x_40, x_41, x_42, x_43, x_44, ↓reduceIte, if_true, if_false, ao_iadd, ao_isub, ao_imul, ao_iand, ao_ior, ao_ishl, ao_ishr, ao_iushr, ao_ladd, ao_lsub, ao_lmul, ao_land, ao_lor, ao_idiv, ao_irem, ao_ldiv, ao_lrem, ao_ineg, ao_i2b, ao_i2s, Nat.reduceAdd, Nat.reduceMul, Nat.reduceSub, Nat.reduceEqDiff, Nat.reduceLeDiff, and_self, true_and, x_lit, x_ofn, x_z0, x_z1, x_inbT, x_ltT, x_ltF, x_leT, x_leF, x_eqF, x_eqT, x_inb, x_lt, x_le, x_eq, x_cl, x_sub, nI_add, pk_mul, x_m1e, x_m1e', x_m1l, x_m1n, x_m1s, Nat.not_lt_zero, x_zb, x_b0, x_b1, decide_eq_false_iff_not, decide_eq_true_eq, Bool.false_eq_true, Bool.true_eq_false, m72, h15, hfa, hb12, kd_123, kd_128, ln_128])) (bdM_12 _ _ _) (by omega) (by omega)
    refine PO_bad (k := 6) (p := tp t e a) ?_ hm (by omega) (XF_bl (fR_rf _) h5) (fPm_rf _)
    simp (disch := omega) only [g_X9_addRow, ↓e_X9_addRow_0, ↓it_s, ↓y_iload, ↓y_lload, ↓y_aload, ↓y_istore, ↓y_lstore, ↓y_astore, ↓y_iinc, ↓y_cI, ↓y_cL, ↓y_bin, ↓y_binL, ↓y_div, ↓y_divL, ↓y_lshl, ↓y_un, ↓y_i2l, ↓y_lneg, ↓y_l2i, ↓y_lcmp, ↓y_dupI, ↓y_dupR, ↓y_dup2, ↓y_pop, ↓y_goto, ↓y_eq0, ↓y_lt0, ↓y_le0, ↓y_eq, ↓y_lt, ↓y_le, ↓y_switch, ↓y_sw0, ↓y_sw1, ↓y_getI, ↓y_getL, ↓y_getR, ↓y_getT, ↓y_putI, ↓y_putZ, ↓y_putL, ↓y_putT, ↓y_iald, ↓y_bald, ↓y_lald, ↓y_aald, ↓y_iast, ↓y_bast, ↓y_last, ↓y_alen, ↓y_iret, ↓y_zret, ↓y_lret, ↓y_vret, ↓y_svI, ↓y_svL, ↓y_svV, ↓y_ivI, ↓y_ivL, ↓y_ivV, ↓y_max, ↓y_min, ↓y_absL, ↓y_cpI, ↓y_cpL, ↓x_n1I, ↓x_n1L, ↓x_n1R, ↓x_n0I, ↓x_n0L, ↓x_n0R, ↓x_s0, ↓x_s1i, ↓x_s1r, ↓x_s1n, ↓x_s2, ↓x_c0, ↓x_c2, ↓x_tk0, ↓x_tk1, ↓x_rcv, x_rI1, x_rL1, x_rV1, x_rIn, x_rLn, x_rVn, x_rIf, x_rLf, x_rVf, x_40, x_41, x_42, x_43, x_44, ↓reduceIte, if_true, if_false, ao_iadd, ao_isub, ao_imul, ao_iand, ao_ior, ao_ishl, ao_ishr, ao_iushr, ao_ladd, ao_lsub, ao_lmul, ao_land, ao_lor, ao_idiv, ao_irem, ao_ldiv, ao_lrem, ao_ineg, ao_i2b, ao_i2s, Nat.reduceAdd, Nat.reduceMul, Nat.reduceSub, Nat.reduceEqDiff, Nat.reduceLeDiff, and_self, true_and, x_lit, x_ofn, x_z0, x_z1, x_inbT, x_ltT, x_ltF, x_leT, x_leF, x_eqF, x_eqT, x_inb, x_lt, x_le, x_eq, x_cl, x_sub, nI_add, pk_mul, x_m1e, x_m1e', x_m1l, x_m1n, x_m1s, Nat.not_lt_zero, x_zb, x_b0, x_b1, decide_eq_false_iff_not, decide_eq_true_eq, Bool.false_eq_true, Bool.true_eq_false, x11, hbl, kd_3, kd_27]
  · intro h6
    refine ⟨by simp (disch := omega) only [g_X9_addRow, ↓e_X9_addRow_0, ↓e_X9_addRow_16, ↓it_s, ↓y_iload, ↓y_lload, ↓y_aload, ↓y_istore, ↓y_lstore, ↓y_astore, ↓y_iinc, ↓y_cI, ↓y_cL, ↓y_bin, ↓y_binL, ↓y_div, ↓y_divL, ↓y_lshl, ↓y_un, ↓y_i2l, ↓y_lneg, ↓y_l2i, ↓y_lcmp, ↓y_dupI, ↓y_dupR, ↓y_dup2, ↓y_pop, ↓y_goto, ↓y_eq0, ↓y_lt0, ↓y_le0, ↓y_eq, ↓y_lt, ↓y_le, ↓y_switch, ↓y_sw0, ↓y_sw1, ↓y_getI, ↓y_getL, ↓y_getR, ↓y_getT, ↓y_putI, ↓y_putZ, ↓y_putL, ↓y_putT, ↓y_iald, ↓y_bald, ↓y_lald, ↓y_aald, ↓y_iast, ↓y_bast, ↓y_last, ↓y_alen, ↓y_iret, ↓y_zret, ↓y_lret, ↓y_vret, ↓y_svI, ↓y_svL, ↓y_svV, ↓y_ivI, ↓y_ivL, ↓y_ivV, ↓y_max, ↓y_min, ↓y_absL, ↓y_cpI, ↓y_cpL, ↓x_n1I, ↓x_n1L, ↓x_n1R, ↓x_n0I, ↓x_n0L, ↓x_n0R, ↓x_s0, ↓x_s1i, ↓x_s1r, ↓x_s1n, ↓x_s2, ↓x_c0, ↓x_c2, ↓x_tk0, ↓x_tk1, ↓x_rcv, x_rI1, x_rL1, x_rV1, x_rIn, x_rLn, x_rVn, x_rIf, x_rLf, x_rVf, x_40, x_41, x_42, x_43, x_44, ↓reduceIte, if_true, if_false, ao_iadd, ao_isub, ao_imul, ao_iand, ao_ior, ao_ishl, ao_ishr, ao_iushr, ao_ladd, ao_lsub, ao_lmul, ao_land, ao_lor, ao_idiv, ao_irem, ao_ldiv, ao_lrem, ao_ineg, ao_i2b, ao_i2s, Nat.reduceAdd, Nat.reduceMul, Nat.reduceSub, Nat.reduceEqDiff, Nat.reduceLeDiff, and_self, true_and, x_lit, x_ofn, x_z0, x_z1, x_inbT, x_ltT, x_ltF, x_leT, x_leF, x_eqF, x_eqT, x_inb, x_lt, x_le, x_eq, x_cl, x_sub, nI_add, pk_mul, x_m1e, x_m1e', x_m1l, x_m1n, x_m1s, Nat.not_lt_zero, x_zb, x_b0, x_b1, decide_eq_false_iff_not, decide_eq_true_eq, Bool.false_eq_true, Bool.true_eq_false, x11, kd_3, kd_27], ?_⟩
    obtain ⟨μ0, y1, y2, y3⟩ := M_advance e2 hbe e3.2.1
    have hP0 := PS_tok h (fR_rf _) y3 y2 hbe
    have hemp : vP V r = [] := h.1.2.1.2.1.2.2.2.1 r h6 (by omega)
    obtain ⟨w0, w1, w2, w3, w4, w5, w6, w7⟩ := h.1.2.1.1
    have hP1 := PS_num (w := 4) (x := r + 1) hP0 (by omega) ⟨⟨w0, w1, w2, w3, by rw [vuN_s]; omega, w5, w6, w7⟩, WC_row h.1.2.1.2.1 er, h.1.2.1.2.2⟩
    have hf4 : fwN 4 = 11 := rfl
    rw [hf4] at hP1
    have hP2 := PS_cT hP1
    have h72 : μ0.1 128 1772 = nI r := by rw [(y3.1 128 (by omega)).1]; exact m72
    have h12 : μ0.1 123 12 = nI 0 := by rw [y3.2.1 12 (by omega)]; exact e5
    have h82 : μ0.1 128 (1782 + r) = nI 0 := by
      have := (h.1.2.2.2.2.2.2.1 r h6).1
      rw [hemp, show 14 + r + 1768 = 1782 + r by omega] at this
      rw [(y3.1 128 (by omega)).1]; exact this
    have hpt : ptM r 0 (am_uI μ0 123 27 (nI 1)) = am_uI (am_uI μ0 128 (1768 + 4) (nI (r + 1))) 123 27 (nI 1) := by
      unfold ptM; rw [if_neg (by omega), uI_id (h := 128) (k := 1782 + r) (by rw [uI_n (by omega)]; exact h82), uI_cmh _ _ _ _ _ (by omega)]
    have hmb : mBeg r = 20 + 12 * r := by unfold mBeg; rw [if_pos h6]
    have h27 : (am_uI σx 27 11 (nI (r + 1))).1 3 = σx.1 3 := by rw [uI_n (by omega)]
    have hR := P_cards (q := r) (n0 := 0) (bs := 1788 + 12 * r) (mx := 12) (V := vuN V 4 (r + 1)) (σx := σx) (σm := σm) (ρ0 := am_uI σx 27 11 (nI (r + 1))) (μ0 := μ0) (a := a) (b := tq t e a) (by rw [if_neg (by omega)]) (by omega) (Or.inl ⟨h6, by rw [vuN_s]; omega, rfl⟩) (by show (vP V r).length = 0; rw [hemp]; rfl) (by rw [hpt]; exact hP2) (by rw [h27]; exact hx.1) hgt (fPx_uI (fPx_rf _) (by omega)) (fPm_T y3) (by rw [h27]) (by rw [h27]) (fun i μ r1 r2 r3 r5 => M_part5 e4 e3 hw (by
      rw [h72] at r5
      unfold ptM; rw [if_neg (show ¬ r = 7 by omega), Nat.zero_add]
      have g12 : (am_uI μ 128 (1782 + r) (nI i)).1 123 12 = nI 0 := by rw [uI_n (by omega)]; exact r2
      have g72 : (am_uI μ 128 (1782 + r) (nI i)).1 128 1772 = nI r := by rw [uI_s, up_n (by omega)]; exact r5
      simp (disch := omega) only [g_X11_readRow, ↓e_X11_readRow_0, ↓e_X11_readRow_25, ↓e_X11_readRow_33, ↓e_X11_readRow_80, ↓it_s, ↓y_iload, ↓y_lload, ↓y_aload, ↓y_istore, ↓y_lstore, ↓y_astore, ↓y_iinc, ↓y_cI, ↓y_cL, ↓y_bin, ↓y_binL, ↓y_div, ↓y_divL, ↓y_lshl, ↓y_un, ↓y_i2l, ↓y_lneg, ↓y_l2i, ↓y_lcmp, ↓y_dupI, ↓y_dupR, ↓y_dup2, ↓y_pop, ↓y_goto, ↓y_eq0, ↓y_lt0, ↓y_le0, ↓y_eq, ↓y_lt, ↓y_le, ↓y_switch, ↓y_sw0, ↓y_sw1, ↓y_getI, ↓y_getL, ↓y_getR, ↓y_getT, ↓y_putI, ↓y_putZ, ↓y_putL, ↓y_putT, ↓y_iald, ↓y_bald, ↓y_lald, ↓y_aald, ↓y_iast, ↓y_bast, ↓y_last, ↓y_alen, ↓y_iret, ↓y_zret, ↓y_lret, ↓y_vret, ↓y_svI, ↓y_svL, ↓y_svV, ↓y_ivI, ↓y_ivL, ↓y_ivV, ↓y_max, ↓y_min, ↓y_absL, ↓y_cpI, ↓y_cpL, ↓x_n1I, ↓x_n1L, ↓x_n1R, ↓x_n0I, ↓x_n0L, ↓x_n0R, ↓x_s0, ↓x_s1i, ↓x_s1r, ↓x_s1n, ↓x_s2, ↓x_c0, ↓x_c2, ↓x_tk0, ↓x_tk1, ↓x_rcv, x_rI1, x_rL1, x_rV1, x_rIn, x_rLn, x_rVn, x_rIf, x_rLf, x_rVf, x_40, x_41, x_42, x_43, x_44, ↓reduceIte, if_true, if_false, ao_iadd, ao_isub, ao_imul, ao_iand, ao_ior, ao_ishl, ao_ishr, ao_iushr, ao_ladd, ao_lsub, ao_lmul, ao_land, ao_lor, ao_idiv, ao_irem, ao_ldiv, ao_lrem, ao_ineg, ao_i2b, ao_i2s, Nat.reduceAdd, Nat.reduceMul, Nat.reduceSub, Nat.reduceEqDiff, Nat.reduceLeDiff, and_self, true_and, x_lit, x_ofn, x_z0, x_z1, x_inbT, x_ltT, x_ltF, x_leT, x_leF, x_eqF, x_eqT, x_inb, x_lt, x_le, x_eq, x_cl, x_sub, nI_add, pk_mul, x_m1e, x_m1e', x_m1l, x_m1n, x_m1s, Nat.not_lt_zero, x_zb, x_b0, x_b1, decide_eq_false_iff_not, decide_eq_true_eq, Bool.false_eq_true, Bool.true_eq_false, m72, e5, y1, r1, g12, g72, kd_123, kd_128, ln_128])) (fun k μ r1 r2 r3 r4 => ⟨1782 + r, nI 0, by omega, M_part5 e4 e3 hw (by
      have g12 : (am_uI μ 128 (1782 + r) (nI 0)).1 123 12 = nI k := by rw [uI_n (by omega)]; exact r2
      simp (disch := omega) only [g_X11_readRow, ↓e_X11_readRow_0, ↓e_X11_readRow_25, ↓e_X11_readRow_33, ↓e_X11_readRow_80, ↓it_s, ↓y_iload, ↓y_lload, ↓y_aload, ↓y_istore, ↓y_lstore, ↓y_astore, ↓y_iinc, ↓y_cI, ↓y_cL, ↓y_bin, ↓y_binL, ↓y_div, ↓y_divL, ↓y_lshl, ↓y_un, ↓y_i2l, ↓y_lneg, ↓y_l2i, ↓y_lcmp, ↓y_dupI, ↓y_dupR, ↓y_dup2, ↓y_pop, ↓y_goto, ↓y_eq0, ↓y_lt0, ↓y_le0, ↓y_eq, ↓y_lt, ↓y_le, ↓y_switch, ↓y_sw0, ↓y_sw1, ↓y_getI, ↓y_getL, ↓y_getR, ↓y_getT, ↓y_putI, ↓y_putZ, ↓y_putL, ↓y_putT, ↓y_iald, ↓y_bald, ↓y_lald, ↓y_aald, ↓y_iast, ↓y_bast, ↓y_last, ↓y_alen, ↓y_iret, ↓y_zret, ↓y_lret, ↓y_vret, ↓y_svI, ↓y_svL, ↓y_svV, ↓y_ivI, ↓y_ivL, ↓y_ivV, ↓y_max, ↓y_min, ↓y_absL, ↓y_cpI, ↓y_cpL, ↓x_n1I, ↓x_n1L, ↓x_n1R, ↓x_n0I, ↓x_n0L, ↓x_n0R, ↓x_s0, ↓x_s1i, ↓x_s1r, ↓x_s1n, ↓x_s2, ↓x_c0, ↓x_c2, ↓x_tk0, ↓x_tk1, ↓x_rcv, x_rI1, x_rL1, x_rV1, x_rIn, x_rLn, x_rVn, x_rIf, x_rLf, x_rVf, x_40, x_41, x_42, x_43, x_44, ↓reduceIte, if_true, if_false, ao_iadd, ao_isub, ao_imul, ao_iand, ao_ior, ao_ishl, ao_ishr, ao_iushr, ao_ladd, ao_lsub, ao_lmul, ao_land, ao_lor, ao_idiv, ao_irem, ao_ldiv, ao_lrem, ao_ineg, ao_i2b, ao_i2s, Nat.reduceAdd, Nat.reduceMul, Nat.reduceSub, Nat.reduceEqDiff, Nat.reduceLeDiff, and_self, true_and, x_lit, x_ofn, x_z0, x_z1, x_inbT, x_ltT, x_ltF, x_leT, x_leF, x_eqF, x_eqT, x_inb, x_lt, x_le, x_eq, x_cl, x_sub, nI_add, pk_mul, x_m1e, x_m1e', x_m1l, x_m1n, x_m1s, Nat.not_lt_zero, x_zb, x_b0, x_b1, decide_eq_false_iff_not, decide_eq_true_eq, Bool.false_eq_true, Bool.true_eq_false, m72, e5, y1, r1, g12, kd_123, kd_128, ln_128])⟩)
    rw [if_neg (by omega)] at hR
    exact hR
theorem P_none {t : Nat → Nat} {e : Nat} {σx σm : am_M} {V : Vt} {Ns Nf : List (List Nat)} {rT lT dT cT : Bool} {X a : Nat} (h : PS t e σx σm V Ns Nf rT lT dT cT X a) (hx : TokX t e a σx) (h4 : tkd t e a ≠ 4) (hw : ∀ i, i = 0 ∨ i = 1 ∨ (3 ≤ i ∧ i ≤ 7) → twi t e a ≠ some i) : POut t e σx σm (S_X3_blame [.ref 3, .int (nI 2)] σx) (bodyM σm) a := by
  obtain ⟨e1, e2, e3, e4, e5⟩ := h.2.2.2.2.1
  have hbl := X_blame (k := 2) (σ := σx)
  have ha := M_amiss e3 e5
  have hak : amk t e a = 2 := by unfold amk; rw [if_neg h4]
  rw [hak] at ha
  have w0 := M_isRanks e4 e3
  have w3 := M_isLaw e4 e3
  have w4 := M_isRedeals e4 e3
  have w1 := M_isSuit e4 e3
  have w5 := M_isRow e4 e3
  have w6 := M_isStock e4 e3
  have w7 := M_isField e4 e3
  rw [decide_eq_false (hw 0 (by omega))] at w0
  rw [decide_eq_false (hw 1 (by omega))] at w1
  rw [decide_eq_false (hw 3 (by omega))] at w3
  rw [decide_eq_false (hw 4 (by omega))] at w4
  rw [decide_eq_false (hw 5 (by omega))] at w5
  rw [decide_eq_false (hw 6 (by omega))] at w6
  rw [decide_eq_false (hw 7 (by omega))] at w7
  have hr : S_X11_readPart [.ref 123] σm = some (none, bdM σm 2 (tp t e a)) := by
    simp (disch := omega) only [g_X11_readPart, ↓e_X11_readPart_0, ↓e_X11_readPart_19, ↓e_X11_readPart_37, ↓e_X11_readPart_56, ↓e_X11_readPart_70, ↓e_X11_readPart_84, ↓e_X11_readPart_98, ↓e_X11_readPart_112, ↓e_X11_readPart_116, ↓it_s, ↓y_iload, ↓y_lload, ↓y_aload, ↓y_istore, ↓y_lstore, ↓y_astore, ↓y_iinc, ↓y_cI, ↓y_cL, ↓y_bin, ↓y_binL, ↓y_div, ↓y_divL, ↓y_lshl, ↓y_un, ↓y_i2l, ↓y_lneg, ↓y_l2i, ↓y_lcmp, ↓y_dupI, ↓y_dupR, ↓y_dup2, ↓y_pop, ↓y_goto, ↓y_eq0, ↓y_lt0, ↓y_le0, ↓y_eq, ↓y_lt, ↓y_le, ↓y_switch, ↓y_sw0, ↓y_sw1, ↓y_getI, ↓y_getL, ↓y_getR, ↓y_getT, ↓y_putI, ↓y_putZ, ↓y_putL, ↓y_putT, ↓y_iald, ↓y_bald, ↓y_lald, ↓y_aald, ↓y_iast, ↓y_bast, ↓y_last, ↓y_alen, ↓y_iret, ↓y_zret, ↓y_lret, ↓y_vret, ↓y_svI, ↓y_svL, ↓y_svV, ↓y_ivI, ↓y_ivL, ↓y_ivV, ↓y_max, ↓y_min, ↓y_absL, ↓y_cpI, ↓y_cpL, ↓x_n1I, ↓x_n1L, ↓x_n1R, ↓x_n0I, ↓x_n0L, ↓x_n0R, ↓x_s0, ↓x_s1i, ↓x_s1r, ↓x_s1n, ↓x_s2, ↓x_c0, ↓x_c2, ↓x_tk0, ↓x_tk1, ↓x_rcv, x_rI1, x_rL1, x_rV1, x_rIn, x_rLn, x_rVn, x_rIf, x_rLf, x_rVf, x_40, x_41, x_42, x_43, x_44, ↓reduceIte, if_true, if_false, ao_iadd, ao_isub, ao_imul, ao_iand, ao_ior, ao_ishl, ao_ishr, ao_iushr, ao_ladd, ao_lsub, ao_lmul, ao_land, ao_lor, ao_idiv, ao_irem, ao_ldiv, ao_lrem, ao_ineg, ao_i2b, ao_i2s, Nat.reduceAdd, Nat.reduceMul, Nat.reduceSub, Nat.reduceEqDiff, Nat.reduceLeDiff, and_self, true_and, x_lit, x_ofn, x_z0, x_z1, x_inbT, x_ltT, x_ltF, x_leT, x_leF, x_eqF, x_eqT, x_inb, x_lt, x_le, x_eq, x_cl, x_sub, nI_add, pk_mul, x_m1e, x_m1e', x_m1l, x_m1n, x_m1s, Nat.not_lt_zero, x_zb, x_b0, x_b1, decide_eq_false_iff_not, decide_eq_true_eq, Bool.false_eq_true, Bool.true_eq_false, w0, w3, w4, w1, w5, w6, w7, b2_f, ha, kd_123]
  exact PO_bad (k := 2) (p := tp t e a) hbl (body_bad hr (bdM_12 _ _ _) (by omega) (by omega)) (by omega) (XF_bl (fR_rf _) hx.2.1) (fPm_rf _)
