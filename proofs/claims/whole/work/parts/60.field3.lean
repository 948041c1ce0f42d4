/-! a field is told: its water, its height -/
def FOut (t : Nat → Nat) (e k j : Nat) (ρ μ : am_M) (rx rm : Option am_R) : Prop :=
  (∃ τx τm q p, rx = some (some (.int (nI 0)), τx) ∧ rm = some (none, τm) ∧ 0 < q ∧ q < 100 ∧ τx.1 3 10 = nI q ∧ τx.1 3 11 = nI p ∧ τm.1 123 12 = nI q ∧ τm.1 123 13 = nI p ∧ fPx ρ τx ∧ fPm μ τm) ∨
  (∃ wa hi τx τm m, wa ≤ 99 ∧ hi ≤ 99 ∧ rx = some (some (.int (nI 1)), τx) ∧ rm = some (none, τm) ∧ fR (am_uI (am_uI ρ 40 k (nI wa)) 41 k (nI hi)) τx ∧ fT (am_uI (am_uI (am_uI μ 128 (1920 + k) (nI wa)) 128 (1926 + k) (nI hi)) 128 1773 (nI (k + 1))) τm ∧ TokM t e m τm ∧ m ≤ e ∧ j < m ∧ τx.1 3 3 = nI m)
theorem P_high {t : Nat → Nat} {e k j wa : Nat} {σm ρ μ : am_M} (hk : k < 6) (hX : TX ρ t e) (hje : j ≤ e) (hk4 : tkd t e j ≠ 4) (hx : TokX t e j ρ) (hM : TM μ t e) (hm : TokM t e j μ) (h12 : μ.1 123 12 = nI 0) (h1773 : μ.1 128 1773 = nI k) (hwa : wa ≤ 99) (hw : μ.1 128 (1920 + k) = nI wa) (hwx : ρ.1 40 k = nI wa) (hh : μ.1 128 (1926 + k) = nI 99) (hhx : ρ.1 41 k = nI 99)
    (hRP : ∀ τ, dn_X11_readField_107 [some (.ref 123), some (.int (nI k)), some (.int (nI (1908 + k)))] [] μ = some (none, τ) → S_X11_readPart [.ref 123] σm = some (none, τ)) :
    FOut t e k j ρ μ (dn_X9_takeWater_49 [some (.ref 6), some (.ref 3), some (.ref 26), some (.int (nI k))] [] ρ) (bodyM σm) := by
  have wh := M_isHigh hje hm
  have h9 := hx.2.2.2.1
  have hid : am_uI μ 128 (1920 + k) (nI wa) = μ := uI_id hw
  have hidx : am_uI ρ 40 k (nI wa) = ρ := uI_id hwx
  by_cases hgh : twi t e j = some 11
  · rw [hgh] at wh h9
    have h9' : ρ.1 3 9 = nI 11 := h9
    have hkj := tw_kd hgh
    have hle := (tq_le (t := t) hje).2
    have hgt := tq_gt hje (show tkd t e j ≠ 0 by omega)
    obtain ⟨n1, n0⟩ := X_wantNumber (lo := 1) (hi := 99) hX hle hx.1 (by omega) (by omega)
    obtain ⟨q0, q1⟩ := M_behindT (lo := 1) (hi := 99) hM hje hm h12 (by omega) (by omega)
    cases hn : isNo t e 1 99 (tq t e j) with
    | false =>
      obtain ⟨τx, x1, x2, x3, x4⟩ := n0 hn
      obtain ⟨μ1, y1, y2, y3⟩ := q0 hn
      have hb12 := bdM_12 μ1 (noK t e (tq t e j)) (tp t e (tq t e j))
      have hb13 := bdM_13 μ1 (noK t e (tq t e j)) (tp t e (tq t e j))
      have hno := noK_12 t e (tq t e j)
      obtain ⟨μ2, em2⟩ : ∃ s, s = am_uI (bdM μ1 (noK t e (tq t e j)) (tp t e (tq t e j))) 128 (1908 + k + 18) (nI 0) := ⟨_, rfl⟩
      have h12' : μ2.1 123 12 = nI (noK t e (tq t e j)) := by rw [em2, uI_n (by omega)]; exact hb12
      have h13' : μ2.1 123 13 = nI (tp t e (tq t e j)) := by rw [em2, uI_n (by omega)]; exact hb13
      have hr := hRP μ2 (by
        rw [em2] at h12' ⊢
        simp (disch := omega) only [↓e_X11_readField_107, ↓e_X11_readField_138, ↓e_X11_readField_157, ↓it_s, ↓y_iload, ↓y_lload, ↓y_aload, ↓y_istore, ↓y_lstore, ↓y_astore, ↓y_iinc, ↓y_cI, ↓y_cL, ↓y_bin, ↓y_binL, ↓y_div, ↓y_divL, ↓y_lshl, ↓y_un, ↓y_i2l, ↓y_lneg, ↓y_l2i, ↓y_lcmp, ↓y_dupI, ↓y_dupR, ↓y_dup2, ↓y_pop, ↓y_goto, ↓y_eq0, ↓y_lt0, ↓y_le0, ↓y_eq, ↓y_lt, ↓y_le, ↓y_switch, ↓y_sw0, ↓y_sw1, ↓y_getI, ↓y_getL, ↓y_getR, ↓y_getT, ↓y_putI, ↓y_putZ, ↓y_putL, ↓y_putT, ↓y_iald, ↓y_bald, ↓y_lald, ↓y_aald, ↓y_iast, ↓y_bast, ↓y_last, ↓y_alen, ↓y_iret, ↓y_zret, ↓y_lret, ↓y_vret, ↓y_svI, ↓y_svL, ↓y_svV, ↓y_ivI, ↓y_ivL, ↓y_ivV, ↓y_max, ↓y_min, ↓y_absL, ↓y_cpI, ↓y_cpL, ↓x_n1I, ↓x_n1L, ↓x_n1R, ↓x_n0I, ↓x_n0L, ↓x_n0R, ↓x_s0, ↓x_s1i, ↓x_s1r, ↓x_s1n, ↓x_s2, ↓x_c0, ↓x_c2, ↓x_tk0, ↓x_tk1, ↓x_rcv, x_rI1, x_rL1, x_rV1, x_rIn, x_rLn, x_rVn, x_rIf, x_rLf, x_rVf, x_40, x_41, x_42, x_43, x_44, ↓reduceIte, if_true, if_false, ao_iadd, ao_isub, ao_imul, ao_iand, ao_ior, ao_ishl, ao_ishr, ao_iushr, ao_ladd, ao_lsub, ao_lmul, ao_land, ao_lor, ao_idiv, ao_irem, ao_ldiv, ao_lrem, ao_ineg, ao_i2b, ao_i2s, Nat.reduceAdd, Nat.reduceMul, Nat.reduceSub, Nat.reduceEqDiff, Nat.reduceLeDiff, and_self, true_and, x_lit, x_ofn, x_z0, x_z1, x_inbT, x_ltT, x_ltF, x_leT, x_leF, x_eqF, x_eqT, x_inb, x_lt, x_le, x_eq, x_cl, x_sub, nI_add, pk_mul, x_m1e, x_m1e', x_m1l, x_m1n, x_m1s, Nat.not_lt_zero, x_zb, x_b0, x_b1, decide_eq_false_iff_not, decide_eq_true_eq, Bool.false_eq_true, Bool.true_eq_false, h12, wh, dsome, Nat.reduceEqDiff, decide_true, b2_t, y1, h12', kd_123, kd_128, ln_128])
      refine Or.inl ⟨τx, μ2, _, _, ?_, body_bad hr h12' hno.1 hno.2, hno.1, hno.2, x2, x3, h12', h13', fPx_B x4, by rw [em2]; exact fPm_uc (fPm_bd (fPm_T y3)) (by omega)⟩
      simp (disch := omega) only [↓e_X9_takeWater_49, ↓it_s, ↓y_iload, ↓y_lload, ↓y_aload, ↓y_istore, ↓y_lstore, ↓y_astore, ↓y_iinc, ↓y_cI, ↓y_cL, ↓y_bin, ↓y_binL, ↓y_div, ↓y_divL, ↓y_lshl, ↓y_un, ↓y_i2l, ↓y_lneg, ↓y_l2i, ↓y_lcmp, ↓y_dupI, ↓y_dupR, ↓y_dup2, ↓y_pop, ↓y_goto, ↓y_eq0, ↓y_lt0, ↓y_le0, ↓y_eq, ↓y_lt, ↓y_le, ↓y_switch, ↓y_sw0, ↓y_sw1, ↓y_getI, ↓y_getL, ↓y_getR, ↓y_getT, ↓y_putI, ↓y_putZ, ↓y_putL, ↓y_putT, ↓y_iald, ↓y_bald, ↓y_lald, ↓y_aald, ↓y_iast, ↓y_bast, ↓y_last, ↓y_alen, ↓y_iret, ↓y_zret, ↓y_lret, ↓y_vret, ↓y_svI, ↓y_svL, ↓y_svV, ↓y_ivI, ↓y_ivL, ↓y_ivV, ↓y_max, ↓y_min, ↓y_absL, ↓y_cpI, ↓y_cpL, ↓x_n1I, ↓x_n1L, ↓x_n1R, ↓x_n0I, ↓x_n0L, ↓x_n0R, ↓x_s0, ↓x_s1i, ↓x_s1r, ↓x_s1n, ↓x_s2, ↓x_c0, ↓x_c2, ↓x_tk0, ↓x_tk1, ↓x_rcv, x_rI1, x_rL1, x_rV1, x_rIn, x_rLn, x_rVn, x_rIf, x_rLf, x_rVf, x_40, x_41, x_42, x_43, x_44, ↓reduceIte, if_true, if_false, ao_iadd, ao_isub, ao_imul, ao_iand, ao_ior, ao_ishl, ao_ishr, ao_iushr, ao_ladd, ao_lsub, ao_lmul, ao_land, ao_lor, ao_idiv, ao_irem, ao_ldiv, ao_lrem, ao_ineg, ao_i2b, ao_i2s, Nat.reduceAdd, Nat.reduceMul, Nat.reduceSub, Nat.reduceEqDiff, Nat.reduceLeDiff, and_self, true_and, x_lit, x_ofn, x_z0, x_z1, x_inbT, x_ltT, x_ltF, x_leT, x_leF, x_eqF, x_eqT, x_inb, x_lt, x_le, x_eq, x_cl, x_sub, nI_add, pk_mul, x_m1e, x_m1e', x_m1l, x_m1n, x_m1s, Nat.not_lt_zero, x_zb, x_b0, x_b1, decide_eq_false_iff_not, decide_eq_true_eq, Bool.false_eq_true, Bool.true_eq_false, h9', x1, kd_3]
    | true =>
      obtain ⟨z1, z2, z3⟩ := of_decide_eq_true hn
      obtain ⟨τx, x1, x2, x3⟩ := n1 hn
      obtain ⟨μ1, y1, y2, y3⟩ := q1 hn
      have hme := (tq_le (t := t) hle).2
      have hgt2 := tq_gt hle (show tkd t e (tq t e j) ≠ 0 by omega)
      have h6 := x2.2.2.2.2.1 (Or.inl z1)
      have h121 : μ1.1 123 12 = nI 0 := by rw [y3.2.1 12 (by omega)]; exact h12
      have h17 : μ1.1 128 1773 = nI k := by rw [(y3.1 128 (by omega)).1]; exact h1773
      have ei : 1908 + k + 18 = 1926 + k := by omega
      obtain ⟨μ2, em2⟩ : ∃ s, s = am_uI (am_uI μ1 128 (1926 + k) (nI (tnum t e (tq t e j)))) 128 1773 (nI (k + 1)) := ⟨_, rfl⟩
      have hr := hRP μ2 (by
        have g1 : (am_uI μ1 128 (1926 + k) (nI (tnum t e (tq t e j)))).1 123 12 = nI 0 := by rw [uI_n (by omega)]; exact h121
        have g2 : (am_uI μ1 128 (1926 + k) (nI (tnum t e (tq t e j)))).1 128 1773 = nI k := by rw [uI_s, up_n (by omega)]; exact h17
        rw [em2]
        simp (disch := omega) only [↓e_X11_readField_107, ↓e_X11_readField_138, ↓e_X11_readField_157, ↓it_s, ↓y_iload, ↓y_lload, ↓y_aload, ↓y_istore, ↓y_lstore, ↓y_astore, ↓y_iinc, ↓y_cI, ↓y_cL, ↓y_bin, ↓y_binL, ↓y_div, ↓y_divL, ↓y_lshl, ↓y_un, ↓y_i2l, ↓y_lneg, ↓y_l2i, ↓y_lcmp, ↓y_dupI, ↓y_dupR, ↓y_dup2, ↓y_pop, ↓y_goto, ↓y_eq0, ↓y_lt0, ↓y_le0, ↓y_eq, ↓y_lt, ↓y_le, ↓y_switch, ↓y_sw0, ↓y_sw1, ↓y_getI, ↓y_getL, ↓y_getR, ↓y_getT, ↓y_putI, ↓y_putZ, ↓y_putL, ↓y_putT, ↓y_iald, ↓y_bald, ↓y_lald, ↓y_aald, ↓y_iast, ↓y_bast, ↓y_last, ↓y_alen, ↓y_iret, ↓y_zret, ↓y_lret, ↓y_vret, ↓y_svI, ↓y_svL, ↓y_svV, ↓y_ivI, ↓y_ivL, ↓y_ivV, ↓y_max, ↓y_min, ↓y_absL, ↓y_cpI, ↓y_cpL, ↓x_n1I, ↓x_n1L, ↓x_n1R, ↓x_n0I, ↓x_n0L, ↓x_n0R, ↓x_s0, ↓x_s1i, ↓x_s1r, ↓x_s1n, ↓x_s2, ↓x_c0, ↓x_c2, ↓x_tk0, ↓x_tk1, ↓x_rcv, x_rI1, x_rL1, x_rV1, x_rIn, x_rLn, x_rVn, x_rIf, x_rLf, x_rVf, x_40, x_41, x_42, x_43, x_44, ↓reduceIte, if_true, if_false, ao_iadd, ao_isub, ao_imul, ao_iand, ao_ior, ao_ishl, ao_ishr, ao_iushr, ao_ladd, ao_lsub, ao_lmul, ao_land, ao_lor, ao_idiv, ao_irem, ao_ldiv, ao_lrem, ao_ineg, ao_i2b, ao_i2s, Nat.reduceAdd, Nat.reduceMul, Nat.reduceSub, Nat.reduceEqDiff, Nat.reduceLeDiff, and_self, true_and, x_lit, x_ofn, x_z0, x_z1, x_inbT, x_ltT, x_ltF, x_leT, x_leF, x_eqF, x_eqT, x_inb, x_lt, x_le, x_eq, x_cl, x_sub, nI_add, pk_mul, x_m1e, x_m1e', x_m1l, x_m1n, x_m1s, Nat.not_lt_zero, x_zb, x_b0, x_b1, decide_eq_false_iff_not, decide_eq_true_eq, Bool.false_eq_true, Bool.true_eq_false, h12, wh, dsome, Nat.reduceEqDiff, decide_true, b2_t, y1, ei, g1, g2, kd_123, kd_128, ln_128])
      have hT2 : TM μ2 t e := by rw [em2]; exact TM_uo (TM_uo (TM_fr hM y3) (by omega) (by omega)) (by omega) (by omega)
      have hk2 : TokM t e (tq t e (tq t e j)) μ2 := by rw [em2]; exact TokM_uo (TokM_uo y2 (by omega)) (by omega)
      have h122 : μ2.1 123 12 = nI 0 := by rw [em2, uI_n (by omega), uI_n (by omega)]; exact h121
      obtain ⟨g1, g0⟩ := body_sg hr hT2 hme hk2 h122
      obtain ⟨ρ1, er1⟩ : ∃ s, s = am_uI τx 41 k (nI (tnum t e (tq t e j))) := ⟨_, rfl⟩
      have er1' := er1.symm
      have hX1 : TX ρ1 t e := by rw [er1]; exact TX_uI (TX_fr hX x3) (by omega) (by omega)
      have h33 : ρ1.1 3 3 = nI (tq t e (tq t e j)) := by rw [er1, uI_n (by omega)]; exact x2.1
      obtain ⟨t1, t0⟩ := X_wantSign (c := 59) hX1 hme h33 (by omega)
      have hfm : fT (am_uI (am_uI (am_uI μ 128 (1920 + k) (nI wa)) 128 (1926 + k) (nI (tnum t e (tq t e j)))) 128 1773 (nI (k + 1))) μ2 := by
        rw [hid, em2]; exact fT_lift (fT_lift y3 (by omega)) (by omega)
      have hfx : fR (am_uI (am_uI ρ 40 k (nI wa)) 41 k (nI (tnum t e (tq t e j)))) ρ1 := by
        rw [hidx, er1]; exact fR_lift x3 (by omega)
      have hmf : fPm μ μ2 := by rw [em2]; exact fPm_uc (fPm_uc (fPm_T y3) (by omega)) (by omega)
      have hxf : fPx ρ ρ1 := by rw [er1]; exact fPx_uI (fPx_R x3) (by omega)
      cases hs : decide (tkd t e (tq t e (tq t e j)) = 3 ∧ tnum t e (tq t e (tq t e j)) = 59) with
      | false =>
        obtain ⟨ρx, r1, r2, r3, r4⟩ := t0 hs
        refine Or.inl ⟨ρx, _, _, _, ?_, g0 hs, (amk_12 t e _).1, (amk_12 t e _).2, r2, r3, bdM_12 _ _ _, bdM_13 _ _ _, fPx_tr hxf (fPx_B r4), fPm_bd hmf⟩
        simp (disch := omega) only [↓e_X9_takeWater_49, ↓e_X9_takeWater_70, ↓it_s, ↓y_iload, ↓y_lload, ↓y_aload, ↓y_istore, ↓y_lstore, ↓y_astore, ↓y_iinc, ↓y_cI, ↓y_cL, ↓y_bin, ↓y_binL, ↓y_div, ↓y_divL, ↓y_lshl, ↓y_un, ↓y_i2l, ↓y_lneg, ↓y_l2i, ↓y_lcmp, ↓y_dupI, ↓y_dupR, ↓y_dup2, ↓y_pop, ↓y_goto, ↓y_eq0, ↓y_lt0, ↓y_le0, ↓y_eq, ↓y_lt, ↓y_le, ↓y_switch, ↓y_sw0, ↓y_sw1, ↓y_getI, ↓y_getL, ↓y_getR, ↓y_getT, ↓y_putI, ↓y_putZ, ↓y_putL, ↓y_putT, ↓y_iald, ↓y_bald, ↓y_lald, ↓y_aald, ↓y_iast, ↓y_bast, ↓y_last, ↓y_alen, ↓y_iret, ↓y_zret, ↓y_lret, ↓y_vret, ↓y_svI, ↓y_svL, ↓y_svV, ↓y_ivI, ↓y_ivL, ↓y_ivV, ↓y_max, ↓y_min, ↓y_absL, ↓y_cpI, ↓y_cpL, ↓x_n1I, ↓x_n1L, ↓x_n1R, ↓x_n0I, ↓x_n0L, ↓x_n0R, ↓x_s0, ↓x_s1i, ↓x_s1r, ↓x_s1n, ↓x_s2, ↓x_c0, ↓x_c2, ↓x_tk0, ↓x_tk1, ↓x_rcv, x_rI1, x_rL1, x_rV1, x_rIn, x_rLn, x_rVn, x_rIf, x_rLf, x_rVf, x_40, x_41, x_42, x_43, x_44, ↓reduceIte, if_true, if_false, ao_iadd, ao_isub, ao_imul, ao_iand, ao_ior, ao_ishl, ao_ishr, ao_iushr, ao_ladd, ao_lsub, ao_lmul, ao_land, ao_lor, ao_idiv, ao_irem, ao_ldiv, ao_lrem, ao_ineg, ao_i2b, ao_i2s, Nat.reduceAdd, Nat.reduceMul, Nat.reduceSub, Nat.reduceEqDiff, Nat.reduceLeDiff, and_self, true_and, x_lit, x_ofn, x_z0, x_z1, x_inbT, x_ltT, x_ltF, x_leT, x_leF, x_eqF, x_eqT, x_inb, x_lt, x_le, x_eq, x_cl, x_sub, nI_add, pk_mul, x_m1e, x_m1e', x_m1l, x_m1n, x_m1s, Nat.not_lt_zero, x_zb, x_b0, x_b1, decide_eq_false_iff_not, decide_eq_true_eq, Bool.false_eq_true, Bool.true_eq_false, h9', x1, h6, er1', r1, kd_3, kd_26, kd_41, ln_41]
      | true =>
        obtain ⟨ρx, r1, r2, r3⟩ := t1 hs
        obtain ⟨ρm, v4, v5, v6⟩ := g1 hs
        have hfe := (tq_le (t := t) hme).2
        have hgt4 := tq_gt hme (show tkd t e (tq t e (tq t e j)) ≠ 0 by have := (of_decide_eq_true hs).1; omega)
        refine Or.inr ⟨wa, tnum t e (tq t e j), ρx, ρm, _, hwa, z3, ?_, v4, fR_tr hfx r3, fT_tr hfm v6, v5, hfe, by omega, r2.1⟩
        simp (disch := omega) only [↓e_X9_takeWater_49, ↓e_X9_takeWater_70, ↓it_s, ↓y_iload, ↓y_lload, ↓y_aload, ↓y_istore, ↓y_lstore, ↓y_astore, ↓y_iinc, ↓y_cI, ↓y_cL, ↓y_bin, ↓y_binL, ↓y_div, ↓y_divL, ↓y_lshl, ↓y_un, ↓y_i2l, ↓y_lneg, ↓y_l2i, ↓y_lcmp, ↓y_dupI, ↓y_dupR, ↓y_dup2, ↓y_pop, ↓y_goto, ↓y_eq0, ↓y_lt0, ↓y_le0, ↓y_eq, ↓y_lt, ↓y_le, ↓y_switch, ↓y_sw0, ↓y_sw1, ↓y_getI, ↓y_getL, ↓y_getR, ↓y_getT, ↓y_putI, ↓y_putZ, ↓y_putL, ↓y_putT, ↓y_iald, ↓y_bald, ↓y_lald, ↓y_aald, ↓y_iast, ↓y_bast, ↓y_last, ↓y_alen, ↓y_iret, ↓y_zret, ↓y_lret, ↓y_vret, ↓y_svI, ↓y_svL, ↓y_svV, ↓y_ivI, ↓y_ivL, ↓y_ivV, ↓y_max, ↓y_min, ↓y_absL, ↓y_cpI, ↓y_cpL, ↓x_n1I, ↓x_n1L, ↓x_n1R, ↓x_n0I, ↓x_n0L, ↓x_n0R, ↓x_s0, ↓x_s1i, ↓x_s1r, ↓x_s1n, ↓x_s2, ↓x_c0, ↓x_c2, ↓x_tk0, ↓x_tk1, ↓x_rcv, x_rI1, x_rL1, x_rV1, x_rIn, x_rLn, x_rVn, x_rIf, x_rLf, x_rVf, x_40, x_41, x_42, x_43, x_44, ↓reduceIte, if_true, if_false, ao_iadd, ao_isub, ao_imul, ao_iand, ao_ior, ao_ishl, ao_ishr, ao_iushr, ao_ladd, ao_lsub, ao_lmul, ao_land, ao_lor, ao_idiv, ao_irem, ao_ldiv, ao_lrem, ao_ineg, ao_i2b, ao_i2s, Nat.reduceAdd, Nat.reduceMul, Nat.reduceSub, Nat.reduceEqDiff, Nat.reduceLeDiff, and_self, true_and, x_lit, x_ofn, x_z0, x_z1, x_inbT, x_ltT, x_ltF, x_leT, x_leF, x_eqF, x_eqT, x_inb, x_lt, x_le, x_eq, x_cl, x_sub, nI_add, pk_mul, x_m1e, x_m1e', x_m1l, x_m1n, x_m1s, Nat.not_lt_zero, x_zb, x_b0, x_b1, decide_eq_false_iff_not, decide_eq_true_eq, Bool.false_eq_true, Bool.true_eq_false, h9', x1, h6, er1', r1, kd_3, kd_26, kd_41, ln_41]
  · have hd : decide (twi t e j = some 11) = false := decide_eq_false hgh
    rw [hd] at wh
    obtain ⟨μ2, em2⟩ : ∃ s, s = am_uI μ 128 1773 (nI (k + 1)) := ⟨_, rfl⟩
    have hr := hRP μ2 (by
      rw [em2]
      simp (disch := omega) only [↓e_X11_readField_107, ↓e_X11_readField_138, ↓e_X11_readField_157, ↓it_s, ↓y_iload, ↓y_lload, ↓y_aload, ↓y_istore, ↓y_lstore, ↓y_astore, ↓y_iinc, ↓y_cI, ↓y_cL, ↓y_bin, ↓y_binL, ↓y_div, ↓y_divL, ↓y_lshl, ↓y_un, ↓y_i2l, ↓y_lneg, ↓y_l2i, ↓y_lcmp, ↓y_dupI, ↓y_dupR, ↓y_dup2, ↓y_pop, ↓y_goto, ↓y_eq0, ↓y_lt0, ↓y_le0, ↓y_eq, ↓y_lt, ↓y_le, ↓y_switch, ↓y_sw0, ↓y_sw1, ↓y_getI, ↓y_getL, ↓y_getR, ↓y_getT, ↓y_putI, ↓y_putZ, ↓y_putL, ↓y_putT, ↓y_iald, ↓y_bald, ↓y_lald, ↓y_aald, ↓y_iast, ↓y_bast, ↓y_last, ↓y_alen, ↓y_iret, ↓y_zret, ↓y_lret, ↓y_vret, ↓y_svI, ↓y_svL, ↓y_svV, ↓y_ivI, ↓y_ivL, ↓y_ivV, ↓y_max, ↓y_min, ↓y_absL, ↓y_cpI, ↓y_cpL, ↓x_n1I, ↓x_n1L, ↓x_n1R, ↓x_n0I, ↓x_n0L, ↓x_n0R, ↓x_s0, ↓x_s1i, ↓x_s1r, ↓x_s1n, ↓x_s2, ↓x_c0, ↓x_c2, ↓x_tk0, ↓x_tk1, ↓x_rcv, x_rI1, x_rL1, x_rV1, x_rIn, x_rLn, x_rVn, x_rIf, x_rLf, x_rVf, x_40, x_41, x_42, x_43, x_44, ↓reduceIte, if_true, if_false, ao_iadd, ao_isub, ao_imul, ao_iand, ao_ior, ao_ishl, ao_ishr, ao_iushr, ao_ladd, ao_lsub, ao_lmul, ao_land, ao_lor, ao_idiv, ao_irem, ao_ldiv, ao_lrem, ao_ineg, ao_i2b, ao_i2s, Nat.reduceAdd, Nat.reduceMul, Nat.reduceSub, Nat.reduceEqDiff, Nat.reduceLeDiff, and_self, true_and, x_lit, x_ofn, x_z0, x_z1, x_inbT, x_ltT, x_ltF, x_leT, x_leF, x_eqF, x_eqT, x_inb, x_lt, x_le, x_eq, x_cl, x_sub, nI_add, pk_mul, x_m1e, x_m1e', x_m1l, x_m1n, x_m1s, Nat.not_lt_zero, x_zb, x_b0, x_b1, decide_eq_false_iff_not, decide_eq_true_eq, Bool.false_eq_true, Bool.true_eq_false, h12, wh, b2_f, h1773, kd_123, kd_128, ln_128])
    have hT2 : TM μ2 t e := by rw [em2]; exact TM_uo hM (by omega) (by omega)
    have hk2 : TokM t e j μ2 := by rw [em2]; exact TokM_uo hm (by omega)
    have h122 : μ2.1 123 12 = nI 0 := by rw [em2, uI_n (by omega)]; exact h12
    obtain ⟨g1, g0⟩ := body_sg hr hT2 hje hk2 h122
    have hidh : am_uI μ 128 (1926 + k) (nI 99) = μ := uI_id hh
    have hidhx : am_uI ρ 41 k (nI 99) = ρ := uI_id hhx
    have hmf : fPm μ μ2 := by rw [em2]; exact fPm_uc (fPm_rf _) (by omega)
    have ws := X_isSign (c := 59) hx (by omega) hX.2.2.2.1
    have h87 : dn_X9_takeWater_49 [some (.ref 6), some (.ref 3), some (.ref 26), some (.int (nI k))] [] ρ = dn_X9_takeWater_87 [some (.ref 6), some (.ref 3), some (.ref 26), some (.int (nI k))] [] ρ := by
      cases ho : twi t e j with
      | none =>
        rw [ho] at h9
        have h9' : ρ.1 3 9 = -nI 1 := h9
        simp (disch := omega) only [↓e_X9_takeWater_49, ↓it_s, ↓y_iload, ↓y_lload, ↓y_aload, ↓y_istore, ↓y_lstore, ↓y_astore, ↓y_iinc, ↓y_cI, ↓y_cL, ↓y_bin, ↓y_binL, ↓y_div, ↓y_divL, ↓y_lshl, ↓y_un, ↓y_i2l, ↓y_lneg, ↓y_l2i, ↓y_lcmp, ↓y_dupI, ↓y_dupR, ↓y_dup2, ↓y_pop, ↓y_goto, ↓y_eq0, ↓y_lt0, ↓y_le0, ↓y_eq, ↓y_lt, ↓y_le, ↓y_switch, ↓y_sw0, ↓y_sw1, ↓y_getI, ↓y_getL, ↓y_getR, ↓y_getT, ↓y_putI, ↓y_putZ, ↓y_putL, ↓y_putT, ↓y_iald, ↓y_bald, ↓y_lald, ↓y_aald, ↓y_iast, ↓y_bast, ↓y_last, ↓y_alen, ↓y_iret, ↓y_zret, ↓y_lret, ↓y_vret, ↓y_svI, ↓y_svL, ↓y_svV, ↓y_ivI, ↓y_ivL, ↓y_ivV, ↓y_max, ↓y_min, ↓y_absL, ↓y_cpI, ↓y_cpL, ↓x_n1I, ↓x_n1L, ↓x_n1R, ↓x_n0I, ↓x_n0L, ↓x_n0R, ↓x_s0, ↓x_s1i, ↓x_s1r, ↓x_s1n, ↓x_s2, ↓x_c0, ↓x_c2, ↓x_tk0, ↓x_tk1, ↓x_rcv, x_rI1, x_rL1, x_rV1, x_rIn, x_rLn, x_rVn, x_rIf, x_rLf, x_rVf, x_40, x_41, x_42, x_43, x_44, ↓reduceIte, if_true, if_false, ao_iadd, ao_isub, ao_imul, ao_iand, ao_ior, ao_ishl, ao_ishr, ao_iushr, ao_ladd, ao_lsub, ao_lmul, ao_land, ao_lor, ao_idiv, ao_irem, ao_ldiv, ao_lrem, ao_ineg, ao_i2b, ao_i2s, Nat.reduceAdd, Nat.reduceMul, Nat.reduceSub, Nat.reduceEqDiff, Nat.reduceLeDiff, and_self, true_and, x_lit, x_ofn, x_z0, x_z1, x_inbT, x_ltT, x_ltF, x_leT, x_leF, x_eqF, x_eqT, x_inb, x_lt, x_le, x_eq, x_cl, x_sub, nI_add, pk_mul, x_m1e, x_m1e', x_m1l, x_m1n, x_m1s, Nat.not_lt_zero, x_zb, x_b0, x_b1, decide_eq_false_iff_not, decide_eq_true_eq, Bool.false_eq_true, Bool.true_eq_false, h9', kd_3]
      | some i =>
        rw [ho] at h9
        have h9' : ρ.1 3 9 = nI i := h9
        have hi := kwi_tw ho
        have hj2 : ¬ i = 11 := fun q => hgh (by rw [ho, q])
        simp (disch := omega) only [↓e_X9_takeWater_49, ↓it_s, ↓y_iload, ↓y_lload, ↓y_aload, ↓y_istore, ↓y_lstore, ↓y_astore, ↓y_iinc, ↓y_cI, ↓y_cL, ↓y_bin, ↓y_binL, ↓y_div, ↓y_divL, ↓y_lshl, ↓y_un, ↓y_i2l, ↓y_lneg, ↓y_l2i, ↓y_lcmp, ↓y_dupI, ↓y_dupR, ↓y_dup2, ↓y_pop, ↓y_goto, ↓y_eq0, ↓y_lt0, ↓y_le0, ↓y_eq, ↓y_lt, ↓y_le, ↓y_switch, ↓y_sw0, ↓y_sw1, ↓y_getI, ↓y_getL, ↓y_getR, ↓y_getT, ↓y_putI, ↓y_putZ, ↓y_putL, ↓y_putT, ↓y_iald, ↓y_bald, ↓y_lald, ↓y_aald, ↓y_iast, ↓y_bast, ↓y_last, ↓y_alen, ↓y_iret, ↓y_zret, ↓y_lret, ↓y_vret, ↓y_svI, ↓y_svL, ↓y_svV, ↓y_ivI, ↓y_ivL, ↓y_ivV, ↓y_max, ↓y_min, ↓y_absL, ↓y_cpI, ↓y_cpL, ↓x_n1I, ↓x_n1L, ↓x_n1R, ↓x_n0I, ↓x_n0L, ↓x_n0R, ↓x_s0, ↓x_s1i, ↓x_s1r, ↓x_s1n, ↓x_s2, ↓x_c0, ↓x_c2, ↓x_tk0, ↓x_tk1, ↓x_rcv, x_rI1, x_rL1, x_rV1, x_rIn, x_rLn, x_rVn, x_rIf, x_rLf, x_rVf, x_40, x_41, x_42, x_43, x_44, ↓reduceIte, if_true, if_false, ao_iadd, ao_isub, ao_imul, ao_iand, ao_ior, ao_ishl, ao_ishr, ao_iushr, ao_ladd, ao_lsub, ao_lmul, ao_land, ao_lor, ao_idiv, ao_irem, ao_ldiv, ao_lrem, ao_ineg, ao_i2b, ao_i2s, Nat.reduceAdd, Nat.reduceMul, Nat.reduceSub, Nat.reduceEqDiff, Nat.reduceLeDiff, and_self, true_and, x_lit, x_ofn, x_z0, x_z1, x_inbT, x_ltT, x_ltF, x_leT, x_leF, x_eqF, x_eqT, x_inb, x_lt, x_le, x_eq, x_cl, x_sub, nI_add, pk_mul, x_m1e, x_m1e', x_m1l, x_m1n, x_m1s, Nat.not_lt_zero, x_zb, x_b0, x_b1, decide_eq_false_iff_not, decide_eq_true_eq, Bool.false_eq_true, Bool.true_eq_false, h9', kd_3]
    rw [h87]
    cases hs : decide (tkd t e j = 3 ∧ tnum t e j = 59) with
    | false =>
      rw [hs] at ws
      have hak : amk t e j = 2 := by unfold amk; rw [if_neg hk4]
      have hbl := X_blame (k := 2) (σ := ρ)
      obtain ⟨q1, q2, q3⟩ := XF_bl (k := 2) (p := tp t e j) (fR_rf ρ) hx.2.1
      have g0' := g0 hs
      rw [hak] at g0'
      refine Or.inl ⟨_, _, 2, tp t e j, ?_, g0', by omega, by omega, q1, q2, bdM_12 _ _ _, bdM_13 _ _ _, fPx_B q3, fPm_bd hmf⟩
      simp (disch := omega) only [↓e_X9_takeWater_87, ↓e_X9_takeWater_108, ↓e_X9_takeWater_109, ↓it_s, ↓y_iload, ↓y_lload, ↓y_aload, ↓y_istore, ↓y_lstore, ↓y_astore, ↓y_iinc, ↓y_cI, ↓y_cL, ↓y_bin, ↓y_binL, ↓y_div, ↓y_divL, ↓y_lshl, ↓y_un, ↓y_i2l, ↓y_lneg, ↓y_l2i, ↓y_lcmp, ↓y_dupI, ↓y_dupR, ↓y_dup2, ↓y_pop, ↓y_goto, ↓y_eq0, ↓y_lt0, ↓y_le0, ↓y_eq, ↓y_lt, ↓y_le, ↓y_switch, ↓y_sw0, ↓y_sw1, ↓y_getI, ↓y_getL, ↓y_getR, ↓y_getT, ↓y_putI, ↓y_putZ, ↓y_putL, ↓y_putT, ↓y_iald, ↓y_bald, ↓y_lald, ↓y_aald, ↓y_iast, ↓y_bast, ↓y_last, ↓y_alen, ↓y_iret, ↓y_zret, ↓y_lret, ↓y_vret, ↓y_svI, ↓y_svL, ↓y_svV, ↓y_ivI, ↓y_ivL, ↓y_ivV, ↓y_max, ↓y_min, ↓y_absL, ↓y_cpI, ↓y_cpL, ↓x_n1I, ↓x_n1L, ↓x_n1R, ↓x_n0I, ↓x_n0L, ↓x_n0R, ↓x_s0, ↓x_s1i, ↓x_s1r, ↓x_s1n, ↓x_s2, ↓x_c0, ↓x_c2, ↓x_tk0, ↓x_tk1, ↓x_rcv, x_rI1, x_rL1, x_rV1, x_rIn, x_rLn, x_rVn, x_rIf, x_rLf, x_rVf, x_40, x_41, x_42, x_43, x_44, ↓reduceIte, if_true, if_false, ao_iadd, ao_isub, ao_imul, ao_iand, ao_ior, ao_ishl, ao_ishr, ao_iushr, ao_ladd, ao_lsub, ao_lmul, ao_land, ao_lor, ao_idiv, ao_irem, ao_ldiv, ao_lrem, ao_ineg, ao_i2b, ao_i2s, Nat.reduceAdd, Nat.reduceMul, Nat.reduceSub, Nat.reduceEqDiff, Nat.reduceLeDiff, and_self, true_and, x_lit, x_ofn, x_z0, x_z1, x_inbT, x_ltT, x_ltF, x_leT, x_leF, x_eqF, x_eqT, x_inb, x_lt, x_le, x_eq, x_cl, x_sub, nI_add, pk_mul, x_m1e, x_m1e', x_m1l, x_m1n, x_m1s, Nat.not_lt_zero, x_zb, x_b0, x_b1, decide_eq_false_iff_not, decide_eq_true_eq, Bool.false_eq_true, Bool.true_eq_false, ws, b2_f, hbl, kd_3]
    | true =>
      rw [hs] at ws
      obtain ⟨ρm, v4, v5, v6⟩ := g1 hs
      have hfe := (tq_le (t := t) hje).2
      have hgt4 := tq_gt hje (show tkd t e j ≠ 0 by have := (of_decide_eq_true hs).1; omega)
      refine Or.inr ⟨wa, 99, ρ, ρm, _, hwa, by omega, ?_, v4, by rw [hidx, hidhx]; exact fR_rf _, by rw [hid, hidh, ← em2]; exact v6, v5, hfe, by omega, hx.1⟩
      simp (disch := omega) only [↓e_X9_takeWater_87, ↓e_X9_takeWater_104, ↓e_X9_takeWater_109, ↓it_s, ↓y_iload, ↓y_lload, ↓y_aload, ↓y_istore, ↓y_lstore, ↓y_astore, ↓y_iinc, ↓y_cI, ↓y_cL, ↓y_bin, ↓y_binL, ↓y_div, ↓y_divL, ↓y_lshl, ↓y_un, ↓y_i2l, ↓y_lneg, ↓y_l2i, ↓y_lcmp, ↓y_dupI, ↓y_dupR, ↓y_dup2, ↓y_pop, ↓y_goto, ↓y_eq0, ↓y_lt0, ↓y_le0, ↓y_eq, ↓y_lt, ↓y_le, ↓y_switch, ↓y_sw0, ↓y_sw1, ↓y_getI, ↓y_getL, ↓y_getR, ↓y_getT, ↓y_putI, ↓y_putZ, ↓y_putL, ↓y_putT, ↓y_iald, ↓y_bald, ↓y_lald, ↓y_aald, ↓y_iast, ↓y_bast, ↓y_last, ↓y_alen, ↓y_iret, ↓y_zret, ↓y_lret, ↓y_vret, ↓y_svI, ↓y_svL, ↓y_svV, ↓y_ivI, ↓y_ivL, ↓y_ivV, ↓y_max, ↓y_min, ↓y_absL, ↓y_cpI, ↓y_cpL, ↓x_n1I, ↓x_n1L, ↓x_n1R, ↓x_n0I, ↓x_n0L, ↓x_n0R, ↓x_s0, ↓x_s1i, ↓x_s1r, ↓x_s1n, ↓x_s2, ↓x_c0, ↓x_c2, ↓x_tk0, ↓x_tk1, ↓x_rcv, x_rI1, x_rL1, x_rV1, x_rIn, x_rLn, x_rVn, x_rIf, x_rLf, x_rVf, x_40, x_41, x_42, x_43, x_44, ↓reduceIte, if_true, if_false, ao_iadd, ao_isub, ao_imul, ao_iand, ao_ior, ao_ishl, ao_ishr, ao_iushr, ao_ladd, ao_lsub, ao_lmul, ao_land, ao_lor, ao_idiv, ao_irem, ao_ldiv, ao_lrem, ao_ineg, ao_i2b, ao_i2s, Nat.reduceAdd, Nat.reduceMul, Nat.reduceSub, Nat.reduceEqDiff, Nat.reduceLeDiff, and_self, true_and, x_lit, x_ofn, x_z0, x_z1, x_inbT, x_ltT, x_ltF, x_leT, x_leF, x_eqF, x_eqT, x_inb, x_lt, x_le, x_eq, x_cl, x_sub, nI_add, pk_mul, x_m1e, x_m1e', x_m1l, x_m1n, x_m1s, Nat.not_lt_zero, x_zb, x_b0, x_b1, decide_eq_false_iff_not, decide_eq_true_eq, Bool.false_eq_true, Bool.true_eq_false, ws, b2_t, kd_3]
