/-! the valley's text to its end -/
theorem body_k4 {t : Nat → Nat} {e a : Nat} {σ : am_M} (hae : a ≤ e) (h : TokM t e a σ) (h12 : σ.1 123 12 = nI 0) (h4 : tkd t e a = 4) : bodyM σ = some (none, bdM σ 1 (tp t e a)) := by
  have hno : twi t e a = none := by unfold twi; rw [if_neg (by omega)]
  have ha := M_amiss h h12
  have hak : amk t e a = 1 := by unfold amk; rw [if_pos h4]
  rw [hak] at ha
  have w0 := M_isRanks hae h
  have w3 := M_isLaw hae h
  have w4 := M_isRedeals hae h
  have w1 := M_isSuit hae h
  have w5 := M_isRow hae h
  have w6 := M_isStock hae h
  have w7 := M_isField hae h
  rw [hno, dnone] at w0 w1 w3 w4 w5 w6 w7
  have hr : S_X11_readPart [.ref 123] σ = some (none, bdM σ 1 (tp t e a)) := by
    simp (disch := omega) only [g_X11_readPart, ↓e_X11_readPart_0, ↓e_X11_readPart_19, ↓e_X11_readPart_37, ↓e_X11_readPart_56, ↓e_X11_readPart_70, ↓e_X11_readPart_84, ↓e_X11_readPart_98, ↓e_X11_readPart_112, ↓e_X11_readPart_116, ↓it_s, ↓y_iload, ↓y_lload, ↓y_aload, ↓y_istore, ↓y_lstore, ↓y_astore, ↓y_iinc, ↓y_cI, ↓y_cL, ↓y_bin, ↓y_binL, ↓y_div, ↓y_divL, ↓y_lshl, ↓y_un, ↓y_i2l, ↓y_lneg, ↓y_l2i, ↓y_lcmp, ↓y_dupI, ↓y_dupR, ↓y_dup2, ↓y_pop, ↓y_goto, ↓y_eq0, ↓y_lt0, ↓y_le0, ↓y_eq, ↓y_lt, ↓y_le, ↓y_switch, ↓y_sw0, ↓y_sw1, ↓y_getI, ↓y_getL, ↓y_getR, ↓y_getT, ↓y_putI, ↓y_putZ, ↓y_putL, ↓y_putT, ↓y_iald, ↓y_bald, ↓y_lald, ↓y_aald, ↓y_iast, ↓y_bast, ↓y_last, ↓y_alen, ↓y_iret, ↓y_zret, ↓y_lret, ↓y_vret, ↓y_svI, ↓y_svL, ↓y_svV, ↓y_ivI, ↓y_ivL, ↓y_ivV, ↓y_max, ↓y_min, ↓y_absL, ↓y_cpI, ↓y_cpL, ↓x_n1I, ↓x_n1L, ↓x_n1R, ↓x_n0I, ↓x_n0L, ↓x_n0R, ↓x_s0, ↓x_s1i, ↓x_s1r, ↓x_s1n, ↓x_s2, ↓x_c0, ↓x_c2, ↓x_tk0, ↓x_tk1, ↓x_rcv, x_rI1, x_rL1, x_rV1, x_rIn, x_rLn, x_rVn, x_rIf, x_rLf, x_rVf, x_40, x_41, x_42, x_43, x_44, ↓reduceIte, if_true, if_false, ao_iadd, ao_isub, ao_imul, ao_iand, ao_ior, ao_ishl, ao_ishr, ao_iushr, ao_ladd, ao_lsub, ao_lmul, ao_land, ao_lor, ao_idiv, ao_irem, ao_ldiv, ao_lrem, ao_ineg, ao_i2b, ao_i2s, Nat.reduceAdd, Nat.reduceMul, Nat.reduceSub, Nat.reduceEqDiff, Nat.reduceLeDiff, and_self, true_and, x_lit, x_ofn, x_z0, x_z1, x_inbT, x_ltT, x_ltF, x_leT, x_leF, x_eqF, x_eqT, x_inb, x_lt, x_le, x_eq, x_cl, x_sub, nI_add, pk_mul, x_m1e, x_m1e', x_m1l, x_m1n, x_m1s, Nat.not_lt_zero, x_zb, x_b0, x_b1, decide_eq_false_iff_not, decide_eq_true_eq, Bool.false_eq_true, Bool.true_eq_false, w0, w3, w4, w1, w5, w6, w7, b2_f, ha, kd_123]
  exact body_bad hr (bdM_12 _ _ _) (by omega) (by omega)
def TOut (t : Nat → Nat) (e : Nat) (σx σm : am_M) (C : Nat) (lx lm : am_L) : Prop :=
  (∃ τx τm k p, fin (hd_X9_take) C 31 lx σx (some (some (.int (nI 0)), τx)) ∧ rch (hd_X11_valley) C 73 lm σm 73 lm τm ∧ 0 < k ∧ k < 100 ∧ τx.1 3 10 = nI k ∧ τx.1 3 11 = nI p ∧ τm.1 123 12 = nI k ∧ τm.1 123 13 = nI p ∧ fPx σx τx ∧ fPm σm τm) ∨
  (∃ τx τm V Ns Nf rT lT dT cT X b, fin (hd_X9_take) C 31 lx σx (some (some (.int (nI 1)), τx)) ∧ rch (hd_X11_valley) C 73 lm σm 73 lm τm ∧ PS t e τx τm V Ns Nf rT lT dT cT X b ∧ tkd t e b = 0 ∧ τx.1 3 10 = σx.1 3 10 ∧ τx.1 3 11 = σx.1 3 11 ∧ fPx σx τx ∧ fPm σm τm)
theorem V_loop {t : Nat → Nat} {e : Nat} {x1 x2 : Option Value} : ∀ (m : Nat) {σx σm : am_M} {V : Vt} {Ns Nf : List (List Nat)} {rT lT dT cT : Bool} {X a mn : Nat} {y4 : Option Value}, e + 1 - a ≤ m → PS t e σx σm V Ns Nf rT lT dT cT X a → σx.1 3 3 = nI a → mn ≤ a →
    TOut t e σx σm (m + 1) [some (.ref 6), some (.ref 3), some (.ref 26), some (.int (nI mn)), y4] [some (.ref 123), x1, x2] := by
  intro m
  induction m with
  | zero =>
    intro σx σm V Ns Nf rT lT dT cT X a mn y4 hea h h3 hmn
    have e4 := h.2.2.2.2.1.2.2.2.1
    omega
  | succ m ih =>
    intro σx σm V Ns Nf rT lT dT cT X a mn y4 hea h h3 hmn
    obtain ⟨e1, e2, e3, e4, e5⟩ := h.2.2.2.2.1
    have he9 := e1.2.2.1
    have h14 := e3.2.2.1
    obtain ⟨s1, s0⟩ := X_step e1 e4 h3
    by_cases h4 : tkd t e a = 4
    · obtain ⟨τx, q1, q2, q3, q4⟩ := s0 h4
      have hb := body_k4 e4 e3 e5 h4
      rw [h4] at h14
      refine Or.inl ⟨τx, bdM σm 1 (tp t e a), 1, tp t e a, fin_mono (fin_0 fun B => ?_) (Nat.zero_le _), rch_mono (rch_1 fun B => ?_) (by omega), by omega, by omega, q2, q3, bdM_12 _ _ _, bdM_13 _ _ _, fPx_B q4, fPm_bd (fPm_rf _)⟩
      · simp (disch := omega) only [↓e_X9_take_31, ↓h_X9_take_31, ↓it_s, ↓y_iload, ↓y_lload, ↓y_aload, ↓y_istore, ↓y_lstore, ↓y_astore, ↓y_iinc, ↓y_cI, ↓y_cL, ↓y_bin, ↓y_binL, ↓y_div, ↓y_divL, ↓y_lshl, ↓y_un, ↓y_i2l, ↓y_lneg, ↓y_l2i, ↓y_lcmp, ↓y_dupI, ↓y_dupR, ↓y_dup2, ↓y_pop, ↓y_goto, ↓y_eq0, ↓y_lt0, ↓y_le0, ↓y_eq, ↓y_lt, ↓y_le, ↓y_switch, ↓y_sw0, ↓y_sw1, ↓y_getI, ↓y_getL, ↓y_getR, ↓y_getT, ↓y_putI, ↓y_putZ, ↓y_putL, ↓y_putT, ↓y_iald, ↓y_bald, ↓y_lald, ↓y_aald, ↓y_iast, ↓y_bast, ↓y_last, ↓y_alen, ↓y_iret, ↓y_zret, ↓y_lret, ↓y_vret, ↓y_svI, ↓y_svL, ↓y_svV, ↓y_ivI, ↓y_ivL, ↓y_ivV, ↓y_max, ↓y_min, ↓y_absL, ↓y_cpI, ↓y_cpL, ↓x_n1I, ↓x_n1L, ↓x_n1R, ↓x_n0I, ↓x_n0L, ↓x_n0R, ↓x_s0, ↓x_s1i, ↓x_s1r, ↓x_s1n, ↓x_s2, ↓x_c0, ↓x_c2, ↓x_tk0, ↓x_tk1, ↓x_rcv, x_rI1, x_rL1, x_rV1, x_rIn, x_rLn, x_rVn, x_rIf, x_rLf, x_rVf, x_40, x_41, x_42, x_43, x_44, ↓reduceIte, if_true, if_false, ao_iadd, ao_isub, ao_imul, ao_iand, ao_ior, ao_ishl, ao_ishr, ao_iushr, ao_ladd, ao_lsub, ao_lmul, ao_land, ao_lor, ao_idiv, ao_irem, ao_ldiv, ao_lrem, ao_ineg, ao_i2b, ao_i2s, Nat.reduceAdd, Nat.reduceMul, Nat.reduceSub, Nat.reduceEqDiff, Nat.reduceLeDiff, and_self, true_and, x_lit, x_ofn, x_z0, x_z1, x_inbT, x_ltT, x_ltF, x_leT, x_leF, x_eqF, x_eqT, x_inb, x_lt, x_le, x_eq, x_cl, x_sub, nI_add, pk_mul, x_m1e, x_m1e', x_m1l, x_m1n, x_m1s, Nat.not_lt_zero, x_zb, x_b0, x_b1, decide_eq_false_iff_not, decide_eq_true_eq, Bool.false_eq_true, Bool.true_eq_false, q1, kd_3]
      · exact V_body hb e5 h14 (by omega) (by omega) B
    obtain ⟨ρ1, q1, q2, q3⟩ := s1 h4
    have hP1 := PS_tok h q3 (fT_rf _) e3 e4
    have we := X_isEnd q2
    by_cases h0 : tkd t e a = 0
    · rw [decide_eq_true h0] at we
      refine Or.inr ⟨ρ1, σm, V, Ns, Nf, rT, lT, dT, cT, X, a, fin_mono (fin_0 fun B => ?_) (Nat.zero_le _), rch_rf _ _ _ _, hP1, h0, q3.2 10 (by omega), q3.2 11 (by omega), fPx_R q3, fPm_rf _⟩
      simp (disch := omega) only [↓e_X9_take_31, ↓e_X9_take_47, ↓h_X9_take_31, ↓it_s, ↓y_iload, ↓y_lload, ↓y_aload, ↓y_istore, ↓y_lstore, ↓y_astore, ↓y_iinc, ↓y_cI, ↓y_cL, ↓y_bin, ↓y_binL, ↓y_div, ↓y_divL, ↓y_lshl, ↓y_un, ↓y_i2l, ↓y_lneg, ↓y_l2i, ↓y_lcmp, ↓y_dupI, ↓y_dupR, ↓y_dup2, ↓y_pop, ↓y_goto, ↓y_eq0, ↓y_lt0, ↓y_le0, ↓y_eq, ↓y_lt, ↓y_le, ↓y_switch, ↓y_sw0, ↓y_sw1, ↓y_getI, ↓y_getL, ↓y_getR, ↓y_getT, ↓y_putI, ↓y_putZ, ↓y_putL, ↓y_putT, ↓y_iald, ↓y_bald, ↓y_lald, ↓y_aald, ↓y_iast, ↓y_bast, ↓y_last, ↓y_alen, ↓y_iret, ↓y_zret, ↓y_lret, ↓y_vret, ↓y_svI, ↓y_svL, ↓y_svV, ↓y_ivI, ↓y_ivL, ↓y_ivV, ↓y_max, ↓y_min, ↓y_absL, ↓y_cpI, ↓y_cpL, ↓x_n1I, ↓x_n1L, ↓x_n1R, ↓x_n0I, ↓x_n0L, ↓x_n0R, ↓x_s0, ↓x_s1i, ↓x_s1r, ↓x_s1n, ↓x_s2, ↓x_c0, ↓x_c2, ↓x_tk0, ↓x_tk1, ↓x_rcv, x_rI1, x_rL1, x_rV1, x_rIn, x_rLn, x_rVn, x_rIf, x_rLf, x_rVf, x_40, x_41, x_42, x_43, x_44, ↓reduceIte, if_true, if_false, ao_iadd, ao_isub, ao_imul, ao_iand, ao_ior, ao_ishl, ao_ishr, ao_iushr, ao_ladd, ao_lsub, ao_lmul, ao_land, ao_lor, ao_idiv, ao_irem, ao_ldiv, ao_lrem, ao_ineg, ao_i2b, ao_i2s, Nat.reduceAdd, Nat.reduceMul, Nat.reduceSub, Nat.reduceEqDiff, Nat.reduceLeDiff, and_self, true_and, x_lit, x_ofn, x_z0, x_z1, x_inbT, x_ltT, x_ltF, x_leT, x_leF, x_eqF, x_eqT, x_inb, x_lt, x_le, x_eq, x_cl, x_sub, nI_add, pk_mul, x_m1e, x_m1e', x_m1l, x_m1n, x_m1s, Nat.not_lt_zero, x_zb, x_b0, x_b1, decide_eq_false_iff_not, decide_eq_true_eq, Bool.false_eq_true, Bool.true_eq_false, q1, we, b2_t, kd_3]
    rw [decide_eq_false h0] at we
    have hk4 := tkd_le t e a
    have hx56 : ∀ B, hd_X9_take B 31 [some (.ref 6), some (.ref 3), some (.ref 26), some (.int (nI mn)), y4] [] σx = dn_X9_take_56 B [some (.ref 6), some (.ref 3), some (.ref 26), some (.int (nI mn)), y4] [] ρ1 := fun B => by
      simp (disch := omega) only [↓e_X9_take_31, ↓e_X9_take_47, ↓h_X9_take_31, ↓it_s, ↓y_iload, ↓y_lload, ↓y_aload, ↓y_istore, ↓y_lstore, ↓y_astore, ↓y_iinc, ↓y_cI, ↓y_cL, ↓y_bin, ↓y_binL, ↓y_div, ↓y_divL, ↓y_lshl, ↓y_un, ↓y_i2l, ↓y_lneg, ↓y_l2i, ↓y_lcmp, ↓y_dupI, ↓y_dupR, ↓y_dup2, ↓y_pop, ↓y_goto, ↓y_eq0, ↓y_lt0, ↓y_le0, ↓y_eq, ↓y_lt, ↓y_le, ↓y_switch, ↓y_sw0, ↓y_sw1, ↓y_getI, ↓y_getL, ↓y_getR, ↓y_getT, ↓y_putI, ↓y_putZ, ↓y_putL, ↓y_putT, ↓y_iald, ↓y_bald, ↓y_lald, ↓y_aald, ↓y_iast, ↓y_bast, ↓y_last, ↓y_alen, ↓y_iret, ↓y_zret, ↓y_lret, ↓y_vret, ↓y_svI, ↓y_svL, ↓y_svV, ↓y_ivI, ↓y_ivL, ↓y_ivV, ↓y_max, ↓y_min, ↓y_absL, ↓y_cpI, ↓y_cpL, ↓x_n1I, ↓x_n1L, ↓x_n1R, ↓x_n0I, ↓x_n0L, ↓x_n0R, ↓x_s0, ↓x_s1i, ↓x_s1r, ↓x_s1n, ↓x_s2, ↓x_c0, ↓x_c2, ↓x_tk0, ↓x_tk1, ↓x_rcv, x_rI1, x_rL1, x_rV1, x_rIn, x_rLn, x_rVn, x_rIf, x_rLf, x_rVf, x_40, x_41, x_42, x_43, x_44, ↓reduceIte, if_true, if_false, ao_iadd, ao_isub, ao_imul, ao_iand, ao_ior, ao_ishl, ao_ishr, ao_iushr, ao_ladd, ao_lsub, ao_lmul, ao_land, ao_lor, ao_idiv, ao_irem, ao_ldiv, ao_lrem, ao_ineg, ao_i2b, ao_i2s, Nat.reduceAdd, Nat.reduceMul, Nat.reduceSub, Nat.reduceEqDiff, Nat.reduceLeDiff, and_self, true_and, x_lit, x_ofn, x_z0, x_z1, x_inbT, x_ltT, x_ltF, x_leT, x_leF, x_eqF, x_eqT, x_inb, x_lt, x_le, x_eq, x_cl, x_sub, nI_add, pk_mul, x_m1e, x_m1e', x_m1l, x_m1n, x_m1s, Nat.not_lt_zero, x_zb, x_b0, x_b1, decide_eq_false_iff_not, decide_eq_true_eq, Bool.false_eq_true, Bool.true_eq_false, q1, we, b2_f, kd_3]
    obtain ⟨rx, hO, hr0, hr1⟩ := V_part (mn := mn) (y4 := y4) (by omega) hP1 q2 h4
    rcases hO with ⟨τx, τm, k, p, g1, g2, g3, g4, g5, g6, g7, g8, g9, g10⟩ | ⟨τx, τm, V', Ns', Nf', rT', lT', dT', cT', X', b, g1, g2, g3, g4, g5, g6, g7, g8, g9⟩
    · exact Or.inl ⟨τx, τm, k, p, fin_mono (fin_0 fun B => (hx56 B).trans (hr0 τx g1 B)) (Nat.zero_le _), rch_mono (rch_1 fun B => V_body g2 e5 h14 (by omega) (by omega) B) (by omega), g3, g4, g5, g6, g7, g8, fPx_tr (fPx_R q3) g9, g10⟩
    · have hbe := g3.2.2.2.2.1.2.2.2.1
      have hI := ih (σx := τx) (σm := τm) (mn := mn + 1) (y4 := some (.int (nI 1))) (by omega) g3 g4 (by omega)
      have r1 : rch (hd_X9_take) 1 31 [some (.ref 6), some (.ref 3), some (.ref 26), some (.int (nI mn)), y4] σx 31 [some (.ref 6), some (.ref 3), some (.ref 26), some (.int (nI (mn + 1))), some (.int (nI 1))] τx := rch_1 fun B => (hx56 B).trans (hr1 τx g1 B)
      have r2 : rch (hd_X11_valley) 1 73 [some (.ref 123), x1, x2] σm 73 [some (.ref 123), x1, x2] τm := rch_1 fun B => V_body g2 e5 h14 (by omega) (by omega) B
      rcases hI with ⟨τx', τm', k, p, j1, j2, j3, j4, j5, j6, j7, j8, j9, j10⟩ | ⟨τx', τm', V'', Ns'', Nf'', rT'', lT'', dT'', cT'', X'', b', j1, j2, j3, j4, j5, j6, j7, j8⟩
      · exact Or.inl ⟨τx', τm', k, p, fin_mono (rch_fin r1 j1) (by omega), rch_mono (rch_tr r2 j2) (by omega), j3, j4, j5, j6, j7, j8, fPx_tr (fPx_tr (fPx_R q3) g8) j9, fPm_tr g9 j10⟩
      · exact Or.inr ⟨τx', τm', V'', Ns'', Nf'', rT'', lT'', dT'', cT'', X'', b', fin_mono (rch_fin r1 j1) (by omega), rch_mono (rch_tr r2 j2) (by omega), j3, j4, by rw [j5, g6, q3.2 10 (by omega)], by rw [j6, g7, q3.2 11 (by omega)], fPx_tr (fPx_tr (fPx_R q3) g8) j7, fPm_tr g9 j8⟩
