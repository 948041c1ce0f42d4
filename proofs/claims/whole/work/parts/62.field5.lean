/-! a field is told, whole -/
theorem va_ov {α : Type} (f : Nat → α) (k : Nat) (x y : α) : va_up (va_up f k x) k y = va_up f k y := by
  funext j
  by_cases e1 : j = k
  · subst e1; rw [up_s, up_s]
  · rw [up_n e1, up_n e1, up_n e1]
theorem M_readTold {t : Nat → Nat} {e a b : Nat} {σ : am_M} {Ns : List (List Nat)} (s : Nat) (hT : TM σ t e) (hae : a ≤ e) (h : TokM t e a σ) (h12 : σ.1 123 12 = nI 0) (hb : b ≤ 4) (hs : s ≤ 1) (hn : σ.1 128 (442 * b + (if s = 0 then 1 else 5)) = nI Ns.length) (h4 : Ns.length ≤ (if s = 0 then 4 else 6)) (hN : NmM σ (10 * b + 4 * s) Ns) (hok : okN Ns) :
    (isNm t e a = false → S_X11_readTold [.ref 123, .int (nI b), .int (nI s)] σ = some (some (.int (nI 0)), bdM σ (amk t e a) (tp t e a))) ∧
    (isNm t e a = true → nmI Ns (twd t e a) = none → S_X11_readTold [.ref 123, .int (nI b), .int (nI s)] σ = some (some (.int (nI 0)), bdM σ 3 (tp t e a))) ∧
    (isNm t e a = true → ∀ i, nmI Ns (twd t e a) = some i → ∃ τ, S_X11_readTold [.ref 123, .int (nI b), .int (nI s)] σ = some (some (.int (nI i)), τ) ∧ TokM t e (tq t e a) τ ∧ fT σ τ) := by
  obtain ⟨o1, o2, o3⟩ := M_told s hT hae h h12 hb hs hn h4 hN hok
  refine ⟨fun z => ?_, fun z o => ?_, fun z i o => ?_⟩
  · have h1 := o1 z
    have h2 := M_mustB (x := nI 1) (bdM_12 σ (amk t e a) (tp t e a)) (amk_12 t e a).1 (amk_12 t e a).2
    simp (disch := omega) only [g_X11_readTold, ↓e_X11_readTold_0, ↓it_s, ↓y_iload, ↓y_lload, ↓y_aload, ↓y_istore, ↓y_lstore, ↓y_astore, ↓y_iinc, ↓y_cI, ↓y_cL, ↓y_bin, ↓y_binL, ↓y_div, ↓y_divL, ↓y_lshl, ↓y_un, ↓y_i2l, ↓y_lneg, ↓y_l2i, ↓y_lcmp, ↓y_dupI, ↓y_dupR, ↓y_dup2, ↓y_pop, ↓y_goto, ↓y_eq0, ↓y_lt0, ↓y_le0, ↓y_eq, ↓y_lt, ↓y_le, ↓y_switch, ↓y_sw0, ↓y_sw1, ↓y_getI, ↓y_getL, ↓y_getR, ↓y_getT, ↓y_putI, ↓y_putZ, ↓y_putL, ↓y_putT, ↓y_iald, ↓y_bald, ↓y_lald, ↓y_aald, ↓y_iast, ↓y_bast, ↓y_last, ↓y_alen, ↓y_iret, ↓y_zret, ↓y_lret, ↓y_vret, ↓y_svI, ↓y_svL, ↓y_svV, ↓y_ivI, ↓y_ivL, ↓y_ivV, ↓y_max, ↓y_min, ↓y_absL, ↓y_cpI, ↓y_cpL, ↓x_n1I, ↓x_n1L, ↓x_n1R, ↓x_n0I, ↓x_n0L, ↓x_n0R, ↓x_s0, ↓x_s1i, ↓x_s1r, ↓x_s1n, ↓x_s2, ↓x_c0, ↓x_c2, ↓x_tk0, ↓x_tk1, ↓x_rcv, x_rI1, x_rL1, x_rV1, x_rIn, x_rLn, x_rVn, x_rIf, x_rLf, x_rVf, x_40, x_41, x_42, x_43, x_44, ↓reduceIte, if_true, if_false, ao_iadd, ao_isub, ao_imul, ao_iand, ao_ior, ao_ishl, ao_ishr, ao_iushr, ao_ladd, ao_lsub, ao_lmul, ao_land, ao_lor, ao_idiv, ao_irem, ao_ldiv, ao_lrem, ao_ineg, ao_i2b, ao_i2s, Nat.reduceAdd, Nat.reduceMul, Nat.reduceSub, Nat.reduceEqDiff, Nat.reduceLeDiff, and_self, true_and, x_lit, x_ofn, x_z0, x_z1, x_inbT, x_ltT, x_ltF, x_leT, x_leF, x_eqF, x_eqT, x_inb, x_lt, x_le, x_eq, x_cl, x_sub, nI_add, pk_mul, x_m1e, x_m1e', x_m1l, x_m1n, x_m1s, Nat.not_lt_zero, x_zb, x_b0, x_b1, decide_eq_false_iff_not, decide_eq_true_eq, Bool.false_eq_true, Bool.true_eq_false, h1, h2, kd_123]
  · have h1 := o2 z o
    have h2 := M_mustB (x := nI 1) (bdM_12 σ 3 (tp t e a)) (by omega) (by omega)
    simp (disch := omega) only [g_X11_readTold, ↓e_X11_readTold_0, ↓it_s, ↓y_iload, ↓y_lload, ↓y_aload, ↓y_istore, ↓y_lstore, ↓y_astore, ↓y_iinc, ↓y_cI, ↓y_cL, ↓y_bin, ↓y_binL, ↓y_div, ↓y_divL, ↓y_lshl, ↓y_un, ↓y_i2l, ↓y_lneg, ↓y_l2i, ↓y_lcmp, ↓y_dupI, ↓y_dupR, ↓y_dup2, ↓y_pop, ↓y_goto, ↓y_eq0, ↓y_lt0, ↓y_le0, ↓y_eq, ↓y_lt, ↓y_le, ↓y_switch, ↓y_sw0, ↓y_sw1, ↓y_getI, ↓y_getL, ↓y_getR, ↓y_getT, ↓y_putI, ↓y_putZ, ↓y_putL, ↓y_putT, ↓y_iald, ↓y_bald, ↓y_lald, ↓y_aald, ↓y_iast, ↓y_bast, ↓y_last, ↓y_alen, ↓y_iret, ↓y_zret, ↓y_lret, ↓y_vret, ↓y_svI, ↓y_svL, ↓y_svV, ↓y_ivI, ↓y_ivL, ↓y_ivV, ↓y_max, ↓y_min, ↓y_absL, ↓y_cpI, ↓y_cpL, ↓x_n1I, ↓x_n1L, ↓x_n1R, ↓x_n0I, ↓x_n0L, ↓x_n0R, ↓x_s0, ↓x_s1i, ↓x_s1r, ↓x_s1n, ↓x_s2, ↓x_c0, ↓x_c2, ↓x_tk0, ↓x_tk1, ↓x_rcv, x_rI1, x_rL1, x_rV1, x_rIn, x_rLn, x_rVn, x_rIf, x_rLf, x_rVf, x_40, x_41, x_42, x_43, x_44, ↓reduceIte, if_true, if_false, ao_iadd, ao_isub, ao_imul, ao_iand, ao_ior, ao_ishl, ao_ishr, ao_iushr, ao_ladd, ao_lsub, ao_lmul, ao_land, ao_lor, ao_idiv, ao_irem, ao_ldiv, ao_lrem, ao_ineg, ao_i2b, ao_i2s, Nat.reduceAdd, Nat.reduceMul, Nat.reduceSub, Nat.reduceEqDiff, Nat.reduceLeDiff, and_self, true_and, x_lit, x_ofn, x_z0, x_z1, x_inbT, x_ltT, x_ltF, x_leT, x_leF, x_eqF, x_eqT, x_inb, x_lt, x_le, x_eq, x_cl, x_sub, nI_add, pk_mul, x_m1e, x_m1e', x_m1l, x_m1n, x_m1s, Nat.not_lt_zero, x_zb, x_b0, x_b1, decide_eq_false_iff_not, decide_eq_true_eq, Bool.false_eq_true, Bool.true_eq_false, h1, h2, kd_123]
  · have h1 := o3 z i o
    obtain ⟨τ, a1, a2, a3⟩ := M_mustT hT hae h h12
    refine ⟨τ, ?_, a2, a3⟩
    simp (disch := omega) only [g_X11_readTold, ↓e_X11_readTold_0, ↓it_s, ↓y_iload, ↓y_lload, ↓y_aload, ↓y_istore, ↓y_lstore, ↓y_astore, ↓y_iinc, ↓y_cI, ↓y_cL, ↓y_bin, ↓y_binL, ↓y_div, ↓y_divL, ↓y_lshl, ↓y_un, ↓y_i2l, ↓y_lneg, ↓y_l2i, ↓y_lcmp, ↓y_dupI, ↓y_dupR, ↓y_dup2, ↓y_pop, ↓y_goto, ↓y_eq0, ↓y_lt0, ↓y_le0, ↓y_eq, ↓y_lt, ↓y_le, ↓y_switch, ↓y_sw0, ↓y_sw1, ↓y_getI, ↓y_getL, ↓y_getR, ↓y_getT, ↓y_putI, ↓y_putZ, ↓y_putL, ↓y_putT, ↓y_iald, ↓y_bald, ↓y_lald, ↓y_aald, ↓y_iast, ↓y_bast, ↓y_last, ↓y_alen, ↓y_iret, ↓y_zret, ↓y_lret, ↓y_vret, ↓y_svI, ↓y_svL, ↓y_svV, ↓y_ivI, ↓y_ivL, ↓y_ivV, ↓y_max, ↓y_min, ↓y_absL, ↓y_cpI, ↓y_cpL, ↓x_n1I, ↓x_n1L, ↓x_n1R, ↓x_n0I, ↓x_n0L, ↓x_n0R, ↓x_s0, ↓x_s1i, ↓x_s1r, ↓x_s1n, ↓x_s2, ↓x_c0, ↓x_c2, ↓x_tk0, ↓x_tk1, ↓x_rcv, x_rI1, x_rL1, x_rV1, x_rIn, x_rLn, x_rVn, x_rIf, x_rLf, x_rVf, x_40, x_41, x_42, x_43, x_44, ↓reduceIte, if_true, if_false, ao_iadd, ao_isub, ao_imul, ao_iand, ao_ior, ao_ishl, ao_ishr, ao_iushr, ao_ladd, ao_lsub, ao_lmul, ao_land, ao_lor, ao_idiv, ao_irem, ao_ldiv, ao_lrem, ao_ineg, ao_i2b, ao_i2s, Nat.reduceAdd, Nat.reduceMul, Nat.reduceSub, Nat.reduceEqDiff, Nat.reduceLeDiff, and_self, true_and, x_lit, x_ofn, x_z0, x_z1, x_inbT, x_ltT, x_ltF, x_leT, x_leF, x_eqF, x_eqT, x_inb, x_lt, x_le, x_eq, x_cl, x_sub, nI_add, pk_mul, x_m1e, x_m1e', x_m1l, x_m1n, x_m1s, Nat.not_lt_zero, x_zb, x_b0, x_b1, decide_eq_false_iff_not, decide_eq_true_eq, Bool.false_eq_true, Bool.true_eq_false, h1, a1, kd_123]
theorem TM_bd {t : Nat → Nat} {e k p : Nat} {σ : am_M} (h : TM σ t e) : TM (bdM σ k p) t e := TM_uI (TM_uI h (by omega)) (by omega)
theorem F_bad {t : Nat → Nat} {e a k p : Nat} {σx σm ρ τx τm τ2 : am_M} {rx : Option am_R} (h1 : rx = some (some (.int (nI 0)), τx)) (hk : 0 < k ∧ k < 100) (hx : XF ρ τx k p) (hr : fR σx ρ) (hm : fPm σm τm) (h12 : τm.1 123 12 = nI k) (h13 : τm.1 123 13 = nI p) (hp : S_X11_readPart [.ref 123] σm = some (none, τ2)) (h2 : τ2.1 123 = τm.1 123) (h3 : fPm τm τ2) : POut t e σx σm rx (bodyM σm) a := by
  have g12 : τ2.1 123 12 = nI k := by rw [h2]; exact h12
  exact Or.inl ⟨τx, τ2, k, p, h1, body_bad hp g12 hk.1 hk.2, hk.1, hk.2, hx.1, hx.2.1, g12, by rw [h2]; exact h13, fPx_tr (fPx_R hr) (fPx_B hx.2.2), fPm_tr hm h3⟩
theorem P_field {t : Nat → Nat} {e : Nat} {σx σm : am_M} {V : Vt} {Ns Nf : List (List Nat)} {rT lT dT cT : Bool} {X a : Nat} (h : PS t e σx σm V Ns Nf rT lT dT cT X a) (hx : TokX t e a σx) (hw : twi t e a = some 7) : POut t e σx σm (S_X9_takeField [.ref 6, .ref 3, .ref 26] σx) (bodyM σm) a := by
  have hP := h
  obtain ⟨⟨a1, a2, a3⟩, ⟨b1, b2', b3, b4, b5, b6, b7, b8⟩, ⟨c1, c2, c3, c4, c5, c6, c7, c8⟩, d, ⟨e1, e2, e3, e4, e5⟩, ⟨f1, f2, f3, f4⟩⟩ := h
  have h5 := hx.2.1
  have hk1 := tw_kd hw
  have hbe := (tq_le (t := t) e4).2
  have hgt := tq_gt e4 (show tkd t e a ≠ 0 by omega)
  have l1 : Ns.length ≤ 4 := by rw [b1]; exact a2.1.2.1
  have l5 : Nf.length ≤ 6 := by rw [b2']; exact a2.1.2.2.2.2.2.1
  have x7 : σx.1 27 7 = nI Ns.length := by rw [b1]; exact a1.1.2.1
  have x4 : σx.1 26 4 = nI Nf.length := by rw [b2']; exact a1.2.2.1
  have m1 : σm.1 128 1769 = nI Ns.length := by rw [b1]; exact a3.1 1 (by omega)
  have m5 : σm.1 128 1773 = nI Nf.length := by rw [b2']; exact a3.1 5 (by omega)
  obtain ⟨o1, o2, o3, o4⟩ := M_readNew (s := 1) (k := Nf.length) e2 e4 e3 e5 (by omega) m1 m5 l1 l5 b3 b4 b7 b8 (by rw [if_neg (by omega)])
  rw [if_neg (by omega)] at o1 o2 o3 o4
  obtain ⟨w1', w2', w3'⟩ := X_wantNewName (b := tq t e a) e1 hbe hx.1 x7 x4 l1 l5 b3 b4 b5 b6
  have hRP0 : ∀ (j : Nat) (μ τ : am_M), S_X11_readNew [.ref 123, .int (nI 1), .int (nI 6)] σm = some (some (.int (nI j)), μ) → rf_1 [some (.ref 123), some (.int (nI j)), none] [] μ = some (none, τ) → S_X11_readPart [.ref 123] σm = some (none, τ) := fun j μ τ y1 y2 => M_part7 e4 e3 hw (by
    rw [rf_0]
    simp (disch := omega) only [↓it_s, ↓y_iload, ↓y_lload, ↓y_aload, ↓y_istore, ↓y_lstore, ↓y_astore, ↓y_iinc, ↓y_cI, ↓y_cL, ↓y_bin, ↓y_binL, ↓y_div, ↓y_divL, ↓y_lshl, ↓y_un, ↓y_i2l, ↓y_lneg, ↓y_l2i, ↓y_lcmp, ↓y_dupI, ↓y_dupR, ↓y_dup2, ↓y_pop, ↓y_goto, ↓y_eq0, ↓y_lt0, ↓y_le0, ↓y_eq, ↓y_lt, ↓y_le, ↓y_switch, ↓y_sw0, ↓y_sw1, ↓y_getI, ↓y_getL, ↓y_getR, ↓y_getT, ↓y_putI, ↓y_putZ, ↓y_putL, ↓y_putT, ↓y_iald, ↓y_bald, ↓y_lald, ↓y_aald, ↓y_iast, ↓y_bast, ↓y_last, ↓y_alen, ↓y_iret, ↓y_zret, ↓y_lret, ↓y_vret, ↓y_svI, ↓y_svL, ↓y_svV, ↓y_ivI, ↓y_ivL, ↓y_ivV, ↓y_max, ↓y_min, ↓y_absL, ↓y_cpI, ↓y_cpL, ↓x_n1I, ↓x_n1L, ↓x_n1R, ↓x_n0I, ↓x_n0L, ↓x_n0R, ↓x_s0, ↓x_s1i, ↓x_s1r, ↓x_s1n, ↓x_s2, ↓x_c0, ↓x_c2, ↓x_tk0, ↓x_tk1, ↓x_rcv, x_rI1, x_rL1, x_rV1, x_rIn, x_rLn, x_rVn, x_rIf, x_rLf, x_rVf, x_40, x_41, x_42, x_43, x_44, ↓reduceIte, if_true, if_false, ao_iadd, ao_isub, ao_imul, ao_iand, ao_ior, ao_ishl, ao_ishr, ao_iushr, ao_ladd, ao_lsub, ao_lmul, ao_land, ao_lor, ao_idiv, ao_irem, ao_ldiv, ao_lrem, ao_ineg, ao_i2b, ao_i2s, Nat.reduceAdd, Nat.reduceMul, Nat.reduceSub, Nat.reduceEqDiff, Nat.reduceLeDiff, and_self, true_and, x_lit, x_ofn, x_z0, x_z1, x_inbT, x_ltT, x_ltF, x_leT, x_leF, x_eqF, x_eqT, x_inb, x_lt, x_le, x_eq, x_cl, x_sub, nI_add, pk_mul, x_m1e, x_m1e', x_m1l, x_m1n, x_m1s, Nat.not_lt_zero, x_zb, x_b0, x_b1, decide_eq_false_iff_not, decide_eq_true_eq, Bool.false_eq_true, Bool.true_eq_false, y1, y2, kd_123])
  by_cases hn : Nf.length = 6
  · obtain ⟨τ2, r1, r2, r3⟩ := rb1 (k := 0) (d2 := none) e4 (TokM_bd (k := 6) (p := tp t e a) e3) (bdM_12 σm 6 (tp t e a)) (by omega) (by omega) (by omega)
    have hbl := X_blame (k := 6) (σ := σx)
    rw [hn] at x4
    refine F_bad (k := 6) (p := tp t e a) (ρ := σx) ?_ (by omega) (XF_bl (fR_rf _) h5) (fR_rf _) (fPm_bd (fPm_rf _)) (bdM_12 _ _ _) (bdM_13 _ _ _) (hRP0 0 _ _ (o1 hn) r1) r2 r3
    simp (disch := omega) only [g_X9_takeField, ↓e_X9_takeField_0, ↓it_s, ↓y_iload, ↓y_lload, ↓y_aload, ↓y_istore, ↓y_lstore, ↓y_astore, ↓y_iinc, ↓y_cI, ↓y_cL, ↓y_bin, ↓y_binL, ↓y_div, ↓y_divL, ↓y_lshl, ↓y_un, ↓y_i2l, ↓y_lneg, ↓y_l2i, ↓y_lcmp, ↓y_dupI, ↓y_dupR, ↓y_dup2, ↓y_pop, ↓y_goto, ↓y_eq0, ↓y_lt0, ↓y_le0, ↓y_eq, ↓y_lt, ↓y_le, ↓y_switch, ↓y_sw0, ↓y_sw1, ↓y_getI, ↓y_getL, ↓y_getR, ↓y_getT, ↓y_putI, ↓y_putZ, ↓y_putL, ↓y_putT, ↓y_iald, ↓y_bald, ↓y_lald, ↓y_aald, ↓y_iast, ↓y_bast, ↓y_last, ↓y_alen, ↓y_iret, ↓y_zret, ↓y_lret, ↓y_vret, ↓y_svI, ↓y_svL, ↓y_svV, ↓y_ivI, ↓y_ivL, ↓y_ivV, ↓y_max, ↓y_min, ↓y_absL, ↓y_cpI, ↓y_cpL, ↓x_n1I, ↓x_n1L, ↓x_n1R, ↓x_n0I, ↓x_n0L, ↓x_n0R, ↓x_s0, ↓x_s1i, ↓x_s1r, ↓x_s1n, ↓x_s2, ↓x_c0, ↓x_c2, ↓x_tk0, ↓x_tk1, ↓x_rcv, x_rI1, x_rL1, x_rV1, x_rIn, x_rLn, x_rVn, x_rIf, x_rLf, x_rVf, x_40, x_41, x_42, x_43, x_44, ↓reduceIte, if_true, if_false, ao_iadd, ao_isub, ao_imul, ao_iand, ao_ior, ao_ishl, ao_ishr, ao_iushr, ao_ladd, ao_lsub, ao_lmul, ao_land, ao_lor, ao_idiv, ao_irem, ao_ldiv, ao_lrem, ao_ineg, ao_i2b, ao_i2s, Nat.reduceAdd, Nat.reduceMul, Nat.reduceSub, Nat.reduceEqDiff, Nat.reduceLeDiff, and_self, true_and, x_lit, x_ofn, x_z0, x_z1, x_inbT, x_ltT, x_ltF, x_leT, x_leF, x_eqF, x_eqT, x_inb, x_lt, x_le, x_eq, x_cl, x_sub, nI_add, pk_mul, x_m1e, x_m1e', x_m1l, x_m1n, x_m1s, Nat.not_lt_zero, x_zb, x_b0, x_b1, decide_eq_false_iff_not, decide_eq_true_eq, Bool.false_eq_true, Bool.true_eq_false, x4, hbl, kd_3, kd_6, kd_26, kd_27]
  have hn6 : Nf.length < 6 := by omega
  have hent : S_X9_takeField [.ref 6, .ref 3, .ref 26] σx = dn_X9_takeField_16 [some (.ref 6), some (.ref 3), some (.ref 26), none, none, none, none] [] σx := by
    simp (disch := omega) only [g_X9_takeField, ↓e_X9_takeField_0, ↓it_s, ↓y_iload, ↓y_lload, ↓y_aload, ↓y_istore, ↓y_lstore, ↓y_astore, ↓y_iinc, ↓y_cI, ↓y_cL, ↓y_bin, ↓y_binL, ↓y_div, ↓y_divL, ↓y_lshl, ↓y_un, ↓y_i2l, ↓y_lneg, ↓y_l2i, ↓y_lcmp, ↓y_dupI, ↓y_dupR, ↓y_dup2, ↓y_pop, ↓y_goto, ↓y_eq0, ↓y_lt0, ↓y_le0, ↓y_eq, ↓y_lt, ↓y_le, ↓y_switch, ↓y_sw0, ↓y_sw1, ↓y_getI, ↓y_getL, ↓y_getR, ↓y_getT, ↓y_putI, ↓y_putZ, ↓y_putL, ↓y_putT, ↓y_iald, ↓y_bald, ↓y_lald, ↓y_aald, ↓y_iast, ↓y_bast, ↓y_last, ↓y_alen, ↓y_iret, ↓y_zret, ↓y_lret, ↓y_vret, ↓y_svI, ↓y_svL, ↓y_svV, ↓y_ivI, ↓y_ivL, ↓y_ivV, ↓y_max, ↓y_min, ↓y_absL, ↓y_cpI, ↓y_cpL, ↓x_n1I, ↓x_n1L, ↓x_n1R, ↓x_n0I, ↓x_n0L, ↓x_n0R, ↓x_s0, ↓x_s1i, ↓x_s1r, ↓x_s1n, ↓x_s2, ↓x_c0, ↓x_c2, ↓x_tk0, ↓x_tk1, ↓x_rcv, x_rI1, x_rL1, x_rV1, x_rIn, x_rLn, x_rVn, x_rIf, x_rLf, x_rVf, x_40, x_41, x_42, x_43, x_44, ↓reduceIte, if_true, if_false, ao_iadd, ao_isub, ao_imul, ao_iand, ao_ior, ao_ishl, ao_ishr, ao_iushr, ao_ladd, ao_lsub, ao_lmul, ao_land, ao_lor, ao_idiv, ao_irem, ao_ldiv, ao_lrem, ao_ineg, ao_i2b, ao_i2s, Nat.reduceAdd, Nat.reduceMul, Nat.reduceSub, Nat.reduceEqDiff, Nat.reduceLeDiff, and_self, true_and, x_lit, x_ofn, x_z0, x_z1, x_inbT, x_ltT, x_ltF, x_leT, x_leF, x_eqF, x_eqT, x_inb, x_lt, x_le, x_eq, x_cl, x_sub, nI_add, pk_mul, x_m1e, x_m1e', x_m1l, x_m1n, x_m1s, Nat.not_lt_zero, x_zb, x_b0, x_b1, decide_eq_false_iff_not, decide_eq_true_eq, Bool.false_eq_true, Bool.true_eq_false, x4, kd_3, kd_6, kd_26, kd_27]
  rw [hent]
  cases hnm : isNm t e (tq t e a) with
  | false =>
    obtain ⟨μ, y1, y2, y3⟩ := o2 hn6 hnm
    obtain ⟨τx, x1, x2⟩ := w1' hnm
    obtain ⟨τ2, r1, r2, r3⟩ := rb1 (k := 0) (d2 := none) hbe (TokM_bd y3) (bdM_12 _ _ _) (amk_12 t e (tq t e a)).1 (amk_12 t e (tq t e a)).2 (by omega)
    refine F_bad (ρ := σx) ?_ (amk_12 t e _) x2 (fR_rf _) (fPm_bd (fPm_T y2)) (bdM_12 _ _ _) (bdM_13 _ _ _) (hRP0 0 _ _ y1 r1) r2 r3
    simp (disch := omega) only [↓e_X9_takeField_16, ↓it_s, ↓y_iload, ↓y_lload, ↓y_aload, ↓y_istore, ↓y_lstore, ↓y_astore, ↓y_iinc, ↓y_cI, ↓y_cL, ↓y_bin, ↓y_binL, ↓y_div, ↓y_divL, ↓y_lshl, ↓y_un, ↓y_i2l, ↓y_lneg, ↓y_l2i, ↓y_lcmp, ↓y_dupI, ↓y_dupR, ↓y_dup2, ↓y_pop, ↓y_goto, ↓y_eq0, ↓y_lt0, ↓y_le0, ↓y_eq, ↓y_lt, ↓y_le, ↓y_switch, ↓y_sw0, ↓y_sw1, ↓y_getI, ↓y_getL, ↓y_getR, ↓y_getT, ↓y_putI, ↓y_putZ, ↓y_putL, ↓y_putT, ↓y_iald, ↓y_bald, ↓y_lald, ↓y_aald, ↓y_iast, ↓y_bast, ↓y_last, ↓y_alen, ↓y_iret, ↓y_zret, ↓y_lret, ↓y_vret, ↓y_svI, ↓y_svL, ↓y_svV, ↓y_ivI, ↓y_ivL, ↓y_ivV, ↓y_max, ↓y_min, ↓y_absL, ↓y_cpI, ↓y_cpL, ↓x_n1I, ↓x_n1L, ↓x_n1R, ↓x_n0I, ↓x_n0L, ↓x_n0R, ↓x_s0, ↓x_s1i, ↓x_s1r, ↓x_s1n, ↓x_s2, ↓x_c0, ↓x_c2, ↓x_tk0, ↓x_tk1, ↓x_rcv, x_rI1, x_rL1, x_rV1, x_rIn, x_rLn, x_rVn, x_rIf, x_rLf, x_rVf, x_40, x_41, x_42, x_43, x_44, ↓reduceIte, if_true, if_false, ao_iadd, ao_isub, ao_imul, ao_iand, ao_ior, ao_ishl, ao_ishr, ao_iushr, ao_ladd, ao_lsub, ao_lmul, ao_land, ao_lor, ao_idiv, ao_irem, ao_ldiv, ao_lrem, ao_ineg, ao_i2b, ao_i2s, Nat.reduceAdd, Nat.reduceMul, Nat.reduceSub, Nat.reduceEqDiff, Nat.reduceLeDiff, and_self, true_and, x_lit, x_ofn, x_z0, x_z1, x_inbT, x_ltT, x_ltF, x_leT, x_leF, x_eqF, x_eqT, x_inb, x_lt, x_le, x_eq, x_cl, x_sub, nI_add, pk_mul, x_m1e, x_m1e', x_m1l, x_m1n, x_m1s, Nat.not_lt_zero, x_zb, x_b0, x_b1, decide_eq_false_iff_not, decide_eq_true_eq, Bool.false_eq_true, Bool.true_eq_false, x1, kd_3, kd_6]
  | true =>
    cases htk : tkn Ns Nf (twd t e (tq t e a)) with
    | true =>
      obtain ⟨μ, y1, y2, y3⟩ := o3 hn6 hnm htk
      obtain ⟨τx, x1, x2⟩ := w2' hnm htk
      obtain ⟨τ2, r1, r2, r3⟩ := rb1 (k := 0) (d2 := none) hbe (TokM_bd (k := 3) (p := tp t e (tq t e a)) y3) (bdM_12 _ _ _) (by omega) (by omega) (by omega)
      refine F_bad (ρ := σx) ?_ (by omega) x2 (fR_rf _) (fPm_bd (fPm_T y2)) (bdM_12 _ _ _) (bdM_13 _ _ _) (hRP0 0 _ _ y1 r1) r2 r3
      simp (disch := omega) only [↓e_X9_takeField_16, ↓it_s, ↓y_iload, ↓y_lload, ↓y_aload, ↓y_istore, ↓y_lstore, ↓y_astore, ↓y_iinc, ↓y_cI, ↓y_cL, ↓y_bin, ↓y_binL, ↓y_div, ↓y_divL, ↓y_lshl, ↓y_un, ↓y_i2l, ↓y_lneg, ↓y_l2i, ↓y_lcmp, ↓y_dupI, ↓y_dupR, ↓y_dup2, ↓y_pop, ↓y_goto, ↓y_eq0, ↓y_lt0, ↓y_le0, ↓y_eq, ↓y_lt, ↓y_le, ↓y_switch, ↓y_sw0, ↓y_sw1, ↓y_getI, ↓y_getL, ↓y_getR, ↓y_getT, ↓y_putI, ↓y_putZ, ↓y_putL, ↓y_putT, ↓y_iald, ↓y_bald, ↓y_lald, ↓y_aald, ↓y_iast, ↓y_bast, ↓y_last, ↓y_alen, ↓y_iret, ↓y_zret, ↓y_lret, ↓y_vret, ↓y_svI, ↓y_svL, ↓y_svV, ↓y_ivI, ↓y_ivL, ↓y_ivV, ↓y_max, ↓y_min, ↓y_absL, ↓y_cpI, ↓y_cpL, ↓x_n1I, ↓x_n1L, ↓x_n1R, ↓x_n0I, ↓x_n0L, ↓x_n0R, ↓x_s0, ↓x_s1i, ↓x_s1r, ↓x_s1n, ↓x_s2, ↓x_c0, ↓x_c2, ↓x_tk0, ↓x_tk1, ↓x_rcv, x_rI1, x_rL1, x_rV1, x_rIn, x_rLn, x_rVn, x_rIf, x_rLf, x_rVf, x_40, x_41, x_42, x_43, x_44, ↓reduceIte, if_true, if_false, ao_iadd, ao_isub, ao_imul, ao_iand, ao_ior, ao_ishl, ao_ishr, ao_iushr, ao_ladd, ao_lsub, ao_lmul, ao_land, ao_lor, ao_idiv, ao_irem, ao_ldiv, ao_lrem, ao_ineg, ao_i2b, ao_i2s, Nat.reduceAdd, Nat.reduceMul, Nat.reduceSub, Nat.reduceEqDiff, Nat.reduceLeDiff, and_self, true_and, x_lit, x_ofn, x_z0, x_z1, x_inbT, x_ltT, x_ltF, x_leT, x_leF, x_eqF, x_eqT, x_inb, x_lt, x_le, x_eq, x_cl, x_sub, nI_add, pk_mul, x_m1e, x_m1e', x_m1l, x_m1n, x_m1s, Nat.not_lt_zero, x_zb, x_b0, x_b1, decide_eq_false_iff_not, decide_eq_true_eq, Bool.false_eq_true, Bool.true_eq_false, x1, kd_3, kd_6]
    | false =>
      obtain ⟨μ0, y1, y2, y3⟩ := o4 hn6 hnm htk
      obtain ⟨ρ0, x1, x2, x3⟩ := w3' hnm htk
      have hRP1 := fun τ => hRP0 _ _ τ y1
      obtain ⟨b, eb⟩ : ∃ b, b = tq t e a := ⟨_, rfl⟩
      rw [← eb] at hbe hgt hnm htk y2 y3 x2
      obtain ⟨k, ek⟩ : ∃ k, k = Nf.length := ⟨_, rfl⟩
      rw [← ek] at hn6 x4 m5 y1 y3 hRP1
      have e44 : 40 + 4 * 1 + k = 44 + k := by omega
      rw [e44] at y3
      obtain ⟨z1, z2, z3, z4⟩ := isNm_ok hbe hnm
      have hce := (tq_le (t := t) hbe).2
      have hgt2 := tq_gt hbe (show tkd t e b ≠ 0 by omega)
      have h7 := (x2.2.2.2.2.2 z1).2
      obtain ⟨r, er⟩ : ∃ r, r = twd t e b := ⟨_, rfl⟩
      rw [← er] at z2 z3 h7 y3
      obtain ⟨c, ec⟩ : ∃ c, c = tq t e b := ⟨_, rfl⟩
      have hc3 := x2.1
      rw [← ec] at hce hgt2 hc3 y2
      have hXc := TX_fr e1 x3
      have hMs : TM (am_uL σm 131 (44 + k) (lN (keyR 32 r))) t e := e2
      have hMc := TM_fr hMs y3
      have h12c : μ0.1 123 12 = nI 0 := by rw [y3.2.1 12 (by omega)]; exact e5
      have hmf0 : fPm σm μ0 := fPm_tr (fPm_uw (fPm_rf _) (by omega)) (fPm_T y3)
      have hcl0 : dn_X9_takeField_16 [some (.ref 6), some (.ref 3), some (.ref 26), none, none, none, none] [] σx = x_rI (S_X3_wantWord [.ref 3, .int (nI 8)] ρ0) (am_eq0 (dn_X9_takeField_48) (am_aload 1 (am_ivI 3 S_X3_wantName 0 (am_eq0 (dn_X9_takeField_48) (dn_X9_takeField_50))))) [some (.ref 6), some (.ref 3), some (.ref 26), some (.long (lN (keyR 27 r))), none, none, none] [] := by
        simp (disch := omega) only [↓e_X9_takeField_16, ↓e_X9_takeField_27, ↓it_s, ↓y_iload, ↓y_lload, ↓y_aload, ↓y_istore, ↓y_lstore, ↓y_astore, ↓y_iinc, ↓y_cI, ↓y_cL, ↓y_bin, ↓y_binL, ↓y_div, ↓y_divL, ↓y_lshl, ↓y_un, ↓y_i2l, ↓y_lneg, ↓y_l2i, ↓y_lcmp, ↓y_dupI, ↓y_dupR, ↓y_dup2, ↓y_pop, ↓y_goto, ↓y_eq0, ↓y_lt0, ↓y_le0, ↓y_eq, ↓y_lt, ↓y_le, ↓y_switch, ↓y_sw0, ↓y_sw1, ↓y_getI, ↓y_getL, ↓y_getR, ↓y_getT, ↓y_putI, ↓y_putZ, ↓y_putL, ↓y_putT, ↓y_iald, ↓y_bald, ↓y_lald, ↓y_aald, ↓y_iast, ↓y_bast, ↓y_last, ↓y_alen, ↓y_iret, ↓y_zret, ↓y_lret, ↓y_vret, ↓y_svI, ↓y_svL, ↓y_svV, ↓y_ivI, ↓y_ivL, ↓y_ivV, ↓y_max, ↓y_min, ↓y_absL, ↓y_cpI, ↓y_cpL, ↓x_n1I, ↓x_n1L, ↓x_n1R, ↓x_n0I, ↓x_n0L, ↓x_n0R, ↓x_s0, ↓x_s1i, ↓x_s1r, ↓x_s1n, ↓x_s2, ↓x_c0, ↓x_c2, ↓x_tk0, ↓x_tk1, ↓x_rcv, x_rI1, x_rL1, x_rV1, x_rIn, x_rLn, x_rVn, x_rIf, x_rLf, x_rVf, x_40, x_41, x_42, x_43, x_44, ↓reduceIte, if_true, if_false, ao_iadd, ao_isub, ao_imul, ao_iand, ao_ior, ao_ishl, ao_ishr, ao_iushr, ao_ladd, ao_lsub, ao_lmul, ao_land, ao_lor, ao_idiv, ao_irem, ao_ldiv, ao_lrem, ao_ineg, ao_i2b, ao_i2s, Nat.reduceAdd, Nat.reduceMul, Nat.reduceSub, Nat.reduceEqDiff, Nat.reduceLeDiff, and_self, true_and, x_lit, x_ofn, x_z0, x_z1, x_inbT, x_ltT, x_ltF, x_leT, x_leF, x_eqF, x_eqT, x_inb, x_lt, x_le, x_eq, x_cl, x_sub, nI_add, pk_mul, x_m1e, x_m1e', x_m1l, x_m1n, x_m1s, Nat.not_lt_zero, x_zb, x_b0, x_b1, decide_eq_false_iff_not, decide_eq_true_eq, Bool.false_eq_true, Bool.true_eq_false, x1, h7, kd_3, kd_6]
      rw [hcl0]
      have wo := M_isOf hce y2
      obtain ⟨p1, p0⟩ := X_wantWord (i := 8) hXc hce hc3 (by omega)
      by_cases hof : twi t e c = some 8
      rotate_left
      · obtain ⟨τx, u1, u2⟩ := p0 hof
        rw [decide_eq_false hof] at wo
        have hmu := M_mustF y2 h12c
        obtain ⟨τ2, r1, r2, r3⟩ := rb2 (k := k) (d2 := none) hce (TokM_bd y2) (bdM_12 μ0 (amk t e c) (tp t e c)) (amk_12 t e c).1 (amk_12 t e c).2 hn6
        refine F_bad (ρ := ρ0) ?_ (amk_12 t e _) u2 x3 (fPm_bd hmf0) (bdM_12 _ _ _) (bdM_13 _ _ _) (hRP1 τ2 ?_) r2 r3
        · simp (disch := omega) only [↓e_X9_takeField_48, ↓it_s, ↓y_iload, ↓y_lload, ↓y_aload, ↓y_istore, ↓y_lstore, ↓y_astore, ↓y_iinc, ↓y_cI, ↓y_cL, ↓y_bin, ↓y_binL, ↓y_div, ↓y_divL, ↓y_lshl, ↓y_un, ↓y_i2l, ↓y_lneg, ↓y_l2i, ↓y_lcmp, ↓y_dupI, ↓y_dupR, ↓y_dup2, ↓y_pop, ↓y_goto, ↓y_eq0, ↓y_lt0, ↓y_le0, ↓y_eq, ↓y_lt, ↓y_le, ↓y_switch, ↓y_sw0, ↓y_sw1, ↓y_getI, ↓y_getL, ↓y_getR, ↓y_getT, ↓y_putI, ↓y_putZ, ↓y_putL, ↓y_putT, ↓y_iald, ↓y_bald, ↓y_lald, ↓y_aald, ↓y_iast, ↓y_bast, ↓y_last, ↓y_alen, ↓y_iret, ↓y_zret, ↓y_lret, ↓y_vret, ↓y_svI, ↓y_svL, ↓y_svV, ↓y_ivI, ↓y_ivL, ↓y_ivV, ↓y_max, ↓y_min, ↓y_absL, ↓y_cpI, ↓y_cpL, ↓x_n1I, ↓x_n1L, ↓x_n1R, ↓x_n0I, ↓x_n0L, ↓x_n0R, ↓x_s0, ↓x_s1i, ↓x_s1r, ↓x_s1n, ↓x_s2, ↓x_c0, ↓x_c2, ↓x_tk0, ↓x_tk1, ↓x_rcv, x_rI1, x_rL1, x_rV1, x_rIn, x_rLn, x_rVn, x_rIf, x_rLf, x_rVf, x_40, x_41, x_42, x_43, x_44, ↓reduceIte, if_true, if_false, ao_iadd, ao_isub, ao_imul, ao_iand, ao_ior, ao_ishl, ao_ishr, ao_iushr, ao_ladd, ao_lsub, ao_lmul, ao_land, ao_lor, ao_idiv, ao_irem, ao_ldiv, ao_lrem, ao_ineg, ao_i2b, ao_i2s, Nat.reduceAdd, Nat.reduceMul, Nat.reduceSub, Nat.reduceEqDiff, Nat.reduceLeDiff, and_self, true_and, x_lit, x_ofn, x_z0, x_z1, x_inbT, x_ltT, x_ltF, x_leT, x_leF, x_eqF, x_eqT, x_inb, x_lt, x_le, x_eq, x_cl, x_sub, nI_add, pk_mul, x_m1e, x_m1e', x_m1l, x_m1n, x_m1s, Nat.not_lt_zero, x_zb, x_b0, x_b1, decide_eq_false_iff_not, decide_eq_true_eq, Bool.false_eq_true, Bool.true_eq_false, u1]
        · simp (disch := omega) only [↓rf_e1, ↓it_s, ↓y_iload, ↓y_lload, ↓y_aload, ↓y_istore, ↓y_lstore, ↓y_astore, ↓y_iinc, ↓y_cI, ↓y_cL, ↓y_bin, ↓y_binL, ↓y_div, ↓y_divL, ↓y_lshl, ↓y_un, ↓y_i2l, ↓y_lneg, ↓y_l2i, ↓y_lcmp, ↓y_dupI, ↓y_dupR, ↓y_dup2, ↓y_pop, ↓y_goto, ↓y_eq0, ↓y_lt0, ↓y_le0, ↓y_eq, ↓y_lt, ↓y_le, ↓y_switch, ↓y_sw0, ↓y_sw1, ↓y_getI, ↓y_getL, ↓y_getR, ↓y_getT, ↓y_putI, ↓y_putZ, ↓y_putL, ↓y_putT, ↓y_iald, ↓y_bald, ↓y_lald, ↓y_aald, ↓y_iast, ↓y_bast, ↓y_last, ↓y_alen, ↓y_iret, ↓y_zret, ↓y_lret, ↓y_vret, ↓y_svI, ↓y_svL, ↓y_svV, ↓y_ivI, ↓y_ivL, ↓y_ivV, ↓y_max, ↓y_min, ↓y_absL, ↓y_cpI, ↓y_cpL, ↓x_n1I, ↓x_n1L, ↓x_n1R, ↓x_n0I, ↓x_n0L, ↓x_n0R, ↓x_s0, ↓x_s1i, ↓x_s1r, ↓x_s1n, ↓x_s2, ↓x_c0, ↓x_c2, ↓x_tk0, ↓x_tk1, ↓x_rcv, x_rI1, x_rL1, x_rV1, x_rIn, x_rLn, x_rVn, x_rIf, x_rLf, x_rVf, x_40, x_41, x_42, x_43, x_44, ↓reduceIte, if_true, if_false, ao_iadd, ao_isub, ao_imul, ao_iand, ao_ior, ao_ishl, ao_ishr, ao_iushr, ao_ladd, ao_lsub, ao_lmul, ao_land, ao_lor, ao_idiv, ao_irem, ao_ldiv, ao_lrem, ao_ineg, ao_i2b, ao_i2s, Nat.reduceAdd, Nat.reduceMul, Nat.reduceSub, Nat.reduceEqDiff, Nat.reduceLeDiff, and_self, true_and, x_lit, x_ofn, x_z0, x_z1, x_inbT, x_ltT, x_ltF, x_leT, x_leF, x_eqF, x_eqT, x_inb, x_lt, x_le, x_eq, x_cl, x_sub, nI_add, pk_mul, x_m1e, x_m1e', x_m1l, x_m1n, x_m1s, Nat.not_lt_zero, x_zb, x_b0, x_b1, decide_eq_false_iff_not, decide_eq_true_eq, Bool.false_eq_true, Bool.true_eq_false, wo, b2_f, hmu, r1, kd_123]
      obtain ⟨ρ1, u1, u2, u3⟩ := p1 hof
      rw [decide_eq_true hof] at wo
      obtain ⟨μ1, q1, q2, q3⟩ := M_mustT hMc hce y2 h12c
      have hRP2 : ∀ τ, rf_2 [some (.ref 123), some (.int (nI k)), none] [] μ1 = some (none, τ) → S_X11_readPart [.ref 123] σm = some (none, τ) := fun τ hτ => hRP1 τ (by
        simp (disch := omega) only [↓rf_e1, ↓it_s, ↓y_iload, ↓y_lload, ↓y_aload, ↓y_istore, ↓y_lstore, ↓y_astore, ↓y_iinc, ↓y_cI, ↓y_cL, ↓y_bin, ↓y_binL, ↓y_div, ↓y_divL, ↓y_lshl, ↓y_un, ↓y_i2l, ↓y_lneg, ↓y_l2i, ↓y_lcmp, ↓y_dupI, ↓y_dupR, ↓y_dup2, ↓y_pop, ↓y_goto, ↓y_eq0, ↓y_lt0, ↓y_le0, ↓y_eq, ↓y_lt, ↓y_le, ↓y_switch, ↓y_sw0, ↓y_sw1, ↓y_getI, ↓y_getL, ↓y_getR, ↓y_getT, ↓y_putI, ↓y_putZ, ↓y_putL, ↓y_putT, ↓y_iald, ↓y_bald, ↓y_lald, ↓y_aald, ↓y_iast, ↓y_bast, ↓y_last, ↓y_alen, ↓y_iret, ↓y_zret, ↓y_lret, ↓y_vret, ↓y_svI, ↓y_svL, ↓y_svV, ↓y_ivI, ↓y_ivL, ↓y_ivV, ↓y_max, ↓y_min, ↓y_absL, ↓y_cpI, ↓y_cpL, ↓x_n1I, ↓x_n1L, ↓x_n1R, ↓x_n0I, ↓x_n0L, ↓x_n0R, ↓x_s0, ↓x_s1i, ↓x_s1r, ↓x_s1n, ↓x_s2, ↓x_c0, ↓x_c2, ↓x_tk0, ↓x_tk1, ↓x_rcv, x_rI1, x_rL1, x_rV1, x_rIn, x_rLn, x_rVn, x_rIf, x_rLf, x_rVf, x_40, x_41, x_42, x_43, x_44, ↓reduceIte, if_true, if_false, ao_iadd, ao_isub, ao_imul, ao_iand, ao_ior, ao_ishl, ao_ishr, ao_iushr, ao_ladd, ao_lsub, ao_lmul, ao_land, ao_lor, ao_idiv, ao_irem, ao_ldiv, ao_lrem, ao_ineg, ao_i2b, ao_i2s, Nat.reduceAdd, Nat.reduceMul, Nat.reduceSub, Nat.reduceEqDiff, Nat.reduceLeDiff, and_self, true_and, x_lit, x_ofn, x_z0, x_z1, x_inbT, x_ltT, x_ltF, x_leT, x_leF, x_eqF, x_eqT, x_inb, x_lt, x_le, x_eq, x_cl, x_sub, nI_add, pk_mul, x_m1e, x_m1e', x_m1l, x_m1n, x_m1s, Nat.not_lt_zero, x_zb, x_b0, x_b1, decide_eq_false_iff_not, decide_eq_true_eq, Bool.false_eq_true, Bool.true_eq_false, wo, b2_t, q1, hτ, kd_123])
      have hkc := tw_kd hof
      have hde := (tq_le (t := t) hce).2
      have hgt3 := tq_gt hce (show tkd t e c ≠ 0 by omega)
      obtain ⟨dd, ed⟩ : ∃ dd, dd = tq t e c := ⟨_, rfl⟩
      have hd3 := u2.1
      rw [← ed] at hde hgt3 hd3 q2
      have hXd := TX_fr hXc u3
      have hMd := TM_fr hMc q3
      have h12d : μ1.1 123 12 = nI 0 := by rw [q3.2.1 12 (by omega)]; exact h12c
      have hmf1 : fPm σm μ1 := fPm_tr hmf0 (fPm_T q3)
      have hR1 := fR_tr x3 u3
      have hF1 : fT (am_uL σm 131 (44 + k) (lN (keyR 32 r))) μ1 := fT_tr y3 q3
      obtain ⟨n1, n0⟩ := X_wantName hXd hde hd3
      have hNm1 : NmM μ1 (10 * 4 + 4 * 0) Ns := fun i s hs => by
        have hi := (List.getElem?_eq_some_iff.mp hs).1
        rw [(hF1.1 131 (by omega)).2, uL_s, up_n (by omega)]; exact b7 i s hs
      obtain ⟨t1, t2, t3⟩ := M_readTold (b := 4) (Ns := Ns) 0 hMd hde q2 h12d (by omega) (by omega) (by rw [(hF1.1 128 (by omega)).1]; exact m1) (by rw [if_pos rfl]; exact l1) hNm1 b3
      cases hnd : isNm t e dd with
      | false =>
        obtain ⟨τx, v1, v2⟩ := n0 hnd
        have hto := t1 hnd
        obtain ⟨τ2, r1, r2, r3⟩ := rb3 (k := k) (w := 1908 + k) (σ := am_uI (bdM μ1 (amk t e dd) (tp t e dd)) 128 (1908 + k) (nI 0)) hde (TokM_uo (TokM_bd q2) (by omega)) (by rw [uI_n (by omega)]; exact bdM_12 _ _ _) (amk_12 t e dd).1 (amk_12 t e dd).2 (by omega) (by omega)
        refine F_bad (ρ := ρ1) ?_ (amk_12 t e _) v2 hR1 (fPm_uc (k := 1908 + k) (v := nI 0) (fPm_bd hmf1) (by omega)) (by rw [uI_n (by omega)]; exact bdM_12 _ _ _) (by rw [uI_n (by omega)]; exact bdM_13 _ _ _) (hRP2 τ2 ?_) r2 r3
        · simp (disch := omega) only [↓e_X9_takeField_48, ↓it_s, ↓y_iload, ↓y_lload, ↓y_aload, ↓y_istore, ↓y_lstore, ↓y_astore, ↓y_iinc, ↓y_cI, ↓y_cL, ↓y_bin, ↓y_binL, ↓y_div, ↓y_divL, ↓y_lshl, ↓y_un, ↓y_i2l, ↓y_lneg, ↓y_l2i, ↓y_lcmp, ↓y_dupI, ↓y_dupR, ↓y_dup2, ↓y_pop, ↓y_goto, ↓y_eq0, ↓y_lt0, ↓y_le0, ↓y_eq, ↓y_lt, ↓y_le, ↓y_switch, ↓y_sw0, ↓y_sw1, ↓y_getI, ↓y_getL, ↓y_getR, ↓y_getT, ↓y_putI, ↓y_putZ, ↓y_putL, ↓y_putT, ↓y_iald, ↓y_bald, ↓y_lald, ↓y_aald, ↓y_iast, ↓y_bast, ↓y_last, ↓y_alen, ↓y_iret, ↓y_zret, ↓y_lret, ↓y_vret, ↓y_svI, ↓y_svL, ↓y_svV, ↓y_ivI, ↓y_ivL, ↓y_ivV, ↓y_max, ↓y_min, ↓y_absL, ↓y_cpI, ↓y_cpL, ↓x_n1I, ↓x_n1L, ↓x_n1R, ↓x_n0I, ↓x_n0L, ↓x_n0R, ↓x_s0, ↓x_s1i, ↓x_s1r, ↓x_s1n, ↓x_s2, ↓x_c0, ↓x_c2, ↓x_tk0, ↓x_tk1, ↓x_rcv, x_rI1, x_rL1, x_rV1, x_rIn, x_rLn, x_rVn, x_rIf, x_rLf, x_rVf, x_40, x_41, x_42, x_43, x_44, ↓reduceIte, if_true, if_false, ao_iadd, ao_isub, ao_imul, ao_iand, ao_ior, ao_ishl, ao_ishr, ao_iushr, ao_ladd, ao_lsub, ao_lmul, ao_land, ao_lor, ao_idiv, ao_irem, ao_ldiv, ao_lrem, ao_ineg, ao_i2b, ao_i2s, Nat.reduceAdd, Nat.reduceMul, Nat.reduceSub, Nat.reduceEqDiff, Nat.reduceLeDiff, and_self, true_and, x_lit, x_ofn, x_z0, x_z1, x_inbT, x_ltT, x_ltF, x_leT, x_leF, x_eqF, x_eqT, x_inb, x_lt, x_le, x_eq, x_cl, x_sub, nI_add, pk_mul, x_m1e, x_m1e', x_m1l, x_m1n, x_m1s, Nat.not_lt_zero, x_zb, x_b0, x_b1, decide_eq_false_iff_not, decide_eq_true_eq, Bool.false_eq_true, Bool.true_eq_false, u1, v1, kd_3]
        · simp (disch := omega) only [↓rf_e2, ↓it_s, ↓y_iload, ↓y_lload, ↓y_aload, ↓y_istore, ↓y_lstore, ↓y_astore, ↓y_iinc, ↓y_cI, ↓y_cL, ↓y_bin, ↓y_binL, ↓y_div, ↓y_divL, ↓y_lshl, ↓y_un, ↓y_i2l, ↓y_lneg, ↓y_l2i, ↓y_lcmp, ↓y_dupI, ↓y_dupR, ↓y_dup2, ↓y_pop, ↓y_goto, ↓y_eq0, ↓y_lt0, ↓y_le0, ↓y_eq, ↓y_lt, ↓y_le, ↓y_switch, ↓y_sw0, ↓y_sw1, ↓y_getI, ↓y_getL, ↓y_getR, ↓y_getT, ↓y_putI, ↓y_putZ, ↓y_putL, ↓y_putT, ↓y_iald, ↓y_bald, ↓y_lald, ↓y_aald, ↓y_iast, ↓y_bast, ↓y_last, ↓y_alen, ↓y_iret, ↓y_zret, ↓y_lret, ↓y_vret, ↓y_svI, ↓y_svL, ↓y_svV, ↓y_ivI, ↓y_ivL, ↓y_ivV, ↓y_max, ↓y_min, ↓y_absL, ↓y_cpI, ↓y_cpL, ↓x_n1I, ↓x_n1L, ↓x_n1R, ↓x_n0I, ↓x_n0L, ↓x_n0R, ↓x_s0, ↓x_s1i, ↓x_s1r, ↓x_s1n, ↓x_s2, ↓x_c0, ↓x_c2, ↓x_tk0, ↓x_tk1, ↓x_rcv, x_rI1, x_rL1, x_rV1, x_rIn, x_rLn, x_rVn, x_rIf, x_rLf, x_rVf, x_40, x_41, x_42, x_43, x_44, ↓reduceIte, if_true, if_false, ao_iadd, ao_isub, ao_imul, ao_iand, ao_ior, ao_ishl, ao_ishr, ao_iushr, ao_ladd, ao_lsub, ao_lmul, ao_land, ao_lor, ao_idiv, ao_irem, ao_ldiv, ao_lrem, ao_ineg, ao_i2b, ao_i2s, Nat.reduceAdd, Nat.reduceMul, Nat.reduceSub, Nat.reduceEqDiff, Nat.reduceLeDiff, and_self, true_and, x_lit, x_ofn, x_z0, x_z1, x_inbT, x_ltT, x_ltF, x_leT, x_leF, x_eqF, x_eqT, x_inb, x_lt, x_le, x_eq, x_cl, x_sub, nI_add, pk_mul, x_m1e, x_m1e', x_m1l, x_m1n, x_m1s, Nat.not_lt_zero, x_zb, x_b0, x_b1, decide_eq_false_iff_not, decide_eq_true_eq, Bool.false_eq_true, Bool.true_eq_false, hto, r1, kd_123, kd_128, ln_128]
      | true =>
        obtain ⟨ρ2, v1, v2, v3⟩ := n1 hnd
        obtain ⟨s1, s2, s3, s4⟩ := isNm_ok hde hnd
        have h7d := (v2.2.2.2.2.2 s1).2
        have hR2 := fR_tr hR1 v3
        have ysu := X_suitNamed (v := 26) (σ := ρ2) (Ns := Ns) (r := twd t e dd) (Or.inr rfl) (by rw [(hR2.1 27 (by omega)).1]; exact x7) l1 (fun i r w => by rw [(hR2.1 36 (by omega)).2]; exact b5 i r w) b3 s2 s3
        cases hsn : nmI Ns (twd t e dd) with
        | none =>
          rw [hsn] at ysu
          have ysu' : S_X8_suitNamed [.ref 26, .long (lN (keyR 27 (twd t e dd)))] ρ2 = some (some (.int (-nI 1)), ρ2) := ysu
          have hto := t2 hnd hsn
          have hbl := X_blame (k := 3) (σ := ρ2)
          obtain ⟨τ2, r1, r2, r3⟩ := rb3 (k := k) (w := 1908 + k) (σ := am_uI (bdM μ1 3 (tp t e dd)) 128 (1908 + k) (nI 0)) hde (TokM_uo (TokM_bd q2) (by omega)) (by rw [uI_n (by omega)]; exact bdM_12 _ _ _) (by omega) (by omega) (by omega) (by omega)
          refine F_bad (ρ := ρ2) (k := 3) (p := tp t e dd) ?_ (by omega) (XF_bl (fR_rf _) v2.2.1) hR2 (fPm_uc (k := 1908 + k) (v := nI 0) (fPm_bd hmf1) (by omega)) (by rw [uI_n (by omega)]; exact bdM_12 _ _ _) (by rw [uI_n (by omega)]; exact bdM_13 _ _ _) (hRP2 τ2 ?_) r2 r3
          · simp (disch := omega) only [↓e_X9_takeField_50, ↓it_s, ↓y_iload, ↓y_lload, ↓y_aload, ↓y_istore, ↓y_lstore, ↓y_astore, ↓y_iinc, ↓y_cI, ↓y_cL, ↓y_bin, ↓y_binL, ↓y_div, ↓y_divL, ↓y_lshl, ↓y_un, ↓y_i2l, ↓y_lneg, ↓y_l2i, ↓y_lcmp, ↓y_dupI, ↓y_dupR, ↓y_dup2, ↓y_pop, ↓y_goto, ↓y_eq0, ↓y_lt0, ↓y_le0, ↓y_eq, ↓y_lt, ↓y_le, ↓y_switch, ↓y_sw0, ↓y_sw1, ↓y_getI, ↓y_getL, ↓y_getR, ↓y_getT, ↓y_putI, ↓y_putZ, ↓y_putL, ↓y_putT, ↓y_iald, ↓y_bald, ↓y_lald, ↓y_aald, ↓y_iast, ↓y_bast, ↓y_last, ↓y_alen, ↓y_iret, ↓y_zret, ↓y_lret, ↓y_vret, ↓y_svI, ↓y_svL, ↓y_svV, ↓y_ivI, ↓y_ivL, ↓y_ivV, ↓y_max, ↓y_min, ↓y_absL, ↓y_cpI, ↓y_cpL, ↓x_n1I, ↓x_n1L, ↓x_n1R, ↓x_n0I, ↓x_n0L, ↓x_n0R, ↓x_s0, ↓x_s1i, ↓x_s1r, ↓x_s1n, ↓x_s2, ↓x_c0, ↓x_c2, ↓x_tk0, ↓x_tk1, ↓x_rcv, x_rI1, x_rL1, x_rV1, x_rIn, x_rLn, x_rVn, x_rIf, x_rLf, x_rVf, x_40, x_41, x_42, x_43, x_44, ↓reduceIte, if_true, if_false, ao_iadd, ao_isub, ao_imul, ao_iand, ao_ior, ao_ishl, ao_ishr, ao_iushr, ao_ladd, ao_lsub, ao_lmul, ao_land, ao_lor, ao_idiv, ao_irem, ao_ldiv, ao_lrem, ao_ineg, ao_i2b, ao_i2s, Nat.reduceAdd, Nat.reduceMul, Nat.reduceSub, Nat.reduceEqDiff, Nat.reduceLeDiff, and_self, true_and, x_lit, x_ofn, x_z0, x_z1, x_inbT, x_ltT, x_ltF, x_leT, x_leF, x_eqF, x_eqT, x_inb, x_lt, x_le, x_eq, x_cl, x_sub, nI_add, pk_mul, x_m1e, x_m1e', x_m1l, x_m1n, x_m1s, Nat.not_lt_zero, x_zb, x_b0, x_b1, decide_eq_false_iff_not, decide_eq_true_eq, Bool.false_eq_true, Bool.true_eq_false, u1, v1, h7d, ysu', hbl, kd_3, kd_26]
          · simp (disch := omega) only [↓rf_e2, ↓it_s, ↓y_iload, ↓y_lload, ↓y_aload, ↓y_istore, ↓y_lstore, ↓y_astore, ↓y_iinc, ↓y_cI, ↓y_cL, ↓y_bin, ↓y_binL, ↓y_div, ↓y_divL, ↓y_lshl, ↓y_un, ↓y_i2l, ↓y_lneg, ↓y_l2i, ↓y_lcmp, ↓y_dupI, ↓y_dupR, ↓y_dup2, ↓y_pop, ↓y_goto, ↓y_eq0, ↓y_lt0, ↓y_le0, ↓y_eq, ↓y_lt, ↓y_le, ↓y_switch, ↓y_sw0, ↓y_sw1, ↓y_getI, ↓y_getL, ↓y_getR, ↓y_getT, ↓y_putI, ↓y_putZ, ↓y_putL, ↓y_putT, ↓y_iald, ↓y_bald, ↓y_lald, ↓y_aald, ↓y_iast, ↓y_bast, ↓y_last, ↓y_alen, ↓y_iret, ↓y_zret, ↓y_lret, ↓y_vret, ↓y_svI, ↓y_svL, ↓y_svV, ↓y_ivI, ↓y_ivL, ↓y_ivV, ↓y_max, ↓y_min, ↓y_absL, ↓y_cpI, ↓y_cpL, ↓x_n1I, ↓x_n1L, ↓x_n1R, ↓x_n0I, ↓x_n0L, ↓x_n0R, ↓x_s0, ↓x_s1i, ↓x_s1r, ↓x_s1n, ↓x_s2, ↓x_c0, ↓x_c2, ↓x_tk0, ↓x_tk1, ↓x_rcv, x_rI1, x_rL1, x_rV1, x_rIn, x_rLn, x_rVn, x_rIf, x_rLf, x_rVf, x_40, x_41, x_42, x_43, x_44, ↓reduceIte, if_true, if_false, ao_iadd, ao_isub, ao_imul, ao_iand, ao_ior, ao_ishl, ao_ishr, ao_iushr, ao_ladd, ao_lsub, ao_lmul, ao_land, ao_lor, ao_idiv, ao_irem, ao_ldiv, ao_lrem, ao_ineg, ao_i2b, ao_i2s, Nat.reduceAdd, Nat.reduceMul, Nat.reduceSub, Nat.reduceEqDiff, Nat.reduceLeDiff, and_self, true_and, x_lit, x_ofn, x_z0, x_z1, x_inbT, x_ltT, x_ltF, x_leT, x_leF, x_eqF, x_eqT, x_inb, x_lt, x_le, x_eq, x_cl, x_sub, nI_add, pk_mul, x_m1e, x_m1e', x_m1l, x_m1n, x_m1s, Nat.not_lt_zero, x_zb, x_b0, x_b1, decide_eq_false_iff_not, decide_eq_true_eq, Bool.false_eq_true, Bool.true_eq_false, hto, r1, kd_123, kd_128, ln_128]
        | some s =>
          rw [hsn] at ysu
          have hsl := nm_lt hsn
          have ysu' : S_X8_suitNamed [.ref 26, .long (lN (keyR 27 (twd t e dd)))] ρ2 = some (some (.int (nI s)), ρ2) := ysu
          obtain ⟨μ2, i1, i2, i3⟩ := t3 hnd s hsn
          obtain ⟨μ3, em3⟩ : ∃ s', s' = am_uI μ2 128 (1908 + k) (nI s) := ⟨_, rfl⟩
          have em3' := em3.symm
          have hRP3 : ∀ τ, rf_3 [some (.ref 123), some (.int (nI k)), some (.int (nI (1908 + k)))] [] μ3 = some (none, τ) → S_X11_readPart [.ref 123] σm = some (none, τ) := fun τ hτ => hRP2 τ (by
            simp (disch := omega) only [↓rf_e2, ↓it_s, ↓y_iload, ↓y_lload, ↓y_aload, ↓y_istore, ↓y_lstore, ↓y_astore, ↓y_iinc, ↓y_cI, ↓y_cL, ↓y_bin, ↓y_binL, ↓y_div, ↓y_divL, ↓y_lshl, ↓y_un, ↓y_i2l, ↓y_lneg, ↓y_l2i, ↓y_lcmp, ↓y_dupI, ↓y_dupR, ↓y_dup2, ↓y_pop, ↓y_goto, ↓y_eq0, ↓y_lt0, ↓y_le0, ↓y_eq, ↓y_lt, ↓y_le, ↓y_switch, ↓y_sw0, ↓y_sw1, ↓y_getI, ↓y_getL, ↓y_getR, ↓y_getT, ↓y_putI, ↓y_putZ, ↓y_putL, ↓y_putT, ↓y_iald, ↓y_bald, ↓y_lald, ↓y_aald, ↓y_iast, ↓y_bast, ↓y_last, ↓y_alen, ↓y_iret, ↓y_zret, ↓y_lret, ↓y_vret, ↓y_svI, ↓y_svL, ↓y_svV, ↓y_ivI, ↓y_ivL, ↓y_ivV, ↓y_max, ↓y_min, ↓y_absL, ↓y_cpI, ↓y_cpL, ↓x_n1I, ↓x_n1L, ↓x_n1R, ↓x_n0I, ↓x_n0L, ↓x_n0R, ↓x_s0, ↓x_s1i, ↓x_s1r, ↓x_s1n, ↓x_s2, ↓x_c0, ↓x_c2, ↓x_tk0, ↓x_tk1, ↓x_rcv, x_rI1, x_rL1, x_rV1, x_rIn, x_rLn, x_rVn, x_rIf, x_rLf, x_rVf, x_40, x_41, x_42, x_43, x_44, ↓reduceIte, if_true, if_false, ao_iadd, ao_isub, ao_imul, ao_iand, ao_ior, ao_ishl, ao_ishr, ao_iushr, ao_ladd, ao_lsub, ao_lmul, ao_land, ao_lor, ao_idiv, ao_irem, ao_ldiv, ao_lrem, ao_ineg, ao_i2b, ao_i2s, Nat.reduceAdd, Nat.reduceMul, Nat.reduceSub, Nat.reduceEqDiff, Nat.reduceLeDiff, and_self, true_and, x_lit, x_ofn, x_z0, x_z1, x_inbT, x_ltT, x_ltF, x_leT, x_leF, x_eqF, x_eqT, x_inb, x_lt, x_le, x_eq, x_cl, x_sub, nI_add, pk_mul, x_m1e, x_m1e', x_m1l, x_m1n, x_m1s, Nat.not_lt_zero, x_zb, x_b0, x_b1, decide_eq_false_iff_not, decide_eq_true_eq, Bool.false_eq_true, Bool.true_eq_false, i1, em3', hτ, kd_123, kd_128, ln_128])
          have hfe := (tq_le (t := t) hde).2
          have hgt4 := tq_gt hde (show tkd t e dd ≠ 0 by omega)
          obtain ⟨f, ef⟩ : ∃ f, f = tq t e dd := ⟨_, rfl⟩
          have hf3 := v2.1
          rw [← ef] at hfe hgt4 hf3 i2
          have hXf := TX_fr hXd v3
          have hF2 : fT (am_uL σm 131 (44 + k) (lN (keyR 32 r))) μ2 := fT_tr hF1 i3
          have hMf : TM μ3 t e := by rw [em3]; exact TM_uo (TM_fr hMd i3) (by omega) (by omega)
          have hmf : TokM t e f μ3 := by rw [em3]; exact TokM_uo i2 (by omega)
          have h12f : μ3.1 123 12 = nI 0 := by rw [em3, uI_n (by omega), i3.2.1 12 (by omega)]; exact h12d
          have hmf3 : fPm σm μ3 := by rw [em3]; exact fPm_uc (fPm_tr hmf1 (fPm_T i3)) (by omega)
          have wd := M_isDries hfe hmf
          have ei : 1908 + k + 6 = 1914 + k := by omega
          have hcl2 : x_rI (S_X3_wantWord [.ref 3, .int (nI 8)] ρ0) (am_eq0 (dn_X9_takeField_48) (am_aload 1 (am_ivI 3 S_X3_wantName 0 (am_eq0 (dn_X9_takeField_48) (dn_X9_takeField_50))))) [some (.ref 6), some (.ref 3), some (.ref 26), some (.long (lN (keyR 27 r))), none, none, none] [] = dn_X9_takeField_72 [some (.ref 6), some (.ref 3), some (.ref 26), some (.long (lN (keyR 27 r))), none, some (.int (nI s)), none] [] ρ2 := by
            have hsm : ¬ nI s = -nI 1 := by
              have : s < 4 := by omega
              clear ysu' hsn ysu hsl i1 em3 em3' hRP3
              revert this; revert s; decide +kernel
            simp (disch := omega) only [↓e_X9_takeField_50, ↓it_s, ↓y_iload, ↓y_lload, ↓y_aload, ↓y_istore, ↓y_lstore, ↓y_astore, ↓y_iinc, ↓y_cI, ↓y_cL, ↓y_bin, ↓y_binL, ↓y_div, ↓y_divL, ↓y_lshl, ↓y_un, ↓y_i2l, ↓y_lneg, ↓y_l2i, ↓y_lcmp, ↓y_dupI, ↓y_dupR, ↓y_dup2, ↓y_pop, ↓y_goto, ↓y_eq0, ↓y_lt0, ↓y_le0, ↓y_eq, ↓y_lt, ↓y_le, ↓y_switch, ↓y_sw0, ↓y_sw1, ↓y_getI, ↓y_getL, ↓y_getR, ↓y_getT, ↓y_putI, ↓y_putZ, ↓y_putL, ↓y_putT, ↓y_iald, ↓y_bald, ↓y_lald, ↓y_aald, ↓y_iast, ↓y_bast, ↓y_last, ↓y_alen, ↓y_iret, ↓y_zret, ↓y_lret, ↓y_vret, ↓y_svI, ↓y_svL, ↓y_svV, ↓y_ivI, ↓y_ivL, ↓y_ivV, ↓y_max, ↓y_min, ↓y_absL, ↓y_cpI, ↓y_cpL, ↓x_n1I, ↓x_n1L, ↓x_n1R, ↓x_n0I, ↓x_n0L, ↓x_n0R, ↓x_s0, ↓x_s1i, ↓x_s1r, ↓x_s1n, ↓x_s2, ↓x_c0, ↓x_c2, ↓x_tk0, ↓x_tk1, ↓x_rcv, x_rI1, x_rL1, x_rV1, x_rIn, x_rLn, x_rVn, x_rIf, x_rLf, x_rVf, x_40, x_41, x_42, x_43, x_44, ↓reduceIte, if_true, if_false, ao_iadd, ao_isub, ao_imul, ao_iand, ao_ior, ao_ishl, ao_ishr, ao_iushr, ao_ladd, ao_lsub, ao_lmul, ao_land, ao_lor, ao_idiv, ao_irem, ao_ldiv, ao_lrem, ao_ineg, ao_i2b, ao_i2s, Nat.reduceAdd, Nat.reduceMul, Nat.reduceSub, Nat.reduceEqDiff, Nat.reduceLeDiff, and_self, true_and, x_lit, x_ofn, x_z0, x_z1, x_inbT, x_ltT, x_ltF, x_leT, x_leF, x_eqF, x_eqT, x_inb, x_lt, x_le, x_eq, x_cl, x_sub, nI_add, pk_mul, x_m1e, x_m1e', x_m1l, x_m1n, x_m1s, Nat.not_lt_zero, x_zb, x_b0, x_b1, decide_eq_false_iff_not, decide_eq_true_eq, Bool.false_eq_true, Bool.true_eq_false, u1, v1, h7d, ysu', hsm, kd_3, kd_26]
          rw [hcl2]
          obtain ⟨j1, j0⟩ := X_wantWord (i := 9) hXf hfe hf3 (by omega)
          by_cases hdr : twi t e f = some 9
          rotate_left
          · obtain ⟨τx, k1, k2⟩ := j0 hdr
            rw [decide_eq_false hdr] at wd
            have hbe2 := M_behindF (y := nI 0) (z := nI 20) hmf h12f
            obtain ⟨τ2, r1, r2, r3⟩ := rb4 (k := k) (w := 1908 + k) (σ := am_uI (bdM μ3 (amk t e f) (tp t e f)) 128 (1914 + k) (nI 0)) (by rw [uI_n (by omega)]; exact bdM_12 _ _ _) (amk_12 t e f).1 (amk_12 t e f).2 (by omega) (by omega)
            refine F_bad (ρ := ρ2) ?_ (amk_12 t e _) k2 hR2 (fPm_uc (k := 1914 + k) (v := nI 0) (fPm_bd hmf3) (by omega)) (by rw [uI_n (by omega)]; exact bdM_12 _ _ _) (by rw [uI_n (by omega)]; exact bdM_13 _ _ _) (hRP3 τ2 ?_) r2 r3
            · simp (disch := omega) only [↓e_X9_takeField_72, ↓e_X9_takeField_91, ↓it_s, ↓y_iload, ↓y_lload, ↓y_aload, ↓y_istore, ↓y_lstore, ↓y_astore, ↓y_iinc, ↓y_cI, ↓y_cL, ↓y_bin, ↓y_binL, ↓y_div, ↓y_divL, ↓y_lshl, ↓y_un, ↓y_i2l, ↓y_lneg, ↓y_l2i, ↓y_lcmp, ↓y_dupI, ↓y_dupR, ↓y_dup2, ↓y_pop, ↓y_goto, ↓y_eq0, ↓y_lt0, ↓y_le0, ↓y_eq, ↓y_lt, ↓y_le, ↓y_switch, ↓y_sw0, ↓y_sw1, ↓y_getI, ↓y_getL, ↓y_getR, ↓y_getT, ↓y_putI, ↓y_putZ, ↓y_putL, ↓y_putT, ↓y_iald, ↓y_bald, ↓y_lald, ↓y_aald, ↓y_iast, ↓y_bast, ↓y_last, ↓y_alen, ↓y_iret, ↓y_zret, ↓y_lret, ↓y_vret, ↓y_svI, ↓y_svL, ↓y_svV, ↓y_ivI, ↓y_ivL, ↓y_ivV, ↓y_max, ↓y_min, ↓y_absL, ↓y_cpI, ↓y_cpL, ↓x_n1I, ↓x_n1L, ↓x_n1R, ↓x_n0I, ↓x_n0L, ↓x_n0R, ↓x_s0, ↓x_s1i, ↓x_s1r, ↓x_s1n, ↓x_s2, ↓x_c0, ↓x_c2, ↓x_tk0, ↓x_tk1, ↓x_rcv, x_rI1, x_rL1, x_rV1, x_rIn, x_rLn, x_rVn, x_rIf, x_rLf, x_rVf, x_40, x_41, x_42, x_43, x_44, ↓reduceIte, if_true, if_false, ao_iadd, ao_isub, ao_imul, ao_iand, ao_ior, ao_ishl, ao_ishr, ao_iushr, ao_ladd, ao_lsub, ao_lmul, ao_land, ao_lor, ao_idiv, ao_irem, ao_ldiv, ao_lrem, ao_ineg, ao_i2b, ao_i2s, Nat.reduceAdd, Nat.reduceMul, Nat.reduceSub, Nat.reduceEqDiff, Nat.reduceLeDiff, and_self, true_and, x_lit, x_ofn, x_z0, x_z1, x_inbT, x_ltT, x_ltF, x_leT, x_leF, x_eqF, x_eqT, x_inb, x_lt, x_le, x_eq, x_cl, x_sub, nI_add, pk_mul, x_m1e, x_m1e', x_m1l, x_m1n, x_m1s, Nat.not_lt_zero, x_zb, x_b0, x_b1, decide_eq_false_iff_not, decide_eq_true_eq, Bool.false_eq_true, Bool.true_eq_false, k1, kd_3]
            · simp (disch := omega) only [↓rf_e3, ↓it_s, ↓y_iload, ↓y_lload, ↓y_aload, ↓y_istore, ↓y_lstore, ↓y_astore, ↓y_iinc, ↓y_cI, ↓y_cL, ↓y_bin, ↓y_binL, ↓y_div, ↓y_divL, ↓y_lshl, ↓y_un, ↓y_i2l, ↓y_lneg, ↓y_l2i, ↓y_lcmp, ↓y_dupI, ↓y_dupR, ↓y_dup2, ↓y_pop, ↓y_goto, ↓y_eq0, ↓y_lt0, ↓y_le0, ↓y_eq, ↓y_lt, ↓y_le, ↓y_switch, ↓y_sw0, ↓y_sw1, ↓y_getI, ↓y_getL, ↓y_getR, ↓y_getT, ↓y_putI, ↓y_putZ, ↓y_putL, ↓y_putT, ↓y_iald, ↓y_bald, ↓y_lald, ↓y_aald, ↓y_iast, ↓y_bast, ↓y_last, ↓y_alen, ↓y_iret, ↓y_zret, ↓y_lret, ↓y_vret, ↓y_svI, ↓y_svL, ↓y_svV, ↓y_ivI, ↓y_ivL, ↓y_ivV, ↓y_max, ↓y_min, ↓y_absL, ↓y_cpI, ↓y_cpL, ↓x_n1I, ↓x_n1L, ↓x_n1R, ↓x_n0I, ↓x_n0L, ↓x_n0R, ↓x_s0, ↓x_s1i, ↓x_s1r, ↓x_s1n, ↓x_s2, ↓x_c0, ↓x_c2, ↓x_tk0, ↓x_tk1, ↓x_rcv, x_rI1, x_rL1, x_rV1, x_rIn, x_rLn, x_rVn, x_rIf, x_rLf, x_rVf, x_40, x_41, x_42, x_43, x_44, ↓reduceIte, if_true, if_false, ao_iadd, ao_isub, ao_imul, ao_iand, ao_ior, ao_ishl, ao_ishr, ao_iushr, ao_ladd, ao_lsub, ao_lmul, ao_land, ao_lor, ao_idiv, ao_irem, ao_ldiv, ao_lrem, ao_ineg, ao_i2b, ao_i2s, Nat.reduceAdd, Nat.reduceMul, Nat.reduceSub, Nat.reduceEqDiff, Nat.reduceLeDiff, and_self, true_and, x_lit, x_ofn, x_z0, x_z1, x_inbT, x_ltT, x_ltF, x_leT, x_leF, x_eqF, x_eqT, x_inb, x_lt, x_le, x_eq, x_cl, x_sub, nI_add, pk_mul, x_m1e, x_m1e', x_m1l, x_m1n, x_m1s, Nat.not_lt_zero, x_zb, x_b0, x_b1, decide_eq_false_iff_not, decide_eq_true_eq, Bool.false_eq_true, Bool.true_eq_false, ei, wd, b2_f, hbe2, r1, kd_123, kd_128, ln_128]
          obtain ⟨ρ3, k1, k2, k3⟩ := j1 hdr
          rw [decide_eq_true hdr] at wd
          have hkf := tw_kd hdr
          have hge := (tq_le (t := t) hfe).2
          have hgt5 := tq_gt hfe (show tkd t e f ≠ 0 by omega)
          obtain ⟨z0, z1'⟩ := M_behindT (lo := 0) (hi := 20) hMf hfe hmf h12f (by omega) (by omega)
          obtain ⟨g, eg⟩ : ∃ g, g = tq t e f := ⟨_, rfl⟩
          have hg3 := k2.1
          rw [← eg] at hge hgt5 hg3 z0 z1'
          have hXg := TX_fr hXf k3
          have hR3 := fR_tr hR2 k3
          obtain ⟨l1', l0'⟩ := X_wantNumber (lo := 0) (hi := 20) hXg hge hg3 (by omega) (by omega)
          cases hno : isNo t e 0 20 g with
          | false =>
            obtain ⟨τx, g1, g2⟩ := l0' hno
            obtain ⟨μ4, h41, h42, h43⟩ := z0 hno
            obtain ⟨τ2, r1, r2, r3⟩ := rb4 (k := k) (w := 1908 + k) (σ := am_uI (bdM μ4 (noK t e g) (tp t e g)) 128 (1914 + k) (nI 0)) (by rw [uI_n (by omega)]; exact bdM_12 _ _ _) (noK_12 t e g).1 (noK_12 t e g).2 (by omega) (by omega)
            refine F_bad (ρ := ρ3) ?_ (noK_12 t e _) g2 hR3 (fPm_uc (k := 1914 + k) (v := nI 0) (fPm_bd (fPm_tr hmf3 (fPm_T h43))) (by omega)) (by rw [uI_n (by omega)]; exact bdM_12 _ _ _) (by rw [uI_n (by omega)]; exact bdM_13 _ _ _) (hRP3 τ2 ?_) r2 r3
            · simp (disch := omega) only [↓e_X9_takeField_72, ↓e_X9_takeField_91, ↓it_s, ↓y_iload, ↓y_lload, ↓y_aload, ↓y_istore, ↓y_lstore, ↓y_astore, ↓y_iinc, ↓y_cI, ↓y_cL, ↓y_bin, ↓y_binL, ↓y_div, ↓y_divL, ↓y_lshl, ↓y_un, ↓y_i2l, ↓y_lneg, ↓y_l2i, ↓y_lcmp, ↓y_dupI, ↓y_dupR, ↓y_dup2, ↓y_pop, ↓y_goto, ↓y_eq0, ↓y_lt0, ↓y_le0, ↓y_eq, ↓y_lt, ↓y_le, ↓y_switch, ↓y_sw0, ↓y_sw1, ↓y_getI, ↓y_getL, ↓y_getR, ↓y_getT, ↓y_putI, ↓y_putZ, ↓y_putL, ↓y_putT, ↓y_iald, ↓y_bald, ↓y_lald, ↓y_aald, ↓y_iast, ↓y_bast, ↓y_last, ↓y_alen, ↓y_iret, ↓y_zret, ↓y_lret, ↓y_vret, ↓y_svI, ↓y_svL, ↓y_svV, ↓y_ivI, ↓y_ivL, ↓y_ivV, ↓y_max, ↓y_min, ↓y_absL, ↓y_cpI, ↓y_cpL, ↓x_n1I, ↓x_n1L, ↓x_n1R, ↓x_n0I, ↓x_n0L, ↓x_n0R, ↓x_s0, ↓x_s1i, ↓x_s1r, ↓x_s1n, ↓x_s2, ↓x_c0, ↓x_c2, ↓x_tk0, ↓x_tk1, ↓x_rcv, x_rI1, x_rL1, x_rV1, x_rIn, x_rLn, x_rVn, x_rIf, x_rLf, x_rVf, x_40, x_41, x_42, x_43, x_44, ↓reduceIte, if_true, if_false, ao_iadd, ao_isub, ao_imul, ao_iand, ao_ior, ao_ishl, ao_ishr, ao_iushr, ao_ladd, ao_lsub, ao_lmul, ao_land, ao_lor, ao_idiv, ao_irem, ao_ldiv, ao_lrem, ao_ineg, ao_i2b, ao_i2s, Nat.reduceAdd, Nat.reduceMul, Nat.reduceSub, Nat.reduceEqDiff, Nat.reduceLeDiff, and_self, true_and, x_lit, x_ofn, x_z0, x_z1, x_inbT, x_ltT, x_ltF, x_leT, x_leF, x_eqF, x_eqT, x_inb, x_lt, x_le, x_eq, x_cl, x_sub, nI_add, pk_mul, x_m1e, x_m1e', x_m1l, x_m1n, x_m1s, Nat.not_lt_zero, x_zb, x_b0, x_b1, decide_eq_false_iff_not, decide_eq_true_eq, Bool.false_eq_true, Bool.true_eq_false, k1, g1, kd_3]
            · simp (disch := omega) only [↓rf_e3, ↓it_s, ↓y_iload, ↓y_lload, ↓y_aload, ↓y_istore, ↓y_lstore, ↓y_astore, ↓y_iinc, ↓y_cI, ↓y_cL, ↓y_bin, ↓y_binL, ↓y_div, ↓y_divL, ↓y_lshl, ↓y_un, ↓y_i2l, ↓y_lneg, ↓y_l2i, ↓y_lcmp, ↓y_dupI, ↓y_dupR, ↓y_dup2, ↓y_pop, ↓y_goto, ↓y_eq0, ↓y_lt0, ↓y_le0, ↓y_eq, ↓y_lt, ↓y_le, ↓y_switch, ↓y_sw0, ↓y_sw1, ↓y_getI, ↓y_getL, ↓y_getR, ↓y_getT, ↓y_putI, ↓y_putZ, ↓y_putL, ↓y_putT, ↓y_iald, ↓y_bald, ↓y_lald, ↓y_aald, ↓y_iast, ↓y_bast, ↓y_last, ↓y_alen, ↓y_iret, ↓y_zret, ↓y_lret, ↓y_vret, ↓y_svI, ↓y_svL, ↓y_svV, ↓y_ivI, ↓y_ivL, ↓y_ivV, ↓y_max, ↓y_min, ↓y_absL, ↓y_cpI, ↓y_cpL, ↓x_n1I, ↓x_n1L, ↓x_n1R, ↓x_n0I, ↓x_n0L, ↓x_n0R, ↓x_s0, ↓x_s1i, ↓x_s1r, ↓x_s1n, ↓x_s2, ↓x_c0, ↓x_c2, ↓x_tk0, ↓x_tk1, ↓x_rcv, x_rI1, x_rL1, x_rV1, x_rIn, x_rLn, x_rVn, x_rIf, x_rLf, x_rVf, x_40, x_41, x_42, x_43, x_44, ↓reduceIte, if_true, if_false, ao_iadd, ao_isub, ao_imul, ao_iand, ao_ior, ao_ishl, ao_ishr, ao_iushr, ao_ladd, ao_lsub, ao_lmul, ao_land, ao_lor, ao_idiv, ao_irem, ao_ldiv, ao_lrem, ao_ineg, ao_i2b, ao_i2s, Nat.reduceAdd, Nat.reduceMul, Nat.reduceSub, Nat.reduceEqDiff, Nat.reduceLeDiff, and_self, true_and, x_lit, x_ofn, x_z0, x_z1, x_inbT, x_ltT, x_ltF, x_leT, x_leF, x_eqF, x_eqT, x_inb, x_lt, x_le, x_eq, x_cl, x_sub, nI_add, pk_mul, x_m1e, x_m1e', x_m1l, x_m1n, x_m1s, Nat.not_lt_zero, x_zb, x_b0, x_b1, decide_eq_false_iff_not, decide_eq_true_eq, Bool.false_eq_true, Bool.true_eq_false, ei, wd, b2_t, h41, r1, kd_123, kd_128, ln_128]
          | true =>
            obtain ⟨ρ4, g1, g2, g3⟩ := l1' hno
            obtain ⟨μ4, h41, h42, h43⟩ := z1' hno
            obtain ⟨y9, y10, y11⟩ := of_decide_eq_true hno
            have hhe := (tq_le (t := t) hge).2
            have hgt6 := tq_gt hge (show tkd t e g ≠ 0 by omega)
            have h6 := g2.2.2.2.2.1 (Or.inl y9)
            obtain ⟨dr, edr⟩ : ∃ dr, dr = tnum t e g := ⟨_, rfl⟩
            rw [← edr] at h6 h41 y11
            have hR4 := fR_tr hR3 g3
            have h44 : ρ4.1 26 4 = nI k := by rw [(hR4.1 26 (by omega)).1]; exact x4
            have hadd := X_addField (s := s) (dr := dr) (w := lN (keyR 27 r)) h44 hn6
            obtain ⟨ρ5, er5⟩ : ∃ s', s' = fldX ρ4 k (lN (keyR 27 r)) s dr := ⟨_, rfl⟩
            have er5' := er5.symm
            rw [er5'] at hadd
            obtain ⟨μ5, em5⟩ : ∃ s', s' = am_uI μ4 128 (1914 + k) (nI dr) := ⟨_, rfl⟩
            have em5' := em5.symm
            have hRP4 : ∀ τ, rf_4 [some (.ref 123), some (.int (nI k)), some (.int (nI (1908 + k)))] [] μ5 = some (none, τ) → S_X11_readPart [.ref 123] σm = some (none, τ) := fun τ hτ => hRP3 τ (by
              simp (disch := omega) only [↓rf_e3, ↓it_s, ↓y_iload, ↓y_lload, ↓y_aload, ↓y_istore, ↓y_lstore, ↓y_astore, ↓y_iinc, ↓y_cI, ↓y_cL, ↓y_bin, ↓y_binL, ↓y_div, ↓y_divL, ↓y_lshl, ↓y_un, ↓y_i2l, ↓y_lneg, ↓y_l2i, ↓y_lcmp, ↓y_dupI, ↓y_dupR, ↓y_dup2, ↓y_pop, ↓y_goto, ↓y_eq0, ↓y_lt0, ↓y_le0, ↓y_eq, ↓y_lt, ↓y_le, ↓y_switch, ↓y_sw0, ↓y_sw1, ↓y_getI, ↓y_getL, ↓y_getR, ↓y_getT, ↓y_putI, ↓y_putZ, ↓y_putL, ↓y_putT, ↓y_iald, ↓y_bald, ↓y_lald, ↓y_aald, ↓y_iast, ↓y_bast, ↓y_last, ↓y_alen, ↓y_iret, ↓y_zret, ↓y_lret, ↓y_vret, ↓y_svI, ↓y_svL, ↓y_svV, ↓y_ivI, ↓y_ivL, ↓y_ivV, ↓y_max, ↓y_min, ↓y_absL, ↓y_cpI, ↓y_cpL, ↓x_n1I, ↓x_n1L, ↓x_n1R, ↓x_n0I, ↓x_n0L, ↓x_n0R, ↓x_s0, ↓x_s1i, ↓x_s1r, ↓x_s1n, ↓x_s2, ↓x_c0, ↓x_c2, ↓x_tk0, ↓x_tk1, ↓x_rcv, x_rI1, x_rL1, x_rV1, x_rIn, x_rLn, x_rVn, x_rIf, x_rLf, x_rVf, x_40, x_41, x_42, x_43, x_44, ↓reduceIte, if_true, if_false, ao_iadd, ao_isub, ao_imul, ao_iand, ao_ior, ao_ishl, ao_ishr, ao_iushr, ao_ladd, ao_lsub, ao_lmul, ao_land, ao_lor, ao_idiv, ao_irem, ao_ldiv, ao_lrem, ao_ineg, ao_i2b, ao_i2s, Nat.reduceAdd, Nat.reduceMul, Nat.reduceSub, Nat.reduceEqDiff, Nat.reduceLeDiff, and_self, true_and, x_lit, x_ofn, x_z0, x_z1, x_inbT, x_ltT, x_ltF, x_leT, x_leF, x_eqF, x_eqT, x_inb, x_lt, x_le, x_eq, x_cl, x_sub, nI_add, pk_mul, x_m1e, x_m1e', x_m1l, x_m1n, x_m1s, Nat.not_lt_zero, x_zb, x_b0, x_b1, decide_eq_false_iff_not, decide_eq_true_eq, Bool.false_eq_true, Bool.true_eq_false, ei, wd, b2_t, h41, em5', hτ, kd_123, kd_128, ln_128])
            have hF5 : ∀ j, j ≠ 26 → (j < 38 ∨ 42 < j) → ρ5.1 j = ρ4.1 j := fun j p q => by
              rw [er5]; unfold fldX
              rw [uI_n p, uI_n (by omega), uI_n (by omega), uI_n (by omega), uI_n (by omega), uI_n (by omega)]; rfl
            have h526 : ρ5.1 26 4 = nI (k + 1) := by rw [er5]; unfold fldX; rw [uI_s, up_s]
            have h5265 : ρ5.1 26 5 = ρ4.1 26 5 := by
              rw [er5]; unfold fldX
              rw [uI_s, up_n (by omega), uI_n (by omega), uI_n (by omega), uI_n (by omega), uI_n (by omega), uI_n (by omega)]; rfl
            have h538 : ρ5.1 38 = va_up (ρ4.1 38) k (nI s) := by
              rw [er5]; unfold fldX
              rw [uI_n (by omega), uI_n (by omega), uI_n (by omega), uI_n (by omega), uI_n (by omega), uI_s]; rfl
            have h539 : ρ5.1 39 = va_up (ρ4.1 39) k (nI dr) := by
              rw [er5]; unfold fldX
              rw [uI_n (by omega), uI_n (by omega), uI_n (by omega), uI_n (by omega), uI_s, uI_n (by omega)]; rfl
            have h540 : ρ5.1 40 = va_up (ρ4.1 40) k (nI 10) := by
              rw [er5]; unfold fldX
              rw [uI_n (by omega), uI_n (by omega), uI_n (by omega), uI_s, uI_n (by omega), uI_n (by omega)]; rfl
            have h541 : ρ5.1 41 = va_up (ρ4.1 41) k (nI 99) := by
              rw [er5]; unfold fldX
              rw [uI_n (by omega), uI_n (by omega), uI_s, uI_n (by omega), uI_n (by omega), uI_n (by omega)]; rfl
            have h542 : ρ5.1 42 = va_up (ρ4.1 42) k (nI 0) := by
              rw [er5]; unfold fldX
              rw [uI_n (by omega), uI_s, uI_n (by omega), uI_n (by omega), uI_n (by omega), uI_n (by omega)]; rfl
            have h5L : ρ5.2 = va_up ρ4.2 37 (va_up (ρ4.2 37) k (lN (keyR 27 r))) := by
              rw [er5]; unfold fldX
              rfl
            have hX5 : TX ρ5 t e := by
              obtain ⟨i1', i2', i3', i4', i5', i6'⟩ := TX_fr hXg g3
              exact ⟨by rw [hF5 3 (by omega) (by omega)]; exact i1', by rw [hF5 3 (by omega) (by omega)]; exact i2', i3', i4', fun j hj => by rw [hF5 2 (by omega) (by omega)]; exact i5' j hj, fun i hi => by rw [h5L, up_n (by omega)]; exact i6' i hi⟩
            have h53 : ρ5.1 3 3 = nI (tq t e g) := by rw [hF5 3 (by omega) (by omega)]; exact g2.1
            have hM4 := TM_fr hMf h43
            have hM5 : TM μ5 t e := by rw [em5]; exact TM_uo hM4 (by omega) (by omega)
            have hm5 : TokM t e (tq t e g) μ5 := by rw [em5]; exact TokM_uo h42 (by omega)
            have h125 : μ5.1 123 12 = nI 0 := by rw [em5, uI_n (by omega), h43.2.1 12 (by omega)]; exact h12f
            have h128 : ∀ i, i ≠ 1908 + k → i ≠ 1914 + k → μ5.1 128 i = σm.1 128 i := fun i p q => by
              rw [em5, uI_s, up_n q, (h43.1 128 (by omega)).1, em3, uI_s, up_n p, (hF2.1 128 (by omega)).1]; rfl
            have hFO := P_water (σm := σm) hn6 hX5 hhe h53 hM5 hm5 h125 (by rw [h128 _ (by omega) (by omega)]; exact m5) (by rw [h540, up_s]) (by rw [h541, up_s]) hRP4
            have hfx5 : fPx σx ρ5 := by
              rw [er5]; unfold fldX
              exact fPx_uI (fPx_uI (fPx_uI (fPx_uI (fPx_uI (fPx_uI (fPx_uL (fPx_R hR4) (by omega)) (by omega)) (by omega)) (by omega)) (by omega)) (by omega)) (by omega)
            have hfm5 : fPm σm μ5 := by rw [em5]; exact fPm_uc (fPm_tr hmf3 (fPm_T h43)) (by omega)
            rcases hFO with ⟨τx, τm, q, p, h1, h2, h3, h4, h5', h6', h7', h8, h9, h10⟩ | ⟨wa, hi, τx, τm, m, h1, h2, h3, h4, h5', h6', h7', h8, h9, h10⟩
            · refine Or.inl ⟨τx, τm, q, p, ?_, h2, h3, h4, h5', h6', h7', h8, fPx_tr hfx5 h9, fPm_tr hfm5 h10⟩
              simp (disch := omega) only [↓e_X9_takeField_72, ↓e_X9_takeField_93, ↓it_s, ↓y_iload, ↓y_lload, ↓y_aload, ↓y_istore, ↓y_lstore, ↓y_astore, ↓y_iinc, ↓y_cI, ↓y_cL, ↓y_bin, ↓y_binL, ↓y_div, ↓y_divL, ↓y_lshl, ↓y_un, ↓y_i2l, ↓y_lneg, ↓y_l2i, ↓y_lcmp, ↓y_dupI, ↓y_dupR, ↓y_dup2, ↓y_pop, ↓y_goto, ↓y_eq0, ↓y_lt0, ↓y_le0, ↓y_eq, ↓y_lt, ↓y_le, ↓y_switch, ↓y_sw0, ↓y_sw1, ↓y_getI, ↓y_getL, ↓y_getR, ↓y_getT, ↓y_putI, ↓y_putZ, ↓y_putL, ↓y_putT, ↓y_iald, ↓y_bald, ↓y_lald, ↓y_aald, ↓y_iast, ↓y_bast, ↓y_last, ↓y_alen, ↓y_iret, ↓y_zret, ↓y_lret, ↓y_vret, ↓y_svI, ↓y_svL, ↓y_svV, ↓y_ivI, ↓y_ivL, ↓y_ivV, ↓y_max, ↓y_min, ↓y_absL, ↓y_cpI, ↓y_cpL, ↓x_n1I, ↓x_n1L, ↓x_n1R, ↓x_n0I, ↓x_n0L, ↓x_n0R, ↓x_s0, ↓x_s1i, ↓x_s1r, ↓x_s1n, ↓x_s2, ↓x_c0, ↓x_c2, ↓x_tk0, ↓x_tk1, ↓x_rcv, x_rI1, x_rL1, x_rV1, x_rIn, x_rLn, x_rVn, x_rIf, x_rLf, x_rVf, x_40, x_41, x_42, x_43, x_44, ↓reduceIte, if_true, if_false, ao_iadd, ao_isub, ao_imul, ao_iand, ao_ior, ao_ishl, ao_ishr, ao_iushr, ao_ladd, ao_lsub, ao_lmul, ao_land, ao_lor, ao_idiv, ao_irem, ao_ldiv, ao_lrem, ao_ineg, ao_i2b, ao_i2s, Nat.reduceAdd, Nat.reduceMul, Nat.reduceSub, Nat.reduceEqDiff, Nat.reduceLeDiff, and_self, true_and, x_lit, x_ofn, x_z0, x_z1, x_inbT, x_ltT, x_ltF, x_leT, x_leF, x_eqF, x_eqT, x_inb, x_lt, x_le, x_eq, x_cl, x_sub, nI_add, pk_mul, x_m1e, x_m1e', x_m1l, x_m1n, x_m1s, Nat.not_lt_zero, x_zb, x_b0, x_b1, decide_eq_false_iff_not, decide_eq_true_eq, Bool.false_eq_true, Bool.true_eq_false, k1, g1, h6, h44, hadd, h1, kd_3, kd_6, kd_26]
            · have hsg : ∀ j, j ≠ 3 → τx.1 j = (am_uI (am_uI ρ5 40 k (nI wa)) 41 k (nI hi)).1 j := fun j hj => (h5'.1 j hj).1
              have hsl' : ∀ j, j ≠ 3 → τx.2 j = ρ5.2 j := fun j hj => (h5'.1 j hj).2
              have hmg : τm.1 128 = (am_uI (am_uI (am_uI μ5 128 (1920 + k) (nI wa)) 128 (1926 + k) (nI hi)) 128 1773 (nI (k + 1))).1 128 := (h6'.1 128 (by omega)).1
              refine Or.inr ⟨τx, τm, addF V k s dr wa hi, Ns, Nf ++ [r], rT, lT, dT, cT, X, m, ?_, h4, ?_, h10, by omega, ?_, ?_, ?_, ?_⟩
              · simp (disch := omega) only [↓e_X9_takeField_72, ↓e_X9_takeField_93, ↓it_s, ↓y_iload, ↓y_lload, ↓y_aload, ↓y_istore, ↓y_lstore, ↓y_astore, ↓y_iinc, ↓y_cI, ↓y_cL, ↓y_bin, ↓y_binL, ↓y_div, ↓y_divL, ↓y_lshl, ↓y_un, ↓y_i2l, ↓y_lneg, ↓y_l2i, ↓y_lcmp, ↓y_dupI, ↓y_dupR, ↓y_dup2, ↓y_pop, ↓y_goto, ↓y_eq0, ↓y_lt0, ↓y_le0, ↓y_eq, ↓y_lt, ↓y_le, ↓y_switch, ↓y_sw0, ↓y_sw1, ↓y_getI, ↓y_getL, ↓y_getR, ↓y_getT, ↓y_putI, ↓y_putZ, ↓y_putL, ↓y_putT, ↓y_iald, ↓y_bald, ↓y_lald, ↓y_aald, ↓y_iast, ↓y_bast, ↓y_last, ↓y_alen, ↓y_iret, ↓y_zret, ↓y_lret, ↓y_vret, ↓y_svI, ↓y_svL, ↓y_svV, ↓y_ivI, ↓y_ivL, ↓y_ivV, ↓y_max, ↓y_min, ↓y_absL, ↓y_cpI, ↓y_cpL, ↓x_n1I, ↓x_n1L, ↓x_n1R, ↓x_n0I, ↓x_n0L, ↓x_n0R, ↓x_s0, ↓x_s1i, ↓x_s1r, ↓x_s1n, ↓x_s2, ↓x_c0, ↓x_c2, ↓x_tk0, ↓x_tk1, ↓x_rcv, x_rI1, x_rL1, x_rV1, x_rIn, x_rLn, x_rVn, x_rIf, x_rLf, x_rVf, x_40, x_41, x_42, x_43, x_44, ↓reduceIte, if_true, if_false, ao_iadd, ao_isub, ao_imul, ao_iand, ao_ior, ao_ishl, ao_ishr, ao_iushr, ao_ladd, ao_lsub, ao_lmul, ao_land, ao_lor, ao_idiv, ao_irem, ao_ldiv, ao_lrem, ao_ineg, ao_i2b, ao_i2s, Nat.reduceAdd, Nat.reduceMul, Nat.reduceSub, Nat.reduceEqDiff, Nat.reduceLeDiff, and_self, true_and, x_lit, x_ofn, x_z0, x_z1, x_inbT, x_ltT, x_ltF, x_leT, x_leF, x_eqF, x_eqT, x_inb, x_lt, x_le, x_eq, x_cl, x_sub, nI_add, pk_mul, x_m1e, x_m1e', x_m1l, x_m1n, x_m1s, Nat.not_lt_zero, x_zb, x_b0, x_b1, decide_eq_false_iff_not, decide_eq_true_eq, Bool.false_eq_true, Bool.true_eq_false, k1, g1, h6, h44, hadd, h3, kd_3, kd_6, kd_26]
              · refine PS_field hP ek hn6 z2 z3 hsl y11 h1 h2 ?_ ?_ ?_ ?_ ?_ ?_ ?_ ?_ ?_ ?_ ?_ ?_ ?_ ?_ ?_ ?_ ?_ ?_ ?_ ?_ h7' h8 ?_
                · intro j p q w
                  rw [hsg j p, uI_n (by omega), uI_n (by omega), hF5 j w q, (hR4.1 j p).1]
                · rw [hsg 26 (by omega), uI_n (by omega), uI_n (by omega)]; exact h526
                · rw [hsg 26 (by omega), uI_n (by omega), uI_n (by omega), h5265, (hR4.1 26 (by omega)).1]
                · rw [hsg 38 (by omega), uI_n (by omega), uI_n (by omega), h538, (hR4.1 38 (by omega)).1]
                · rw [hsg 39 (by omega), uI_n (by omega), uI_n (by omega), h539, (hR4.1 39 (by omega)).1]
                · rw [hsg 40 (by omega), uI_n (by omega), uI_s, h540, (hR4.1 40 (by omega)).1, va_ov]
                · rw [hsg 41 (by omega), uI_s, uI_n (by omega), h541, (hR4.1 41 (by omega)).1, va_ov]
                · rw [hsg 42 (by omega), uI_n (by omega), uI_n (by omega), h542, (hR4.1 42 (by omega)).1]
                · rw [hsl' 37 (by omega), h5L, up_s, (hR4.1 37 (by omega)).2]
                · rw [hsl' 36 (by omega), h5L, up_n (by omega), (hR4.1 36 (by omega)).2]
                · exact TX_fr (TX_uI (TX_uI hX5 (by omega) (by omega)) (by omega) (by omega)) h5'
                · intro i p q
                  rw [h6'.2.1 i (by omega), uI_n (by omega), uI_n (by omega), uI_n (by omega), em5, uI_n (by omega), h43.2.1 i (by omega), em3, uI_n (by omega), hF2.2.1 i (by omega)]
                  rfl
                · intro i p1 p2 p3 p4 p5
                  rw [hmg, uI_s, up_n p1, uI_s, up_n p5, uI_s, up_n p4]; exact h128 i p2 p3
                · rw [hmg, uI_s, up_s]
                · rw [hmg, uI_s, up_n (by omega), uI_s, up_n (by omega), uI_s, up_n (by omega), em5, uI_s, up_n (by omega), (h43.1 128 (by omega)).1, em3, uI_s, up_s]
                · rw [hmg, uI_s, up_n (by omega), uI_s, up_n (by omega), uI_s, up_n (by omega), em5, uI_s, up_s]
                · rw [hmg, uI_s, up_n (by omega), uI_s, up_n (by omega), uI_s, up_s]
                · rw [hmg, uI_s, up_n (by omega), uI_s, up_s]
                · rw [(h6'.1 131 (by omega)).2, uI_2, uI_2, uI_2, em5, uI_2, (h43.1 131 (by omega)).2, em3, uI_2, (hF2.1 131 (by omega)).2, uL_s]
                · exact TM_fr (TM_uo (TM_uo (TM_uo hM5 (by omega) (by omega)) (by omega) (by omega)) (by omega) (by omega)) h6'
                · rw [h6'.2.1 12 (by omega), uI_n (by omega), uI_n (by omega), uI_n (by omega)]; exact h125
              · rw [h5'.2 10 (by omega), uI_n (by omega), uI_n (by omega), hF5 3 (by omega) (by omega), hR4.2 10 (by omega)]
              · rw [h5'.2 11 (by omega), uI_n (by omega), uI_n (by omega), hF5 3 (by omega) (by omega), hR4.2 11 (by omega)]
              · exact fPx_tr hfx5 (fPx_tr (fPx_uI (fPx_uI (fPx_rf _) (by omega)) (by omega)) (fPx_R h5'))
              · exact fPm_tr hfm5 (fPm_tr (fPm_uc (fPm_uc (fPm_uc (fPm_rf _) (by omega)) (by omega)) (by omega)) (fPm_T h6'))
