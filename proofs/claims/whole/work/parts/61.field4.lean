/-! a field is told: water; all of it -/
theorem uI_ov (σ : am_M) (h k : Nat) (x y : Int32) : am_uI (am_uI σ h k x) h k y = am_uI σ h k y := by
  simp only [uI_uA, uA_s, uA_uA]
  congr 1
  funext j
  by_cases e1 : j = k
  · subst e1; rw [up_s, up_s]
  · rw [up_n e1, up_n e1, up_n e1]
theorem uI_cmh (σ : am_M) {h j : Nat} (k l : Nat) (x y : Int32) (hj : h ≠ j) : am_uI (am_uI σ h k x) j l y = am_uI (am_uI σ j l y) h k x := by
  rw [uI_uA, uI_uA, uI_uA, uI_uA, uA_n (fun z => hj z.symm), uA_n hj, uA_comm _ hj]
theorem FOut_base {t : Nat → Nat} {e k j j2 : Nat} {ρ μ ρ2 μ2 : am_M} {rx rm : Option am_R} {x y z : Int32} (h : FOut t e k j2 ρ2 μ2 rx rm) (hj : j ≤ j2) (hx : fR (am_uI ρ 40 k z) ρ2) (hm : fT (am_uI (am_uI μ 128 (1920 + k) x) 128 (1926 + k) y) μ2) : FOut t e k j ρ μ rx rm := by
  have hxf : fPx ρ ρ2 := fPx_tr (fPx_uI (fPx_rf ρ) (by omega)) (fPx_R hx)
  have hmf : fPm μ μ2 := fPm_tr (fPm_uc (fPm_uc (fPm_rf μ) (by omega)) (by omega)) (fPm_T hm)
  rcases h with ⟨τx, τm, q, p, h1, h2, h3, h4, h5, h6, h7, h8, h9, h10⟩ | ⟨wa, hi, τx, τm, m, h1, h2, h3, h4, h5, h6, h7, h8, h9, h10⟩
  · exact Or.inl ⟨τx, τm, q, p, h1, h2, h3, h4, h5, h6, h7, h8, fPx_tr hxf h9, fPm_tr hmf h10⟩
  · refine Or.inr ⟨wa, hi, τx, τm, m, h1, h2, h3, h4, ?_, ?_, h7, h8, by omega, h10⟩
    · have q1 : am_uI (am_uI ρ 40 k z) 40 k (nI wa) = am_uI ρ 40 k (nI wa) := uI_ov _ _ _ _ _
      have q2 := fR_lift (j := 41) (k := k) (v := nI hi) (fR_lift (j := 40) (k := k) (v := nI wa) hx (by omega)) (by omega)
      rw [q1] at q2
      exact fR_tr q2 h5
    · have q2 := fT_lift (j := 128) (k := 1773) (v := nI (k + 1)) (fT_lift (j := 128) (k := 1926 + k) (v := nI hi) (fT_lift (j := 128) (k := 1920 + k) (v := nI wa) hm (by omega)) (by omega)) (by omega)
      have q1 : am_uI (am_uI (am_uI (am_uI μ 128 (1920 + k) x) 128 (1926 + k) y) 128 (1920 + k) (nI wa)) 128 (1926 + k) (nI hi) = am_uI (am_uI μ 128 (1920 + k) (nI wa)) 128 (1926 + k) (nI hi) := by
        rw [uI_cm (am_uI μ 128 (1920 + k) x) 128 y (nI wa) (by omega), uI_ov, uI_ov]
      rw [q1] at q2
      exact fT_tr q2 h6
theorem P_water {t : Nat → Nat} {e k h : Nat} {σm ρ μ : am_M} (hk : k < 6) (hX : TX ρ t e) (hhe : h ≤ e) (h3 : ρ.1 3 3 = nI h) (hM : TM μ t e) (hm : TokM t e h μ) (h12 : μ.1 123 12 = nI 0) (h1773 : μ.1 128 1773 = nI k) (hwx : ρ.1 40 k = nI 10) (hhx : ρ.1 41 k = nI 99)
    (hRP : ∀ τ, rf_4 [some (.ref 123), some (.int (nI k)), some (.int (nI (1908 + k)))] [] μ = some (none, τ) → S_X11_readPart [.ref 123] σm = some (none, τ)) :
    FOut t e k h ρ μ (S_X9_takeWater [.ref 6, .ref 3, .ref 26, .int (nI k)] ρ) (bodyM σm) := by
  obtain ⟨μ1, em1⟩ : ∃ s, s = am_uI (am_uI μ 128 (1920 + k) (nI 10)) 128 (1926 + k) (nI 99) := ⟨_, rfl⟩
  have em1' := em1.symm
  have ei : 1908 + k + 12 = 1920 + k := by omega
  have ei2 : 1908 + k + 18 = 1926 + k := by omega
  have hM1 : TM μ1 t e := by rw [em1]; exact TM_uo (TM_uo hM (by omega) (by omega)) (by omega) (by omega)
  have hm1 : TokM t e h μ1 := by rw [em1]; exact TokM_uo (TokM_uo hm (by omega)) (by omega)
  have h121 : μ1.1 123 12 = nI 0 := by rw [em1, uI_n (by omega), uI_n (by omega)]; exact h12
  have h17 : μ1.1 128 1773 = nI k := by rw [em1, uI_s, up_n (by omega), uI_s, up_n (by omega)]; exact h1773
  have hw1 : μ1.1 128 (1920 + k) = nI 10 := by rw [em1, uI_s, up_n (by omega), uI_s, up_s]
  have hh1 : μ1.1 128 (1926 + k) = nI 99 := by rw [em1, uI_s, up_s]
  have ww := M_isWater hhe hm1
  have hrf : rf_4 [some (.ref 123), some (.int (nI k)), some (.int (nI (1908 + k)))] [] μ = (if twi t e h = some 10 then x_rI (S_X11_behindWord [.ref 123, .int (nI 1), .int (nI 0), .int (nI 99)] μ1) (am_iast dn_X11_readField_107) [some (.ref 123), some (.int (nI k)), some (.int (nI (1908 + k)))] [.int (nI (1920 + k)), .ref 128] else dn_X11_readField_107 [some (.ref 123), some (.int (nI k)), some (.int (nI (1908 + k)))] [] μ1) := by
    by_cases q : twi t e h = some 10
    · rw [if_pos q]
      rw [q] at ww
      simp (disch := omega) only [↓rf_e4, ↓it_s, ↓y_iload, ↓y_lload, ↓y_aload, ↓y_istore, ↓y_lstore, ↓y_astore, ↓y_iinc, ↓y_cI, ↓y_cL, ↓y_bin, ↓y_binL, ↓y_div, ↓y_divL, ↓y_lshl, ↓y_un, ↓y_i2l, ↓y_lneg, ↓y_l2i, ↓y_lcmp, ↓y_dupI, ↓y_dupR, ↓y_dup2, ↓y_pop, ↓y_goto, ↓y_eq0, ↓y_lt0, ↓y_le0, ↓y_eq, ↓y_lt, ↓y_le, ↓y_switch, ↓y_sw0, ↓y_sw1, ↓y_getI, ↓y_getL, ↓y_getR, ↓y_getT, ↓y_putI, ↓y_putZ, ↓y_putL, ↓y_putT, ↓y_iald, ↓y_bald, ↓y_lald, ↓y_aald, ↓y_iast, ↓y_bast, ↓y_last, ↓y_alen, ↓y_iret, ↓y_zret, ↓y_lret, ↓y_vret, ↓y_svI, ↓y_svL, ↓y_svV, ↓y_ivI, ↓y_ivL, ↓y_ivV, ↓y_max, ↓y_min, ↓y_absL, ↓y_cpI, ↓y_cpL, ↓x_n1I, ↓x_n1L, ↓x_n1R, ↓x_n0I, ↓x_n0L, ↓x_n0R, ↓x_s0, ↓x_s1i, ↓x_s1r, ↓x_s1n, ↓x_s2, ↓x_c0, ↓x_c2, ↓x_tk0, ↓x_tk1, ↓x_rcv, x_rI1, x_rL1, x_rV1, x_rIn, x_rLn, x_rVn, x_rIf, x_rLf, x_rVf, x_40, x_41, x_42, x_43, x_44, ↓reduceIte, if_true, if_false, ao_iadd, ao_isub, ao_imul, ao_iand, ao_ior, ao_ishl, ao_ishr, ao_iushr, ao_ladd, ao_lsub, ao_lmul, ao_land, ao_lor, ao_idiv, ao_irem, ao_ldiv, ao_lrem, ao_ineg, ao_i2b, ao_i2s, Nat.reduceAdd, Nat.reduceMul, Nat.reduceSub, Nat.reduceEqDiff, Nat.reduceLeDiff, and_self, true_and, x_lit, x_ofn, x_z0, x_z1, x_inbT, x_ltT, x_ltF, x_leT, x_leF, x_eqF, x_eqT, x_inb, x_lt, x_le, x_eq, x_cl, x_sub, nI_add, pk_mul, x_m1e, x_m1e', x_m1l, x_m1n, x_m1s, Nat.not_lt_zero, x_zb, x_b0, x_b1, decide_eq_false_iff_not, decide_eq_true_eq, Bool.false_eq_true, Bool.true_eq_false, ei, ei2, em1', h121, ww, dsome, Nat.reduceEqDiff, decide_true, b2_t, kd_123, kd_128, ln_128]
    · rw [if_neg q]
      rw [decide_eq_false q] at ww
      simp (disch := omega) only [↓rf_e4, ↓it_s, ↓y_iload, ↓y_lload, ↓y_aload, ↓y_istore, ↓y_lstore, ↓y_astore, ↓y_iinc, ↓y_cI, ↓y_cL, ↓y_bin, ↓y_binL, ↓y_div, ↓y_divL, ↓y_lshl, ↓y_un, ↓y_i2l, ↓y_lneg, ↓y_l2i, ↓y_lcmp, ↓y_dupI, ↓y_dupR, ↓y_dup2, ↓y_pop, ↓y_goto, ↓y_eq0, ↓y_lt0, ↓y_le0, ↓y_eq, ↓y_lt, ↓y_le, ↓y_switch, ↓y_sw0, ↓y_sw1, ↓y_getI, ↓y_getL, ↓y_getR, ↓y_getT, ↓y_putI, ↓y_putZ, ↓y_putL, ↓y_putT, ↓y_iald, ↓y_bald, ↓y_lald, ↓y_aald, ↓y_iast, ↓y_bast, ↓y_last, ↓y_alen, ↓y_iret, ↓y_zret, ↓y_lret, ↓y_vret, ↓y_svI, ↓y_svL, ↓y_svV, ↓y_ivI, ↓y_ivL, ↓y_ivV, ↓y_max, ↓y_min, ↓y_absL, ↓y_cpI, ↓y_cpL, ↓x_n1I, ↓x_n1L, ↓x_n1R, ↓x_n0I, ↓x_n0L, ↓x_n0R, ↓x_s0, ↓x_s1i, ↓x_s1r, ↓x_s1n, ↓x_s2, ↓x_c0, ↓x_c2, ↓x_tk0, ↓x_tk1, ↓x_rcv, x_rI1, x_rL1, x_rV1, x_rIn, x_rLn, x_rVn, x_rIf, x_rLf, x_rVf, x_40, x_41, x_42, x_43, x_44, ↓reduceIte, if_true, if_false, ao_iadd, ao_isub, ao_imul, ao_iand, ao_ior, ao_ishl, ao_ishr, ao_iushr, ao_ladd, ao_lsub, ao_lmul, ao_land, ao_lor, ao_idiv, ao_irem, ao_ldiv, ao_lrem, ao_ineg, ao_i2b, ao_i2s, Nat.reduceAdd, Nat.reduceMul, Nat.reduceSub, Nat.reduceEqDiff, Nat.reduceLeDiff, and_self, true_and, x_lit, x_ofn, x_z0, x_z1, x_inbT, x_ltT, x_ltF, x_leT, x_leF, x_eqF, x_eqT, x_inb, x_lt, x_le, x_eq, x_cl, x_sub, nI_add, pk_mul, x_m1e, x_m1e', x_m1l, x_m1n, x_m1s, Nat.not_lt_zero, x_zb, x_b0, x_b1, decide_eq_false_iff_not, decide_eq_true_eq, Bool.false_eq_true, Bool.true_eq_false, ei, ei2, em1', h121, ww, b2_f, kd_123, kd_128, ln_128]
  obtain ⟨s1, s0⟩ := X_step hX hhe h3
  have hfx0 : fR (am_uI ρ 40 k (nI 10)) ρ := by rw [uI_id hwx]; exact fR_rf _
  by_cases hk4 : tkd t e h = 4
  · -- no token
    obtain ⟨τx, x1, x2, x3, x4⟩ := s0 hk4
    have hno : twi t e h = none := by unfold twi; rw [if_neg (by omega)]
    rw [hno, if_neg (by simp)] at hrf
    have wh := M_isHigh hhe hm1
    rw [hno] at wh
    obtain ⟨μ2, em2⟩ : ∃ s, s = am_uI μ1 128 1773 (nI (k + 1)) := ⟨_, rfl⟩
    have hr := hRP μ2 (by
      rw [hrf, em2]
      simp (disch := omega) only [↓e_X11_readField_107, ↓e_X11_readField_138, ↓e_X11_readField_157, ↓it_s, ↓y_iload, ↓y_lload, ↓y_aload, ↓y_istore, ↓y_lstore, ↓y_astore, ↓y_iinc, ↓y_cI, ↓y_cL, ↓y_bin, ↓y_binL, ↓y_div, ↓y_divL, ↓y_lshl, ↓y_un, ↓y_i2l, ↓y_lneg, ↓y_l2i, ↓y_lcmp, ↓y_dupI, ↓y_dupR, ↓y_dup2, ↓y_pop, ↓y_goto, ↓y_eq0, ↓y_lt0, ↓y_le0, ↓y_eq, ↓y_lt, ↓y_le, ↓y_switch, ↓y_sw0, ↓y_sw1, ↓y_getI, ↓y_getL, ↓y_getR, ↓y_getT, ↓y_putI, ↓y_putZ, ↓y_putL, ↓y_putT, ↓y_iald, ↓y_bald, ↓y_lald, ↓y_aald, ↓y_iast, ↓y_bast, ↓y_last, ↓y_alen, ↓y_iret, ↓y_zret, ↓y_lret, ↓y_vret, ↓y_svI, ↓y_svL, ↓y_svV, ↓y_ivI, ↓y_ivL, ↓y_ivV, ↓y_max, ↓y_min, ↓y_absL, ↓y_cpI, ↓y_cpL, ↓x_n1I, ↓x_n1L, ↓x_n1R, ↓x_n0I, ↓x_n0L, ↓x_n0R, ↓x_s0, ↓x_s1i, ↓x_s1r, ↓x_s1n, ↓x_s2, ↓x_c0, ↓x_c2, ↓x_tk0, ↓x_tk1, ↓x_rcv, x_rI1, x_rL1, x_rV1, x_rIn, x_rLn, x_rVn, x_rIf, x_rLf, x_rVf, x_40, x_41, x_42, x_43, x_44, ↓reduceIte, if_true, if_false, ao_iadd, ao_isub, ao_imul, ao_iand, ao_ior, ao_ishl, ao_ishr, ao_iushr, ao_ladd, ao_lsub, ao_lmul, ao_land, ao_lor, ao_idiv, ao_irem, ao_ldiv, ao_lrem, ao_ineg, ao_i2b, ao_i2s, Nat.reduceAdd, Nat.reduceMul, Nat.reduceSub, Nat.reduceEqDiff, Nat.reduceLeDiff, and_self, true_and, x_lit, x_ofn, x_z0, x_z1, x_inbT, x_ltT, x_ltF, x_leT, x_leF, x_eqF, x_eqT, x_inb, x_lt, x_le, x_eq, x_cl, x_sub, nI_add, pk_mul, x_m1e, x_m1e', x_m1l, x_m1n, x_m1s, Nat.not_lt_zero, x_zb, x_b0, x_b1, decide_eq_false_iff_not, decide_eq_true_eq, Bool.false_eq_true, Bool.true_eq_false, h121, wh, dnone, b2_f, h17, kd_123, kd_128, ln_128])
    have hT2 : TM μ2 t e := by rw [em2]; exact TM_uo hM1 (by omega) (by omega)
    have hk2 : TokM t e h μ2 := by rw [em2]; exact TokM_uo hm1 (by omega)
    have h122 : μ2.1 123 12 = nI 0 := by rw [em2, uI_n (by omega)]; exact h121
    obtain ⟨g1, g0⟩ := body_sg hr hT2 hhe hk2 h122
    have hs : decide (tkd t e h = 3 ∧ tnum t e h = 59) = false := decide_eq_false (fun z => by omega)
    have g0' := g0 hs
    have hak : amk t e h = 1 := by unfold amk; rw [if_pos hk4]
    rw [hak] at g0'
    refine Or.inl ⟨τx, _, 1, tp t e h, ?_, g0', by omega, by omega, x2, x3, bdM_12 _ _ _, bdM_13 _ _ _, fPx_B x4, fPm_bd (by rw [em2, em1]; exact fPm_uc (fPm_uc (fPm_uc (fPm_rf _) (by omega)) (by omega)) (by omega))⟩
    simp (disch := omega) only [g_X9_takeWater, ↓e_X9_takeWater_0, ↓it_s, ↓y_iload, ↓y_lload, ↓y_aload, ↓y_istore, ↓y_lstore, ↓y_astore, ↓y_iinc, ↓y_cI, ↓y_cL, ↓y_bin, ↓y_binL, ↓y_div, ↓y_divL, ↓y_lshl, ↓y_un, ↓y_i2l, ↓y_lneg, ↓y_l2i, ↓y_lcmp, ↓y_dupI, ↓y_dupR, ↓y_dup2, ↓y_pop, ↓y_goto, ↓y_eq0, ↓y_lt0, ↓y_le0, ↓y_eq, ↓y_lt, ↓y_le, ↓y_switch, ↓y_sw0, ↓y_sw1, ↓y_getI, ↓y_getL, ↓y_getR, ↓y_getT, ↓y_putI, ↓y_putZ, ↓y_putL, ↓y_putT, ↓y_iald, ↓y_bald, ↓y_lald, ↓y_aald, ↓y_iast, ↓y_bast, ↓y_last, ↓y_alen, ↓y_iret, ↓y_zret, ↓y_lret, ↓y_vret, ↓y_svI, ↓y_svL, ↓y_svV, ↓y_ivI, ↓y_ivL, ↓y_ivV, ↓y_max, ↓y_min, ↓y_absL, ↓y_cpI, ↓y_cpL, ↓x_n1I, ↓x_n1L, ↓x_n1R, ↓x_n0I, ↓x_n0L, ↓x_n0R, ↓x_s0, ↓x_s1i, ↓x_s1r, ↓x_s1n, ↓x_s2, ↓x_c0, ↓x_c2, ↓x_tk0, ↓x_tk1, ↓x_rcv, x_rI1, x_rL1, x_rV1, x_rIn, x_rLn, x_rVn, x_rIf, x_rLf, x_rVf, x_40, x_41, x_42, x_43, x_44, ↓reduceIte, if_true, if_false, ao_iadd, ao_isub, ao_imul, ao_iand, ao_ior, ao_ishl, ao_ishr, ao_iushr, ao_ladd, ao_lsub, ao_lmul, ao_land, ao_lor, ao_idiv, ao_irem, ao_ldiv, ao_lrem, ao_ineg, ao_i2b, ao_i2s, Nat.reduceAdd, Nat.reduceMul, Nat.reduceSub, Nat.reduceEqDiff, Nat.reduceLeDiff, and_self, true_and, x_lit, x_ofn, x_z0, x_z1, x_inbT, x_ltT, x_ltF, x_leT, x_leF, x_eqF, x_eqT, x_inb, x_lt, x_le, x_eq, x_cl, x_sub, nI_add, pk_mul, x_m1e, x_m1e', x_m1l, x_m1n, x_m1s, Nat.not_lt_zero, x_zb, x_b0, x_b1, decide_eq_false_iff_not, decide_eq_true_eq, Bool.false_eq_true, Bool.true_eq_false, x1, kd_3]
  obtain ⟨ρ1, x1, x2, x3⟩ := s1 hk4
  have h9 := x2.2.2.2.1
  have hX1 := TX_fr hX x3
  have hw40 : ρ1.1 40 k = nI 10 := by rw [(x3.1 40 (by omega)).1]; exact hwx
  have hw41 : ρ1.1 41 k = nI 99 := by rw [(x3.1 41 (by omega)).1]; exact hhx
  by_cases hwt : twi t e h = some 10
  · rw [if_pos hwt] at hrf
    rw [hwt] at h9
    have h9' : ρ1.1 3 9 = nI 10 := h9
    have hkh := tw_kd hwt
    have hie := (tq_le (t := t) hhe).2
    have hgt := tq_gt hhe (show tkd t e h ≠ 0 by omega)
    obtain ⟨n1, n0⟩ := X_wantNumber (lo := 0) (hi := 99) hX1 hie x2.1 (by omega) (by omega)
    obtain ⟨q0, q1⟩ := M_behindT (lo := 0) (hi := 99) hM1 hhe hm1 h121 (by omega) (by omega)
    cases hn : isNo t e 0 99 (tq t e h) with
    | false =>
      obtain ⟨τx, u1, u2, u3, u4⟩ := n0 hn
      obtain ⟨μ2, y1, y2, y3⟩ := q0 hn
      have hno := noK_12 t e (tq t e h)
      obtain ⟨μ3, em3⟩ : ∃ s, s = am_uI (bdM μ2 (noK t e (tq t e h)) (tp t e (tq t e h))) 128 (1920 + k) (nI 0) := ⟨_, rfl⟩
      have h12' : μ3.1 123 12 = nI (noK t e (tq t e h)) := by rw [em3, uI_n (by omega)]; exact bdM_12 _ _ _
      have h13' : μ3.1 123 13 = nI (tp t e (tq t e h)) := by rw [em3, uI_n (by omega)]; exact bdM_13 _ _ _
      have hr := hRP μ3 (by
        rw [hrf]
        rw [em3] at h12' ⊢
        simp (disch := omega) only [↓e_X11_readField_107, ↓e_X11_readField_138, ↓e_X11_readField_157, ↓it_s, ↓y_iload, ↓y_lload, ↓y_aload, ↓y_istore, ↓y_lstore, ↓y_astore, ↓y_iinc, ↓y_cI, ↓y_cL, ↓y_bin, ↓y_binL, ↓y_div, ↓y_divL, ↓y_lshl, ↓y_un, ↓y_i2l, ↓y_lneg, ↓y_l2i, ↓y_lcmp, ↓y_dupI, ↓y_dupR, ↓y_dup2, ↓y_pop, ↓y_goto, ↓y_eq0, ↓y_lt0, ↓y_le0, ↓y_eq, ↓y_lt, ↓y_le, ↓y_switch, ↓y_sw0, ↓y_sw1, ↓y_getI, ↓y_getL, ↓y_getR, ↓y_getT, ↓y_putI, ↓y_putZ, ↓y_putL, ↓y_putT, ↓y_iald, ↓y_bald, ↓y_lald, ↓y_aald, ↓y_iast, ↓y_bast, ↓y_last, ↓y_alen, ↓y_iret, ↓y_zret, ↓y_lret, ↓y_vret, ↓y_svI, ↓y_svL, ↓y_svV, ↓y_ivI, ↓y_ivL, ↓y_ivV, ↓y_max, ↓y_min, ↓y_absL, ↓y_cpI, ↓y_cpL, ↓x_n1I, ↓x_n1L, ↓x_n1R, ↓x_n0I, ↓x_n0L, ↓x_n0R, ↓x_s0, ↓x_s1i, ↓x_s1r, ↓x_s1n, ↓x_s2, ↓x_c0, ↓x_c2, ↓x_tk0, ↓x_tk1, ↓x_rcv, x_rI1, x_rL1, x_rV1, x_rIn, x_rLn, x_rVn, x_rIf, x_rLf, x_rVf, x_40, x_41, x_42, x_43, x_44, ↓reduceIte, if_true, if_false, ao_iadd, ao_isub, ao_imul, ao_iand, ao_ior, ao_ishl, ao_ishr, ao_iushr, ao_ladd, ao_lsub, ao_lmul, ao_land, ao_lor, ao_idiv, ao_irem, ao_ldiv, ao_lrem, ao_ineg, ao_i2b, ao_i2s, Nat.reduceAdd, Nat.reduceMul, Nat.reduceSub, Nat.reduceEqDiff, Nat.reduceLeDiff, and_self, true_and, x_lit, x_ofn, x_z0, x_z1, x_inbT, x_ltT, x_ltF, x_leT, x_leF, x_eqF, x_eqT, x_inb, x_lt, x_le, x_eq, x_cl, x_sub, nI_add, pk_mul, x_m1e, x_m1e', x_m1l, x_m1n, x_m1s, Nat.not_lt_zero, x_zb, x_b0, x_b1, decide_eq_false_iff_not, decide_eq_true_eq, Bool.false_eq_true, Bool.true_eq_false, y1, h12', kd_123, kd_128, ln_128])
      refine Or.inl ⟨τx, μ3, _, _, ?_, body_bad hr h12' hno.1 hno.2, hno.1, hno.2, u2, u3, h12', h13', fPx_tr (fPx_R x3) (fPx_B u4), by rw [em3]; exact fPm_uc (fPm_bd (fPm_tr (by rw [em1]; exact fPm_uc (fPm_uc (fPm_rf μ) (by omega)) (by omega)) (fPm_T y3))) (by omega)⟩
      simp (disch := omega) only [g_X9_takeWater, ↓e_X9_takeWater_0, ↓e_X9_takeWater_9, ↓it_s, ↓y_iload, ↓y_lload, ↓y_aload, ↓y_istore, ↓y_lstore, ↓y_astore, ↓y_iinc, ↓y_cI, ↓y_cL, ↓y_bin, ↓y_binL, ↓y_div, ↓y_divL, ↓y_lshl, ↓y_un, ↓y_i2l, ↓y_lneg, ↓y_l2i, ↓y_lcmp, ↓y_dupI, ↓y_dupR, ↓y_dup2, ↓y_pop, ↓y_goto, ↓y_eq0, ↓y_lt0, ↓y_le0, ↓y_eq, ↓y_lt, ↓y_le, ↓y_switch, ↓y_sw0, ↓y_sw1, ↓y_getI, ↓y_getL, ↓y_getR, ↓y_getT, ↓y_putI, ↓y_putZ, ↓y_putL, ↓y_putT, ↓y_iald, ↓y_bald, ↓y_lald, ↓y_aald, ↓y_iast, ↓y_bast, ↓y_last, ↓y_alen, ↓y_iret, ↓y_zret, ↓y_lret, ↓y_vret, ↓y_svI, ↓y_svL, ↓y_svV, ↓y_ivI, ↓y_ivL, ↓y_ivV, ↓y_max, ↓y_min, ↓y_absL, ↓y_cpI, ↓y_cpL, ↓x_n1I, ↓x_n1L, ↓x_n1R, ↓x_n0I, ↓x_n0L, ↓x_n0R, ↓x_s0, ↓x_s1i, ↓x_s1r, ↓x_s1n, ↓x_s2, ↓x_c0, ↓x_c2, ↓x_tk0, ↓x_tk1, ↓x_rcv, x_rI1, x_rL1, x_rV1, x_rIn, x_rLn, x_rVn, x_rIf, x_rLf, x_rVf, x_40, x_41, x_42, x_43, x_44, ↓reduceIte, if_true, if_false, ao_iadd, ao_isub, ao_imul, ao_iand, ao_ior, ao_ishl, ao_ishr, ao_iushr, ao_ladd, ao_lsub, ao_lmul, ao_land, ao_lor, ao_idiv, ao_irem, ao_ldiv, ao_lrem, ao_ineg, ao_i2b, ao_i2s, Nat.reduceAdd, Nat.reduceMul, Nat.reduceSub, Nat.reduceEqDiff, Nat.reduceLeDiff, and_self, true_and, x_lit, x_ofn, x_z0, x_z1, x_inbT, x_ltT, x_ltF, x_leT, x_leF, x_eqF, x_eqT, x_inb, x_lt, x_le, x_eq, x_cl, x_sub, nI_add, pk_mul, x_m1e, x_m1e', x_m1l, x_m1n, x_m1s, Nat.not_lt_zero, x_zb, x_b0, x_b1, decide_eq_false_iff_not, decide_eq_true_eq, Bool.false_eq_true, Bool.true_eq_false, x1, h9', u1, kd_3]
    | true =>
      obtain ⟨z1, z2, z3⟩ := of_decide_eq_true hn
      obtain ⟨ρ2, u1, u2, u3⟩ := n1 hn
      obtain ⟨μ2, y1, y2, y3⟩ := q1 hn
      have hje := (tq_le (t := t) hie).2
      have hgt2 := tq_gt hie (show tkd t e (tq t e h) ≠ 0 by omega)
      have h6 := u2.2.2.2.2.1 (Or.inl z1)
      obtain ⟨wa, ewa⟩ : ∃ wa, wa = tnum t e (tq t e h) := ⟨_, rfl⟩
      rw [← ewa] at h6 y1 z3
      obtain ⟨ρ3, er3⟩ : ∃ s, s = am_uI ρ2 40 k (nI wa) := ⟨_, rfl⟩
      have er3' := er3.symm
      have hX3 : TX ρ3 t e := by rw [er3]; exact TX_uI (TX_fr hX1 u3) (by omega) (by omega)
      have h33 : ρ3.1 3 3 = nI (tq t e (tq t e h)) := by rw [er3, uI_n (by omega)]; exact u2.1
      obtain ⟨μ3, em3⟩ : ∃ s, s = am_uI μ2 128 (1920 + k) (nI wa) := ⟨_, rfl⟩
      have em3' := em3.symm
      have hM3 : TM μ3 t e := by rw [em3]; exact TM_uo (TM_fr hM1 y3) (by omega) (by omega)
      have hm3 : TokM t e (tq t e (tq t e h)) μ3 := by rw [em3]; exact TokM_uo y2 (by omega)
      have h123 : μ3.1 123 12 = nI 0 := by rw [em3, uI_n (by omega), y3.2.1 12 (by omega)]; exact h121
      have h173 : μ3.1 128 1773 = nI k := by rw [em3, uI_s, up_n (by omega), (y3.1 128 (by omega)).1]; exact h17
      have hw3 : μ3.1 128 (1920 + k) = nI wa := by rw [em3, uI_s, up_s]
      have hh3 : μ3.1 128 (1926 + k) = nI 99 := by rw [em3, uI_s, up_n (by omega), (y3.1 128 (by omega)).1]; exact hh1
      have hrf3 : rf_4 [some (.ref 123), some (.int (nI k)), some (.int (nI (1908 + k)))] [] μ = dn_X11_readField_107 [some (.ref 123), some (.int (nI k)), some (.int (nI (1908 + k)))] [] μ3 := by
        rw [hrf]
        simp (disch := omega) only [↓it_s, ↓y_iload, ↓y_lload, ↓y_aload, ↓y_istore, ↓y_lstore, ↓y_astore, ↓y_iinc, ↓y_cI, ↓y_cL, ↓y_bin, ↓y_binL, ↓y_div, ↓y_divL, ↓y_lshl, ↓y_un, ↓y_i2l, ↓y_lneg, ↓y_l2i, ↓y_lcmp, ↓y_dupI, ↓y_dupR, ↓y_dup2, ↓y_pop, ↓y_goto, ↓y_eq0, ↓y_lt0, ↓y_le0, ↓y_eq, ↓y_lt, ↓y_le, ↓y_switch, ↓y_sw0, ↓y_sw1, ↓y_getI, ↓y_getL, ↓y_getR, ↓y_getT, ↓y_putI, ↓y_putZ, ↓y_putL, ↓y_putT, ↓y_iald, ↓y_bald, ↓y_lald, ↓y_aald, ↓y_iast, ↓y_bast, ↓y_last, ↓y_alen, ↓y_iret, ↓y_zret, ↓y_lret, ↓y_vret, ↓y_svI, ↓y_svL, ↓y_svV, ↓y_ivI, ↓y_ivL, ↓y_ivV, ↓y_max, ↓y_min, ↓y_absL, ↓y_cpI, ↓y_cpL, ↓x_n1I, ↓x_n1L, ↓x_n1R, ↓x_n0I, ↓x_n0L, ↓x_n0R, ↓x_s0, ↓x_s1i, ↓x_s1r, ↓x_s1n, ↓x_s2, ↓x_c0, ↓x_c2, ↓x_tk0, ↓x_tk1, ↓x_rcv, x_rI1, x_rL1, x_rV1, x_rIn, x_rLn, x_rVn, x_rIf, x_rLf, x_rVf, x_40, x_41, x_42, x_43, x_44, ↓reduceIte, if_true, if_false, ao_iadd, ao_isub, ao_imul, ao_iand, ao_ior, ao_ishl, ao_ishr, ao_iushr, ao_ladd, ao_lsub, ao_lmul, ao_land, ao_lor, ao_idiv, ao_irem, ao_ldiv, ao_lrem, ao_ineg, ao_i2b, ao_i2s, Nat.reduceAdd, Nat.reduceMul, Nat.reduceSub, Nat.reduceEqDiff, Nat.reduceLeDiff, and_self, true_and, x_lit, x_ofn, x_z0, x_z1, x_inbT, x_ltT, x_ltF, x_leT, x_leF, x_eqF, x_eqT, x_inb, x_lt, x_le, x_eq, x_cl, x_sub, nI_add, pk_mul, x_m1e, x_m1e', x_m1l, x_m1n, x_m1s, Nat.not_lt_zero, x_zb, x_b0, x_b1, decide_eq_false_iff_not, decide_eq_true_eq, Bool.false_eq_true, Bool.true_eq_false, y1, em3', kd_123, kd_128, ln_128]
      have hfx3 : fR (am_uI ρ 40 k (nI wa)) ρ3 := by rw [er3]; exact fR_lift (fR_tr x3 u3) (by omega)
      have hfm3 : fT (am_uI (am_uI μ 128 (1920 + k) (nI wa)) 128 (1926 + k) (nI 99)) μ3 := by
        have q2 := fT_lift (j := 128) (k := 1920 + k) (v := nI wa) y3 (by omega)
        rw [em1, uI_cm (am_uI μ 128 (1920 + k) (nI 10)) 128 (nI 99) (nI wa) (by omega), uI_ov] at q2
        rw [em3]
        exact q2
      obtain ⟨v1, v0⟩ := X_step hX3 hje h33
      obtain ⟨j, ej⟩ : ∃ j, j = tq t e (tq t e h) := ⟨_, rfl⟩
      rw [← ej] at hje hgt2 hm3 v1 v0
      have hent : S_X9_takeWater [.ref 6, .ref 3, .ref 26, .int (nI k)] ρ = x_rI (S_X3_step [.ref 3] ρ3) (am_eq0 (am_cI 0 am_zret) dn_X9_takeWater_49) [some (.ref 6), some (.ref 3), some (.ref 26), some (.int (nI k))] [] := by
        simp (disch := omega) only [g_X9_takeWater, ↓e_X9_takeWater_0, ↓e_X9_takeWater_9, ↓e_X9_takeWater_30, ↓it_s, ↓y_iload, ↓y_lload, ↓y_aload, ↓y_istore, ↓y_lstore, ↓y_astore, ↓y_iinc, ↓y_cI, ↓y_cL, ↓y_bin, ↓y_binL, ↓y_div, ↓y_divL, ↓y_lshl, ↓y_un, ↓y_i2l, ↓y_lneg, ↓y_l2i, ↓y_lcmp, ↓y_dupI, ↓y_dupR, ↓y_dup2, ↓y_pop, ↓y_goto, ↓y_eq0, ↓y_lt0, ↓y_le0, ↓y_eq, ↓y_lt, ↓y_le, ↓y_switch, ↓y_sw0, ↓y_sw1, ↓y_getI, ↓y_getL, ↓y_getR, ↓y_getT, ↓y_putI, ↓y_putZ, ↓y_putL, ↓y_putT, ↓y_iald, ↓y_bald, ↓y_lald, ↓y_aald, ↓y_iast, ↓y_bast, ↓y_last, ↓y_alen, ↓y_iret, ↓y_zret, ↓y_lret, ↓y_vret, ↓y_svI, ↓y_svL, ↓y_svV, ↓y_ivI, ↓y_ivL, ↓y_ivV, ↓y_max, ↓y_min, ↓y_absL, ↓y_cpI, ↓y_cpL, ↓x_n1I, ↓x_n1L, ↓x_n1R, ↓x_n0I, ↓x_n0L, ↓x_n0R, ↓x_s0, ↓x_s1i, ↓x_s1r, ↓x_s1n, ↓x_s2, ↓x_c0, ↓x_c2, ↓x_tk0, ↓x_tk1, ↓x_rcv, x_rI1, x_rL1, x_rV1, x_rIn, x_rLn, x_rVn, x_rIf, x_rLf, x_rVf, x_40, x_41, x_42, x_43, x_44, ↓reduceIte, if_true, if_false, ao_iadd, ao_isub, ao_imul, ao_iand, ao_ior, ao_ishl, ao_ishr, ao_iushr, ao_ladd, ao_lsub, ao_lmul, ao_land, ao_lor, ao_idiv, ao_irem, ao_ldiv, ao_lrem, ao_ineg, ao_i2b, ao_i2s, Nat.reduceAdd, Nat.reduceMul, Nat.reduceSub, Nat.reduceEqDiff, Nat.reduceLeDiff, and_self, true_and, x_lit, x_ofn, x_z0, x_z1, x_inbT, x_ltT, x_ltF, x_leT, x_leF, x_eqF, x_eqT, x_inb, x_lt, x_le, x_eq, x_cl, x_sub, nI_add, pk_mul, x_m1e, x_m1e', x_m1l, x_m1n, x_m1s, Nat.not_lt_zero, x_zb, x_b0, x_b1, decide_eq_false_iff_not, decide_eq_true_eq, Bool.false_eq_true, Bool.true_eq_false, x1, h9', u1, h6, er3', kd_3, kd_26, kd_40, ln_40]
      by_cases hj4 : tkd t e j = 4
      · obtain ⟨τx, r1, r2, r3, r4⟩ := v0 hj4
        have hno : twi t e j = none := by unfold twi; rw [if_neg (by omega)]
        have wh := M_isHigh hje hm3
        rw [hno] at wh
        obtain ⟨μ4, em4⟩ : ∃ s, s = am_uI μ3 128 1773 (nI (k + 1)) := ⟨_, rfl⟩
        have hr := hRP μ4 (by
          rw [hrf3, em4]
          simp (disch := omega) only [↓e_X11_readField_107, ↓e_X11_readField_138, ↓e_X11_readField_157, ↓it_s, ↓y_iload, ↓y_lload, ↓y_aload, ↓y_istore, ↓y_lstore, ↓y_astore, ↓y_iinc, ↓y_cI, ↓y_cL, ↓y_bin, ↓y_binL, ↓y_div, ↓y_divL, ↓y_lshl, ↓y_un, ↓y_i2l, ↓y_lneg, ↓y_l2i, ↓y_lcmp, ↓y_dupI, ↓y_dupR, ↓y_dup2, ↓y_pop, ↓y_goto, ↓y_eq0, ↓y_lt0, ↓y_le0, ↓y_eq, ↓y_lt, ↓y_le, ↓y_switch, ↓y_sw0, ↓y_sw1, ↓y_getI, ↓y_getL, ↓y_getR, ↓y_getT, ↓y_putI, ↓y_putZ, ↓y_putL, ↓y_putT, ↓y_iald, ↓y_bald, ↓y_lald, ↓y_aald, ↓y_iast, ↓y_bast, ↓y_last, ↓y_alen, ↓y_iret, ↓y_zret, ↓y_lret, ↓y_vret, ↓y_svI, ↓y_svL, ↓y_svV, ↓y_ivI, ↓y_ivL, ↓y_ivV, ↓y_max, ↓y_min, ↓y_absL, ↓y_cpI, ↓y_cpL, ↓x_n1I, ↓x_n1L, ↓x_n1R, ↓x_n0I, ↓x_n0L, ↓x_n0R, ↓x_s0, ↓x_s1i, ↓x_s1r, ↓x_s1n, ↓x_s2, ↓x_c0, ↓x_c2, ↓x_tk0, ↓x_tk1, ↓x_rcv, x_rI1, x_rL1, x_rV1, x_rIn, x_rLn, x_rVn, x_rIf, x_rLf, x_rVf, x_40, x_41, x_42, x_43, x_44, ↓reduceIte, if_true, if_false, ao_iadd, ao_isub, ao_imul, ao_iand, ao_ior, ao_ishl, ao_ishr, ao_iushr, ao_ladd, ao_lsub, ao_lmul, ao_land, ao_lor, ao_idiv, ao_irem, ao_ldiv, ao_lrem, ao_ineg, ao_i2b, ao_i2s, Nat.reduceAdd, Nat.reduceMul, Nat.reduceSub, Nat.reduceEqDiff, Nat.reduceLeDiff, and_self, true_and, x_lit, x_ofn, x_z0, x_z1, x_inbT, x_ltT, x_ltF, x_leT, x_leF, x_eqF, x_eqT, x_inb, x_lt, x_le, x_eq, x_cl, x_sub, nI_add, pk_mul, x_m1e, x_m1e', x_m1l, x_m1n, x_m1s, Nat.not_lt_zero, x_zb, x_b0, x_b1, decide_eq_false_iff_not, decide_eq_true_eq, Bool.false_eq_true, Bool.true_eq_false, h123, wh, dnone, b2_f, h173, kd_123, kd_128, ln_128])
        have hT2 : TM μ4 t e := by rw [em4]; exact TM_uo hM3 (by omega) (by omega)
        have hk2 : TokM t e j μ4 := by rw [em4]; exact TokM_uo hm3 (by omega)
        have h122 : μ4.1 123 12 = nI 0 := by rw [em4, uI_n (by omega)]; exact h123
        obtain ⟨g1, g0⟩ := body_sg hr hT2 hje hk2 h122
        have hs : decide (tkd t e j = 3 ∧ tnum t e j = 59) = false := decide_eq_false (fun z => by omega)
        have g0' := g0 hs
        have hak : amk t e j = 1 := by unfold amk; rw [if_pos hj4]
        rw [hak] at g0'
        refine Or.inl ⟨τx, _, 1, tp t e j, ?_, g0', by omega, by omega, r2, r3, bdM_12 _ _ _, bdM_13 _ _ _, fPx_tr (fPx_tr (fPx_uI (fPx_rf ρ) (by omega)) (fPx_R hfx3)) (fPx_B r4), fPm_bd (by rw [em4]; exact fPm_uc (fPm_tr (fPm_uc (fPm_uc (fPm_rf μ) (by omega)) (by omega)) (fPm_T hfm3)) (by omega))⟩
        rw [hent]
        simp (disch := omega) only [↓it_s, ↓y_iload, ↓y_lload, ↓y_aload, ↓y_istore, ↓y_lstore, ↓y_astore, ↓y_iinc, ↓y_cI, ↓y_cL, ↓y_bin, ↓y_binL, ↓y_div, ↓y_divL, ↓y_lshl, ↓y_un, ↓y_i2l, ↓y_lneg, ↓y_l2i, ↓y_lcmp, ↓y_dupI, ↓y_dupR, ↓y_dup2, ↓y_pop, ↓y_goto, ↓y_eq0, ↓y_lt0, ↓y_le0, ↓y_eq, ↓y_lt, ↓y_le, ↓y_switch, ↓y_sw0, ↓y_sw1, ↓y_getI, ↓y_getL, ↓y_getR, ↓y_getT, ↓y_putI, ↓y_putZ, ↓y_putL, ↓y_putT, ↓y_iald, ↓y_bald, ↓y_lald, ↓y_aald, ↓y_iast, ↓y_bast, ↓y_last, ↓y_alen, ↓y_iret, ↓y_zret, ↓y_lret, ↓y_vret, ↓y_svI, ↓y_svL, ↓y_svV, ↓y_ivI, ↓y_ivL, ↓y_ivV, ↓y_max, ↓y_min, ↓y_absL, ↓y_cpI, ↓y_cpL, ↓x_n1I, ↓x_n1L, ↓x_n1R, ↓x_n0I, ↓x_n0L, ↓x_n0R, ↓x_s0, ↓x_s1i, ↓x_s1r, ↓x_s1n, ↓x_s2, ↓x_c0, ↓x_c2, ↓x_tk0, ↓x_tk1, ↓x_rcv, x_rI1, x_rL1, x_rV1, x_rIn, x_rLn, x_rVn, x_rIf, x_rLf, x_rVf, x_40, x_41, x_42, x_43, x_44, ↓reduceIte, if_true, if_false, ao_iadd, ao_isub, ao_imul, ao_iand, ao_ior, ao_ishl, ao_ishr, ao_iushr, ao_ladd, ao_lsub, ao_lmul, ao_land, ao_lor, ao_idiv, ao_irem, ao_ldiv, ao_lrem, ao_ineg, ao_i2b, ao_i2s, Nat.reduceAdd, Nat.reduceMul, Nat.reduceSub, Nat.reduceEqDiff, Nat.reduceLeDiff, and_self, true_and, x_lit, x_ofn, x_z0, x_z1, x_inbT, x_ltT, x_ltF, x_leT, x_leF, x_eqF, x_eqT, x_inb, x_lt, x_le, x_eq, x_cl, x_sub, nI_add, pk_mul, x_m1e, x_m1e', x_m1l, x_m1n, x_m1s, Nat.not_lt_zero, x_zb, x_b0, x_b1, decide_eq_false_iff_not, decide_eq_true_eq, Bool.false_eq_true, Bool.true_eq_false, r1]
      · obtain ⟨ρ4, r1, r2, r3⟩ := v1 hj4
        have hF := P_high (σm := σm) (wa := wa) hk (TX_fr hX3 r3) hje hj4 r2 hM3 hm3 h123 h173 z3 hw3 (by rw [(r3.1 40 (by omega)).1, er3, uI_s, up_s]) hh3 (by rw [(r3.1 41 (by omega)).1, er3, uI_n (by omega), (u3.1 41 (by omega)).1]; exact hw41) (fun τ hτ => hRP τ (by rw [hrf3]; exact hτ))
        have hcl : S_X9_takeWater [.ref 6, .ref 3, .ref 26, .int (nI k)] ρ = dn_X9_takeWater_49 [some (.ref 6), some (.ref 3), some (.ref 26), some (.int (nI k))] [] ρ4 := by
          rw [hent]
          simp (disch := omega) only [↓it_s, ↓y_iload, ↓y_lload, ↓y_aload, ↓y_istore, ↓y_lstore, ↓y_astore, ↓y_iinc, ↓y_cI, ↓y_cL, ↓y_bin, ↓y_binL, ↓y_div, ↓y_divL, ↓y_lshl, ↓y_un, ↓y_i2l, ↓y_lneg, ↓y_l2i, ↓y_lcmp, ↓y_dupI, ↓y_dupR, ↓y_dup2, ↓y_pop, ↓y_goto, ↓y_eq0, ↓y_lt0, ↓y_le0, ↓y_eq, ↓y_lt, ↓y_le, ↓y_switch, ↓y_sw0, ↓y_sw1, ↓y_getI, ↓y_getL, ↓y_getR, ↓y_getT, ↓y_putI, ↓y_putZ, ↓y_putL, ↓y_putT, ↓y_iald, ↓y_bald, ↓y_lald, ↓y_aald, ↓y_iast, ↓y_bast, ↓y_last, ↓y_alen, ↓y_iret, ↓y_zret, ↓y_lret, ↓y_vret, ↓y_svI, ↓y_svL, ↓y_svV, ↓y_ivI, ↓y_ivL, ↓y_ivV, ↓y_max, ↓y_min, ↓y_absL, ↓y_cpI, ↓y_cpL, ↓x_n1I, ↓x_n1L, ↓x_n1R, ↓x_n0I, ↓x_n0L, ↓x_n0R, ↓x_s0, ↓x_s1i, ↓x_s1r, ↓x_s1n, ↓x_s2, ↓x_c0, ↓x_c2, ↓x_tk0, ↓x_tk1, ↓x_rcv, x_rI1, x_rL1, x_rV1, x_rIn, x_rLn, x_rVn, x_rIf, x_rLf, x_rVf, x_40, x_41, x_42, x_43, x_44, ↓reduceIte, if_true, if_false, ao_iadd, ao_isub, ao_imul, ao_iand, ao_ior, ao_ishl, ao_ishr, ao_iushr, ao_ladd, ao_lsub, ao_lmul, ao_land, ao_lor, ao_idiv, ao_irem, ao_ldiv, ao_lrem, ao_ineg, ao_i2b, ao_i2s, Nat.reduceAdd, Nat.reduceMul, Nat.reduceSub, Nat.reduceEqDiff, Nat.reduceLeDiff, and_self, true_and, x_lit, x_ofn, x_z0, x_z1, x_inbT, x_ltT, x_ltF, x_leT, x_leF, x_eqF, x_eqT, x_inb, x_lt, x_le, x_eq, x_cl, x_sub, nI_add, pk_mul, x_m1e, x_m1e', x_m1l, x_m1n, x_m1s, Nat.not_lt_zero, x_zb, x_b0, x_b1, decide_eq_false_iff_not, decide_eq_true_eq, Bool.false_eq_true, Bool.true_eq_false, r1]
        rw [hcl]
        exact FOut_base hF (by omega) (fR_tr hfx3 r3) hfm3
  · rw [if_neg hwt] at hrf
    have hF := P_high (σm := σm) (wa := 10) hk hX1 hhe hk4 x2 hM1 hm1 h121 h17 (by omega) hw1 hw40 hh1 hw41 (fun τ hτ => hRP τ (by rw [hrf]; exact hτ))
    have hcl : S_X9_takeWater [.ref 6, .ref 3, .ref 26, .int (nI k)] ρ = dn_X9_takeWater_49 [some (.ref 6), some (.ref 3), some (.ref 26), some (.int (nI k))] [] ρ1 := by
      cases ho : twi t e h with
      | none =>
        rw [ho] at h9
        have h9' : ρ1.1 3 9 = -nI 1 := h9
        simp (disch := omega) only [g_X9_takeWater, ↓e_X9_takeWater_0, ↓e_X9_takeWater_9, ↓it_s, ↓y_iload, ↓y_lload, ↓y_aload, ↓y_istore, ↓y_lstore, ↓y_astore, ↓y_iinc, ↓y_cI, ↓y_cL, ↓y_bin, ↓y_binL, ↓y_div, ↓y_divL, ↓y_lshl, ↓y_un, ↓y_i2l, ↓y_lneg, ↓y_l2i, ↓y_lcmp, ↓y_dupI, ↓y_dupR, ↓y_dup2, ↓y_pop, ↓y_goto, ↓y_eq0, ↓y_lt0, ↓y_le0, ↓y_eq, ↓y_lt, ↓y_le, ↓y_switch, ↓y_sw0, ↓y_sw1, ↓y_getI, ↓y_getL, ↓y_getR, ↓y_getT, ↓y_putI, ↓y_putZ, ↓y_putL, ↓y_putT, ↓y_iald, ↓y_bald, ↓y_lald, ↓y_aald, ↓y_iast, ↓y_bast, ↓y_last, ↓y_alen, ↓y_iret, ↓y_zret, ↓y_lret, ↓y_vret, ↓y_svI, ↓y_svL, ↓y_svV, ↓y_ivI, ↓y_ivL, ↓y_ivV, ↓y_max, ↓y_min, ↓y_absL, ↓y_cpI, ↓y_cpL, ↓x_n1I, ↓x_n1L, ↓x_n1R, ↓x_n0I, ↓x_n0L, ↓x_n0R, ↓x_s0, ↓x_s1i, ↓x_s1r, ↓x_s1n, ↓x_s2, ↓x_c0, ↓x_c2, ↓x_tk0, ↓x_tk1, ↓x_rcv, x_rI1, x_rL1, x_rV1, x_rIn, x_rLn, x_rVn, x_rIf, x_rLf, x_rVf, x_40, x_41, x_42, x_43, x_44, ↓reduceIte, if_true, if_false, ao_iadd, ao_isub, ao_imul, ao_iand, ao_ior, ao_ishl, ao_ishr, ao_iushr, ao_ladd, ao_lsub, ao_lmul, ao_land, ao_lor, ao_idiv, ao_irem, ao_ldiv, ao_lrem, ao_ineg, ao_i2b, ao_i2s, Nat.reduceAdd, Nat.reduceMul, Nat.reduceSub, Nat.reduceEqDiff, Nat.reduceLeDiff, and_self, true_and, x_lit, x_ofn, x_z0, x_z1, x_inbT, x_ltT, x_ltF, x_leT, x_leF, x_eqF, x_eqT, x_inb, x_lt, x_le, x_eq, x_cl, x_sub, nI_add, pk_mul, x_m1e, x_m1e', x_m1l, x_m1n, x_m1s, Nat.not_lt_zero, x_zb, x_b0, x_b1, decide_eq_false_iff_not, decide_eq_true_eq, Bool.false_eq_true, Bool.true_eq_false, x1, h9', kd_3]
      | some i =>
        rw [ho] at h9
        have h9' : ρ1.1 3 9 = nI i := h9
        have hi := kwi_tw ho
        have hj2 : ¬ i = 10 := fun q => hwt (by rw [ho, q])
        simp (disch := omega) only [g_X9_takeWater, ↓e_X9_takeWater_0, ↓e_X9_takeWater_9, ↓it_s, ↓y_iload, ↓y_lload, ↓y_aload, ↓y_istore, ↓y_lstore, ↓y_astore, ↓y_iinc, ↓y_cI, ↓y_cL, ↓y_bin, ↓y_binL, ↓y_div, ↓y_divL, ↓y_lshl, ↓y_un, ↓y_i2l, ↓y_lneg, ↓y_l2i, ↓y_lcmp, ↓y_dupI, ↓y_dupR, ↓y_dup2, ↓y_pop, ↓y_goto, ↓y_eq0, ↓y_lt0, ↓y_le0, ↓y_eq, ↓y_lt, ↓y_le, ↓y_switch, ↓y_sw0, ↓y_sw1, ↓y_getI, ↓y_getL, ↓y_getR, ↓y_getT, ↓y_putI, ↓y_putZ, ↓y_putL, ↓y_putT, ↓y_iald, ↓y_bald, ↓y_lald, ↓y_aald, ↓y_iast, ↓y_bast, ↓y_last, ↓y_alen, ↓y_iret, ↓y_zret, ↓y_lret, ↓y_vret, ↓y_svI, ↓y_svL, ↓y_svV, ↓y_ivI, ↓y_ivL, ↓y_ivV, ↓y_max, ↓y_min, ↓y_absL, ↓y_cpI, ↓y_cpL, ↓x_n1I, ↓x_n1L, ↓x_n1R, ↓x_n0I, ↓x_n0L, ↓x_n0R, ↓x_s0, ↓x_s1i, ↓x_s1r, ↓x_s1n, ↓x_s2, ↓x_c0, ↓x_c2, ↓x_tk0, ↓x_tk1, ↓x_rcv, x_rI1, x_rL1, x_rV1, x_rIn, x_rLn, x_rVn, x_rIf, x_rLf, x_rVf, x_40, x_41, x_42, x_43, x_44, ↓reduceIte, if_true, if_false, ao_iadd, ao_isub, ao_imul, ao_iand, ao_ior, ao_ishl, ao_ishr, ao_iushr, ao_ladd, ao_lsub, ao_lmul, ao_land, ao_lor, ao_idiv, ao_irem, ao_ldiv, ao_lrem, ao_ineg, ao_i2b, ao_i2s, Nat.reduceAdd, Nat.reduceMul, Nat.reduceSub, Nat.reduceEqDiff, Nat.reduceLeDiff, and_self, true_and, x_lit, x_ofn, x_z0, x_z1, x_inbT, x_ltT, x_ltF, x_leT, x_leF, x_eqF, x_eqT, x_inb, x_lt, x_le, x_eq, x_cl, x_sub, nI_add, pk_mul, x_m1e, x_m1e', x_m1l, x_m1n, x_m1s, Nat.not_lt_zero, x_zb, x_b0, x_b1, decide_eq_false_iff_not, decide_eq_true_eq, Bool.false_eq_true, Bool.true_eq_false, x1, h9', kd_3]
    rw [hcl]
    exact FOut_base hF (Nat.le_refl _) (fR_tr hfx0 x3) (by rw [← em1]; exact fT_rf _)
