/-! new names, both sides; suits -/
theorem fT_lift {a b : am_M} {j k : Nat} {v : Int32} (h : fT a b) (hj : j ≠ 123) : fT (am_uI a j k v) (am_uI b j k v) := by
  refine ⟨fun i hi => ⟨?_, (h.1 i hi).2⟩, fun i hi => ?_, h.2.2⟩
  · by_cases e : i = j
    · subst e; rw [uI_s, uI_s, (h.1 i hi).1]
    · rw [uI_n e, uI_n e]; exact (h.1 i hi).1
  · rw [uI_n (fun z => hj z.symm), uI_n (fun z => hj z.symm)]; exact h.2.1 i hi
theorem fR_lift {a b : am_M} {j k : Nat} {v : Int32} (h : fR a b) (hj : j ≠ 3) : fR (am_uI a j k v) (am_uI b j k v) := by
  refine ⟨fun i hi => ⟨?_, (h.1 i hi).2⟩, fun i hi => ?_⟩
  · by_cases e : i = j
    · subst e; rw [uI_s, uI_s, (h.1 i hi).1]
    · rw [uI_n e, uI_n e]; exact (h.1 i hi).1
  · rw [uI_n (fun z => hj z.symm), uI_n (fun z => hj z.symm)]; exact h.2 i hi
theorem TokM_uL {t : Nat → Nat} {e a j k : Nat} {v : Int64} {σ : am_M} (h : TokM t e a σ) (hj : j ≠ 123) : TokM t e a (am_uL σ j k v) := by
  obtain ⟨h1, h2, h3, h4, h5⟩ := h
  exact ⟨h1, h2, h3, h4, fun z => ⟨(h5 z).1, by rw [uL_n (fun y => hj y.symm)]; exact (h5 z).2⟩⟩
theorem isNm_ok {t : Nat → Nat} {e a : Nat} (hae : a ≤ e) (h : isNm t e a = true) : tkd t e a = 1 ∧ okL (twd t e a) ∧ (twd t e a).length ≤ 8 ∧ wkM (twd t e a) = lN (keyR 32 (twd t e a)) := by
  obtain ⟨h1, h2, h3⟩ := of_decide_eq_true h
  exact ⟨h1, (twd_ok hae h1).1, h3, by unfold wkM; rw [if_pos h3]⟩
/-- whether a name is taken -/
def tkn (Ns Nf : List (List Nat)) (r : List Nat) : Bool := (nmI Ns r).isSome || (nmI Nf r).isSome
theorem M_readNew {t : Nat → Nat} {e a s k : Nat} {σ : am_M} {Ns Nf : List (List Nat)} (hT : TM σ t e) (hae : a ≤ e) (h : TokM t e a σ) (h12 : σ.1 123 12 = nI 0) (hs : s ≤ 1) (h1 : σ.1 128 1769 = nI Ns.length) (h5 : σ.1 128 1773 = nI Nf.length) (l1 : Ns.length ≤ 4) (l5 : Nf.length ≤ 6) (oN : okN Ns) (oF : okN Nf) (nN : NmM σ 40 Ns) (nF : NmM σ 44 Nf) (hk : k = if s = 0 then Ns.length else Nf.length) :
    (k = (if s = 0 then 4 else 6) → S_X11_readNew [.ref 123, .int (nI s), .int (nI (if s = 0 then 4 else 6))] σ = some (some (.int (nI 0)), bdM σ 6 (tp t e a))) ∧
    (k < (if s = 0 then 4 else 6) → isNm t e (tq t e a) = false → ∃ τ, S_X11_readNew [.ref 123, .int (nI s), .int (nI (if s = 0 then 4 else 6))] σ = some (some (.int (nI 0)), bdM τ (amk t e (tq t e a)) (tp t e (tq t e a))) ∧ fT σ τ ∧ TokM t e (tq t e a) τ) ∧
    (k < (if s = 0 then 4 else 6) → isNm t e (tq t e a) = true → tkn Ns Nf (twd t e (tq t e a)) = true → ∃ τ, S_X11_readNew [.ref 123, .int (nI s), .int (nI (if s = 0 then 4 else 6))] σ = some (some (.int (nI 0)), bdM τ 3 (tp t e (tq t e a))) ∧ fT σ τ ∧ TokM t e (tq t e a) τ) ∧
    (k < (if s = 0 then 4 else 6) → isNm t e (tq t e a) = true → tkn Ns Nf (twd t e (tq t e a)) = false → ∃ τ, S_X11_readNew [.ref 123, .int (nI s), .int (nI (if s = 0 then 4 else 6))] σ = some (some (.int (nI k)), τ) ∧ TokM t e (tq t e (tq t e a)) τ ∧ fT (am_uL σ 131 (40 + 4 * s + k) (lN (keyR 32 (twd t e (tq t e a))))) τ) := by
  obtain ⟨most, em⟩ : ∃ m, m = if s = 0 then 4 else 6 := ⟨_, rfl⟩
  rw [← em]
  have hm6 : most ≤ 6 ∧ k ≤ most := by
    rw [em, hk]
    split <;> omega
  have hbe := (tq_le (t := t) hae).2
  have h15 := h.1
  obtain ⟨b, eb⟩ : ∃ b, b = tq t e a := ⟨_, rfl⟩
  rw [← eb] at hbe ⊢
  have hent : S_X11_readNew [.ref 123, .int (nI s), .int (nI most)] σ = if k = most then dn_X11_readNew_34 [some (.ref 123), some (.int (nI s)), some (.int (nI most)), some (.int (nI k))] [] (bdM σ 6 (tp t e a)) else dn_X11_readNew_34 [some (.ref 123), some (.int (nI s)), some (.int (nI most)), some (.int (nI k))] [] σ := by
    have hf := M_fail0 (k := 6) (p := tp t e a) h12
    by_cases h0 : s = 0
    · subst h0
      rw [if_pos rfl] at hk em
      rw [← hk] at h1
      by_cases q : k = most
      · rw [if_pos q]
        rw [q] at h1 ⊢
        simp (disch := omega) only [g_X11_readNew, ↓e_X11_readNew_0, ↓e_X11_readNew_16, ↓it_s, ↓y_iload, ↓y_lload, ↓y_aload, ↓y_istore, ↓y_lstore, ↓y_astore, ↓y_iinc, ↓y_cI, ↓y_cL, ↓y_bin, ↓y_binL, ↓y_div, ↓y_divL, ↓y_lshl, ↓y_un, ↓y_i2l, ↓y_lneg, ↓y_l2i, ↓y_lcmp, ↓y_dupI, ↓y_dupR, ↓y_dup2, ↓y_pop, ↓y_goto, ↓y_eq0, ↓y_lt0, ↓y_le0, ↓y_eq, ↓y_lt, ↓y_le, ↓y_switch, ↓y_sw0, ↓y_sw1, ↓y_getI, ↓y_getL, ↓y_getR, ↓y_getT, ↓y_putI, ↓y_putZ, ↓y_putL, ↓y_putT, ↓y_iald, ↓y_bald, ↓y_lald, ↓y_aald, ↓y_iast, ↓y_bast, ↓y_last, ↓y_alen, ↓y_iret, ↓y_zret, ↓y_lret, ↓y_vret, ↓y_svI, ↓y_svL, ↓y_svV, ↓y_ivI, ↓y_ivL, ↓y_ivV, ↓y_max, ↓y_min, ↓y_absL, ↓y_cpI, ↓y_cpL, ↓x_n1I, ↓x_n1L, ↓x_n1R, ↓x_n0I, ↓x_n0L, ↓x_n0R, ↓x_s0, ↓x_s1i, ↓x_s1r, ↓x_s1n, ↓x_s2, ↓x_c0, ↓x_c2, ↓x_tk0, ↓x_tk1, ↓x_rcv, x_rI1, x_rL1, x_rV1, x_rIn, x_rLn, x_rVn, x_rIf, x_rLf, x_rVf, x_40, x_41, x_42, x_43, x_44, ↓reduceIte, if_true, if_false, ao_iadd, ao_isub, ao_imul, ao_iand, ao_ior, ao_ishl, ao_ishr, ao_iushr, ao_ladd, ao_lsub, ao_lmul, ao_land, ao_lor, ao_idiv, ao_irem, ao_ldiv, ao_lrem, ao_ineg, ao_i2b, ao_i2s, Nat.reduceAdd, Nat.reduceMul, Nat.reduceSub, Nat.reduceEqDiff, Nat.reduceLeDiff, and_self, true_and, x_lit, x_ofn, x_z0, x_z1, x_inbT, x_ltT, x_ltF, x_leT, x_leF, x_eqF, x_eqT, x_inb, x_lt, x_le, x_eq, x_cl, x_sub, nI_add, pk_mul, x_m1e, x_m1e', x_m1l, x_m1n, x_m1s, Nat.not_lt_zero, x_zb, x_b0, x_b1, decide_eq_false_iff_not, decide_eq_true_eq, Bool.false_eq_true, Bool.true_eq_false, h1, h15, hf, kd_123, kd_128, ln_128]
      · rw [if_neg q]
        simp (disch := omega) only [g_X11_readNew, ↓e_X11_readNew_0, ↓e_X11_readNew_16, ↓it_s, ↓y_iload, ↓y_lload, ↓y_aload, ↓y_istore, ↓y_lstore, ↓y_astore, ↓y_iinc, ↓y_cI, ↓y_cL, ↓y_bin, ↓y_binL, ↓y_div, ↓y_divL, ↓y_lshl, ↓y_un, ↓y_i2l, ↓y_lneg, ↓y_l2i, ↓y_lcmp, ↓y_dupI, ↓y_dupR, ↓y_dup2, ↓y_pop, ↓y_goto, ↓y_eq0, ↓y_lt0, ↓y_le0, ↓y_eq, ↓y_lt, ↓y_le, ↓y_switch, ↓y_sw0, ↓y_sw1, ↓y_getI, ↓y_getL, ↓y_getR, ↓y_getT, ↓y_putI, ↓y_putZ, ↓y_putL, ↓y_putT, ↓y_iald, ↓y_bald, ↓y_lald, ↓y_aald, ↓y_iast, ↓y_bast, ↓y_last, ↓y_alen, ↓y_iret, ↓y_zret, ↓y_lret, ↓y_vret, ↓y_svI, ↓y_svL, ↓y_svV, ↓y_ivI, ↓y_ivL, ↓y_ivV, ↓y_max, ↓y_min, ↓y_absL, ↓y_cpI, ↓y_cpL, ↓x_n1I, ↓x_n1L, ↓x_n1R, ↓x_n0I, ↓x_n0L, ↓x_n0R, ↓x_s0, ↓x_s1i, ↓x_s1r, ↓x_s1n, ↓x_s2, ↓x_c0, ↓x_c2, ↓x_tk0, ↓x_tk1, ↓x_rcv, x_rI1, x_rL1, x_rV1, x_rIn, x_rLn, x_rVn, x_rIf, x_rLf, x_rVf, x_40, x_41, x_42, x_43, x_44, ↓reduceIte, if_true, if_false, ao_iadd, ao_isub, ao_imul, ao_iand, ao_ior, ao_ishl, ao_ishr, ao_iushr, ao_ladd, ao_lsub, ao_lmul, ao_land, ao_lor, ao_idiv, ao_irem, ao_ldiv, ao_lrem, ao_ineg, ao_i2b, ao_i2s, Nat.reduceAdd, Nat.reduceMul, Nat.reduceSub, Nat.reduceEqDiff, Nat.reduceLeDiff, and_self, true_and, x_lit, x_ofn, x_z0, x_z1, x_inbT, x_ltT, x_ltF, x_leT, x_leF, x_eqF, x_eqT, x_inb, x_lt, x_le, x_eq, x_cl, x_sub, nI_add, pk_mul, x_m1e, x_m1e', x_m1l, x_m1n, x_m1s, Nat.not_lt_zero, x_zb, x_b0, x_b1, decide_eq_false_iff_not, decide_eq_true_eq, Bool.false_eq_true, Bool.true_eq_false, h1, kd_123, kd_128, ln_128]
    · have h1' : s = 1 := by omega
      subst h1'
      rw [if_neg (by omega)] at hk em
      rw [← hk] at h5
      by_cases q : k = most
      · rw [if_pos q]
        rw [q] at h5 ⊢
        simp (disch := omega) only [g_X11_readNew, ↓e_X11_readNew_0, ↓e_X11_readNew_15, ↓e_X11_readNew_16, ↓it_s, ↓y_iload, ↓y_lload, ↓y_aload, ↓y_istore, ↓y_lstore, ↓y_astore, ↓y_iinc, ↓y_cI, ↓y_cL, ↓y_bin, ↓y_binL, ↓y_div, ↓y_divL, ↓y_lshl, ↓y_un, ↓y_i2l, ↓y_lneg, ↓y_l2i, ↓y_lcmp, ↓y_dupI, ↓y_dupR, ↓y_dup2, ↓y_pop, ↓y_goto, ↓y_eq0, ↓y_lt0, ↓y_le0, ↓y_eq, ↓y_lt, ↓y_le, ↓y_switch, ↓y_sw0, ↓y_sw1, ↓y_getI, ↓y_getL, ↓y_getR, ↓y_getT, ↓y_putI, ↓y_putZ, ↓y_putL, ↓y_putT, ↓y_iald, ↓y_bald, ↓y_lald, ↓y_aald, ↓y_iast, ↓y_bast, ↓y_last, ↓y_alen, ↓y_iret, ↓y_zret, ↓y_lret, ↓y_vret, ↓y_svI, ↓y_svL, ↓y_svV, ↓y_ivI, ↓y_ivL, ↓y_ivV, ↓y_max, ↓y_min, ↓y_absL, ↓y_cpI, ↓y_cpL, ↓x_n1I, ↓x_n1L, ↓x_n1R, ↓x_n0I, ↓x_n0L, ↓x_n0R, ↓x_s0, ↓x_s1i, ↓x_s1r, ↓x_s1n, ↓x_s2, ↓x_c0, ↓x_c2, ↓x_tk0, ↓x_tk1, ↓x_rcv, x_rI1, x_rL1, x_rV1, x_rIn, x_rLn, x_rVn, x_rIf, x_rLf, x_rVf, x_40, x_41, x_42, x_43, x_44, ↓reduceIte, if_true, if_false, ao_iadd, ao_isub, ao_imul, ao_iand, ao_ior, ao_ishl, ao_ishr, ao_iushr, ao_ladd, ao_lsub, ao_lmul, ao_land, ao_lor, ao_idiv, ao_irem, ao_ldiv, ao_lrem, ao_ineg, ao_i2b, ao_i2s, Nat.reduceAdd, Nat.reduceMul, Nat.reduceSub, Nat.reduceEqDiff, Nat.reduceLeDiff, and_self, true_and, x_lit, x_ofn, x_z0, x_z1, x_inbT, x_ltT, x_ltF, x_leT, x_leF, x_eqF, x_eqT, x_inb, x_lt, x_le, x_eq, x_cl, x_sub, nI_add, pk_mul, x_m1e, x_m1e', x_m1l, x_m1n, x_m1s, Nat.not_lt_zero, x_zb, x_b0, x_b1, decide_eq_false_iff_not, decide_eq_true_eq, Bool.false_eq_true, Bool.true_eq_false, h5, h15, hf, kd_123, kd_128, ln_128]
      · rw [if_neg q]
        simp (disch := omega) only [g_X11_readNew, ↓e_X11_readNew_0, ↓e_X11_readNew_15, ↓e_X11_readNew_16, ↓it_s, ↓y_iload, ↓y_lload, ↓y_aload, ↓y_istore, ↓y_lstore, ↓y_astore, ↓y_iinc, ↓y_cI, ↓y_cL, ↓y_bin, ↓y_binL, ↓y_div, ↓y_divL, ↓y_lshl, ↓y_un, ↓y_i2l, ↓y_lneg, ↓y_l2i, ↓y_lcmp, ↓y_dupI, ↓y_dupR, ↓y_dup2, ↓y_pop, ↓y_goto, ↓y_eq0, ↓y_lt0, ↓y_le0, ↓y_eq, ↓y_lt, ↓y_le, ↓y_switch, ↓y_sw0, ↓y_sw1, ↓y_getI, ↓y_getL, ↓y_getR, ↓y_getT, ↓y_putI, ↓y_putZ, ↓y_putL, ↓y_putT, ↓y_iald, ↓y_bald, ↓y_lald, ↓y_aald, ↓y_iast, ↓y_bast, ↓y_last, ↓y_alen, ↓y_iret, ↓y_zret, ↓y_lret, ↓y_vret, ↓y_svI, ↓y_svL, ↓y_svV, ↓y_ivI, ↓y_ivL, ↓y_ivV, ↓y_max, ↓y_min, ↓y_absL, ↓y_cpI, ↓y_cpL, ↓x_n1I, ↓x_n1L, ↓x_n1R, ↓x_n0I, ↓x_n0L, ↓x_n0R, ↓x_s0, ↓x_s1i, ↓x_s1r, ↓x_s1n, ↓x_s2, ↓x_c0, ↓x_c2, ↓x_tk0, ↓x_tk1, ↓x_rcv, x_rI1, x_rL1, x_rV1, x_rIn, x_rLn, x_rVn, x_rIf, x_rLf, x_rVf, x_40, x_41, x_42, x_43, x_44, ↓reduceIte, if_true, if_false, ao_iadd, ao_isub, ao_imul, ao_iand, ao_ior, ao_ishl, ao_ishr, ao_iushr, ao_ladd, ao_lsub, ao_lmul, ao_land, ao_lor, ao_idiv, ao_irem, ao_ldiv, ao_lrem, ao_ineg, ao_i2b, ao_i2s, Nat.reduceAdd, Nat.reduceMul, Nat.reduceSub, Nat.reduceEqDiff, Nat.reduceLeDiff, and_self, true_and, x_lit, x_ofn, x_z0, x_z1, x_inbT, x_ltT, x_ltF, x_leT, x_leF, x_eqF, x_eqT, x_inb, x_lt, x_le, x_eq, x_cl, x_sub, nI_add, pk_mul, x_m1e, x_m1e', x_m1l, x_m1n, x_m1s, Nat.not_lt_zero, x_zb, x_b0, x_b1, decide_eq_false_iff_not, decide_eq_true_eq, Bool.false_eq_true, Bool.true_eq_false, h5, kd_123, kd_128, ln_128]
  refine ⟨fun q => ?_, ?_⟩
  · rw [hent, if_pos q]
    have hbd := bdM_12 σ 6 (tp t e a)
    simp (disch := omega) only [↓e_X11_readNew_34, ↓it_s, ↓y_iload, ↓y_lload, ↓y_aload, ↓y_istore, ↓y_lstore, ↓y_astore, ↓y_iinc, ↓y_cI, ↓y_cL, ↓y_bin, ↓y_binL, ↓y_div, ↓y_divL, ↓y_lshl, ↓y_un, ↓y_i2l, ↓y_lneg, ↓y_l2i, ↓y_lcmp, ↓y_dupI, ↓y_dupR, ↓y_dup2, ↓y_pop, ↓y_goto, ↓y_eq0, ↓y_lt0, ↓y_le0, ↓y_eq, ↓y_lt, ↓y_le, ↓y_switch, ↓y_sw0, ↓y_sw1, ↓y_getI, ↓y_getL, ↓y_getR, ↓y_getT, ↓y_putI, ↓y_putZ, ↓y_putL, ↓y_putT, ↓y_iald, ↓y_bald, ↓y_lald, ↓y_aald, ↓y_iast, ↓y_bast, ↓y_last, ↓y_alen, ↓y_iret, ↓y_zret, ↓y_lret, ↓y_vret, ↓y_svI, ↓y_svL, ↓y_svV, ↓y_ivI, ↓y_ivL, ↓y_ivV, ↓y_max, ↓y_min, ↓y_absL, ↓y_cpI, ↓y_cpL, ↓x_n1I, ↓x_n1L, ↓x_n1R, ↓x_n0I, ↓x_n0L, ↓x_n0R, ↓x_s0, ↓x_s1i, ↓x_s1r, ↓x_s1n, ↓x_s2, ↓x_c0, ↓x_c2, ↓x_tk0, ↓x_tk1, ↓x_rcv, x_rI1, x_rL1, x_rV1, x_rIn, x_rLn, x_rVn, x_rIf, x_rLf, x_rVf, x_40, x_41, x_42, x_43, x_44, ↓reduceIte, if_true, if_false, ao_iadd, ao_isub, ao_imul, ao_iand, ao_ior, ao_ishl, ao_ishr, ao_iushr, ao_ladd, ao_lsub, ao_lmul, ao_land, ao_lor, ao_idiv, ao_irem, ao_ldiv, ao_lrem, ao_ineg, ao_i2b, ao_i2s, Nat.reduceAdd, Nat.reduceMul, Nat.reduceSub, Nat.reduceEqDiff, Nat.reduceLeDiff, and_self, true_and, x_lit, x_ofn, x_z0, x_z1, x_inbT, x_ltT, x_ltF, x_leT, x_leF, x_eqF, x_eqT, x_inb, x_lt, x_le, x_eq, x_cl, x_sub, nI_add, pk_mul, x_m1e, x_m1e', x_m1l, x_m1n, x_m1s, Nat.not_lt_zero, x_zb, x_b0, x_b1, decide_eq_false_iff_not, decide_eq_true_eq, Bool.false_eq_true, Bool.true_eq_false, hbd, kd_123]
  -- the name's token
  obtain ⟨σ1, a1, a2, a3⟩ := M_advance hT (by rw [← eb]; exact hbe) h.2.1
  rw [← eb] at a2
  have hT1 := TM_fr hT a3
  have h121 : σ1.1 123 12 = nI 0 := by rw [a3.2.1 12 (by omega)]; exact h12
  have h128 : σ1.1 128 = σ.1 128 := (a3.1 128 (by omega)).1
  have wn := M_isName hT.2.1 hbe a2
  have h58 : k < most → S_X11_readNew [.ref 123, .int (nI s), .int (nI most)] σ = if isNm t e b = true then dn_X11_readNew_58 [some (.ref 123), some (.int (nI s)), some (.int (nI most)), some (.int (nI k))] [] σ1 else dn_X11_readNew_58 [some (.ref 123), some (.int (nI s)), some (.int (nI most)), some (.int (nI k))] [] (bdM σ1 (amk t e b) (tp t e b)) := fun q => by
    have ha := M_amiss a2 h121
    rw [hent, if_neg (by omega)]
    cases z : isNm t e b with
    | true =>
      rw [z] at wn
      rw [if_pos rfl]
      simp (disch := omega) only [↓e_X11_readNew_34, ↓e_X11_readNew_43, ↓it_s, ↓y_iload, ↓y_lload, ↓y_aload, ↓y_istore, ↓y_lstore, ↓y_astore, ↓y_iinc, ↓y_cI, ↓y_cL, ↓y_bin, ↓y_binL, ↓y_div, ↓y_divL, ↓y_lshl, ↓y_un, ↓y_i2l, ↓y_lneg, ↓y_l2i, ↓y_lcmp, ↓y_dupI, ↓y_dupR, ↓y_dup2, ↓y_pop, ↓y_goto, ↓y_eq0, ↓y_lt0, ↓y_le0, ↓y_eq, ↓y_lt, ↓y_le, ↓y_switch, ↓y_sw0, ↓y_sw1, ↓y_getI, ↓y_getL, ↓y_getR, ↓y_getT, ↓y_putI, ↓y_putZ, ↓y_putL, ↓y_putT, ↓y_iald, ↓y_bald, ↓y_lald, ↓y_aald, ↓y_iast, ↓y_bast, ↓y_last, ↓y_alen, ↓y_iret, ↓y_zret, ↓y_lret, ↓y_vret, ↓y_svI, ↓y_svL, ↓y_svV, ↓y_ivI, ↓y_ivL, ↓y_ivV, ↓y_max, ↓y_min, ↓y_absL, ↓y_cpI, ↓y_cpL, ↓x_n1I, ↓x_n1L, ↓x_n1R, ↓x_n0I, ↓x_n0L, ↓x_n0R, ↓x_s0, ↓x_s1i, ↓x_s1r, ↓x_s1n, ↓x_s2, ↓x_c0, ↓x_c2, ↓x_tk0, ↓x_tk1, ↓x_rcv, x_rI1, x_rL1, x_rV1, x_rIn, x_rLn, x_rVn, x_rIf, x_rLf, x_rVf, x_40, x_41, x_42, x_43, x_44, ↓reduceIte, if_true, if_false, ao_iadd, ao_isub, ao_imul, ao_iand, ao_ior, ao_ishl, ao_ishr, ao_iushr, ao_ladd, ao_lsub, ao_lmul, ao_land, ao_lor, ao_idiv, ao_irem, ao_ldiv, ao_lrem, ao_ineg, ao_i2b, ao_i2s, Nat.reduceAdd, Nat.reduceMul, Nat.reduceSub, Nat.reduceEqDiff, Nat.reduceLeDiff, and_self, true_and, x_lit, x_ofn, x_z0, x_z1, x_inbT, x_ltT, x_ltF, x_leT, x_leF, x_eqF, x_eqT, x_inb, x_lt, x_le, x_eq, x_cl, x_sub, nI_add, pk_mul, x_m1e, x_m1e', x_m1l, x_m1n, x_m1s, Nat.not_lt_zero, x_zb, x_b0, x_b1, decide_eq_false_iff_not, decide_eq_true_eq, Bool.false_eq_true, Bool.true_eq_false, h12, a1, wn, b2_t, kd_123]
    | false =>
      rw [z] at wn
      rw [if_neg (by simp)]
      simp (disch := omega) only [↓e_X11_readNew_34, ↓e_X11_readNew_43, ↓it_s, ↓y_iload, ↓y_lload, ↓y_aload, ↓y_istore, ↓y_lstore, ↓y_astore, ↓y_iinc, ↓y_cI, ↓y_cL, ↓y_bin, ↓y_binL, ↓y_div, ↓y_divL, ↓y_lshl, ↓y_un, ↓y_i2l, ↓y_lneg, ↓y_l2i, ↓y_lcmp, ↓y_dupI, ↓y_dupR, ↓y_dup2, ↓y_pop, ↓y_goto, ↓y_eq0, ↓y_lt0, ↓y_le0, ↓y_eq, ↓y_lt, ↓y_le, ↓y_switch, ↓y_sw0, ↓y_sw1, ↓y_getI, ↓y_getL, ↓y_getR, ↓y_getT, ↓y_putI, ↓y_putZ, ↓y_putL, ↓y_putT, ↓y_iald, ↓y_bald, ↓y_lald, ↓y_aald, ↓y_iast, ↓y_bast, ↓y_last, ↓y_alen, ↓y_iret, ↓y_zret, ↓y_lret, ↓y_vret, ↓y_svI, ↓y_svL, ↓y_svV, ↓y_ivI, ↓y_ivL, ↓y_ivV, ↓y_max, ↓y_min, ↓y_absL, ↓y_cpI, ↓y_cpL, ↓x_n1I, ↓x_n1L, ↓x_n1R, ↓x_n0I, ↓x_n0L, ↓x_n0R, ↓x_s0, ↓x_s1i, ↓x_s1r, ↓x_s1n, ↓x_s2, ↓x_c0, ↓x_c2, ↓x_tk0, ↓x_tk1, ↓x_rcv, x_rI1, x_rL1, x_rV1, x_rIn, x_rLn, x_rVn, x_rIf, x_rLf, x_rVf, x_40, x_41, x_42, x_43, x_44, ↓reduceIte, if_true, if_false, ao_iadd, ao_isub, ao_imul, ao_iand, ao_ior, ao_ishl, ao_ishr, ao_iushr, ao_ladd, ao_lsub, ao_lmul, ao_land, ao_lor, ao_idiv, ao_irem, ao_ldiv, ao_lrem, ao_ineg, ao_i2b, ao_i2s, Nat.reduceAdd, Nat.reduceMul, Nat.reduceSub, Nat.reduceEqDiff, Nat.reduceLeDiff, and_self, true_and, x_lit, x_ofn, x_z0, x_z1, x_inbT, x_ltT, x_ltF, x_leT, x_leF, x_eqF, x_eqT, x_inb, x_lt, x_le, x_eq, x_cl, x_sub, nI_add, pk_mul, x_m1e, x_m1e', x_m1l, x_m1n, x_m1s, Nat.not_lt_zero, x_zb, x_b0, x_b1, decide_eq_false_iff_not, decide_eq_true_eq, Bool.false_eq_true, Bool.true_eq_false, h12, a1, wn, b2_f, ha, kd_123]
  refine ⟨fun q z => ?_, ?_⟩
  · refine ⟨σ1, ?_, a3, a2⟩
    rw [h58 q, z, if_neg (by simp)]
    have hbd := bdM_12 σ1 (amk t e b) (tp t e b)
    have hak := amk_12 t e b
    simp (disch := omega) only [↓e_X11_readNew_58, ↓e_X11_readNew_92, ↓it_s, ↓y_iload, ↓y_lload, ↓y_aload, ↓y_istore, ↓y_lstore, ↓y_astore, ↓y_iinc, ↓y_cI, ↓y_cL, ↓y_bin, ↓y_binL, ↓y_div, ↓y_divL, ↓y_lshl, ↓y_un, ↓y_i2l, ↓y_lneg, ↓y_l2i, ↓y_lcmp, ↓y_dupI, ↓y_dupR, ↓y_dup2, ↓y_pop, ↓y_goto, ↓y_eq0, ↓y_lt0, ↓y_le0, ↓y_eq, ↓y_lt, ↓y_le, ↓y_switch, ↓y_sw0, ↓y_sw1, ↓y_getI, ↓y_getL, ↓y_getR, ↓y_getT, ↓y_putI, ↓y_putZ, ↓y_putL, ↓y_putT, ↓y_iald, ↓y_bald, ↓y_lald, ↓y_aald, ↓y_iast, ↓y_bast, ↓y_last, ↓y_alen, ↓y_iret, ↓y_zret, ↓y_lret, ↓y_vret, ↓y_svI, ↓y_svL, ↓y_svV, ↓y_ivI, ↓y_ivL, ↓y_ivV, ↓y_max, ↓y_min, ↓y_absL, ↓y_cpI, ↓y_cpL, ↓x_n1I, ↓x_n1L, ↓x_n1R, ↓x_n0I, ↓x_n0L, ↓x_n0R, ↓x_s0, ↓x_s1i, ↓x_s1r, ↓x_s1n, ↓x_s2, ↓x_c0, ↓x_c2, ↓x_tk0, ↓x_tk1, ↓x_rcv, x_rI1, x_rL1, x_rV1, x_rIn, x_rLn, x_rVn, x_rIf, x_rLf, x_rVf, x_40, x_41, x_42, x_43, x_44, ↓reduceIte, if_true, if_false, ao_iadd, ao_isub, ao_imul, ao_iand, ao_ior, ao_ishl, ao_ishr, ao_iushr, ao_ladd, ao_lsub, ao_lmul, ao_land, ao_lor, ao_idiv, ao_irem, ao_ldiv, ao_lrem, ao_ineg, ao_i2b, ao_i2s, Nat.reduceAdd, Nat.reduceMul, Nat.reduceSub, Nat.reduceEqDiff, Nat.reduceLeDiff, and_self, true_and, x_lit, x_ofn, x_z0, x_z1, x_inbT, x_ltT, x_ltF, x_leT, x_leF, x_eqF, x_eqT, x_inb, x_lt, x_le, x_eq, x_cl, x_sub, nI_add, pk_mul, x_m1e, x_m1e', x_m1l, x_m1n, x_m1s, Nat.not_lt_zero, x_zb, x_b0, x_b1, decide_eq_false_iff_not, decide_eq_true_eq, Bool.false_eq_true, Bool.true_eq_false, hbd, kd_123]
  have key : isNm t e b = true → (S_X11_named [.ref 123, .int (nI 4), .int (nI 0)] σ1 = some (some (.int (optI (nmI Ns (twd t e b)))), σ1) ∧ S_X11_named [.ref 123, .int (nI 4), .int (nI 1)] σ1 = some (some (.int (optI (nmI Nf (twd t e b)))), σ1)) := fun z => by
    obtain ⟨z1, z2, z3, z4⟩ := isNm_ok hbe z
    have h19 := (a2.2.2.2.2 z1).2
    rw [z4] at h19
    exact ⟨M_named (b := 4) (s := 0) (by omega) (by omega) (by rw [h128]; exact h1) (by rw [if_pos rfl]; exact l1) (fun i r w => by rw [(a3.1 131 (by omega)).2]; exact nN i r w) oN z2 z3 h19, M_named (b := 4) (s := 1) (by omega) (by omega) (by rw [h128]; exact h5) (by rw [if_neg (by omega)]; exact l5) (fun i r w => by rw [(a3.1 131 (by omega)).2]; exact nF i r w) oF z2 z3 h19⟩
  refine ⟨fun q z zt => ?_, fun q z zt => ?_⟩
  · obtain ⟨y1, y2⟩ := key z
    have h151 := a2.1
    have hf := M_fail0 (k := 3) (p := tp t e b) h121
    have hbd := bdM_12 σ1 3 (tp t e b)
    refine ⟨σ1, ?_, a3, a2⟩
    rw [h58 q, z, if_pos rfl]
    cases o1 : nmI Ns (twd t e b) with
    | some i =>
      rw [o1] at y1
      have hi := nm_lt o1
      have y1' : S_X11_named [.ref 123, .int (nI 4), .int (nI 0)] σ1 = some (some (.int (nI i)), σ1) := y1
      simp (disch := omega) only [↓e_X11_readNew_58, ↓e_X11_readNew_83, ↓e_X11_readNew_92, ↓it_s, ↓y_iload, ↓y_lload, ↓y_aload, ↓y_istore, ↓y_lstore, ↓y_astore, ↓y_iinc, ↓y_cI, ↓y_cL, ↓y_bin, ↓y_binL, ↓y_div, ↓y_divL, ↓y_lshl, ↓y_un, ↓y_i2l, ↓y_lneg, ↓y_l2i, ↓y_lcmp, ↓y_dupI, ↓y_dupR, ↓y_dup2, ↓y_pop, ↓y_goto, ↓y_eq0, ↓y_lt0, ↓y_le0, ↓y_eq, ↓y_lt, ↓y_le, ↓y_switch, ↓y_sw0, ↓y_sw1, ↓y_getI, ↓y_getL, ↓y_getR, ↓y_getT, ↓y_putI, ↓y_putZ, ↓y_putL, ↓y_putT, ↓y_iald, ↓y_bald, ↓y_lald, ↓y_aald, ↓y_iast, ↓y_bast, ↓y_last, ↓y_alen, ↓y_iret, ↓y_zret, ↓y_lret, ↓y_vret, ↓y_svI, ↓y_svL, ↓y_svV, ↓y_ivI, ↓y_ivL, ↓y_ivV, ↓y_max, ↓y_min, ↓y_absL, ↓y_cpI, ↓y_cpL, ↓x_n1I, ↓x_n1L, ↓x_n1R, ↓x_n0I, ↓x_n0L, ↓x_n0R, ↓x_s0, ↓x_s1i, ↓x_s1r, ↓x_s1n, ↓x_s2, ↓x_c0, ↓x_c2, ↓x_tk0, ↓x_tk1, ↓x_rcv, x_rI1, x_rL1, x_rV1, x_rIn, x_rLn, x_rVn, x_rIf, x_rLf, x_rVf, x_40, x_41, x_42, x_43, x_44, ↓reduceIte, if_true, if_false, ao_iadd, ao_isub, ao_imul, ao_iand, ao_ior, ao_ishl, ao_ishr, ao_iushr, ao_ladd, ao_lsub, ao_lmul, ao_land, ao_lor, ao_idiv, ao_irem, ao_ldiv, ao_lrem, ao_ineg, ao_i2b, ao_i2s, Nat.reduceAdd, Nat.reduceMul, Nat.reduceSub, Nat.reduceEqDiff, Nat.reduceLeDiff, and_self, true_and, x_lit, x_ofn, x_z0, x_z1, x_inbT, x_ltT, x_ltF, x_leT, x_leF, x_eqF, x_eqT, x_inb, x_lt, x_le, x_eq, x_cl, x_sub, nI_add, pk_mul, x_m1e, x_m1e', x_m1l, x_m1n, x_m1s, Nat.not_lt_zero, x_zb, x_b0, x_b1, decide_eq_false_iff_not, decide_eq_true_eq, Bool.false_eq_true, Bool.true_eq_false, h121, h151, y1', hf, hbd, kd_123]
    | none =>
      rw [o1] at y1
      have y1' : S_X11_named [.ref 123, .int (nI 4), .int (nI 0)] σ1 = some (some (.int (-nI 1)), σ1) := y1
      cases o2 : nmI Nf (twd t e b) with
      | none =>
        unfold tkn at zt
        rw [o1, o2] at zt
        cases zt
      | some i =>
        rw [o2] at y2
        have hi := nm_lt o2
        have y2' : S_X11_named [.ref 123, .int (nI 4), .int (nI 1)] σ1 = some (some (.int (nI i)), σ1) := y2
        simp (disch := omega) only [↓e_X11_readNew_58, ↓e_X11_readNew_83, ↓e_X11_readNew_92, ↓it_s, ↓y_iload, ↓y_lload, ↓y_aload, ↓y_istore, ↓y_lstore, ↓y_astore, ↓y_iinc, ↓y_cI, ↓y_cL, ↓y_bin, ↓y_binL, ↓y_div, ↓y_divL, ↓y_lshl, ↓y_un, ↓y_i2l, ↓y_lneg, ↓y_l2i, ↓y_lcmp, ↓y_dupI, ↓y_dupR, ↓y_dup2, ↓y_pop, ↓y_goto, ↓y_eq0, ↓y_lt0, ↓y_le0, ↓y_eq, ↓y_lt, ↓y_le, ↓y_switch, ↓y_sw0, ↓y_sw1, ↓y_getI, ↓y_getL, ↓y_getR, ↓y_getT, ↓y_putI, ↓y_putZ, ↓y_putL, ↓y_putT, ↓y_iald, ↓y_bald, ↓y_lald, ↓y_aald, ↓y_iast, ↓y_bast, ↓y_last, ↓y_alen, ↓y_iret, ↓y_zret, ↓y_lret, ↓y_vret, ↓y_svI, ↓y_svL, ↓y_svV, ↓y_ivI, ↓y_ivL, ↓y_ivV, ↓y_max, ↓y_min, ↓y_absL, ↓y_cpI, ↓y_cpL, ↓x_n1I, ↓x_n1L, ↓x_n1R, ↓x_n0I, ↓x_n0L, ↓x_n0R, ↓x_s0, ↓x_s1i, ↓x_s1r, ↓x_s1n, ↓x_s2, ↓x_c0, ↓x_c2, ↓x_tk0, ↓x_tk1, ↓x_rcv, x_rI1, x_rL1, x_rV1, x_rIn, x_rLn, x_rVn, x_rIf, x_rLf, x_rVf, x_40, x_41, x_42, x_43, x_44, ↓reduceIte, if_true, if_false, ao_iadd, ao_isub, ao_imul, ao_iand, ao_ior, ao_ishl, ao_ishr, ao_iushr, ao_ladd, ao_lsub, ao_lmul, ao_land, ao_lor, ao_idiv, ao_irem, ao_ldiv, ao_lrem, ao_ineg, ao_i2b, ao_i2s, Nat.reduceAdd, Nat.reduceMul, Nat.reduceSub, Nat.reduceEqDiff, Nat.reduceLeDiff, and_self, true_and, x_lit, x_ofn, x_z0, x_z1, x_inbT, x_ltT, x_ltF, x_leT, x_leF, x_eqF, x_eqT, x_inb, x_lt, x_le, x_eq, x_cl, x_sub, nI_add, pk_mul, x_m1e, x_m1e', x_m1l, x_m1n, x_m1s, Nat.not_lt_zero, x_zb, x_b0, x_b1, decide_eq_false_iff_not, decide_eq_true_eq, Bool.false_eq_true, Bool.true_eq_false, h121, h151, y1', y2', hf, hbd, kd_123]
  · obtain ⟨y1, y2⟩ := key z
    obtain ⟨z1, z2, z3, z4⟩ := isNm_ok hbe z
    have h19 := (a2.2.2.2.2 z1).2
    rw [z4] at h19
    have o1 : nmI Ns (twd t e b) = none := by
      unfold tkn at zt
      cases o : nmI Ns (twd t e b) with
      | none => rfl
      | some i => rw [o] at zt; cases zt
    have o2 : nmI Nf (twd t e b) = none := by
      unfold tkn at zt
      cases o : nmI Nf (twd t e b) with
      | none => rfl
      | some i => rw [o1, o] at zt; cases zt
    rw [o1] at y1
    rw [o2] at y2
    have y1' : S_X11_named [.ref 123, .int (nI 4), .int (nI 0)] σ1 = some (some (.int (-nI 1)), σ1) := y1
    have y2' : S_X11_named [.ref 123, .int (nI 4), .int (nI 1)] σ1 = some (some (.int (-nI 1)), σ1) := y2
    obtain ⟨σ2, es2⟩ : ∃ s', s' = am_uL σ1 131 (40 + 4 * s + k) (lN (keyR 32 (twd t e b))) := ⟨_, rfl⟩
    have es2' := es2.symm
    have hT2 : TM σ2 t e := by rw [es2]; exact hT1
    have hk2 : TokM t e b σ2 := by rw [es2]; exact TokM_uL a2 (by omega)
    obtain ⟨τ, c1, c2, c3⟩ := M_advance hT2 (tq_le hbe).2 hk2.2.1
    refine ⟨τ, ?_, c2, ?_⟩
    · rw [h58 q, z, if_pos rfl]
      have h92 : dn_X11_readNew_58 [some (.ref 123), some (.int (nI s)), some (.int (nI most)), some (.int (nI k))] [] σ1 = dn_X11_readNew_101 [some (.ref 123), some (.int (nI s)), some (.int (nI most)), some (.int (nI k))] [] σ1 := by
        simp (disch := omega) only [↓e_X11_readNew_58, ↓e_X11_readNew_92, ↓it_s, ↓y_iload, ↓y_lload, ↓y_aload, ↓y_istore, ↓y_lstore, ↓y_astore, ↓y_iinc, ↓y_cI, ↓y_cL, ↓y_bin, ↓y_binL, ↓y_div, ↓y_divL, ↓y_lshl, ↓y_un, ↓y_i2l, ↓y_lneg, ↓y_l2i, ↓y_lcmp, ↓y_dupI, ↓y_dupR, ↓y_dup2, ↓y_pop, ↓y_goto, ↓y_eq0, ↓y_lt0, ↓y_le0, ↓y_eq, ↓y_lt, ↓y_le, ↓y_switch, ↓y_sw0, ↓y_sw1, ↓y_getI, ↓y_getL, ↓y_getR, ↓y_getT, ↓y_putI, ↓y_putZ, ↓y_putL, ↓y_putT, ↓y_iald, ↓y_bald, ↓y_lald, ↓y_aald, ↓y_iast, ↓y_bast, ↓y_last, ↓y_alen, ↓y_iret, ↓y_zret, ↓y_lret, ↓y_vret, ↓y_svI, ↓y_svL, ↓y_svV, ↓y_ivI, ↓y_ivL, ↓y_ivV, ↓y_max, ↓y_min, ↓y_absL, ↓y_cpI, ↓y_cpL, ↓x_n1I, ↓x_n1L, ↓x_n1R, ↓x_n0I, ↓x_n0L, ↓x_n0R, ↓x_s0, ↓x_s1i, ↓x_s1r, ↓x_s1n, ↓x_s2, ↓x_c0, ↓x_c2, ↓x_tk0, ↓x_tk1, ↓x_rcv, x_rI1, x_rL1, x_rV1, x_rIn, x_rLn, x_rVn, x_rIf, x_rLf, x_rVf, x_40, x_41, x_42, x_43, x_44, ↓reduceIte, if_true, if_false, ao_iadd, ao_isub, ao_imul, ao_iand, ao_ior, ao_ishl, ao_ishr, ao_iushr, ao_ladd, ao_lsub, ao_lmul, ao_land, ao_lor, ao_idiv, ao_irem, ao_ldiv, ao_lrem, ao_ineg, ao_i2b, ao_i2s, Nat.reduceAdd, Nat.reduceMul, Nat.reduceSub, Nat.reduceEqDiff, Nat.reduceLeDiff, and_self, true_and, x_lit, x_ofn, x_z0, x_z1, x_inbT, x_ltT, x_ltF, x_leT, x_leF, x_eqF, x_eqT, x_inb, x_lt, x_le, x_eq, x_cl, x_sub, nI_add, pk_mul, x_m1e, x_m1e', x_m1l, x_m1n, x_m1s, Nat.not_lt_zero, x_zb, x_b0, x_b1, decide_eq_false_iff_not, decide_eq_true_eq, Bool.false_eq_true, Bool.true_eq_false, h121, y1', y2', kd_123]
      rw [h92]
      simp (disch := omega) only [↓e_X11_readNew_101, ↓it_s, ↓y_iload, ↓y_lload, ↓y_aload, ↓y_istore, ↓y_lstore, ↓y_astore, ↓y_iinc, ↓y_cI, ↓y_cL, ↓y_bin, ↓y_binL, ↓y_div, ↓y_divL, ↓y_lshl, ↓y_un, ↓y_i2l, ↓y_lneg, ↓y_l2i, ↓y_lcmp, ↓y_dupI, ↓y_dupR, ↓y_dup2, ↓y_pop, ↓y_goto, ↓y_eq0, ↓y_lt0, ↓y_le0, ↓y_eq, ↓y_lt, ↓y_le, ↓y_switch, ↓y_sw0, ↓y_sw1, ↓y_getI, ↓y_getL, ↓y_getR, ↓y_getT, ↓y_putI, ↓y_putZ, ↓y_putL, ↓y_putT, ↓y_iald, ↓y_bald, ↓y_lald, ↓y_aald, ↓y_iast, ↓y_bast, ↓y_last, ↓y_alen, ↓y_iret, ↓y_zret, ↓y_lret, ↓y_vret, ↓y_svI, ↓y_svL, ↓y_svV, ↓y_ivI, ↓y_ivL, ↓y_ivV, ↓y_max, ↓y_min, ↓y_absL, ↓y_cpI, ↓y_cpL, ↓x_n1I, ↓x_n1L, ↓x_n1R, ↓x_n0I, ↓x_n0L, ↓x_n0R, ↓x_s0, ↓x_s1i, ↓x_s1r, ↓x_s1n, ↓x_s2, ↓x_c0, ↓x_c2, ↓x_tk0, ↓x_tk1, ↓x_rcv, x_rI1, x_rL1, x_rV1, x_rIn, x_rLn, x_rVn, x_rIf, x_rLf, x_rVf, x_40, x_41, x_42, x_43, x_44, ↓reduceIte, if_true, if_false, ao_iadd, ao_isub, ao_imul, ao_iand, ao_ior, ao_ishl, ao_ishr, ao_iushr, ao_ladd, ao_lsub, ao_lmul, ao_land, ao_lor, ao_idiv, ao_irem, ao_ldiv, ao_lrem, ao_ineg, ao_i2b, ao_i2s, Nat.reduceAdd, Nat.reduceMul, Nat.reduceSub, Nat.reduceEqDiff, Nat.reduceLeDiff, and_self, true_and, x_lit, x_ofn, x_z0, x_z1, x_inbT, x_ltT, x_ltF, x_leT, x_leF, x_eqF, x_eqT, x_inb, x_lt, x_le, x_eq, x_cl, x_sub, nI_add, pk_mul, x_m1e, x_m1e', x_m1l, x_m1n, x_m1s, Nat.not_lt_zero, x_zb, x_b0, x_b1, decide_eq_false_iff_not, decide_eq_true_eq, Bool.false_eq_true, Bool.true_eq_false, h19, es2', c1, kd_123, kd_131, ln_131]
    · refine fT_tr ?_ c3
      rw [es2]
      refine ⟨fun j hj => ⟨(a3.1 j hj).1, ?_⟩, a3.2.1, fun i hi => ?_⟩
      · by_cases w : j = 131
        · subst w; rw [uL_s, uL_s, (a3.1 131 hj).2]
        · rw [uL_n w, uL_n w]; exact (a3.1 j hj).2
      · rw [uL_n (by omega), uL_n (by omega)]; exact a3.2.2 i hi
theorem X_wantNewName {t : Nat → Nat} {e b : Nat} {σ : am_M} {Ns Nf : List (List Nat)} (hT : TX σ t e) (hbe : b ≤ e) (h3 : σ.1 3 3 = nI b) (h1 : σ.1 27 7 = nI Ns.length) (h5 : σ.1 26 4 = nI Nf.length) (l1 : Ns.length ≤ 4) (l5 : Nf.length ≤ 6) (oN : okN Ns) (oF : okN Nf) (nN : NmX σ 36 Ns) (nF : NmX σ 37 Nf) :
    (isNm t e b = false → ∃ τ, S_X9_wantNewName [.ref 6, .ref 3, .ref 26] σ = some (some (.int (nI 0)), τ) ∧ XF σ τ (amk t e b) (tp t e b)) ∧
    (isNm t e b = true → tkn Ns Nf (twd t e b) = true → ∃ τ, S_X9_wantNewName [.ref 6, .ref 3, .ref 26] σ = some (some (.int (nI 0)), τ) ∧ XF σ τ 3 (tp t e b)) ∧
    (isNm t e b = true → tkn Ns Nf (twd t e b) = false → ∃ τ, S_X9_wantNewName [.ref 6, .ref 3, .ref 26] σ = some (some (.int (nI 1)), τ) ∧ TokX t e b τ ∧ fR σ τ) := by
  obtain ⟨n1, n0⟩ := X_wantName hT hbe h3
  refine ⟨fun z => ?_, fun z zt => ?_, fun z zt => ?_⟩
  · obtain ⟨τ, a1, a2⟩ := n0 z
    refine ⟨τ, ?_, a2⟩
    simp (disch := omega) only [g_X9_wantNewName, ↓e_X9_wantNewName_0, ↓it_s, ↓y_iload, ↓y_lload, ↓y_aload, ↓y_istore, ↓y_lstore, ↓y_astore, ↓y_iinc, ↓y_cI, ↓y_cL, ↓y_bin, ↓y_binL, ↓y_div, ↓y_divL, ↓y_lshl, ↓y_un, ↓y_i2l, ↓y_lneg, ↓y_l2i, ↓y_lcmp, ↓y_dupI, ↓y_dupR, ↓y_dup2, ↓y_pop, ↓y_goto, ↓y_eq0, ↓y_lt0, ↓y_le0, ↓y_eq, ↓y_lt, ↓y_le, ↓y_switch, ↓y_sw0, ↓y_sw1, ↓y_getI, ↓y_getL, ↓y_getR, ↓y_getT, ↓y_putI, ↓y_putZ, ↓y_putL, ↓y_putT, ↓y_iald, ↓y_bald, ↓y_lald, ↓y_aald, ↓y_iast, ↓y_bast, ↓y_last, ↓y_alen, ↓y_iret, ↓y_zret, ↓y_lret, ↓y_vret, ↓y_svI, ↓y_svL, ↓y_svV, ↓y_ivI, ↓y_ivL, ↓y_ivV, ↓y_max, ↓y_min, ↓y_absL, ↓y_cpI, ↓y_cpL, ↓x_n1I, ↓x_n1L, ↓x_n1R, ↓x_n0I, ↓x_n0L, ↓x_n0R, ↓x_s0, ↓x_s1i, ↓x_s1r, ↓x_s1n, ↓x_s2, ↓x_c0, ↓x_c2, ↓x_tk0, ↓x_tk1, ↓x_rcv, x_rI1, x_rL1, x_rV1, x_rIn, x_rLn, x_rVn, x_rIf, x_rLf, x_rVf, x_40, x_41, x_42, x_43, x_44, ↓reduceIte, if_true, if_false, ao_iadd, ao_isub, ao_imul, ao_iand, ao_ior, ao_ishl, ao_ishr, ao_iushr, ao_ladd, ao_lsub, ao_lmul, ao_land, ao_lor, ao_idiv, ao_irem, ao_ldiv, ao_lrem, ao_ineg, ao_i2b, ao_i2s, Nat.reduceAdd, Nat.reduceMul, Nat.reduceSub, Nat.reduceEqDiff, Nat.reduceLeDiff, and_self, true_and, x_lit, x_ofn, x_z0, x_z1, x_inbT, x_ltT, x_ltF, x_leT, x_leF, x_eqF, x_eqT, x_inb, x_lt, x_le, x_eq, x_cl, x_sub, nI_add, pk_mul, x_m1e, x_m1e', x_m1l, x_m1n, x_m1s, Nat.not_lt_zero, x_zb, x_b0, x_b1, decide_eq_false_iff_not, decide_eq_true_eq, Bool.false_eq_true, Bool.true_eq_false, a1, kd_3, kd_6]
  all_goals
    obtain ⟨τ, a1, a2, a3⟩ := n1 z
    obtain ⟨z1, z2, z3, z4⟩ := isNm_ok hbe z
    have h7 := (a2.2.2.2.2.2 z1).2
    have y1 := X_suitNamed (v := 26) (σ := τ) (Ns := Ns) (r := twd t e b) (Or.inr rfl) (by rw [(a3.1 27 (by omega)).1]; exact h1) l1 (fun i r w => by rw [(a3.1 36 (by omega)).2]; exact nN i r w) oN z2 z3
    have y2 := X_fieldNamed (v := 26) (σ := τ) (Ns := Nf) (r := twd t e b) (Or.inr rfl) (by rw [(a3.1 26 (by omega)).1]; exact h5) l5 (fun i r w => by rw [(a3.1 37 (by omega)).2]; exact nF i r w) oF z2 z3
  · have hbl := X_blame (k := 3) (σ := τ)
    refine ⟨_, ?_, XF_bl a3 a2.2.1⟩
    cases o1 : nmI Ns (twd t e b) with
    | some i =>
      rw [o1] at y1
      have hi := nm_lt o1
      have y1' : S_X8_suitNamed [.ref 26, .long (lN (keyR 27 (twd t e b)))] τ = some (some (.int (nI i)), τ) := y1
      simp (disch := omega) only [g_X9_wantNewName, ↓e_X9_wantNewName_0, ↓e_X9_wantNewName_9, ↓e_X9_wantNewName_33, ↓e_X9_wantNewName_38, ↓e_X9_wantNewName_55, ↓e_X9_wantNewName_56, ↓it_s, ↓y_iload, ↓y_lload, ↓y_aload, ↓y_istore, ↓y_lstore, ↓y_astore, ↓y_iinc, ↓y_cI, ↓y_cL, ↓y_bin, ↓y_binL, ↓y_div, ↓y_divL, ↓y_lshl, ↓y_un, ↓y_i2l, ↓y_lneg, ↓y_l2i, ↓y_lcmp, ↓y_dupI, ↓y_dupR, ↓y_dup2, ↓y_pop, ↓y_goto, ↓y_eq0, ↓y_lt0, ↓y_le0, ↓y_eq, ↓y_lt, ↓y_le, ↓y_switch, ↓y_sw0, ↓y_sw1, ↓y_getI, ↓y_getL, ↓y_getR, ↓y_getT, ↓y_putI, ↓y_putZ, ↓y_putL, ↓y_putT, ↓y_iald, ↓y_bald, ↓y_lald, ↓y_aald, ↓y_iast, ↓y_bast, ↓y_last, ↓y_alen, ↓y_iret, ↓y_zret, ↓y_lret, ↓y_vret, ↓y_svI, ↓y_svL, ↓y_svV, ↓y_ivI, ↓y_ivL, ↓y_ivV, ↓y_max, ↓y_min, ↓y_absL, ↓y_cpI, ↓y_cpL, ↓x_n1I, ↓x_n1L, ↓x_n1R, ↓x_n0I, ↓x_n0L, ↓x_n0R, ↓x_s0, ↓x_s1i, ↓x_s1r, ↓x_s1n, ↓x_s2, ↓x_c0, ↓x_c2, ↓x_tk0, ↓x_tk1, ↓x_rcv, x_rI1, x_rL1, x_rV1, x_rIn, x_rLn, x_rVn, x_rIf, x_rLf, x_rVf, x_40, x_41, x_42, x_43, x_44, ↓reduceIte, if_true, if_false, ao_iadd, ao_isub, ao_imul, ao_iand, ao_ior, ao_ishl, ao_ishr, ao_iushr, ao_ladd, ao_lsub, ao_lmul, ao_land, ao_lor, ao_idiv, ao_irem, ao_ldiv, ao_lrem, ao_ineg, ao_i2b, ao_i2s, Nat.reduceAdd, Nat.reduceMul, Nat.reduceSub, Nat.reduceEqDiff, Nat.reduceLeDiff, and_self, true_and, x_lit, x_ofn, x_z0, x_z1, x_inbT, x_ltT, x_ltF, x_leT, x_leF, x_eqF, x_eqT, x_inb, x_lt, x_le, x_eq, x_cl, x_sub, nI_add, pk_mul, x_m1e, x_m1e', x_m1l, x_m1n, x_m1s, Nat.not_lt_zero, x_zb, x_b0, x_b1, decide_eq_false_iff_not, decide_eq_true_eq, Bool.false_eq_true, Bool.true_eq_false, a1, h7, y1', hbl, kd_3, kd_6, kd_26]
    | none =>
      rw [o1] at y1
      have y1' : S_X8_suitNamed [.ref 26, .long (lN (keyR 27 (twd t e b)))] τ = some (some (.int (-nI 1)), τ) := y1
      cases o2 : nmI Nf (twd t e b) with
      | none =>
        unfold tkn at zt
        rw [o1, o2] at zt
        cases zt
      | some i =>
        rw [o2] at y2
        have hi := nm_lt o2
        have y2' : S_X8_fieldNamed [.ref 26, .long (lN (keyR 27 (twd t e b)))] τ = some (some (.int (nI i)), τ) := y2
        simp (disch := omega) only [g_X9_wantNewName, ↓e_X9_wantNewName_0, ↓e_X9_wantNewName_9, ↓e_X9_wantNewName_33, ↓e_X9_wantNewName_38, ↓e_X9_wantNewName_55, ↓e_X9_wantNewName_56, ↓it_s, ↓y_iload, ↓y_lload, ↓y_aload, ↓y_istore, ↓y_lstore, ↓y_astore, ↓y_iinc, ↓y_cI, ↓y_cL, ↓y_bin, ↓y_binL, ↓y_div, ↓y_divL, ↓y_lshl, ↓y_un, ↓y_i2l, ↓y_lneg, ↓y_l2i, ↓y_lcmp, ↓y_dupI, ↓y_dupR, ↓y_dup2, ↓y_pop, ↓y_goto, ↓y_eq0, ↓y_lt0, ↓y_le0, ↓y_eq, ↓y_lt, ↓y_le, ↓y_switch, ↓y_sw0, ↓y_sw1, ↓y_getI, ↓y_getL, ↓y_getR, ↓y_getT, ↓y_putI, ↓y_putZ, ↓y_putL, ↓y_putT, ↓y_iald, ↓y_bald, ↓y_lald, ↓y_aald, ↓y_iast, ↓y_bast, ↓y_last, ↓y_alen, ↓y_iret, ↓y_zret, ↓y_lret, ↓y_vret, ↓y_svI, ↓y_svL, ↓y_svV, ↓y_ivI, ↓y_ivL, ↓y_ivV, ↓y_max, ↓y_min, ↓y_absL, ↓y_cpI, ↓y_cpL, ↓x_n1I, ↓x_n1L, ↓x_n1R, ↓x_n0I, ↓x_n0L, ↓x_n0R, ↓x_s0, ↓x_s1i, ↓x_s1r, ↓x_s1n, ↓x_s2, ↓x_c0, ↓x_c2, ↓x_tk0, ↓x_tk1, ↓x_rcv, x_rI1, x_rL1, x_rV1, x_rIn, x_rLn, x_rVn, x_rIf, x_rLf, x_rVf, x_40, x_41, x_42, x_43, x_44, ↓reduceIte, if_true, if_false, ao_iadd, ao_isub, ao_imul, ao_iand, ao_ior, ao_ishl, ao_ishr, ao_iushr, ao_ladd, ao_lsub, ao_lmul, ao_land, ao_lor, ao_idiv, ao_irem, ao_ldiv, ao_lrem, ao_ineg, ao_i2b, ao_i2s, Nat.reduceAdd, Nat.reduceMul, Nat.reduceSub, Nat.reduceEqDiff, Nat.reduceLeDiff, and_self, true_and, x_lit, x_ofn, x_z0, x_z1, x_inbT, x_ltT, x_ltF, x_leT, x_leF, x_eqF, x_eqT, x_inb, x_lt, x_le, x_eq, x_cl, x_sub, nI_add, pk_mul, x_m1e, x_m1e', x_m1l, x_m1n, x_m1s, Nat.not_lt_zero, x_zb, x_b0, x_b1, decide_eq_false_iff_not, decide_eq_true_eq, Bool.false_eq_true, Bool.true_eq_false, a1, h7, y1', y2', hbl, kd_3, kd_6, kd_26]
  · refine ⟨τ, ?_, a2, a3⟩
    have o1 : nmI Ns (twd t e b) = none := by
      unfold tkn at zt
      cases o : nmI Ns (twd t e b) with
      | none => rfl
      | some i => rw [o] at zt; cases zt
    have o2 : nmI Nf (twd t e b) = none := by
      unfold tkn at zt
      cases o : nmI Nf (twd t e b) with
      | none => rfl
      | some i => rw [o1, o] at zt; cases zt
    rw [o1] at y1
    rw [o2] at y2
    have y1' : S_X8_suitNamed [.ref 26, .long (lN (keyR 27 (twd t e b)))] τ = some (some (.int (-nI 1)), τ) := y1
    have y2' : S_X8_fieldNamed [.ref 26, .long (lN (keyR 27 (twd t e b)))] τ = some (some (.int (-nI 1)), τ) := y2
    simp (disch := omega) only [g_X9_wantNewName, ↓e_X9_wantNewName_0, ↓e_X9_wantNewName_9, ↓e_X9_wantNewName_37, ↓e_X9_wantNewName_38, ↓e_X9_wantNewName_51, ↓e_X9_wantNewName_56, ↓it_s, ↓y_iload, ↓y_lload, ↓y_aload, ↓y_istore, ↓y_lstore, ↓y_astore, ↓y_iinc, ↓y_cI, ↓y_cL, ↓y_bin, ↓y_binL, ↓y_div, ↓y_divL, ↓y_lshl, ↓y_un, ↓y_i2l, ↓y_lneg, ↓y_l2i, ↓y_lcmp, ↓y_dupI, ↓y_dupR, ↓y_dup2, ↓y_pop, ↓y_goto, ↓y_eq0, ↓y_lt0, ↓y_le0, ↓y_eq, ↓y_lt, ↓y_le, ↓y_switch, ↓y_sw0, ↓y_sw1, ↓y_getI, ↓y_getL, ↓y_getR, ↓y_getT, ↓y_putI, ↓y_putZ, ↓y_putL, ↓y_putT, ↓y_iald, ↓y_bald, ↓y_lald, ↓y_aald, ↓y_iast, ↓y_bast, ↓y_last, ↓y_alen, ↓y_iret, ↓y_zret, ↓y_lret, ↓y_vret, ↓y_svI, ↓y_svL, ↓y_svV, ↓y_ivI, ↓y_ivL, ↓y_ivV, ↓y_max, ↓y_min, ↓y_absL, ↓y_cpI, ↓y_cpL, ↓x_n1I, ↓x_n1L, ↓x_n1R, ↓x_n0I, ↓x_n0L, ↓x_n0R, ↓x_s0, ↓x_s1i, ↓x_s1r, ↓x_s1n, ↓x_s2, ↓x_c0, ↓x_c2, ↓x_tk0, ↓x_tk1, ↓x_rcv, x_rI1, x_rL1, x_rV1, x_rIn, x_rLn, x_rVn, x_rIf, x_rLf, x_rVf, x_40, x_41, x_42, x_43, x_44, ↓reduceIte, if_true, if_false, ao_iadd, ao_isub, ao_imul, ao_iand, ao_ior, ao_ishl, ao_ishr, ao_iushr, ao_ladd, ao_lsub, ao_lmul, ao_land, ao_lor, ao_idiv, ao_irem, ao_ldiv, ao_lrem, ao_ineg, ao_i2b, ao_i2s, Nat.reduceAdd, Nat.reduceMul, Nat.reduceSub, Nat.reduceEqDiff, Nat.reduceLeDiff, and_self, true_and, x_lit, x_ofn, x_z0, x_z1, x_inbT, x_ltT, x_ltF, x_leT, x_leF, x_eqF, x_eqT, x_inb, x_lt, x_le, x_eq, x_cl, x_sub, nI_add, pk_mul, x_m1e, x_m1e', x_m1l, x_m1n, x_m1s, Nat.not_lt_zero, x_zb, x_b0, x_b1, decide_eq_false_iff_not, decide_eq_true_eq, Bool.false_eq_true, Bool.true_eq_false, a1, h7, y1', y2', kd_3, kd_6, kd_26]
