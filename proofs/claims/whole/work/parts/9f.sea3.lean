/-! the seasons' text: tests, both sides -/
theorem P_named {t : Nat → Nat} {e l k b s : Nat} {σx σm ρx ρm : am_M} {Ns Nf : List (List Nat)} (hX : TX ρx t e) (hM : TM ρm t e) (h3 : ρx.1 3 3 = nI b) (hk : TokM t e b ρm) (h12 : ρm.1 123 12 = nI 0) (hbe : b ≤ e) (he : e ≤ 900) (hl : l < 60) (hk30 : k < 30) (hs : s ≤ 1) (hE : EN ρx ρm Ns Nf) (gx : gX l σx ρx) (gm : gM k σm ρm) (r10 : ρx.1 3 10 = σx.1 3 10) (r11 : ρx.1 3 11 = σx.1 3 11) {b0 : Nat} (hb0 : b0 ≤ b) (hp1 : ρx.1 35 (l * 6 + 1) = nI (if s = 0 then 18 else 10)) (hp6 : ρm.1 128 (1940 + 9 * k + 6) = nI s) :
    RO t e l k b0 (fun g f => TestR Nf.length g f l k) σx σm (dn_X5_takeTest_59 [some (.ref 3), some (.ref 9), some (.ref 34), some (.int (nI l)), some (.int (nI (if s = 0 then 18 else 10))), none] [] ρx) (dn_X11_readTest_41 [some (.ref 123), some (.int (nI (1940 + 9 * k))), some (.int (nI s))] [] ρm) := by
  have ht := hM.2.2.1
  obtain ⟨w, ew⟩ : ∃ w, w = 1940 + 9 * k := ⟨_, rfl⟩
  have hw : w + 8 < 2210 := by omega
  rw [← ew] at hp6 ⊢
  obtain ⟨tw, etw⟩ : ∃ tw, tw = (if s = 0 then 18 else 10) := ⟨_, rfl⟩
  rw [← etw] at hp1 ⊢
  have hsc : (s = 0 ∧ tw = 18) ∨ (s = 1 ∧ tw = 10) := by
    rcases (show s = 0 ∨ s = 1 by omega) with rfl | rfl
    · exact Or.inl ⟨rfl, etw⟩
    · exact Or.inr ⟨rfl, etw⟩
  obtain ⟨⟨n1, n2, n3, n4⟩, ⟨n5, n6, n7, n8⟩, n9, n10, n11, n12⟩ := hE
  obtain ⟨N, eN⟩ : ∃ N, N = (if s = 0 then Ns else Nf) := ⟨_, rfl⟩
  have hN1 : ρm.1 128 (442 * 0 + (if s = 0 then 1 else 5)) = nI N.length := by
    rcases hsc with ⟨rfl, -⟩ | ⟨rfl, -⟩ <;> rw [eN] <;> assumption
  have hN2 : N.length ≤ (if s = 0 then 4 else 6) := by
    rcases hsc with ⟨rfl, -⟩ | ⟨rfl, -⟩ <;> rw [eN] <;> assumption
  have hN3 : NmM ρm (10 * 0 + 4 * s) N := by
    rcases hsc with ⟨rfl, -⟩ | ⟨rfl, -⟩ <;> rw [eN] <;> assumption
  have hN4 : okN N := by
    rcases hsc with ⟨rfl, -⟩ | ⟨rfl, -⟩ <;> rw [eN] <;> assumption
  obtain ⟨o1, o2, o3⟩ := M_readTold s hM hbe hk h12 (show 0 ≤ 4 by omega) hs hN1 hN2 hN3 hN4
  obtain ⟨x1, x2⟩ := X_wantName hX hbe h3
  have tl := tq_le (t := t) hbe
  have tl2 := tp_le (t := t) hbe
  have badM : ∀ (q p : Nat) (σ2 : am_M), 0 < q → q < 100 → σ2 = bdM ρm q p → S_X11_readTold [.ref 123, .int (nI 0), .int (nI s)] ρm = some (some (.int (nI 0)), σ2) → ∃ τm, dn_X11_readTest_41 [some (.ref 123), some (.int (nI w)), some (.int (nI s))] [] ρm = some (none, τm) ∧ τm.1 123 12 = nI q ∧ τm.1 123 13 = nI p ∧ gM k σm τm := fun q p σ2 hq hq2 e2 hr => by
    have hk2 : TokM t e b σ2 := by rw [e2]; unfold bdM; exact TokM_uI (TokM_uI hk (by omega)) (by omega)
    obtain ⟨v, v1, v2⟩ := M_sgn (w := w) (s := s) hk2 ht hw (nI 0) (fun _ _ => trivial) ρm hr
    have h2 : (am_uI (am_uI σ2 128 (w + 1) (nI 0)) 128 (w + 7) v).1 123 12 = nI q := by rw [uI_n (by omega), uI_n (by omega), e2]; exact bdM_12 _ _ _
    refine ⟨_, v2.trans (M_113B h2 hq hq2 hs hw), by rw [uI_n (by omega)]; exact h2, by rw [uI_n (by omega), uI_n (by omega), uI_n (by omega), e2]; exact bdM_13 _ _ _, ?_⟩
    rw [ew, e2]
    exact gM_u (gM_u (gM_u (gM_b gm) (by omega) (by omega)) (by omega) (by omega)) (by omega) (by omega)
  cases hn : isNm t e b with
  | false =>
    obtain ⟨τ1, a1, a2⟩ := x2 hn
    have ak := amk_12 t e b
    obtain ⟨τm, q1, q2, q3, q4⟩ := badM _ _ _ ak.1 ak.2 rfl (o1 hn)
    refine Or.inl ⟨τ1, τm, amk t e b, tp t e b, ?_, q1, ak.1, ak.2, a2.1, a2.2.1, q2, q3, gX_B gx a2.2.2, q4⟩
    simp (disch := omega) only [↓e_X5_takeTest_59, ↓it_s, ↓y_iload, ↓y_lload, ↓y_aload, ↓y_istore, ↓y_lstore, ↓y_astore, ↓y_iinc, ↓y_cI, ↓y_cL, ↓y_bin, ↓y_binL, ↓y_div, ↓y_divL, ↓y_lshl, ↓y_un, ↓y_i2l, ↓y_lneg, ↓y_l2i, ↓y_lcmp, ↓y_dupI, ↓y_dupR, ↓y_dup2, ↓y_pop, ↓y_goto, ↓y_eq0, ↓y_lt0, ↓y_le0, ↓y_eq, ↓y_lt, ↓y_le, ↓y_switch, ↓y_sw0, ↓y_sw1, ↓y_getI, ↓y_getL, ↓y_getR, ↓y_getT, ↓y_putI, ↓y_putZ, ↓y_putL, ↓y_putT, ↓y_iald, ↓y_bald, ↓y_lald, ↓y_aald, ↓y_iast, ↓y_bast, ↓y_last, ↓y_alen, ↓y_iret, ↓y_zret, ↓y_lret, ↓y_vret, ↓y_svI, ↓y_svL, ↓y_svV, ↓y_ivI, ↓y_ivL, ↓y_ivV, ↓y_max, ↓y_min, ↓y_absL, ↓y_cpI, ↓y_cpL, ↓x_n1I, ↓x_n1L, ↓x_n1R, ↓x_n0I, ↓x_n0L, ↓x_n0R, ↓x_s0, ↓x_s1i, ↓x_s1r, ↓x_s1n, ↓x_s2, ↓x_c0, ↓x_c2, ↓x_tk0, ↓x_tk1, ↓x_rcv, x_rI1, x_rL1, x_rV1, x_rIn, x_rLn, x_rVn, x_rIf, x_rLf, x_rVf, x_40, x_41, x_42, x_43, x_44, ↓reduceIte, if_true, if_false, ao_iadd, ao_isub, ao_imul, ao_iand, ao_ior, ao_ishl, ao_ishr, ao_iushr, ao_ladd, ao_lsub, ao_lmul, ao_land, ao_lor, ao_idiv, ao_irem, ao_ldiv, ao_lrem, ao_ineg, ao_i2b, ao_i2s, Nat.reduceAdd, Nat.reduceMul, Nat.reduceSub, Nat.reduceEqDiff, Nat.reduceLeDiff, and_self, true_and, x_lit, x_ofn, x_z0, x_z1, x_inbT, x_ltT, x_ltF, x_leT, x_leF, x_eqF, x_eqT, x_inb, x_lt, x_le, x_eq, x_cl, x_sub, nI_add, pk_mul, x_m1e, x_m1e', x_m1l, x_m1n, x_m1s, Nat.not_lt_zero, x_zb, x_b0, x_b1, decide_eq_false_iff_not, decide_eq_true_eq, Bool.false_eq_true, Bool.true_eq_false, a1, kd_3]
  | true =>
    obtain ⟨τ1, a1, a2, a3⟩ := x1 hn
    obtain ⟨i1, i2, i3, i4⟩ := isNm_ok hbe hn
    have a7 : τ1.2 3 7 = lN (keyR 27 (twd t e b)) := (a2.2.2.2.2.2 i1).2
    have a5 : τ1.1 3 5 = nI (tp t e b) := a2.2.1
    have t10 : τ1.1 10 = ρx.1 10 := (a3.1 10 (by omega)).1
    have t9 : τ1.1 9 = ρx.1 9 := (a3.1 9 (by omega)).1
    have nsx := X_suitNamed (v := 9) (σ := τ1) (Ns := Ns) (r := twd t e b) isLV9 (by show τ1.1 10 7 = _; rw [t10]; exact n1) n5 (fun i r hr => by rw [(a3.1 19 (by omega)).2]; exact n3 i r hr) n7 i2 i3
    have nfx := X_fieldNamed (v := 9) (σ := τ1) (Ns := Nf) (r := twd t e b) isLV9 (by rw [t9]; exact n2) n6 (fun i r hr => by rw [(a3.1 20 (by omega)).2]; exact n4 i r hr) n8 i2 i3
    have hx94 : dn_X5_takeTest_59 [some (.ref 3), some (.ref 9), some (.ref 34), some (.int (nI l)), some (.int (nI tw)), none] [] ρx = dn_X5_takeTest_94 [some (.ref 3), some (.ref 9), some (.ref 34), some (.int (nI l)), some (.int (nI tw)), none] [.int (optI (nmI N (twd t e b)))] τ1 := by
      rcases hsc with ⟨rfl, rfl⟩ | ⟨rfl, rfl⟩
      · rw [show N = Ns from eN]
        simp (disch := omega) only [↓e_X5_takeTest_59, ↓e_X5_takeTest_68, ↓it_s, ↓y_iload, ↓y_lload, ↓y_aload, ↓y_istore, ↓y_lstore, ↓y_astore, ↓y_iinc, ↓y_cI, ↓y_cL, ↓y_bin, ↓y_binL, ↓y_div, ↓y_divL, ↓y_lshl, ↓y_un, ↓y_i2l, ↓y_lneg, ↓y_l2i, ↓y_lcmp, ↓y_dupI, ↓y_dupR, ↓y_dup2, ↓y_pop, ↓y_goto, ↓y_eq0, ↓y_lt0, ↓y_le0, ↓y_eq, ↓y_lt, ↓y_le, ↓y_switch, ↓y_sw0, ↓y_sw1, ↓y_getI, ↓y_getL, ↓y_getR, ↓y_getT, ↓y_putI, ↓y_putZ, ↓y_putL, ↓y_putT, ↓y_iald, ↓y_bald, ↓y_lald, ↓y_aald, ↓y_iast, ↓y_bast, ↓y_last, ↓y_alen, ↓y_iret, ↓y_zret, ↓y_lret, ↓y_vret, ↓y_svI, ↓y_svL, ↓y_svV, ↓y_ivI, ↓y_ivL, ↓y_ivV, ↓y_max, ↓y_min, ↓y_absL, ↓y_cpI, ↓y_cpL, ↓x_n1I, ↓x_n1L, ↓x_n1R, ↓x_n0I, ↓x_n0L, ↓x_n0R, ↓x_s0, ↓x_s1i, ↓x_s1r, ↓x_s1n, ↓x_s2, ↓x_c0, ↓x_c2, ↓x_tk0, ↓x_tk1, ↓x_rcv, x_rI1, x_rL1, x_rV1, x_rIn, x_rLn, x_rVn, x_rIf, x_rLf, x_rVf, x_40, x_41, x_42, x_43, x_44, ↓reduceIte, if_true, if_false, ao_iadd, ao_isub, ao_imul, ao_iand, ao_ior, ao_ishl, ao_ishr, ao_iushr, ao_ladd, ao_lsub, ao_lmul, ao_land, ao_lor, ao_idiv, ao_irem, ao_ldiv, ao_lrem, ao_ineg, ao_i2b, ao_i2s, Nat.reduceAdd, Nat.reduceMul, Nat.reduceSub, Nat.reduceEqDiff, Nat.reduceLeDiff, and_self, true_and, x_lit, x_ofn, x_z0, x_z1, x_inbT, x_ltT, x_ltF, x_leT, x_leF, x_eqF, x_eqT, x_inb, x_lt, x_le, x_eq, x_cl, x_sub, nI_add, pk_mul, x_m1e, x_m1e', x_m1l, x_m1n, x_m1s, Nat.not_lt_zero, x_zb, x_b0, x_b1, decide_eq_false_iff_not, decide_eq_true_eq, Bool.false_eq_true, Bool.true_eq_false, a1, a7, nsx, kd_3, kd_9]
      · rw [show N = Nf from eN]
        simp (disch := omega) only [↓e_X5_takeTest_59, ↓e_X5_takeTest_68, ↓e_X5_takeTest_86, ↓it_s, ↓y_iload, ↓y_lload, ↓y_aload, ↓y_istore, ↓y_lstore, ↓y_astore, ↓y_iinc, ↓y_cI, ↓y_cL, ↓y_bin, ↓y_binL, ↓y_div, ↓y_divL, ↓y_lshl, ↓y_un, ↓y_i2l, ↓y_lneg, ↓y_l2i, ↓y_lcmp, ↓y_dupI, ↓y_dupR, ↓y_dup2, ↓y_pop, ↓y_goto, ↓y_eq0, ↓y_lt0, ↓y_le0, ↓y_eq, ↓y_lt, ↓y_le, ↓y_switch, ↓y_sw0, ↓y_sw1, ↓y_getI, ↓y_getL, ↓y_getR, ↓y_getT, ↓y_putI, ↓y_putZ, ↓y_putL, ↓y_putT, ↓y_iald, ↓y_bald, ↓y_lald, ↓y_aald, ↓y_iast, ↓y_bast, ↓y_last, ↓y_alen, ↓y_iret, ↓y_zret, ↓y_lret, ↓y_vret, ↓y_svI, ↓y_svL, ↓y_svV, ↓y_ivI, ↓y_ivL, ↓y_ivV, ↓y_max, ↓y_min, ↓y_absL, ↓y_cpI, ↓y_cpL, ↓x_n1I, ↓x_n1L, ↓x_n1R, ↓x_n0I, ↓x_n0L, ↓x_n0R, ↓x_s0, ↓x_s1i, ↓x_s1r, ↓x_s1n, ↓x_s2, ↓x_c0, ↓x_c2, ↓x_tk0, ↓x_tk1, ↓x_rcv, x_rI1, x_rL1, x_rV1, x_rIn, x_rLn, x_rVn, x_rIf, x_rLf, x_rVf, x_40, x_41, x_42, x_43, x_44, ↓reduceIte, if_true, if_false, ao_iadd, ao_isub, ao_imul, ao_iand, ao_ior, ao_ishl, ao_ishr, ao_iushr, ao_ladd, ao_lsub, ao_lmul, ao_land, ao_lor, ao_idiv, ao_irem, ao_ldiv, ao_lrem, ao_ineg, ao_i2b, ao_i2s, Nat.reduceAdd, Nat.reduceMul, Nat.reduceSub, Nat.reduceEqDiff, Nat.reduceLeDiff, and_self, true_and, x_lit, x_ofn, x_z0, x_z1, x_inbT, x_ltT, x_ltF, x_leT, x_leF, x_eqF, x_eqT, x_inb, x_lt, x_le, x_eq, x_cl, x_sub, nI_add, pk_mul, x_m1e, x_m1e', x_m1l, x_m1n, x_m1s, Nat.not_lt_zero, x_zb, x_b0, x_b1, decide_eq_false_iff_not, decide_eq_true_eq, Bool.false_eq_true, Bool.true_eq_false, a1, a7, nfx, kd_3, kd_9]
    rw [hx94]
    cases hnm : nmI N (twd t e b) with
    | none =>
      obtain ⟨τm, q1, q2, q3, q4⟩ := badM 3 (tp t e b) _ (by omega) (by omega) rfl (o2 hn hnm)
      have xf := XF_bl (k := 3) a3 a5
      have bl := X_blame (k := 3) (σ := τ1)
      refine Or.inl ⟨_, τm, 3, tp t e b, ?_, q1, by omega, by omega, xf.1, xf.2.1, q2, q3, gX_B gx xf.2.2, q4⟩
      show dn_X5_takeTest_94 _ [.int (-nI 1)] τ1 = _
      simp (disch := omega) only [↓e_X5_takeTest_94, ↓it_s, ↓y_iload, ↓y_lload, ↓y_aload, ↓y_istore, ↓y_lstore, ↓y_astore, ↓y_iinc, ↓y_cI, ↓y_cL, ↓y_bin, ↓y_binL, ↓y_div, ↓y_divL, ↓y_lshl, ↓y_un, ↓y_i2l, ↓y_lneg, ↓y_l2i, ↓y_lcmp, ↓y_dupI, ↓y_dupR, ↓y_dup2, ↓y_pop, ↓y_goto, ↓y_eq0, ↓y_lt0, ↓y_le0, ↓y_eq, ↓y_lt, ↓y_le, ↓y_switch, ↓y_sw0, ↓y_sw1, ↓y_getI, ↓y_getL, ↓y_getR, ↓y_getT, ↓y_putI, ↓y_putZ, ↓y_putL, ↓y_putT, ↓y_iald, ↓y_bald, ↓y_lald, ↓y_aald, ↓y_iast, ↓y_bast, ↓y_last, ↓y_alen, ↓y_iret, ↓y_zret, ↓y_lret, ↓y_vret, ↓y_svI, ↓y_svL, ↓y_svV, ↓y_ivI, ↓y_ivL, ↓y_ivV, ↓y_max, ↓y_min, ↓y_absL, ↓y_cpI, ↓y_cpL, ↓x_n1I, ↓x_n1L, ↓x_n1R, ↓x_n0I, ↓x_n0L, ↓x_n0R, ↓x_s0, ↓x_s1i, ↓x_s1r, ↓x_s1n, ↓x_s2, ↓x_c0, ↓x_c2, ↓x_tk0, ↓x_tk1, ↓x_rcv, x_rI1, x_rL1, x_rV1, x_rIn, x_rLn, x_rVn, x_rIf, x_rLf, x_rVf, x_40, x_41, x_42, x_43, x_44, ↓reduceIte, if_true, if_false, ao_iadd, ao_isub, ao_imul, ao_iand, ao_ior, ao_ishl, ao_ishr, ao_iushr, ao_ladd, ao_lsub, ao_lmul, ao_land, ao_lor, ao_idiv, ao_irem, ao_ldiv, ao_lrem, ao_ineg, ao_i2b, ao_i2s, Nat.reduceAdd, Nat.reduceMul, Nat.reduceSub, Nat.reduceEqDiff, Nat.reduceLeDiff, and_self, true_and, x_lit, x_ofn, x_z0, x_z1, x_inbT, x_ltT, x_ltF, x_leT, x_leF, x_eqF, x_eqT, x_inb, x_lt, x_le, x_eq, x_cl, x_sub, nI_add, pk_mul, x_m1e, x_m1e', x_m1l, x_m1n, x_m1s, Nat.not_lt_zero, x_zb, x_b0, x_b1, decide_eq_false_iff_not, decide_eq_true_eq, Bool.false_eq_true, Bool.true_eq_false, bl, kd_3]
    | some i =>
      obtain ⟨τ2, c1, c2, c3⟩ := o3 hn i hnm
      have hi := nm_lt hnm
      have hi6 : i < 6 := by split at hN2 <;> omega
      have sp := X_setPart (l := l) (w := 2) (v := nI i) (σ := τ1) hl (by omega)
      obtain ⟨ξ, ex⟩ : ∃ s, s = am_uI τ1 35 (l * 6 + 2) (nI i) := ⟨_, rfl⟩
      rw [← ex] at sp
      have gx2 : gX l σx ξ := by rw [ex]; exact gX_u (gX_R gx a3) (by omega) (by omega)
      have gx2' : gX l ρx ξ := by rw [ex]; exact gX_u (gX_R (gX_rf _ _) a3) (by omega) (by omega)
      have y3 : ξ.1 3 3 = nI (tq t e b) := by rw [ex, uI_n (by omega)]; exact a2.1
      have y10 : ξ.1 3 10 = σx.1 3 10 := by rw [ex, uI_n (by omega), a3.2 10 (by omega), r10]
      have y11 : ξ.1 3 11 = σx.1 3 11 := by rw [ex, uI_n (by omega), a3.2 11 (by omega), r11]
      have hx108 : dn_X5_takeTest_94 [some (.ref 3), some (.ref 9), some (.ref 34), some (.int (nI l)), some (.int (nI tw)), none] [.int (optI (some i))] τ1 = dn_X5_takeTest_108 [some (.ref 3), some (.ref 9), some (.ref 34), some (.int (nI l)), some (.int (nI tw)), some (.int (nI i))] [] τ1 := by
        show dn_X5_takeTest_94 _ [.int (nI i)] τ1 = _
        simp (disch := omega) only [↓e_X5_takeTest_94, ↓it_s, ↓y_iload, ↓y_lload, ↓y_aload, ↓y_istore, ↓y_lstore, ↓y_astore, ↓y_iinc, ↓y_cI, ↓y_cL, ↓y_bin, ↓y_binL, ↓y_div, ↓y_divL, ↓y_lshl, ↓y_un, ↓y_i2l, ↓y_lneg, ↓y_l2i, ↓y_lcmp, ↓y_dupI, ↓y_dupR, ↓y_dup2, ↓y_pop, ↓y_goto, ↓y_eq0, ↓y_lt0, ↓y_le0, ↓y_eq, ↓y_lt, ↓y_le, ↓y_switch, ↓y_sw0, ↓y_sw1, ↓y_getI, ↓y_getL, ↓y_getR, ↓y_getT, ↓y_putI, ↓y_putZ, ↓y_putL, ↓y_putT, ↓y_iald, ↓y_bald, ↓y_lald, ↓y_aald, ↓y_iast, ↓y_bast, ↓y_last, ↓y_alen, ↓y_iret, ↓y_zret, ↓y_lret, ↓y_vret, ↓y_svI, ↓y_svL, ↓y_svV, ↓y_ivI, ↓y_ivL, ↓y_ivV, ↓y_max, ↓y_min, ↓y_absL, ↓y_cpI, ↓y_cpL, ↓x_n1I, ↓x_n1L, ↓x_n1R, ↓x_n0I, ↓x_n0L, ↓x_n0R, ↓x_s0, ↓x_s1i, ↓x_s1r, ↓x_s1n, ↓x_s2, ↓x_c0, ↓x_c2, ↓x_tk0, ↓x_tk1, ↓x_rcv, x_rI1, x_rL1, x_rV1, x_rIn, x_rLn, x_rVn, x_rIf, x_rLf, x_rVf, x_40, x_41, x_42, x_43, x_44, ↓reduceIte, if_true, if_false, ao_iadd, ao_isub, ao_imul, ao_iand, ao_ior, ao_ishl, ao_ishr, ao_iushr, ao_ladd, ao_lsub, ao_lmul, ao_land, ao_lor, ao_idiv, ao_irem, ao_ldiv, ao_lrem, ao_ineg, ao_i2b, ao_i2s, Nat.reduceAdd, Nat.reduceMul, Nat.reduceSub, Nat.reduceEqDiff, Nat.reduceLeDiff, and_self, true_and, x_lit, x_ofn, x_z0, x_z1, x_inbT, x_ltT, x_ltF, x_leT, x_leF, x_eqF, x_eqT, x_inb, x_lt, x_le, x_eq, x_cl, x_sub, nI_add, pk_mul, x_m1e, x_m1e', x_m1l, x_m1n, x_m1s, Nat.not_lt_zero, x_zb, x_b0, x_b1, decide_eq_false_iff_not, decide_eq_true_eq, Bool.false_eq_true, Bool.true_eq_false, kd_3]
      rw [hx108]
      obtain ⟨v, v1, v2⟩ := M_sgn (w := w) (s := s) c2 ht hw (nI i) (fun _ _ => trivial) ρm c1
      rw [v2]
      obtain ⟨μ, em⟩ : ∃ m, m = am_uI (am_uI τ2 128 (w + 1) (nI i)) 128 (w + 7) v := ⟨_, rfl⟩
      rw [← em]
      have gm2 : gM k σm μ := by rw [em, ew]; exact gM_u (gM_u (gM_T gm c3) (by omega) (by omega)) (by omega) (by omega)
      have gm2' : gM k ρm μ := by rw [em, ew]; exact gM_u (gM_u (gM_T (gM_rf _ _) c3) (by omega) (by omega)) (by omega) (by omega)
      have mk : TokM t e (tq t e b) μ := by rw [em]; exact TokM_uo (TokM_uo c2 (by omega)) (by omega)
      have m12 : μ.1 123 12 = nI 0 := by rw [em, uI_n (by omega), uI_n (by omega), c3.2.1 12 (by omega)]; exact h12
      obtain ⟨p1, p2, p3⟩ := M_113 (w := w) (s := s) (TM_g hM gm2') (show tq t e b ≤ e by omega) mk m12 hs hw
      obtain ⟨z1, z2⟩ := X_wantCompare (TX_g hX gx2') (show tq t e b ≤ e by omega) y3
      have tl3 := tq_le (t := t) (e := e) (a := tq t e b) (by omega)
      have tl4 := tp_le (t := t) (e := e) (a := tq t e b) (by omega)
      cases hc : isCmp t e (tq t e b) with
      | false =>
        have p4 := p1 hc
        rw [hc] at p4
        obtain ⟨τ3, d1, d2⟩ := z2 hc
        have ak := amk_12 t e (tq t e b)
        refine Or.inl ⟨τ3, _, amk t e (tq t e b), tp t e (tq t e b), ?_, p4, ak.1, ak.2, d2.1, d2.2.1, by rw [uI_n (by omega)]; exact bdM_12 _ _ _, by rw [uI_n (by omega)]; exact bdM_13 _ _ _, gX_B gx2 d2.2.2, by rw [ew]; exact gM_u (gM_b gm2) (by omega) (by omega)⟩
        simp (disch := omega) only [↓e_X5_takeTest_108, ↓it_s, ↓y_iload, ↓y_lload, ↓y_aload, ↓y_istore, ↓y_lstore, ↓y_astore, ↓y_iinc, ↓y_cI, ↓y_cL, ↓y_bin, ↓y_binL, ↓y_div, ↓y_divL, ↓y_lshl, ↓y_un, ↓y_i2l, ↓y_lneg, ↓y_l2i, ↓y_lcmp, ↓y_dupI, ↓y_dupR, ↓y_dup2, ↓y_pop, ↓y_goto, ↓y_eq0, ↓y_lt0, ↓y_le0, ↓y_eq, ↓y_lt, ↓y_le, ↓y_switch, ↓y_sw0, ↓y_sw1, ↓y_getI, ↓y_getL, ↓y_getR, ↓y_getT, ↓y_putI, ↓y_putZ, ↓y_putL, ↓y_putT, ↓y_iald, ↓y_bald, ↓y_lald, ↓y_aald, ↓y_iast, ↓y_bast, ↓y_last, ↓y_alen, ↓y_iret, ↓y_zret, ↓y_lret, ↓y_vret, ↓y_svI, ↓y_svL, ↓y_svV, ↓y_ivI, ↓y_ivL, ↓y_ivV, ↓y_max, ↓y_min, ↓y_absL, ↓y_cpI, ↓y_cpL, ↓x_n1I, ↓x_n1L, ↓x_n1R, ↓x_n0I, ↓x_n0L, ↓x_n0R, ↓x_s0, ↓x_s1i, ↓x_s1r, ↓x_s1n, ↓x_s2, ↓x_c0, ↓x_c2, ↓x_tk0, ↓x_tk1, ↓x_rcv, x_rI1, x_rL1, x_rV1, x_rIn, x_rLn, x_rVn, x_rIf, x_rLf, x_rVf, x_40, x_41, x_42, x_43, x_44, ↓reduceIte, if_true, if_false, ao_iadd, ao_isub, ao_imul, ao_iand, ao_ior, ao_ishl, ao_ishr, ao_iushr, ao_ladd, ao_lsub, ao_lmul, ao_land, ao_lor, ao_idiv, ao_irem, ao_ldiv, ao_lrem, ao_ineg, ao_i2b, ao_i2s, Nat.reduceAdd, Nat.reduceMul, Nat.reduceSub, Nat.reduceEqDiff, Nat.reduceLeDiff, and_self, true_and, x_lit, x_ofn, x_z0, x_z1, x_inbT, x_ltT, x_ltF, x_leT, x_leF, x_eqF, x_eqT, x_inb, x_lt, x_le, x_eq, x_cl, x_sub, nI_add, pk_mul, x_m1e, x_m1e', x_m1l, x_m1n, x_m1s, Nat.not_lt_zero, x_zb, x_b0, x_b1, decide_eq_false_iff_not, decide_eq_true_eq, Bool.false_eq_true, Bool.true_eq_false, sp, d1, kd_3, kd_34]
      | true =>
        obtain ⟨τ3, d1, d2, d3⟩ := z1 hc
        have hk3 : tkd t e (tq t e b) = 3 := (of_decide_eq_true hc).1
        have d6 : τ3.1 3 6 = nI (tnum t e (tq t e b)) := d2.2.2.2.2.1 (Or.inr hk3)
        have sp3 := X_setPart (l := l) (w := 3) (v := nI (tnum t e (tq t e b))) (σ := τ3) hl (by omega)
        obtain ⟨ζ, ez⟩ : ∃ s, s = am_uI τ3 35 (l * 6 + 3) (nI (tnum t e (tq t e b))) := ⟨_, rfl⟩
        rw [← ez] at sp3
        have gx3 : gX l σx ζ := by rw [ez]; exact gX_u (gX_R gx2 d3) (by omega) (by omega)
        have gx3' : gX l ρx ζ := by rw [ez]; exact gX_u (gX_R gx2' d3) (by omega) (by omega)
        have w3 : ζ.1 3 3 = nI (tq t e (tq t e b)) := by rw [ez, uI_n (by omega)]; exact d2.1
        have hx151 : dn_X5_takeTest_108 [some (.ref 3), some (.ref 9), some (.ref 34), some (.int (nI l)), some (.int (nI tw)), some (.int (nI i))] [] τ1 = dn_X5_takeTest_151 [some (.ref 3), some (.ref 9), some (.ref 34), some (.int (nI l)), some (.int (nI tw)), some (.int (nI i))] [.int (nI (mxS s)), .int (nI 0), .ref 3] ζ := by
          rcases hsc with ⟨rfl, rfl⟩ | ⟨rfl, rfl⟩
          · show _ = dn_X5_takeTest_151 _ [.int (nI 6), .int (nI 0), .ref 3] ζ
            simp (disch := omega) only [↓e_X5_takeTest_108, ↓e_X5_takeTest_125, ↓it_s, ↓y_iload, ↓y_lload, ↓y_aload, ↓y_istore, ↓y_lstore, ↓y_astore, ↓y_iinc, ↓y_cI, ↓y_cL, ↓y_bin, ↓y_binL, ↓y_div, ↓y_divL, ↓y_lshl, ↓y_un, ↓y_i2l, ↓y_lneg, ↓y_l2i, ↓y_lcmp, ↓y_dupI, ↓y_dupR, ↓y_dup2, ↓y_pop, ↓y_goto, ↓y_eq0, ↓y_lt0, ↓y_le0, ↓y_eq, ↓y_lt, ↓y_le, ↓y_switch, ↓y_sw0, ↓y_sw1, ↓y_getI, ↓y_getL, ↓y_getR, ↓y_getT, ↓y_putI, ↓y_putZ, ↓y_putL, ↓y_putT, ↓y_iald, ↓y_bald, ↓y_lald, ↓y_aald, ↓y_iast, ↓y_bast, ↓y_last, ↓y_alen, ↓y_iret, ↓y_zret, ↓y_lret, ↓y_vret, ↓y_svI, ↓y_svL, ↓y_svV, ↓y_ivI, ↓y_ivL, ↓y_ivV, ↓y_max, ↓y_min, ↓y_absL, ↓y_cpI, ↓y_cpL, ↓x_n1I, ↓x_n1L, ↓x_n1R, ↓x_n0I, ↓x_n0L, ↓x_n0R, ↓x_s0, ↓x_s1i, ↓x_s1r, ↓x_s1n, ↓x_s2, ↓x_c0, ↓x_c2, ↓x_tk0, ↓x_tk1, ↓x_rcv, x_rI1, x_rL1, x_rV1, x_rIn, x_rLn, x_rVn, x_rIf, x_rLf, x_rVf, x_40, x_41, x_42, x_43, x_44, ↓reduceIte, if_true, if_false, ao_iadd, ao_isub, ao_imul, ao_iand, ao_ior, ao_ishl, ao_ishr, ao_iushr, ao_ladd, ao_lsub, ao_lmul, ao_land, ao_lor, ao_idiv, ao_irem, ao_ldiv, ao_lrem, ao_ineg, ao_i2b, ao_i2s, Nat.reduceAdd, Nat.reduceMul, Nat.reduceSub, Nat.reduceEqDiff, Nat.reduceLeDiff, and_self, true_and, x_lit, x_ofn, x_z0, x_z1, x_inbT, x_ltT, x_ltF, x_leT, x_leF, x_eqF, x_eqT, x_inb, x_lt, x_le, x_eq, x_cl, x_sub, nI_add, pk_mul, x_m1e, x_m1e', x_m1l, x_m1n, x_m1s, Nat.not_lt_zero, x_zb, x_b0, x_b1, decide_eq_false_iff_not, decide_eq_true_eq, Bool.false_eq_true, Bool.true_eq_false, sp, d1, d6, sp3, kd_3, kd_34]
          · show _ = dn_X5_takeTest_151 _ [.int (nI 99), .int (nI 0), .ref 3] ζ
            simp (disch := omega) only [↓e_X5_takeTest_108, ↓e_X5_takeTest_125, ↓e_X5_takeTest_149, ↓it_s, ↓y_iload, ↓y_lload, ↓y_aload, ↓y_istore, ↓y_lstore, ↓y_astore, ↓y_iinc, ↓y_cI, ↓y_cL, ↓y_bin, ↓y_binL, ↓y_div, ↓y_divL, ↓y_lshl, ↓y_un, ↓y_i2l, ↓y_lneg, ↓y_l2i, ↓y_lcmp, ↓y_dupI, ↓y_dupR, ↓y_dup2, ↓y_pop, ↓y_goto, ↓y_eq0, ↓y_lt0, ↓y_le0, ↓y_eq, ↓y_lt, ↓y_le, ↓y_switch, ↓y_sw0, ↓y_sw1, ↓y_getI, ↓y_getL, ↓y_getR, ↓y_getT, ↓y_putI, ↓y_putZ, ↓y_putL, ↓y_putT, ↓y_iald, ↓y_bald, ↓y_lald, ↓y_aald, ↓y_iast, ↓y_bast, ↓y_last, ↓y_alen, ↓y_iret, ↓y_zret, ↓y_lret, ↓y_vret, ↓y_svI, ↓y_svL, ↓y_svV, ↓y_ivI, ↓y_ivL, ↓y_ivV, ↓y_max, ↓y_min, ↓y_absL, ↓y_cpI, ↓y_cpL, ↓x_n1I, ↓x_n1L, ↓x_n1R, ↓x_n0I, ↓x_n0L, ↓x_n0R, ↓x_s0, ↓x_s1i, ↓x_s1r, ↓x_s1n, ↓x_s2, ↓x_c0, ↓x_c2, ↓x_tk0, ↓x_tk1, ↓x_rcv, x_rI1, x_rL1, x_rV1, x_rIn, x_rLn, x_rVn, x_rIf, x_rLf, x_rVf, x_40, x_41, x_42, x_43, x_44, ↓reduceIte, if_true, if_false, ao_iadd, ao_isub, ao_imul, ao_iand, ao_ior, ao_ishl, ao_ishr, ao_iushr, ao_ladd, ao_lsub, ao_lmul, ao_land, ao_lor, ao_idiv, ao_irem, ao_ldiv, ao_lrem, ao_ineg, ao_i2b, ao_i2s, Nat.reduceAdd, Nat.reduceMul, Nat.reduceSub, Nat.reduceEqDiff, Nat.reduceLeDiff, and_self, true_and, x_lit, x_ofn, x_z0, x_z1, x_inbT, x_ltT, x_ltF, x_leT, x_leF, x_eqF, x_eqT, x_inb, x_lt, x_le, x_eq, x_cl, x_sub, nI_add, pk_mul, x_m1e, x_m1e', x_m1l, x_m1n, x_m1s, Nat.not_lt_zero, x_zb, x_b0, x_b1, decide_eq_false_iff_not, decide_eq_true_eq, Bool.false_eq_true, Bool.true_eq_false, sp, d1, d6, sp3, kd_3, kd_34]
        rw [hx151]
        have hmx : mxS s < 1000 := by unfold mxS; split <;> omega
        obtain ⟨y1', y2'⟩ := X_wantNumber (lo := 0) (hi := mxS s) (TX_g hX gx3') (show tq t e (tq t e b) ≤ e by omega) w3 (by omega) hmx
        have tl5 := tq_le (t := t) (e := e) (a := tq t e (tq t e b)) (by omega)
        have tl6 := tp_le (t := t) (e := e) (a := tq t e (tq t e b)) (by omega)
        cases hno : isNo t e 0 (mxS s) (tq t e (tq t e b)) with
        | false =>
          obtain ⟨τ4, f1, f2⟩ := p2 hc hno
          rw [hc] at f2
          obtain ⟨τ5, g1, g2⟩ := y2' hno
          have nk := noK_12 t e (tq t e (tq t e b))
          refine Or.inl ⟨τ5, _, noK t e (tq t e (tq t e b)), tp t e (tq t e (tq t e b)), ?_, f2, nk.1, nk.2, g2.1, g2.2.1, by rw [uI_n (by omega)]; exact bdM_12 _ _ _, by rw [uI_n (by omega)]; exact bdM_13 _ _ _, gX_B gx3 g2.2.2, by rw [ew]; exact gM_u (gM_b (gM_T gm2 f1)) (by omega) (by omega)⟩
          simp (disch := omega) only [↓e_X5_takeTest_151, ↓it_s, ↓y_iload, ↓y_lload, ↓y_aload, ↓y_istore, ↓y_lstore, ↓y_astore, ↓y_iinc, ↓y_cI, ↓y_cL, ↓y_bin, ↓y_binL, ↓y_div, ↓y_divL, ↓y_lshl, ↓y_un, ↓y_i2l, ↓y_lneg, ↓y_l2i, ↓y_lcmp, ↓y_dupI, ↓y_dupR, ↓y_dup2, ↓y_pop, ↓y_goto, ↓y_eq0, ↓y_lt0, ↓y_le0, ↓y_eq, ↓y_lt, ↓y_le, ↓y_switch, ↓y_sw0, ↓y_sw1, ↓y_getI, ↓y_getL, ↓y_getR, ↓y_getT, ↓y_putI, ↓y_putZ, ↓y_putL, ↓y_putT, ↓y_iald, ↓y_bald, ↓y_lald, ↓y_aald, ↓y_iast, ↓y_bast, ↓y_last, ↓y_alen, ↓y_iret, ↓y_zret, ↓y_lret, ↓y_vret, ↓y_svI, ↓y_svL, ↓y_svV, ↓y_ivI, ↓y_ivL, ↓y_ivV, ↓y_max, ↓y_min, ↓y_absL, ↓y_cpI, ↓y_cpL, ↓x_n1I, ↓x_n1L, ↓x_n1R, ↓x_n0I, ↓x_n0L, ↓x_n0R, ↓x_s0, ↓x_s1i, ↓x_s1r, ↓x_s1n, ↓x_s2, ↓x_c0, ↓x_c2, ↓x_tk0, ↓x_tk1, ↓x_rcv, x_rI1, x_rL1, x_rV1, x_rIn, x_rLn, x_rVn, x_rIf, x_rLf, x_rVf, x_40, x_41, x_42, x_43, x_44, ↓reduceIte, if_true, if_false, ao_iadd, ao_isub, ao_imul, ao_iand, ao_ior, ao_ishl, ao_ishr, ao_iushr, ao_ladd, ao_lsub, ao_lmul, ao_land, ao_lor, ao_idiv, ao_irem, ao_ldiv, ao_lrem, ao_ineg, ao_i2b, ao_i2s, Nat.reduceAdd, Nat.reduceMul, Nat.reduceSub, Nat.reduceEqDiff, Nat.reduceLeDiff, and_self, true_and, x_lit, x_ofn, x_z0, x_z1, x_inbT, x_ltT, x_ltF, x_leT, x_leF, x_eqF, x_eqT, x_inb, x_lt, x_le, x_eq, x_cl, x_sub, nI_add, pk_mul, x_m1e, x_m1e', x_m1l, x_m1n, x_m1s, Nat.not_lt_zero, x_zb, x_b0, x_b1, decide_eq_false_iff_not, decide_eq_true_eq, Bool.false_eq_true, Bool.true_eq_false, g1, kd_3]
        | true =>
          obtain ⟨τ4, f1, f2, f3⟩ := p3 hc hno
          rw [hc] at f3
          obtain ⟨τ5, g1, g2, g3⟩ := y1' hno
          obtain ⟨j1, j2, j3⟩ := TokX_6 g2 hno
          have sp4 := X_setPart (l := l) (w := 4) (v := nI (tnum t e (tq t e (tq t e b)))) (σ := τ5) hl (by omega)
          have c35 : ∀ q, q ≠ l * 6 + 4 → (am_uI τ5 35 (l * 6 + 4) (nI (tnum t e (tq t e (tq t e b))))).1 35 q = ζ.1 35 q := fun q hq => by rw [uI_s, up_n hq, (g3.1 35 (by omega)).1]
          have z35 : ∀ q, q ≠ l * 6 + 3 → ζ.1 35 q = ξ.1 35 q := fun q hq => by rw [ez, uI_s, up_n hq, (d3.1 35 (by omega)).1]
          have x35 : ∀ q, q ≠ l * 6 + 2 → ξ.1 35 q = ρx.1 35 q := fun q hq => by rw [ex, uI_s, up_n hq, (a3.1 35 (by omega)).1]
          have m128 : ∀ q, q ≠ w + 2 → (am_uI τ4 128 (w + 2) (nI (tnum t e (tq t e (tq t e b))))).1 128 q = μ.1 128 q := fun q hq => by rw [uI_s, up_n hq, (f1.1 128 (by omega)).1]
          have k1 : ζ.1 35 (l * 6 + 3) = nI (tnum t e (tq t e b)) := by rw [ez, uI_s, up_s]
          have k2 : ξ.1 35 (l * 6 + 2) = nI i := by rw [ex, uI_s, up_s]
          have k7 : μ.1 128 (w + 7) = nI (tnum t e (tq t e b)) := by rw [em, uI_s, up_s]; exact v1 hk3
          have kk1 : μ.1 128 (w + 1) = nI i := by rw [em, uI_s, up_n (by omega), uI_s, up_s]
          have k6 : μ.1 128 (w + 6) = nI s := by rw [em, uI_s, up_n (by omega), uI_s, up_n (by omega), (c3.1 128 (by omega)).1]; exact hp6
          refine Or.inr ⟨am_uI τ5 35 (l * 6 + 4) (nI (tnum t e (tq t e (tq t e b)))), am_uI τ4 128 (w + 2) (nI (tnum t e (tq t e (tq t e b)))), tq t e (tq t e (tq t e b)), ?_, f3, by rw [uI_n (by omega)]; exact g2.1, by rw [uI_n (by omega), g3.2 10 (by omega), ez, uI_n (by omega), d3.2 10 (by omega), y10], by rw [uI_n (by omega), g3.2 11 (by omega), ez, uI_n (by omega), d3.2 11 (by omega), y11], TokM_uo f2 (by omega), by rw [uI_n (by omega), f1.2.1 12 (by omega)]; exact m12, by omega, by omega, ?_, gX_u (gX_R gx3 g3) (by omega) (by omega), by rw [ew]; exact gM_u (gM_T gm2 f1) (by omega) (by omega)⟩
          · simp (disch := omega) only [↓e_X5_takeTest_151, ↓e_X5_takeTest_159, ↓it_s, ↓y_iload, ↓y_lload, ↓y_aload, ↓y_istore, ↓y_lstore, ↓y_astore, ↓y_iinc, ↓y_cI, ↓y_cL, ↓y_bin, ↓y_binL, ↓y_div, ↓y_divL, ↓y_lshl, ↓y_un, ↓y_i2l, ↓y_lneg, ↓y_l2i, ↓y_lcmp, ↓y_dupI, ↓y_dupR, ↓y_dup2, ↓y_pop, ↓y_goto, ↓y_eq0, ↓y_lt0, ↓y_le0, ↓y_eq, ↓y_lt, ↓y_le, ↓y_switch, ↓y_sw0, ↓y_sw1, ↓y_getI, ↓y_getL, ↓y_getR, ↓y_getT, ↓y_putI, ↓y_putZ, ↓y_putL, ↓y_putT, ↓y_iald, ↓y_bald, ↓y_lald, ↓y_aald, ↓y_iast, ↓y_bast, ↓y_last, ↓y_alen, ↓y_iret, ↓y_zret, ↓y_lret, ↓y_vret, ↓y_svI, ↓y_svL, ↓y_svV, ↓y_ivI, ↓y_ivL, ↓y_ivV, ↓y_max, ↓y_min, ↓y_absL, ↓y_cpI, ↓y_cpL, ↓x_n1I, ↓x_n1L, ↓x_n1R, ↓x_n0I, ↓x_n0L, ↓x_n0R, ↓x_s0, ↓x_s1i, ↓x_s1r, ↓x_s1n, ↓x_s2, ↓x_c0, ↓x_c2, ↓x_tk0, ↓x_tk1, ↓x_rcv, x_rI1, x_rL1, x_rV1, x_rIn, x_rLn, x_rVn, x_rIf, x_rLf, x_rVf, x_40, x_41, x_42, x_43, x_44, ↓reduceIte, if_true, if_false, ao_iadd, ao_isub, ao_imul, ao_iand, ao_ior, ao_ishl, ao_ishr, ao_iushr, ao_ladd, ao_lsub, ao_lmul, ao_land, ao_lor, ao_idiv, ao_irem, ao_ldiv, ao_lrem, ao_ineg, ao_i2b, ao_i2s, Nat.reduceAdd, Nat.reduceMul, Nat.reduceSub, Nat.reduceEqDiff, Nat.reduceLeDiff, and_self, true_and, x_lit, x_ofn, x_z0, x_z1, x_inbT, x_ltT, x_ltF, x_leT, x_leF, x_eqF, x_eqT, x_inb, x_lt, x_le, x_eq, x_cl, x_sub, nI_add, pk_mul, x_m1e, x_m1e', x_m1l, x_m1n, x_m1s, Nat.not_lt_zero, x_zb, x_b0, x_b1, decide_eq_false_iff_not, decide_eq_true_eq, Bool.false_eq_true, Bool.true_eq_false, g1, j1, sp4, kd_3, kd_34]
          · have q1 : (am_uI τ5 35 (l * 6 + 4) (nI (tnum t e (tq t e (tq t e b))))).1 35 (l * 6 + 1) = nI tw := by rw [c35 _ (by omega), z35 _ (by omega), x35 _ (by omega)]; exact hp1
            have q2 : (am_uI τ5 35 (l * 6 + 4) (nI (tnum t e (tq t e (tq t e b))))).1 35 (l * 6 + 2) = nI i := by rw [c35 _ (by omega), z35 _ (by omega)]; exact k2
            have q3 : (am_uI τ5 35 (l * 6 + 4) (nI (tnum t e (tq t e (tq t e b))))).1 35 (l * 6 + 3) = nI (tnum t e (tq t e b)) := by rw [c35 _ (by omega)]; exact k1
            have q4 : (am_uI τ5 35 (l * 6 + 4) (nI (tnum t e (tq t e (tq t e b))))).1 35 (l * 6 + 4) = nI (tnum t e (tq t e (tq t e b))) := by rw [uI_s, up_s]
            have f6 : (am_uI τ4 128 (w + 2) (nI (tnum t e (tq t e (tq t e b))))).1 128 (1940 + (9 * k + 6)) = nI s := by rw [m128 _ (by omega), show 1940 + (9 * k + 6) = w + 6 by omega]; exact k6
            have f1' : (am_uI τ4 128 (w + 2) (nI (tnum t e (tq t e (tq t e b))))).1 128 (1940 + (9 * k + 1)) = nI i := by rw [m128 _ (by omega), show 1940 + (9 * k + 1) = w + 1 by omega]; exact kk1
            have f7 : (am_uI τ4 128 (w + 2) (nI (tnum t e (tq t e (tq t e b))))).1 128 (1940 + (9 * k + 7)) = nI (tnum t e (tq t e b)) := by rw [m128 _ (by omega), show 1940 + (9 * k + 7) = w + 7 by omega]; exact k7
            have f2' : (am_uI τ4 128 (w + 2) (nI (tnum t e (tq t e (tq t e b))))).1 128 (1940 + (9 * k + 2)) = nI (tnum t e (tq t e (tq t e b))) := by rw [show 1940 + (9 * k + 2) = w + 2 by omega, uI_s, up_s]
            rcases hsc with ⟨rfl, rfl⟩ | ⟨rfl, rfl⟩
            · refine Or.inr (Or.inl ⟨i, ?_, q1, f6, q2, f1', q3.trans f7.symm, q4.trans f2'.symm⟩)
              rw [show N = Ns from eN] at hi
              omega
            · refine Or.inr (Or.inr ⟨i, ?_, q1, f6, q2, f1', q3.trans f7.symm, q4.trans f2'.symm⟩)
              rw [show N = Nf from eN] at hi
              exact hi
