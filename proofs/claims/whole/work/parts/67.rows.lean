/-! rows and the stock are told -/
theorem PS_cT {t : Nat → Nat} {e : Nat} {σx σm : am_M} {V : Vt} {Ns Nf : List (List Nat)} {rT lT dT cT : Bool} {X a : Nat} (h : PS t e σx σm V Ns Nf rT lT dT cT X a) : PS t e (am_uI σx 6 3 (nI 1)) (am_uI σm 123 27 (nI 1)) V Ns Nf rT lT dT true X a := by
  obtain ⟨⟨a1, a2, a3⟩, ⟨b1, b2', b3, b4, b5, b6, b7, b8⟩, ⟨c1, c2, c3, c4, c5, c6, c7, c8⟩, d, ⟨e1, e2, e3, e4, e5⟩, ⟨f1, f2, f3, f4⟩⟩ := h
  refine ⟨⟨VG_fr a1 (fun j p q => uI_n (by omega)), a2, by rw [uI_n (by omega)]; exact a3⟩, ⟨b1, b2', b3, b4, b5, b6, b7, b8⟩, ?_, d, ⟨TX_uI e1 (by omega) (by omega), TM_uI e2 (by omega), TokM_uI e3 (by omega), e4, by rw [uI_s, up_n (by omega)]; exact e5⟩, ⟨by rw [uI_n (by omega)]; exact f1, by rw [uI_n (by omega)]; exact f2, by rw [uI_n (by omega)]; exact f3, f4.1, fun f p q => by rw [uI_n (by omega)]; exact f4.2 f p q⟩⟩
  exact ⟨by rw [uI_s, up_n (by omega)]; exact c1, by rw [uI_s, up_n (by omega)]; exact c2, by rw [uI_s, up_n (by omega)]; exact c3, by rw [uI_s, up_s]; rfl, by rw [uI_s, up_n (by omega)]; exact c5, by rw [uI_s, up_n (by omega)]; exact c6, by rw [uI_s, up_n (by omega)]; exact c7, by rw [uI_s, up_s]; rfl⟩
theorem P_cards {t : Nat → Nat} {e q n0 bs mx : Nat} {σx σm ρ0 μ0 : am_M} {V : Vt} {Ns Nf : List (List Nat)} {rT lT dT : Bool} {X a b : Nat} (hm : mx = if q = 7 then 25 else 12) (hb0 : bs = mBeg q + 1768 + n0) (hq : (q < 6 ∧ q < vN V 4 ∧ n0 = 0) ∨ q = 7) (hl : (vP V q).length = n0) (h : PS t e (am_uI ρ0 6 3 (nI 1)) (ptM q n0 (am_uI μ0 123 27 (nI 1))) V Ns Nf rT lT dT true X b) (h3 : ρ0.1 3 3 = nI b) (hab : a < b) (hfx : fPx σx ρ0) (hfm : fPm σm μ0) (h10 : ρ0.1 3 10 = σx.1 3 10) (h11 : ρ0.1 3 11 = σx.1 3 11)
    (hg : ∀ i μ, S_X11_readCards [.ref 123, .int (nI bs), .int (nI mx)] μ0 = some (some (.int (nI i)), μ) → μ.1 123 12 = nI 0 → i < 30 → μ.1 128 1772 = μ0.1 128 1772 → S_X11_readPart [.ref 123] σm = some (none, ptM q (n0 + i) μ))
    (hw : ∀ k μ, S_X11_readCards [.ref 123, .int (nI bs), .int (nI mx)] μ0 = some (some (.int (nI 0)), μ) → μ.1 123 12 = nI k → 0 < k → k < 100 → ∃ j v, 1768 ≤ j ∧ S_X11_readPart [.ref 123] σm = some (none, am_uI μ 128 j v)) :
    POut t e σx σm (S_X9_takeCards [.ref 6, .ref 3, .ref 26, .int (nI (if q = 7 then 8 else q))] ρ0) (bodyM σm) a := by
  have hbe := h.2.2.2.2.1.2.2.2.1
  have he9 := h.2.2.2.2.1.1.2.2.1
  have h24 := h.1.2.1.2.1.len (p := q) (by omega)
  obtain ⟨ρ1, er1⟩ : ∃ s, s = am_uI ρ0 6 3 (nI 1) := ⟨_, rfl⟩
  obtain ⟨μ1, em1⟩ : ∃ s, s = am_uI μ0 123 27 (nI 1) := ⟨_, rfl⟩
  have er1' := er1.symm
  have em1' := em1.symm
  rw [er1', em1'] at h
  have h13 : ρ1.1 3 3 = nI b := by rw [er1, uI_n (by omega)]; exact h3
  have hfx1 : fPx σx ρ1 := by rw [er1]; exact fPx_uI hfx (by omega)
  have hfm1 : fPm σm μ1 := by rw [em1]; exact fPm_uI hfm (by omega)
  have hL := P_loop (t := t) (e := e) (q := q) (bs := bs) (mx := mx) (n0 := n0) (Ns := Ns) (Nf := Nf) (rT := rT) (lT := lT) (dT := dT) (cT := true) hm hb0 900 (σx := ρ1) (σm := μ1) (V := V) (X := X) (a := b) (i := 0) (mn := 0) (y4 := none) (y5 := none) (y6 := none) (by omega) hq (by omega) (by rw [hl]; exact h) h13 (by omega)
  have hcx : S_X9_takeCards [.ref 6, .ref 3, .ref 26, .int (nI (if q = 7 then 8 else q))] ρ0 = hd_X9_takeCards (am_it (hd_X9_takeCards) am_fuel) 8 [some (.ref 6), some (.ref 3), some (.ref 26), some (.int (nI (if q = 7 then 8 else q))), some (.int (nI 0))] [] ρ1 := by
    simp (disch := omega) only [g_X9_takeCards, ↓e_X9_takeCards_0, ↓h_X9_takeCards_8, ↓it_s, ↓y_iload, ↓y_lload, ↓y_aload, ↓y_istore, ↓y_lstore, ↓y_astore, ↓y_iinc, ↓y_cI, ↓y_cL, ↓y_bin, ↓y_binL, ↓y_div, ↓y_divL, ↓y_lshl, ↓y_un, ↓y_i2l, ↓y_lneg, ↓y_l2i, ↓y_lcmp, ↓y_dupI, ↓y_dupR, ↓y_dup2, ↓y_pop, ↓y_goto, ↓y_eq0, ↓y_lt0, ↓y_le0, ↓y_eq, ↓y_lt, ↓y_le, ↓y_switch, ↓y_sw0, ↓y_sw1, ↓y_getI, ↓y_getL, ↓y_getR, ↓y_getT, ↓y_putI, ↓y_putZ, ↓y_putL, ↓y_putT, ↓y_iald, ↓y_bald, ↓y_lald, ↓y_aald, ↓y_iast, ↓y_bast, ↓y_last, ↓y_alen, ↓y_iret, ↓y_zret, ↓y_lret, ↓y_vret, ↓y_svI, ↓y_svL, ↓y_svV, ↓y_ivI, ↓y_ivL, ↓y_ivV, ↓y_max, ↓y_min, ↓y_absL, ↓y_cpI, ↓y_cpL, ↓x_n1I, ↓x_n1L, ↓x_n1R, ↓x_n0I, ↓x_n0L, ↓x_n0R, ↓x_s0, ↓x_s1i, ↓x_s1r, ↓x_s1n, ↓x_s2, ↓x_c0, ↓x_c2, ↓x_tk0, ↓x_tk1, ↓x_rcv, x_rI1, x_rL1, x_rV1, x_rIn, x_rLn, x_rVn, x_rIf, x_rLf, x_rVf, x_40, x_41, x_42, x_43, x_44, ↓reduceIte, if_true, if_false, ao_iadd, ao_isub, ao_imul, ao_iand, ao_ior, ao_ishl, ao_ishr, ao_iushr, ao_ladd, ao_lsub, ao_lmul, ao_land, ao_lor, ao_idiv, ao_irem, ao_ldiv, ao_lrem, ao_ineg, ao_i2b, ao_i2s, Nat.reduceAdd, Nat.reduceMul, Nat.reduceSub, Nat.reduceEqDiff, Nat.reduceLeDiff, and_self, true_and, x_lit, x_ofn, x_z0, x_z1, x_inbT, x_ltT, x_ltF, x_leT, x_leF, x_eqF, x_eqT, x_inb, x_lt, x_le, x_eq, x_cl, x_sub, nI_add, pk_mul, x_m1e, x_m1e', x_m1l, x_m1n, x_m1s, Nat.not_lt_zero, x_zb, x_b0, x_b1, decide_eq_false_iff_not, decide_eq_true_eq, Bool.false_eq_true, Bool.true_eq_false, er1', kd_3, kd_6]
  have hcm : S_X11_readCards [.ref 123, .int (nI bs), .int (nI mx)] μ0 = hd_X11_readCards (am_it (hd_X11_readCards) am_fuel) 7 [some (.ref 123), some (.int (nI bs)), some (.int (nI mx)), some (.int (nI 0)), none, none, none] [] μ1 := by
    simp (disch := omega) only [g_X11_readCards, ↓e_X11_readCards_0, ↓h_X11_readCards_7, ↓it_s, ↓y_iload, ↓y_lload, ↓y_aload, ↓y_istore, ↓y_lstore, ↓y_astore, ↓y_iinc, ↓y_cI, ↓y_cL, ↓y_bin, ↓y_binL, ↓y_div, ↓y_divL, ↓y_lshl, ↓y_un, ↓y_i2l, ↓y_lneg, ↓y_l2i, ↓y_lcmp, ↓y_dupI, ↓y_dupR, ↓y_dup2, ↓y_pop, ↓y_goto, ↓y_eq0, ↓y_lt0, ↓y_le0, ↓y_eq, ↓y_lt, ↓y_le, ↓y_switch, ↓y_sw0, ↓y_sw1, ↓y_getI, ↓y_getL, ↓y_getR, ↓y_getT, ↓y_putI, ↓y_putZ, ↓y_putL, ↓y_putT, ↓y_iald, ↓y_bald, ↓y_lald, ↓y_aald, ↓y_iast, ↓y_bast, ↓y_last, ↓y_alen, ↓y_iret, ↓y_zret, ↓y_lret, ↓y_vret, ↓y_svI, ↓y_svL, ↓y_svV, ↓y_ivI, ↓y_ivL, ↓y_ivV, ↓y_max, ↓y_min, ↓y_absL, ↓y_cpI, ↓y_cpL, ↓x_n1I, ↓x_n1L, ↓x_n1R, ↓x_n0I, ↓x_n0L, ↓x_n0R, ↓x_s0, ↓x_s1i, ↓x_s1r, ↓x_s1n, ↓x_s2, ↓x_c0, ↓x_c2, ↓x_tk0, ↓x_tk1, ↓x_rcv, x_rI1, x_rL1, x_rV1, x_rIn, x_rLn, x_rVn, x_rIf, x_rLf, x_rVf, x_40, x_41, x_42, x_43, x_44, ↓reduceIte, if_true, if_false, ao_iadd, ao_isub, ao_imul, ao_iand, ao_ior, ao_ishl, ao_ishr, ao_iushr, ao_ladd, ao_lsub, ao_lmul, ao_land, ao_lor, ao_idiv, ao_irem, ao_ldiv, ao_lrem, ao_ineg, ao_i2b, ao_i2s, Nat.reduceAdd, Nat.reduceMul, Nat.reduceSub, Nat.reduceEqDiff, Nat.reduceLeDiff, and_self, true_and, x_lit, x_ofn, x_z0, x_z1, x_inbT, x_ltT, x_ltF, x_leT, x_leF, x_eqF, x_eqT, x_inb, x_lt, x_le, x_eq, x_cl, x_sub, nI_add, pk_mul, x_m1e, x_m1e', x_m1l, x_m1n, x_m1s, Nat.not_lt_zero, x_zb, x_b0, x_b1, decide_eq_false_iff_not, decide_eq_true_eq, Bool.false_eq_true, Bool.true_eq_false, em1', kd_123]
  rcases hL with ⟨τx, τm, k, p, j1, j2, j3, j4, j5, j6, j7, j8, j9, j10⟩ | ⟨ρx, μ, V', X', b', i', rx, j1, j2, j3, j4, j5, j6, j7, j8, j9, j10, j11, j12, j13⟩
  · have hx := fin_run j1 (by unfold am_fuel; omega)
    have hm' := fin_run j2 (by unfold am_fuel; omega)
    rw [← hcx] at hx
    rw [← hcm] at hm'
    obtain ⟨j, v, hj, hr⟩ := hw k τm hm' j7 j3 j4
    have g12 : (am_uI τm 128 j v).1 123 12 = nI k := by rw [uI_n (by omega)]; exact j7
    exact Or.inl ⟨τx, am_uI τm 128 j v, k, p, hx, body_bad hr g12 j3 j4, j3, j4, j5, j6, g12, by rw [uI_n (by omega)]; exact j8, fPx_tr hfx1 j9, fPm_uc (fPm_tr hfm1 j10) hj⟩
  · have hx := fin_run j1 (by unfold am_fuel; omega)
    have hm' := fin_run j2 (by unfold am_fuel; omega)
    rw [← hcx] at hx
    rw [← hcm] at hm'
    rw [hx]
    obtain ⟨k1, k2, k3, k4, k5⟩ := j3.2.2.2.2.1
    have hl' := j3.1.2.1.2.1.len (p := q) (by omega)
    have h12 : μ.1 123 12 = nI 0 := by rw [ptM_o (by omega)] at k5; exact k5
    have hr := hg i' μ hm' h12 (by omega) (by rw [j13, em1, uI_n (by omega)])
    rw [← j6] at hr
    have hpt : fPm μ (ptM q (vP V' q).length μ) := by
      unfold ptM; split
      · exact fPm_uc (fPm_rf _) (by omega)
      · exact fPm_uc (fPm_uc (fPm_rf _) (by omega)) (by omega)
    have hfm2 := fPm_tr (fPm_tr hfm1 j12) hpt
    obtain ⟨g1, g0⟩ := body_sg hr k2 k4 k3 k5
    have h10' : ρ1.1 3 10 = σx.1 3 10 := by rw [er1, uI_n (by omega)]; exact h10
    have h11' : ρ1.1 3 11 = σx.1 3 11 := by rw [er1, uI_n (by omega)]; exact h11
    cases hs : decide (tkd t e b' = 3 ∧ tnum t e b' = 59) with
    | false =>
      obtain ⟨τx, x1, x2⟩ := j8.2 hs
      exact Or.inl ⟨τx, _, _, _, x1, g0 hs, (amk_12 t e _).1, (amk_12 t e _).2, x2.1, x2.2.1, bdM_12 _ _ _, bdM_13 _ _ _, fPx_tr (fPx_tr hfx1 j11) (fPx_B x2.2.2), fPm_bd hfm2⟩
    | true =>
      obtain ⟨τx, x1, x2, x3⟩ := j8.1 hs
      obtain ⟨ρm, v4, v5, v6⟩ := g1 hs
      have hfe := (tq_le (t := t) k4).2
      have hgt4 := tq_gt k4 (show tkd t e b' ≠ 0 by have := (of_decide_eq_true hs).1; omega)
      exact Or.inr ⟨τx, ρm, V', Ns, Nf, rT, lT, dT, true, X', tq t e b', x1, v4, PS_tok j3 x3 v6 v5 hfe, x2.1, by omega, by rw [x3.2 10 (by omega), j9, h10'], by rw [x3.2 11 (by omega), j10, h11'], fPx_tr (fPx_tr hfx1 j11) (fPx_R x3), fPm_tr hfm2 (fPm_T v6)⟩
theorem M_part6 {t : Nat → Nat} {e a : Nat} {σ τ : am_M} (hae : a ≤ e) (h : TokM t e a σ) (hw : twi t e a = some 6) (hr : S_X11_readStock [.ref 123] σ = some (none, τ)) : S_X11_readPart [.ref 123] σ = some (none, τ) := by
  have w0 := M_isRanks hae h
  have w3 := M_isLaw hae h
  have w4 := M_isRedeals hae h
  have w1 := M_isSuit hae h
  have w5 := M_isRow hae h
  have w6 := M_isStock hae h
  rw [hw] at w0 w3 w4 w1 w5 w6
  simp (disch := omega) only [g_X11_readPart, ↓e_X11_readPart_0, ↓e_X11_readPart_19, ↓e_X11_readPart_37, ↓e_X11_readPart_56, ↓e_X11_readPart_70, ↓e_X11_readPart_84, ↓e_X11_readPart_116, ↓it_s, ↓y_iload, ↓y_lload, ↓y_aload, ↓y_istore, ↓y_lstore, ↓y_astore, ↓y_iinc, ↓y_cI, ↓y_cL, ↓y_bin, ↓y_binL, ↓y_div, ↓y_divL, ↓y_lshl, ↓y_un, ↓y_i2l, ↓y_lneg, ↓y_l2i, ↓y_lcmp, ↓y_dupI, ↓y_dupR, ↓y_dup2, ↓y_pop, ↓y_goto, ↓y_eq0, ↓y_lt0, ↓y_le0, ↓y_eq, ↓y_lt, ↓y_le, ↓y_switch, ↓y_sw0, ↓y_sw1, ↓y_getI, ↓y_getL, ↓y_getR, ↓y_getT, ↓y_putI, ↓y_putZ, ↓y_putL, ↓y_putT, ↓y_iald, ↓y_bald, ↓y_lald, ↓y_aald, ↓y_iast, ↓y_bast, ↓y_last, ↓y_alen, ↓y_iret, ↓y_zret, ↓y_lret, ↓y_vret, ↓y_svI, ↓y_svL, ↓y_svV, ↓y_ivI, ↓y_ivL, ↓y_ivV, ↓y_max, ↓y_min, ↓y_absL, ↓y_cpI, ↓y_cpL, ↓x_n1I, ↓x_n1L, ↓x_n1R, ↓x_n0I, ↓x_n0L, ↓x_n0R, ↓x_s0, ↓x_s1i, ↓x_s1r, ↓x_s1n, ↓x_s2, ↓x_c0, ↓x_c2, ↓x_tk0, ↓x_tk1, ↓x_rcv, x_rI1, x_rL1, x_rV1, x_rIn, x_rLn, x_rVn, x_rIf, x_rLf, x_rVf, x_40, x_41, x_42, x_43, x_44, ↓reduceIte, if_true, if_false, ao_iadd, ao_isub, ao_imul, ao_iand, ao_ior, ao_ishl, ao_ishr, ao_iushr, ao_ladd, ao_lsub, ao_lmul, ao_land, ao_lor, ao_idiv, ao_irem, ao_ldiv, ao_lrem, ao_ineg, ao_i2b, ao_i2s, Nat.reduceAdd, Nat.reduceMul, Nat.reduceSub, Nat.reduceEqDiff, Nat.reduceLeDiff, and_self, true_and, x_lit, x_ofn, x_z0, x_z1, x_inbT, x_ltT, x_ltF, x_leT, x_leF, x_eqF, x_eqT, x_inb, x_lt, x_le, x_eq, x_cl, x_sub, nI_add, pk_mul, x_m1e, x_m1e', x_m1l, x_m1n, x_m1s, Nat.not_lt_zero, x_zb, x_b0, x_b1, decide_eq_false_iff_not, decide_eq_true_eq, Bool.false_eq_true, Bool.true_eq_false, dsome, w0, w3, w4, w1, w5, w6, Nat.reduceEqDiff, decide_true, decide_false, b2_t, b2_f, hr, kd_123]
theorem M_part5 {t : Nat → Nat} {e a : Nat} {σ τ : am_M} (hae : a ≤ e) (h : TokM t e a σ) (hw : twi t e a = some 5) (hr : S_X11_readRow [.ref 123] σ = some (none, τ)) : S_X11_readPart [.ref 123] σ = some (none, τ) := by
  have w0 := M_isRanks hae h
  have w3 := M_isLaw hae h
  have w4 := M_isRedeals hae h
  have w1 := M_isSuit hae h
  have w5 := M_isRow hae h
  rw [hw] at w0 w3 w4 w1 w5
  simp (disch := omega) only [g_X11_readPart, ↓e_X11_readPart_0, ↓e_X11_readPart_19, ↓e_X11_readPart_37, ↓e_X11_readPart_56, ↓e_X11_readPart_70, ↓e_X11_readPart_116, ↓it_s, ↓y_iload, ↓y_lload, ↓y_aload, ↓y_istore, ↓y_lstore, ↓y_astore, ↓y_iinc, ↓y_cI, ↓y_cL, ↓y_bin, ↓y_binL, ↓y_div, ↓y_divL, ↓y_lshl, ↓y_un, ↓y_i2l, ↓y_lneg, ↓y_l2i, ↓y_lcmp, ↓y_dupI, ↓y_dupR, ↓y_dup2, ↓y_pop, ↓y_goto, ↓y_eq0, ↓y_lt0, ↓y_le0, ↓y_eq, ↓y_lt, ↓y_le, ↓y_switch, ↓y_sw0, ↓y_sw1, ↓y_getI, ↓y_getL, ↓y_getR, ↓y_getT, ↓y_putI, ↓y_putZ, ↓y_putL, ↓y_putT, ↓y_iald, ↓y_bald, ↓y_lald, ↓y_aald, ↓y_iast, ↓y_bast, ↓y_last, ↓y_alen, ↓y_iret, ↓y_zret, ↓y_lret, ↓y_vret, ↓y_svI, ↓y_svL, ↓y_svV, ↓y_ivI, ↓y_ivL, ↓y_ivV, ↓y_max, ↓y_min, ↓y_absL, ↓y_cpI, ↓y_cpL, ↓x_n1I, ↓x_n1L, ↓x_n1R, ↓x_n0I, ↓x_n0L, ↓x_n0R, ↓x_s0, ↓x_s1i, ↓x_s1r, ↓x_s1n, ↓x_s2, ↓x_c0, ↓x_c2, ↓x_tk0, ↓x_tk1, ↓x_rcv, x_rI1, x_rL1, x_rV1, x_rIn, x_rLn, x_rVn, x_rIf, x_rLf, x_rVf, x_40, x_41, x_42, x_43, x_44, ↓reduceIte, if_true, if_false, ao_iadd, ao_isub, ao_imul, ao_iand, ao_ior, ao_ishl, ao_ishr, ao_iushr, ao_ladd, ao_lsub, ao_lmul, ao_land, ao_lor, ao_idiv, ao_irem, ao_ldiv, ao_lrem, ao_ineg, ao_i2b, ao_i2s, Nat.reduceAdd, Nat.reduceMul, Nat.reduceSub, Nat.reduceEqDiff, Nat.reduceLeDiff, and_self, true_and, x_lit, x_ofn, x_z0, x_z1, x_inbT, x_ltT, x_ltF, x_leT, x_leF, x_eqF, x_eqT, x_inb, x_lt, x_le, x_eq, x_cl, x_sub, nI_add, pk_mul, x_m1e, x_m1e', x_m1l, x_m1n, x_m1s, Nat.not_lt_zero, x_zb, x_b0, x_b1, decide_eq_false_iff_not, decide_eq_true_eq, Bool.false_eq_true, Bool.true_eq_false, dsome, w0, w3, w4, w1, w5, Nat.reduceEqDiff, decide_true, decide_false, b2_t, b2_f, hr, kd_123]
theorem P_stock {t : Nat → Nat} {e : Nat} {σx σm : am_M} {V : Vt} {Ns Nf : List (List Nat)} {rT lT dT cT : Bool} {X a : Nat} (h : PS t e σx σm V Ns Nf rT lT dT cT X a) (hx : TokX t e a σx) (hw : twi t e a = some 6) : POut t e σx σm (S_X9_takeCards [.ref 6, .ref 3, .ref 26, .int (nI 8)] σx) (bodyM σm) a := by
  obtain ⟨e1, e2, e3, e4, e5⟩ := h.2.2.2.2.1
  have hk1 := tw_kd hw
  have hbe := (tq_le (t := t) e4).2
  have hgt := tq_gt e4 (show tkd t e a ≠ 0 by omega)
  obtain ⟨μ0, y1, y2, y3⟩ := M_advance e2 hbe e3.2.1
  obtain ⟨n0, en⟩ : ∃ n0, n0 = (vP V 7).length := ⟨_, rfl⟩
  have hn24 := h.1.2.1.2.1.len (p := 7) (by omega)
  rw [← en] at hn24
  have h76 : μ0.1 128 1776 = nI n0 := by rw [(y3.1 128 (by omega)).1, en]; exact h.1.2.2.2.1.1
  have hP := PS_cT (PS_tok h (fR_rf _) y3 y2 hbe)
  have hpt : ptM 7 n0 (am_uI μ0 123 27 (nI 1)) = am_uI μ0 123 27 (nI 1) := by
    unfold ptM; rw [if_pos rfl]; exact uI_id (by rw [uI_n (by omega)]; exact h76)
  have hR := P_cards (q := 7) (n0 := n0) (bs := 1860 + n0) (mx := 25) (σx := σx) (σm := σm) (ρ0 := σx) (μ0 := μ0) (a := a) (b := tq t e a) rfl rfl (Or.inr rfl) en.symm (by rw [hpt]; exact hP) hx.1 hgt (fPx_rf _) (fPm_T y3) rfl rfl (fun i μ r1 r2 r3 _ => M_part6 e4 e3 hw (by
    unfold ptM; rw [if_pos rfl]
    simp (disch := omega) only [g_X11_readStock, ↓e_X11_readStock_0, ↓it_s, ↓y_iload, ↓y_lload, ↓y_aload, ↓y_istore, ↓y_lstore, ↓y_astore, ↓y_iinc, ↓y_cI, ↓y_cL, ↓y_bin, ↓y_binL, ↓y_div, ↓y_divL, ↓y_lshl, ↓y_un, ↓y_i2l, ↓y_lneg, ↓y_l2i, ↓y_lcmp, ↓y_dupI, ↓y_dupR, ↓y_dup2, ↓y_pop, ↓y_goto, ↓y_eq0, ↓y_lt0, ↓y_le0, ↓y_eq, ↓y_lt, ↓y_le, ↓y_switch, ↓y_sw0, ↓y_sw1, ↓y_getI, ↓y_getL, ↓y_getR, ↓y_getT, ↓y_putI, ↓y_putZ, ↓y_putL, ↓y_putT, ↓y_iald, ↓y_bald, ↓y_lald, ↓y_aald, ↓y_iast, ↓y_bast, ↓y_last, ↓y_alen, ↓y_iret, ↓y_zret, ↓y_lret, ↓y_vret, ↓y_svI, ↓y_svL, ↓y_svV, ↓y_ivI, ↓y_ivL, ↓y_ivV, ↓y_max, ↓y_min, ↓y_absL, ↓y_cpI, ↓y_cpL, ↓x_n1I, ↓x_n1L, ↓x_n1R, ↓x_n0I, ↓x_n0L, ↓x_n0R, ↓x_s0, ↓x_s1i, ↓x_s1r, ↓x_s1n, ↓x_s2, ↓x_c0, ↓x_c2, ↓x_tk0, ↓x_tk1, ↓x_rcv, x_rI1, x_rL1, x_rV1, x_rIn, x_rLn, x_rVn, x_rIf, x_rLf, x_rVf, x_40, x_41, x_42, x_43, x_44, ↓reduceIte, if_true, if_false, ao_iadd, ao_isub, ao_imul, ao_iand, ao_ior, ao_ishl, ao_ishr, ao_iushr, ao_ladd, ao_lsub, ao_lmul, ao_land, ao_lor, ao_idiv, ao_irem, ao_ldiv, ao_lrem, ao_ineg, ao_i2b, ao_i2s, Nat.reduceAdd, Nat.reduceMul, Nat.reduceSub, Nat.reduceEqDiff, Nat.reduceLeDiff, and_self, true_and, x_lit, x_ofn, x_z0, x_z1, x_inbT, x_ltT, x_ltF, x_leT, x_leF, x_eqF, x_eqT, x_inb, x_lt, x_le, x_eq, x_cl, x_sub, nI_add, pk_mul, x_m1e, x_m1e', x_m1l, x_m1n, x_m1s, Nat.not_lt_zero, x_zb, x_b0, x_b1, decide_eq_false_iff_not, decide_eq_true_eq, Bool.false_eq_true, Bool.true_eq_false, y1, h76, r1, kd_123, kd_128, ln_128])) (fun k μ r1 r2 r3 r4 => ⟨1776, nI n0, by omega, M_part6 e4 e3 hw (by
    simp (disch := omega) only [g_X11_readStock, ↓e_X11_readStock_0, ↓it_s, ↓y_iload, ↓y_lload, ↓y_aload, ↓y_istore, ↓y_lstore, ↓y_astore, ↓y_iinc, ↓y_cI, ↓y_cL, ↓y_bin, ↓y_binL, ↓y_div, ↓y_divL, ↓y_lshl, ↓y_un, ↓y_i2l, ↓y_lneg, ↓y_l2i, ↓y_lcmp, ↓y_dupI, ↓y_dupR, ↓y_dup2, ↓y_pop, ↓y_goto, ↓y_eq0, ↓y_lt0, ↓y_le0, ↓y_eq, ↓y_lt, ↓y_le, ↓y_switch, ↓y_sw0, ↓y_sw1, ↓y_getI, ↓y_getL, ↓y_getR, ↓y_getT, ↓y_putI, ↓y_putZ, ↓y_putL, ↓y_putT, ↓y_iald, ↓y_bald, ↓y_lald, ↓y_aald, ↓y_iast, ↓y_bast, ↓y_last, ↓y_alen, ↓y_iret, ↓y_zret, ↓y_lret, ↓y_vret, ↓y_svI, ↓y_svL, ↓y_svV, ↓y_ivI, ↓y_ivL, ↓y_ivV, ↓y_max, ↓y_min, ↓y_absL, ↓y_cpI, ↓y_cpL, ↓x_n1I, ↓x_n1L, ↓x_n1R, ↓x_n0I, ↓x_n0L, ↓x_n0R, ↓x_s0, ↓x_s1i, ↓x_s1r, ↓x_s1n, ↓x_s2, ↓x_c0, ↓x_c2, ↓x_tk0, ↓x_tk1, ↓x_rcv, x_rI1, x_rL1, x_rV1, x_rIn, x_rLn, x_rVn, x_rIf, x_rLf, x_rVf, x_40, x_41, x_42, x_43, x_44, ↓reduceIte, if_true, if_false, ao_iadd, ao_isub, ao_imul, ao_iand, ao_ior, ao_ishl, ao_ishr, ao_iushr, ao_ladd, ao_lsub, ao_lmul, ao_land, ao_lor, ao_idiv, ao_irem, ao_ldiv, ao_lrem, ao_ineg, ao_i2b, ao_i2s, Nat.reduceAdd, Nat.reduceMul, Nat.reduceSub, Nat.reduceEqDiff, Nat.reduceLeDiff, and_self, true_and, x_lit, x_ofn, x_z0, x_z1, x_inbT, x_ltT, x_ltF, x_leT, x_leF, x_eqF, x_eqT, x_inb, x_lt, x_le, x_eq, x_cl, x_sub, nI_add, pk_mul, x_m1e, x_m1e', x_m1l, x_m1n, x_m1s, Nat.not_lt_zero, x_zb, x_b0, x_b1, decide_eq_false_iff_not, decide_eq_true_eq, Bool.false_eq_true, Bool.true_eq_false, y1, h76, r1, Nat.add_zero, kd_123, kd_128, ln_128])⟩)
  exact hR
