theorem X_settle {t : Nat} {σ : am_M} (ht : isT t) : S_X6_settle [.ref t] σ = some (none, am_uA (am_uA σ (t + 2) (va_cpy (σ.1 (t + 5)) (σ.1 (t + 2)) 0 0 7)) (t + 4) (va_cpy (σ.1 (t + 6)) (σ.1 (t + 4)) 0 0 4)) := by
  obtain ⟨k0, k1, k2, k3, k4, k5, k6, l1, l2, l3, l4, l5, l6⟩ := isT_k ht
  simp (disch := omega) only [g_X6_settle, ↓e_X6_settle_0, ↓it_s, ↓y_iload, ↓y_lload, ↓y_aload, ↓y_istore, ↓y_lstore, ↓y_astore, ↓y_iinc, ↓y_cI, ↓y_cL, ↓y_bin, ↓y_binL, ↓y_div, ↓y_divL, ↓y_lshl, ↓y_un, ↓y_i2l, ↓y_lneg, ↓y_l2i, ↓y_lcmp, ↓y_dupI, ↓y_dupR, ↓y_dup2, ↓y_pop, ↓y_goto, ↓y_eq0, ↓y_lt0, ↓y_le0, ↓y_eq, ↓y_lt, ↓y_le, ↓y_switch, ↓y_sw0, ↓y_sw1, ↓y_getI, ↓y_getL, ↓y_getR, ↓y_getT, ↓y_putI, ↓y_putZ, ↓y_putL, ↓y_putT, ↓y_iald, ↓y_bald, ↓y_lald, ↓y_aald, ↓y_iast, ↓y_bast, ↓y_last, ↓y_alen, ↓y_iret, ↓y_zret, ↓y_lret, ↓y_vret, ↓y_svI, ↓y_svL, ↓y_svV, ↓y_ivI, ↓y_ivL, ↓y_ivV, ↓y_max, ↓y_min, ↓y_absL, ↓y_cpI, ↓y_cpL, ↓x_n1I, ↓x_n1L, ↓x_n1R, ↓x_n0I, ↓x_n0L, ↓x_n0R, ↓x_s0, ↓x_s1i, ↓x_s1r, ↓x_s1n, ↓x_s2, ↓x_c0, ↓x_c2, ↓x_tk0, ↓x_tk1, ↓x_rcv, x_rI1, x_rL1, x_rV1, x_rIn, x_rLn, x_rVn, x_rIf, x_rLf, x_rVf, x_40, x_41, x_42, x_43, x_44, ↓reduceIte, if_true, if_false, ao_iadd, ao_isub, ao_imul, ao_iand, ao_ior, ao_ishl, ao_ishr, ao_iushr, ao_ladd, ao_lsub, ao_lmul, ao_land, ao_lor, ao_idiv, ao_irem, ao_ldiv, ao_lrem, ao_ineg, ao_i2b, ao_i2s, Nat.reduceAdd, Nat.reduceMul, Nat.reduceSub, Nat.reduceEqDiff, Nat.reduceLeDiff, and_self, true_and, x_lit, x_ofn, x_z0, x_z1, x_inbT, x_ltT, x_ltF, x_leT, x_leF, x_eqF, x_eqT, x_inb, x_lt, x_le, x_eq, x_cl, x_sub, nI_add, pk_mul, x_m1e, x_m1e', x_m1l, x_m1n, x_m1s, Nat.not_lt_zero, x_zb, x_b0, x_b1, decide_eq_false_iff_not, decide_eq_true_eq, Bool.false_eq_true, Bool.true_eq_false, k0, k2, k4, k5, k6, l2, l4, l5, l6, cp7, cp4, Nat.le_refl, uA_n]
theorem runL_7 : ∀ (ps : List Nat) (V T : Vt), runL V ps = some T → vP T 7 = vP V 7
  | [], V, T, h => by cases h; rfl
  | p :: ps, V, T, h => by
    obtain ⟨a, b, c⟩ := runL_cons h
    obtain ⟨d, d1, d2, d3⟩ := goH_spec b
    rw [runL_7 ps _ T c, stp_P d1, if_neg (by omega)]
theorem RX_fr {σ τ : am_M} {t : Nat} {V T : Vt} (h : RX σ t V T) (h5 : τ.1 (t + 5) = σ.1 (t + 5)) (h6 : τ.1 (t + 6) = σ.1 (t + 6)) : RX τ t V T := by
  unfold RX at *
  rw [h5, h6]; exact h
theorem XB_in {v s : Nat} {V T : Vt} (hv : isV v) (wn : WN V) (hs : s < 4) (hT6 : vH T s ≤ 6) (hd : WFd (wetPart V (vH T) s 0)) (hle : vH V s ≤ vH T s) : ∀ (m j n : Nat) (σ : am_M) (k : Nat), vH T s - vH V s - j = m → vH V s + j ≤ vH T s → RX σ (v + 1) V T → VF σ v (wetPart V (vH T) s j) →
    ∃ (τ : am_M) (d3 : Option Value), am_it hd_X8_bringHome (n + m + 1) 34 [some (.ref v), some (.int (nI k)), some (.int (nI s)), some (.int (nI (vH V s + j + 1)))] [] σ = am_it hd_X8_bringHome n 17 [some (.ref v), some (.int (nI k)), some (.int (nI (s + 1))), d3] [] τ ∧ VF τ v (wetPart V (vH T) (s + 1) 0) ∧ only2 (v + 14) (v + 16) σ τ := by
  obtain ⟨k0, k12, k13, k14, k15, k16, l12, l13, l14, l15, l16⟩ := isV_k hv
  have ht := isV_T hv
  obtain ⟨t0, t1, t2, t3, t4, t5, t6, m1, m2, m3, m4, m5, m6⟩ := isT_k ht
  rw [show v + 1 + 6 = v + 7 by omega] at t6 m6
  intro m
  induction m with
  | zero =>
    intro j n σ k hm hj hR hF
    have e : j = vH T s - vH V s := by omega
    have h1 := hR.2.2 s hs
    rw [show v + 1 + 6 = v + 7 by omega] at h1
    refine ⟨σ, some (.int (nI (vH V s + j + 1))), ?_, ?_, only2_rf _ _ _⟩
    · simp (disch := omega) only [↓e_X8_bringHome_34, ↓e_X8_bringHome_59, ↓h_X8_bringHome_34, ↓it_s, ↓y_iload, ↓y_lload, ↓y_aload, ↓y_istore, ↓y_lstore, ↓y_astore, ↓y_iinc, ↓y_cI, ↓y_cL, ↓y_bin, ↓y_binL, ↓y_div, ↓y_divL, ↓y_lshl, ↓y_un, ↓y_i2l, ↓y_lneg, ↓y_l2i, ↓y_lcmp, ↓y_dupI, ↓y_dupR, ↓y_dup2, ↓y_pop, ↓y_goto, ↓y_eq0, ↓y_lt0, ↓y_le0, ↓y_eq, ↓y_lt, ↓y_le, ↓y_switch, ↓y_sw0, ↓y_sw1, ↓y_getI, ↓y_getL, ↓y_getR, ↓y_getT, ↓y_putI, ↓y_putZ, ↓y_putL, ↓y_putT, ↓y_iald, ↓y_bald, ↓y_lald, ↓y_aald, ↓y_iast, ↓y_bast, ↓y_last, ↓y_alen, ↓y_iret, ↓y_zret, ↓y_lret, ↓y_vret, ↓y_svI, ↓y_svL, ↓y_svV, ↓y_ivI, ↓y_ivL, ↓y_ivV, ↓y_max, ↓y_min, ↓y_absL, ↓y_cpI, ↓y_cpL, ↓x_n1I, ↓x_n1L, ↓x_n1R, ↓x_n0I, ↓x_n0L, ↓x_n0R, ↓x_s0, ↓x_s1i, ↓x_s1r, ↓x_s1n, ↓x_s2, ↓x_c0, ↓x_c2, ↓x_tk0, ↓x_tk1, ↓x_rcv, x_rI1, x_rL1, x_rV1, x_rIn, x_rLn, x_rVn, x_rIf, x_rLf, x_rVf, x_40, x_41, x_42, x_43, x_44, ↓reduceIte, if_true, if_false, ao_iadd, ao_isub, ao_imul, ao_iand, ao_ior, ao_ishl, ao_ishr, ao_iushr, ao_ladd, ao_lsub, ao_lmul, ao_land, ao_lor, ao_idiv, ao_irem, ao_ldiv, ao_lrem, ao_ineg, ao_i2b, ao_i2s, Nat.reduceAdd, Nat.reduceMul, Nat.reduceSub, Nat.reduceEqDiff, Nat.reduceLeDiff, and_self, true_and, x_lit, x_ofn, x_z0, x_z1, x_inbT, x_ltT, x_ltF, x_leT, x_leF, x_eqF, x_eqT, x_inb, x_lt, x_le, x_eq, x_cl, x_sub, nI_add, pk_mul, x_m1e, x_m1e', x_m1l, x_m1n, x_m1s, Nat.not_lt_zero, x_zb, x_b0, x_b1, decide_eq_false_iff_not, decide_eq_true_eq, Bool.false_eq_true, Bool.true_eq_false, k0, t0, t6, m6, h1, Nat.add_zero]
    · rw [← wetPart_nx V (vH T) s hle, ← e]; exact hF
  | succ m ih =>
    intro j n σ k hm hj hR hF
    have h1 := hR.2.2 s hs
    rw [show v + 1 + 6 = v + 7 by omega] at h1
    have hd2 := WFd_wetPart hd (by omega) j (by omega)
    obtain ⟨τ, a, b, c⟩ := X_wetSuit (s := s) (r := vH V s + j + 1) hv hF (V := wetPart V (vH T) s j) wn hd2 (by omega) (by omega)
    rw [wetPart_st] at b
    obtain ⟨ρ, d3, x1, x2, x3⟩ := ih (j + 1) n τ k (by omega) (by omega) (RX_fr hR (c.2 _ (by omega) (by omega)) (c.2 _ (by omega) (by omega))) b
    obtain ⟨N, eN⟩ : ∃ N, N = n + m + 1 := ⟨_, rfl⟩
    rw [show n + (m + 1) + 1 = N + 1 by omega]
    rw [← eN] at x1
    refine ⟨ρ, d3, ?_, x2, only2_tr c x3⟩
    rw [← x1]
    obtain ⟨M, eM⟩ : ∃ M, M = N := ⟨_, rfl⟩
    rw [← eM]
    simp (disch := omega) only [↓e_X8_bringHome_34, ↓e_X8_bringHome_59, ↓h_X8_bringHome_34, ↓it_s, ↓y_iload, ↓y_lload, ↓y_aload, ↓y_istore, ↓y_lstore, ↓y_astore, ↓y_iinc, ↓y_cI, ↓y_cL, ↓y_bin, ↓y_binL, ↓y_div, ↓y_divL, ↓y_lshl, ↓y_un, ↓y_i2l, ↓y_lneg, ↓y_l2i, ↓y_lcmp, ↓y_dupI, ↓y_dupR, ↓y_dup2, ↓y_pop, ↓y_goto, ↓y_eq0, ↓y_lt0, ↓y_le0, ↓y_eq, ↓y_lt, ↓y_le, ↓y_switch, ↓y_sw0, ↓y_sw1, ↓y_getI, ↓y_getL, ↓y_getR, ↓y_getT, ↓y_putI, ↓y_putZ, ↓y_putL, ↓y_putT, ↓y_iald, ↓y_bald, ↓y_lald, ↓y_aald, ↓y_iast, ↓y_bast, ↓y_last, ↓y_alen, ↓y_iret, ↓y_zret, ↓y_lret, ↓y_vret, ↓y_svI, ↓y_svL, ↓y_svV, ↓y_ivI, ↓y_ivL, ↓y_ivV, ↓y_max, ↓y_min, ↓y_absL, ↓y_cpI, ↓y_cpL, ↓x_n1I, ↓x_n1L, ↓x_n1R, ↓x_n0I, ↓x_n0L, ↓x_n0R, ↓x_s0, ↓x_s1i, ↓x_s1r, ↓x_s1n, ↓x_s2, ↓x_c0, ↓x_c2, ↓x_tk0, ↓x_tk1, ↓x_rcv, x_rI1, x_rL1, x_rV1, x_rIn, x_rLn, x_rVn, x_rIf, x_rLf, x_rVf, x_40, x_41, x_42, x_43, x_44, ↓reduceIte, if_true, if_false, ao_iadd, ao_isub, ao_imul, ao_iand, ao_ior, ao_ishl, ao_ishr, ao_iushr, ao_ladd, ao_lsub, ao_lmul, ao_land, ao_lor, ao_idiv, ao_irem, ao_ldiv, ao_lrem, ao_ineg, ao_i2b, ao_i2s, Nat.reduceAdd, Nat.reduceMul, Nat.reduceSub, Nat.reduceEqDiff, Nat.reduceLeDiff, and_self, true_and, x_lit, x_ofn, x_z0, x_z1, x_inbT, x_ltT, x_ltF, x_leT, x_leF, x_eqF, x_eqT, x_inb, x_lt, x_le, x_eq, x_cl, x_sub, nI_add, pk_mul, x_m1e, x_m1e', x_m1l, x_m1n, x_m1s, Nat.not_lt_zero, x_zb, x_b0, x_b1, decide_eq_false_iff_not, decide_eq_true_eq, Bool.false_eq_true, Bool.true_eq_false, k0, t0, t6, m6, h1, a, show vH V s + (j + 1) + 1 = vH V s + j + 1 + 1 by omega]
theorem XB_out {v : Nat} {V T : Vt} (hv : isV v) (wn : WN V) (wc : WC V) (hT6 : ∀ s, vH T s ≤ 6) (hle : ∀ s, vH V s ≤ vH T s) : ∀ (m s n : Nat) (σ : am_M) (k : Nat) (d3 : Option Value), 4 - s = m → s ≤ 4 → 10 * m < n → TP σ (v + 1) V → RX σ (v + 1) V T → WFd (wetPart V (vH T) s 0) → VF σ v (wetPart V (vH T) s 0) →
    ∃ (τ : am_M), am_it hd_X8_bringHome n 17 [some (.ref v), some (.int (nI k)), some (.int (nI s)), d3] [] σ = am_bV (S_X6_settle [.ref (v + 1)] τ) (fun ρ => some (some (.int (nI k)), ρ)) ∧ VF τ v (wetPart V (vH T) 4 0) ∧ only2 (v + 14) (v + 16) σ τ ∧ WFd (wetPart V (vH T) 4 0) := by
  obtain ⟨k0, k12, k13, k14, k15, k16, l12, l13, l14, l15, l16⟩ := isV_k hv
  have ht := isV_T hv
  obtain ⟨t0, t1, t2, t3, t4, t5, t6, m1, m2, m3, m4, m5, m6⟩ := isT_k ht
  rw [show v + 1 + 4 = v + 5 by omega] at t4 m4
  intro m
  induction m with
  | zero =>
    intro s n σ k d3 hm hs hn hP hR hd hF
    have e : s = 4 := by omega
    subst e
    obtain ⟨n, rfl⟩ : ∃ q, n = q + 1 := ⟨n - 1, by omega⟩
    refine ⟨σ, ?_, hF, only2_rf _ _ _, hd⟩
    rw [X_settle ht]
    simp (disch := omega) only [↓e_X8_bringHome_17, ↓e_X8_bringHome_65, ↓h_X8_bringHome_17, ↓it_s, ↓y_iload, ↓y_lload, ↓y_aload, ↓y_istore, ↓y_lstore, ↓y_astore, ↓y_iinc, ↓y_cI, ↓y_cL, ↓y_bin, ↓y_binL, ↓y_div, ↓y_divL, ↓y_lshl, ↓y_un, ↓y_i2l, ↓y_lneg, ↓y_l2i, ↓y_lcmp, ↓y_dupI, ↓y_dupR, ↓y_dup2, ↓y_pop, ↓y_goto, ↓y_eq0, ↓y_lt0, ↓y_le0, ↓y_eq, ↓y_lt, ↓y_le, ↓y_switch, ↓y_sw0, ↓y_sw1, ↓y_getI, ↓y_getL, ↓y_getR, ↓y_getT, ↓y_putI, ↓y_putZ, ↓y_putL, ↓y_putT, ↓y_iald, ↓y_bald, ↓y_lald, ↓y_aald, ↓y_iast, ↓y_bast, ↓y_last, ↓y_alen, ↓y_iret, ↓y_zret, ↓y_lret, ↓y_vret, ↓y_svI, ↓y_svL, ↓y_svV, ↓y_ivI, ↓y_ivL, ↓y_ivV, ↓y_max, ↓y_min, ↓y_absL, ↓y_cpI, ↓y_cpL, ↓x_n1I, ↓x_n1L, ↓x_n1R, ↓x_n0I, ↓x_n0L, ↓x_n0R, ↓x_s0, ↓x_s1i, ↓x_s1r, ↓x_s1n, ↓x_s2, ↓x_c0, ↓x_c2, ↓x_tk0, ↓x_tk1, ↓x_rcv, x_rI1, x_rL1, x_rV1, x_rIn, x_rLn, x_rVn, x_rIf, x_rLf, x_rVf, x_40, x_41, x_42, x_43, x_44, ↓reduceIte, if_true, if_false, ao_iadd, ao_isub, ao_imul, ao_iand, ao_ior, ao_ishl, ao_ishr, ao_iushr, ao_ladd, ao_lsub, ao_lmul, ao_land, ao_lor, ao_idiv, ao_irem, ao_ldiv, ao_lrem, ao_ineg, ao_i2b, ao_i2s, Nat.reduceAdd, Nat.reduceMul, Nat.reduceSub, Nat.reduceEqDiff, Nat.reduceLeDiff, and_self, true_and, x_lit, x_ofn, x_z0, x_z1, x_inbT, x_ltT, x_ltF, x_leT, x_leF, x_eqF, x_eqT, x_inb, x_lt, x_le, x_eq, x_cl, x_sub, nI_add, pk_mul, x_m1e, x_m1e', x_m1l, x_m1n, x_m1s, Nat.not_lt_zero, x_zb, x_b0, x_b1, decide_eq_false_iff_not, decide_eq_true_eq, Bool.false_eq_true, Bool.true_eq_false, k0, t0, X_settle ht, x_bV]
  | succ m ih =>
    intro s n σ k d3 hm hs hn hP hR hd hF
    have h1 := hP.2.2.2 s (by omega)
    rw [show v + 1 + 4 = v + 5 by omega] at h1
    have h2 := hle s
    have h3 := hT6 s
    obtain ⟨n', rfl⟩ : ∃ q, n = q + (vH T s - vH V s) + 1 := ⟨n - (vH T s - vH V s) - 1, by omega⟩
    obtain ⟨τ, d, a1, a2, a3⟩ := XB_in hv wn (s := s) (by omega) h3 hd h2 (vH T s - vH V s) 0 n' σ k (by omega) (by omega) hR hF
    have hd' : WFd (wetPart V (vH T) (s + 1) 0) := by
      rw [← wetPart_nx V (vH T) s h2]
      exact WFd_wetPart hd (by omega) _ (by omega)
    obtain ⟨ρ, b1, b2', b3, b4⟩ := ih (s + 1) n' τ k d (by omega) (by omega) (by omega) (TP_fr hP (fun j q1 q2 => a3.2 j (by omega) (by omega))) (RX_fr hR (a3.2 _ (by omega) (by omega)) (a3.2 _ (by omega) (by omega))) hd' a2
    refine ⟨ρ, ?_, b2', only2_tr a3 b3, b4⟩
    rw [← b1, ← a1]
    obtain ⟨N, eN⟩ : ∃ N, N = n' + (vH T s - vH V s) := ⟨_, rfl⟩
    rw [← eN]
    have e2 : ∀ lv st τ, am_it hd_X8_bringHome (N + 1) 34 lv st τ = dn_X8_bringHome_34 (am_it hd_X8_bringHome N) lv st τ := fun _ _ _ => rfl
    rw [e2]
    have h6 := wc.2.2.2.2 s
    simp (disch := omega) only [↓e_X8_bringHome_17, ↓h_X8_bringHome_17, ↓it_s, ↓y_iload, ↓y_lload, ↓y_aload, ↓y_istore, ↓y_lstore, ↓y_astore, ↓y_iinc, ↓y_cI, ↓y_cL, ↓y_bin, ↓y_binL, ↓y_div, ↓y_divL, ↓y_lshl, ↓y_un, ↓y_i2l, ↓y_lneg, ↓y_l2i, ↓y_lcmp, ↓y_dupI, ↓y_dupR, ↓y_dup2, ↓y_pop, ↓y_goto, ↓y_eq0, ↓y_lt0, ↓y_le0, ↓y_eq, ↓y_lt, ↓y_le, ↓y_switch, ↓y_sw0, ↓y_sw1, ↓y_getI, ↓y_getL, ↓y_getR, ↓y_getT, ↓y_putI, ↓y_putZ, ↓y_putL, ↓y_putT, ↓y_iald, ↓y_bald, ↓y_lald, ↓y_aald, ↓y_iast, ↓y_bast, ↓y_last, ↓y_alen, ↓y_iret, ↓y_zret, ↓y_lret, ↓y_vret, ↓y_svI, ↓y_svL, ↓y_svV, ↓y_ivI, ↓y_ivL, ↓y_ivV, ↓y_max, ↓y_min, ↓y_absL, ↓y_cpI, ↓y_cpL, ↓x_n1I, ↓x_n1L, ↓x_n1R, ↓x_n0I, ↓x_n0L, ↓x_n0R, ↓x_s0, ↓x_s1i, ↓x_s1r, ↓x_s1n, ↓x_s2, ↓x_c0, ↓x_c2, ↓x_tk0, ↓x_tk1, ↓x_rcv, x_rI1, x_rL1, x_rV1, x_rIn, x_rLn, x_rVn, x_rIf, x_rLf, x_rVf, x_40, x_41, x_42, x_43, x_44, ↓reduceIte, if_true, if_false, ao_iadd, ao_isub, ao_imul, ao_iand, ao_ior, ao_ishl, ao_ishr, ao_iushr, ao_ladd, ao_lsub, ao_lmul, ao_land, ao_lor, ao_idiv, ao_irem, ao_ldiv, ao_lrem, ao_ineg, ao_i2b, ao_i2s, Nat.reduceAdd, Nat.reduceMul, Nat.reduceSub, Nat.reduceEqDiff, Nat.reduceLeDiff, and_self, true_and, x_lit, x_ofn, x_z0, x_z1, x_inbT, x_ltT, x_ltF, x_leT, x_leF, x_eqF, x_eqT, x_inb, x_lt, x_le, x_eq, x_cl, x_sub, nI_add, pk_mul, x_m1e, x_m1e', x_m1l, x_m1n, x_m1s, Nat.not_lt_zero, x_zb, x_b0, x_b1, decide_eq_false_iff_not, decide_eq_true_eq, Bool.false_eq_true, Bool.true_eq_false, k0, t0, t4, m4, h1, Nat.add_zero]
theorem TP_settle {σ : am_M} {t : Nat} {V T : Vt} (hP : TP σ t V) (hR : RX σ t V T) (h7 : vP T 7 = vP V 7) : TP (am_uA (am_uA σ (t + 2) (va_cpy (σ.1 (t + 5)) (σ.1 (t + 2)) 0 0 7)) (t + 4) (va_cpy (σ.1 (t + 6)) (σ.1 (t + 4)) 0 0 4)) t T := by
  obtain ⟨h1, h2, ⟨sf, h3, h4, h5, h6⟩, h8⟩ := hP
  obtain ⟨r1, r2, r3⟩ := hR
  refine ⟨fun p hp => ?_, fun p hp => ?_, ⟨sf, ?_, ?_, ?_, ?_⟩, fun s hs => ?_⟩
  · rw [uA_n (by omega), uA_s, sb_cpy0 hp]; exact (r2 p hp).1
  · rw [uA_n (by omega), uA_n (by omega)]; exact seg_pre (h2 p hp) (r2 p hp).2
  · rw [uA_n (by omega), uA_n (by omega)]; exact h3
  · rw [uA_n (by omega), uA_n (by omega), h7]; exact h4
  · rw [h7]; exact h5
  · rw [uA_n (by omega), uA_n (by omega), h7]; exact h6
  · rw [uA_s, sb_cpy0 hs]; exact r3 s hs
theorem X_bringHome {v : Nat} {V : Vt} {σ : am_M} (hv : isV v) (h : VG σ v V) (hw : WG V) : ∃ (ps : List Nat) (T : Vt) (τ : am_M), S_X8_bringHome [.ref v] σ = some (some (.int (nI ps.length)), τ) ∧ runL V ps = some T ∧ NF T ∧ VG τ v (ranV V T) ∧ WG (ranV V T) ∧ τ.2 = σ.2 ∧ ∀ j, (j < v ∨ v + 17 ≤ j ∨ j = v ∨ j = v + 1 ∨ (v + 8 ≤ j ∧ j ≤ v + 13)) → τ.1 j = σ.1 j := by
  obtain ⟨k0, k12, k13, k14, k15, k16, l12, l13, l14, l15, l16⟩ := isV_k hv
  obtain ⟨hn, hP, hF⟩ := h
  obtain ⟨wn, wc, wd⟩ := hw
  have ht := isV_T hv
  obtain ⟨t0, t1, t2, t3, t4, t5, t6, m1, m2, m3, m4, m5, m6⟩ := isT_k ht
  obtain ⟨ps, T, σ1, a1, a2, a3, a4, a5⟩ := X_ripen ht wc hP
  obtain ⟨hsm, hle⟩ := runL_hsum ps V T wc a2
  have wT := runL_WC ps V T wc a2
  have hP1 : TP σ1 (v + 1) V := TP_fr hP (fun j q1 q2 => a5.2 j (by omega) (by omega))
  have b1 := X_riseMany ht wc hP1 a4 hle
  rw [hsm, Nat.add_sub_cancel_left] at b1
  have hF1 : VF σ1 v V := VF_fr hF (a5.2 v (by omega) (by omega)) (fun j q1 q2 => a5.2 j (by omega) (by omega))
  obtain ⟨σ2, c1, c2, c3, c4⟩ := XB_out hv wn wc (fun s => wT.2.2.2.2 s) hle 4 0 (am_fuel + 1) σ1 ps.length none rfl (by omega) (by unfold am_fuel; omega) hP1 a4 (by rw [wetPart_0]; exact wd) (by rw [wetPart_0]; exact hF1)
  rw [X_settle ht, x_bV] at c1
  have hP2 : TP σ2 (v + 1) V := TP_fr hP1 (fun j q1 q2 => c3.2 j (by omega) (by omega))
  have hR2 : RX σ2 (v + 1) V T := RX_fr a4 (c3.2 _ (by omega) (by omega)) (c3.2 _ (by omega) (by omega))
  have hP3 := TP_settle hP2 hR2 (runL_7 ps V T a2)
  have hU := wetPart_end V T wd wn
  refine ⟨ps, T, am_uA (am_uA σ2 (v + 1 + 2) (va_cpy (σ2.1 (v + 1 + 5)) (σ2.1 (v + 1 + 2)) 0 0 7)) (v + 1 + 4) (va_cpy (σ2.1 (v + 1 + 6)) (σ2.1 (v + 1 + 4)) 0 0 4), ?_, a2, a3, ⟨?_, ?_, ?_⟩, ⟨wn, ?_, ?_⟩, ?_, fun j hj => ?_⟩
  rotate_left
  · exact TN_cg (TN_fr hn (by rw [uA_n (by omega), uA_n (by omega), c3.2 _ (by omega) (by omega), a5.2 _ (by omega) (by omega)])) rfl
  · exact TP_cg hP3 rfl rfl
  · have hF3 : VF σ2 v (ranV V T) := VF_cg c2 rfl (by show wetUp V (vH T) = wetUp V (hUp V (vH T) 4 0); exact hU.symm)
    exact VF_fr hF3 (by rw [uA_n (by omega), uA_n (by omega)]) (fun j q1 q2 => by rw [uA_n (by omega), uA_n (by omega)])
  · have := wT
    obtain ⟨x1, x2, x3, x4, x5⟩ := wT
    have hN4 : ∀ (qs : List Nat) (A B : Vt), runL A qs = some B → vN B = vN A := by
      intro qs
      induction qs with
      | nil => intro A B h; cases h; rfl
      | cons q qs ih =>
        intro A B h
        obtain ⟨y1, y2, y3⟩ := runL_cons h
        obtain ⟨z, z1, z2, z3⟩ := goH_spec y2
        rw [ih _ _ y3, z3, moveC_N]
    exact WC_cg this rfl rfl (by show vN V 4 = vN T 4; rw [hN4 ps V T a2])
  · intro f hf
    have := c4 f hf
    have e : ∀ w, vF (wetPart V (vH T) 4 0) w f = vF (ranV V T) w f := fun w => by
      show wetUp V (hUp V (vH T) 4 0) w f = wetUp V (vH T) w f
      rw [hU]
    rw [e, e, e, e, e] at this
    exact this
  · show σ2.2 = σ.2
    rw [c3.1, a5.1]
  · rw [uA_n (by omega), uA_n (by omega), c3.2 j (by omega) (by omega), a5.2 j (by omega) (by omega)]
  · rw [← c1]
    have e2 : ∀ lv st τ, am_it hd_X8_bringHome (am_fuel + 1) 17 lv st τ = dn_X8_bringHome_17 (am_it hd_X8_bringHome am_fuel) lv st τ := fun _ _ _ => rfl
    rw [e2]
    simp (disch := omega) only [g_X8_bringHome, ↓e_X8_bringHome_0, ↓it_s, ↓y_iload, ↓y_lload, ↓y_aload, ↓y_istore, ↓y_lstore, ↓y_astore, ↓y_iinc, ↓y_cI, ↓y_cL, ↓y_bin, ↓y_binL, ↓y_div, ↓y_divL, ↓y_lshl, ↓y_un, ↓y_i2l, ↓y_lneg, ↓y_l2i, ↓y_lcmp, ↓y_dupI, ↓y_dupR, ↓y_dup2, ↓y_pop, ↓y_goto, ↓y_eq0, ↓y_lt0, ↓y_le0, ↓y_eq, ↓y_lt, ↓y_le, ↓y_switch, ↓y_sw0, ↓y_sw1, ↓y_getI, ↓y_getL, ↓y_getR, ↓y_getT, ↓y_putI, ↓y_putZ, ↓y_putL, ↓y_putT, ↓y_iald, ↓y_bald, ↓y_lald, ↓y_aald, ↓y_iast, ↓y_bast, ↓y_last, ↓y_alen, ↓y_iret, ↓y_zret, ↓y_lret, ↓y_vret, ↓y_svI, ↓y_svL, ↓y_svV, ↓y_ivI, ↓y_ivL, ↓y_ivV, ↓y_max, ↓y_min, ↓y_absL, ↓y_cpI, ↓y_cpL, ↓x_n1I, ↓x_n1L, ↓x_n1R, ↓x_n0I, ↓x_n0L, ↓x_n0R, ↓x_s0, ↓x_s1i, ↓x_s1r, ↓x_s1n, ↓x_s2, ↓x_c0, ↓x_c2, ↓x_tk0, ↓x_tk1, ↓x_rcv, x_rI1, x_rL1, x_rV1, x_rIn, x_rLn, x_rVn, x_rIf, x_rLf, x_rVf, x_40, x_41, x_42, x_43, x_44, ↓reduceIte, if_true, if_false, ao_iadd, ao_isub, ao_imul, ao_iand, ao_ior, ao_ishl, ao_ishr, ao_iushr, ao_ladd, ao_lsub, ao_lmul, ao_land, ao_lor, ao_idiv, ao_irem, ao_ldiv, ao_lrem, ao_ineg, ao_i2b, ao_i2s, Nat.reduceAdd, Nat.reduceMul, Nat.reduceSub, Nat.reduceEqDiff, Nat.reduceLeDiff, and_self, true_and, x_lit, x_ofn, x_z0, x_z1, x_inbT, x_ltT, x_ltF, x_leT, x_leF, x_eqF, x_eqT, x_inb, x_lt, x_le, x_eq, x_cl, x_sub, nI_add, pk_mul, x_m1e, x_m1e', x_m1l, x_m1n, x_m1s, Nat.not_lt_zero, x_zb, x_b0, x_b1, decide_eq_false_iff_not, decide_eq_true_eq, Bool.false_eq_true, Bool.true_eq_false, k0, t0, a1, b1]
