/-! a valley cleared -/
def V0 : Vt := (fun k => if k = 0 then 4 else 0, fun _ => [], fun _ => 0, fun _ _ => 0, fun _ => [], none)
def clX (σ : am_M) : am_M := am_uI (am_uI (am_uI (am_uI (am_uI (am_uI σ 27 6 (nI 4)) 27 7 (nI 0)) 27 8 (nI 0)) 27 9 (nI 0)) 27 10 (nI 0)) 27 11 (nI 0)
def clY (σ : am_M) : am_M := am_uI (am_uI (am_uI (am_uI (am_uI σ 34 1 (nI 0)) 34 2 (nI 0)) 34 3 (nI 0)) 26 4 (nI 0)) 26 5 (nI 0)
theorem X_clear (σ : am_M) : ∃ τ, S_X8_clear [.ref 26] σ = some (none, τ) ∧ VG τ 26 V0 ∧ τ.1 27 3 = nI 0 ∧ τ.1 34 1 = nI 0 ∧ τ.1 34 2 = nI 0 ∧ τ.1 34 3 = nI 0 ∧ τ.2 = σ.2 ∧ ∀ j, (j < 26 ∨ 42 < j) → τ.1 j = σ.1 j := by
  obtain ⟨τ1, s1, ⟨s2, s3, s4⟩, s5, s6, s7, s8⟩ := X_sweep (t := 27) (σ := σ) (Or.inr (Or.inl rfl))
  have h1 : S_X6_clear [.ref 27] σ = some (none, clX τ1) := by
    unfold clX
    simp (disch := omega) only [g_X6_clear, ↓e_X6_clear_0, ↓it_s, ↓y_iload, ↓y_lload, ↓y_aload, ↓y_istore, ↓y_lstore, ↓y_astore, ↓y_iinc, ↓y_cI, ↓y_cL, ↓y_bin, ↓y_binL, ↓y_div, ↓y_divL, ↓y_lshl, ↓y_un, ↓y_i2l, ↓y_lneg, ↓y_l2i, ↓y_lcmp, ↓y_dupI, ↓y_dupR, ↓y_dup2, ↓y_pop, ↓y_goto, ↓y_eq0, ↓y_lt0, ↓y_le0, ↓y_eq, ↓y_lt, ↓y_le, ↓y_switch, ↓y_sw0, ↓y_sw1, ↓y_getI, ↓y_getL, ↓y_getR, ↓y_getT, ↓y_putI, ↓y_putZ, ↓y_putL, ↓y_putT, ↓y_iald, ↓y_bald, ↓y_lald, ↓y_aald, ↓y_iast, ↓y_bast, ↓y_last, ↓y_alen, ↓y_iret, ↓y_zret, ↓y_lret, ↓y_vret, ↓y_svI, ↓y_svL, ↓y_svV, ↓y_ivI, ↓y_ivL, ↓y_ivV, ↓y_max, ↓y_min, ↓y_absL, ↓y_cpI, ↓y_cpL, ↓x_n1I, ↓x_n1L, ↓x_n1R, ↓x_n0I, ↓x_n0L, ↓x_n0R, ↓x_s0, ↓x_s1i, ↓x_s1r, ↓x_s1n, ↓x_s2, ↓x_c0, ↓x_c2, ↓x_tk0, ↓x_tk1, ↓x_rcv, x_rI1, x_rL1, x_rV1, x_rIn, x_rLn, x_rVn, x_rIf, x_rLf, x_rVf, x_40, x_41, x_42, x_43, x_44, ↓reduceIte, if_true, if_false, ao_iadd, ao_isub, ao_imul, ao_iand, ao_ior, ao_ishl, ao_ishr, ao_iushr, ao_ladd, ao_lsub, ao_lmul, ao_land, ao_lor, ao_idiv, ao_irem, ao_ldiv, ao_lrem, ao_ineg, ao_i2b, ao_i2s, Nat.reduceAdd, Nat.reduceMul, Nat.reduceSub, Nat.reduceEqDiff, Nat.reduceLeDiff, and_self, true_and, x_lit, x_ofn, x_z0, x_z1, x_inbT, x_ltT, x_ltF, x_leT, x_leF, x_eqF, x_eqT, x_inb, x_lt, x_le, x_eq, x_cl, x_sub, nI_add, pk_mul, x_m1e, x_m1e', x_m1l, x_m1n, x_m1s, Nat.not_lt_zero, x_zb, x_b0, x_b1, decide_eq_false_iff_not, decide_eq_true_eq, Bool.false_eq_true, Bool.true_eq_false, s1, kd_27]
  obtain ⟨τ2, e2⟩ : ∃ s, s = clX τ1 := ⟨_, rfl⟩
  rw [← e2] at h1
  have h2 : S_X4_clear [.ref 34] τ2 = some (none, am_uI (am_uI (am_uI τ2 34 1 (nI 0)) 34 2 (nI 0)) 34 3 (nI 0)) := by
    simp (disch := omega) only [g_X4_clear, ↓e_X4_clear_0, ↓it_s, ↓y_iload, ↓y_lload, ↓y_aload, ↓y_istore, ↓y_lstore, ↓y_astore, ↓y_iinc, ↓y_cI, ↓y_cL, ↓y_bin, ↓y_binL, ↓y_div, ↓y_divL, ↓y_lshl, ↓y_un, ↓y_i2l, ↓y_lneg, ↓y_l2i, ↓y_lcmp, ↓y_dupI, ↓y_dupR, ↓y_dup2, ↓y_pop, ↓y_goto, ↓y_eq0, ↓y_lt0, ↓y_le0, ↓y_eq, ↓y_lt, ↓y_le, ↓y_switch, ↓y_sw0, ↓y_sw1, ↓y_getI, ↓y_getL, ↓y_getR, ↓y_getT, ↓y_putI, ↓y_putZ, ↓y_putL, ↓y_putT, ↓y_iald, ↓y_bald, ↓y_lald, ↓y_aald, ↓y_iast, ↓y_bast, ↓y_last, ↓y_alen, ↓y_iret, ↓y_zret, ↓y_lret, ↓y_vret, ↓y_svI, ↓y_svL, ↓y_svV, ↓y_ivI, ↓y_ivL, ↓y_ivV, ↓y_max, ↓y_min, ↓y_absL, ↓y_cpI, ↓y_cpL, ↓x_n1I, ↓x_n1L, ↓x_n1R, ↓x_n0I, ↓x_n0L, ↓x_n0R, ↓x_s0, ↓x_s1i, ↓x_s1r, ↓x_s1n, ↓x_s2, ↓x_c0, ↓x_c2, ↓x_tk0, ↓x_tk1, ↓x_rcv, x_rI1, x_rL1, x_rV1, x_rIn, x_rLn, x_rVn, x_rIf, x_rLf, x_rVf, x_40, x_41, x_42, x_43, x_44, ↓reduceIte, if_true, if_false, ao_iadd, ao_isub, ao_imul, ao_iand, ao_ior, ao_ishl, ao_ishr, ao_iushr, ao_ladd, ao_lsub, ao_lmul, ao_land, ao_lor, ao_idiv, ao_irem, ao_ldiv, ao_lrem, ao_ineg, ao_i2b, ao_i2s, Nat.reduceAdd, Nat.reduceMul, Nat.reduceSub, Nat.reduceEqDiff, Nat.reduceLeDiff, and_self, true_and, x_lit, x_ofn, x_z0, x_z1, x_inbT, x_ltT, x_ltF, x_leT, x_leF, x_eqF, x_eqT, x_inb, x_lt, x_le, x_eq, x_cl, x_sub, nI_add, pk_mul, x_m1e, x_m1e', x_m1l, x_m1n, x_m1s, Nat.not_lt_zero, x_zb, x_b0, x_b1, decide_eq_false_iff_not, decide_eq_true_eq, Bool.false_eq_true, Bool.true_eq_false, kd_34]
  have h3 : S_X8_clear [.ref 26] σ = some (none, clY τ2) := by
    unfold clY
    simp (disch := omega) only [g_X8_clear, ↓e_X8_clear_0, ↓it_s, ↓y_iload, ↓y_lload, ↓y_aload, ↓y_istore, ↓y_lstore, ↓y_astore, ↓y_iinc, ↓y_cI, ↓y_cL, ↓y_bin, ↓y_binL, ↓y_div, ↓y_divL, ↓y_lshl, ↓y_un, ↓y_i2l, ↓y_lneg, ↓y_l2i, ↓y_lcmp, ↓y_dupI, ↓y_dupR, ↓y_dup2, ↓y_pop, ↓y_goto, ↓y_eq0, ↓y_lt0, ↓y_le0, ↓y_eq, ↓y_lt, ↓y_le, ↓y_switch, ↓y_sw0, ↓y_sw1, ↓y_getI, ↓y_getL, ↓y_getR, ↓y_getT, ↓y_putI, ↓y_putZ, ↓y_putL, ↓y_putT, ↓y_iald, ↓y_bald, ↓y_lald, ↓y_aald, ↓y_iast, ↓y_bast, ↓y_last, ↓y_alen, ↓y_iret, ↓y_zret, ↓y_lret, ↓y_vret, ↓y_svI, ↓y_svL, ↓y_svV, ↓y_ivI, ↓y_ivL, ↓y_ivV, ↓y_max, ↓y_min, ↓y_absL, ↓y_cpI, ↓y_cpL, ↓x_n1I, ↓x_n1L, ↓x_n1R, ↓x_n0I, ↓x_n0L, ↓x_n0R, ↓x_s0, ↓x_s1i, ↓x_s1r, ↓x_s1n, ↓x_s2, ↓x_c0, ↓x_c2, ↓x_tk0, ↓x_tk1, ↓x_rcv, x_rI1, x_rL1, x_rV1, x_rIn, x_rLn, x_rVn, x_rIf, x_rLf, x_rVf, x_40, x_41, x_42, x_43, x_44, ↓reduceIte, if_true, if_false, ao_iadd, ao_isub, ao_imul, ao_iand, ao_ior, ao_ishl, ao_ishr, ao_iushr, ao_ladd, ao_lsub, ao_lmul, ao_land, ao_lor, ao_idiv, ao_irem, ao_ldiv, ao_lrem, ao_ineg, ao_i2b, ao_i2s, Nat.reduceAdd, Nat.reduceMul, Nat.reduceSub, Nat.reduceEqDiff, Nat.reduceLeDiff, and_self, true_and, x_lit, x_ofn, x_z0, x_z1, x_inbT, x_ltT, x_ltF, x_leT, x_leF, x_eqF, x_eqT, x_inb, x_lt, x_le, x_eq, x_cl, x_sub, nI_add, pk_mul, x_m1e, x_m1e', x_m1l, x_m1n, x_m1s, Nat.not_lt_zero, x_zb, x_b0, x_b1, decide_eq_false_iff_not, decide_eq_true_eq, Bool.false_eq_true, Bool.true_eq_false, h1, h2, kd_26, kd_27, kd_34]
  have hy : ∀ j, j ≠ 34 → j ≠ 26 → (clY τ2).1 j = τ2.1 j := fun j p q => by
    unfold clY; rw [uI_n q, uI_n q, uI_n p, uI_n p, uI_n p]
  have hx : ∀ j, j ≠ 27 → τ2.1 j = τ1.1 j := fun j p => by
    rw [e2]; unfold clX; rw [uI_n p, uI_n p, uI_n p, uI_n p, uI_n p, uI_n p]
  have hx27 : ∀ k, k < 6 → τ2.1 27 k = τ1.1 27 k := fun k p => by
    rw [e2]; unfold clX; rw [uI_s, up_n (by omega), uI_s, up_n (by omega), uI_s, up_n (by omega), uI_s, up_n (by omega), uI_s, up_n (by omega), uI_s, up_n (by omega)]
  refine ⟨clY τ2, h3, ⟨⟨?_, ?_, ?_, ?_, ?_, ?_⟩, ⟨?_, ?_, ⟨0, ?_, ?_, ?_, ?_⟩, ?_⟩, ⟨?_, ?_, ?_⟩⟩, ?_, ?_, ?_, ?_, ?_, ?_⟩
  · rw [hy 27 (by omega) (by omega), e2]; unfold clX; rw [uI_s, up_n (by omega), uI_s, up_n (by omega), uI_s, up_n (by omega), uI_s, up_n (by omega), uI_s, up_n (by omega), uI_s, up_s]; rfl
  · rw [hy 27 (by omega) (by omega), e2]; unfold clX; rw [uI_s, up_n (by omega), uI_s, up_n (by omega), uI_s, up_n (by omega), uI_s, up_n (by omega), uI_s, up_s]; rfl
  · rw [hy 27 (by omega) (by omega), e2]; unfold clX; rw [uI_s, up_n (by omega), uI_s, up_n (by omega), uI_s, up_s]; rfl
  · rw [hy 27 (by omega) (by omega), e2]; unfold clX; rw [uI_s, up_n (by omega), uI_s, up_s]; rfl
  · rw [hy 27 (by omega) (by omega), e2]; unfold clX; rw [uI_s, up_s]; rfl
  · rw [hy 27 (by omega) (by omega), e2]; unfold clX; rw [uI_s, up_n (by omega), uI_s, up_n (by omega), uI_s, up_n (by omega), uI_s, up_s]; rfl
  · intro p hp; rw [hy 29 (by omega) (by omega), hx 29 (by omega)]; exact s5 p hp
  · intro p hp; exact seg_nil
  · rw [hy 27 (by omega) (by omega), hx27 3 (by omega)]; exact s7
  · rw [hy 27 (by omega) (by omega), hx27 4 (by omega)]; exact s8
  · exact Nat.zero_le _
  · exact seg_nil
  · intro s hs; rw [hy 31 (by omega) (by omega), hx 31 (by omega)]; exact s6 s hs
  · unfold clY; rw [uI_s, up_n (by omega), uI_s, up_s]; rfl
  · unfold clY; rw [uI_s, up_s]; rfl
  · intro f hf; exact absurd hf (Nat.not_lt_zero _)
  · rw [hy 27 (by omega) (by omega), hx27 3 (by omega)]; exact s7
  · unfold clY; rw [uI_n (by omega), uI_n (by omega), uI_s, up_n (by omega), uI_s, up_n (by omega), uI_s, up_s]
  · unfold clY; rw [uI_n (by omega), uI_n (by omega), uI_s, up_n (by omega), uI_s, up_s]
  · unfold clY; rw [uI_n (by omega), uI_n (by omega), uI_s, up_s]
  · have z1 : (clY τ2).2 = τ2.2 := rfl
    have z2 : τ2.2 = τ1.2 := by rw [e2]; rfl
    rw [z1, z2]; exact s2
  · intro j hj
    rw [hy j (by omega) (by omega), hx j (by omega)]
    exact s3 j (by omega)
/-- the model's new block, all nought -/
def zrI (σ : am_M) (i : Nat) (τ : am_M) : Prop := τ.2 = σ.2 ∧ (∀ j, j ≠ 128 → τ.1 j = σ.1 j) ∧ (∀ k, k < i → τ.1 128 (1768 + k) = nI 0) ∧ ∀ k, (k < 1768 ∨ 1768 + i ≤ k) → τ.1 128 k = σ.1 128 k
theorem M_zero {x : Int32} {σ : am_M} : ∃ ρ, rch hd_X11_valley 442 25 [some (.ref 123), some (.int x), some (.int (nI 0))] σ 25 [some (.ref 123), some (.int x), some (.int (nI 442))] ρ ∧ zrI σ 442 ρ := by
  obtain ⟨u1, ρ, h1, r1⟩ := rch_for (α := Unit) (hd := hd_X11_valley) (p := 25) (n := 442) (C := 1) (fun i _ => [some (.ref 123), some (.int x), some (.int (nI i))]) (fun i _ τ => zrI σ i τ) (fun i _ τ hi h => by
    obtain ⟨q1, q2, q3, q4⟩ := h
    refine ⟨(), am_uI τ 128 (1768 + i) (nI 0), ⟨q1, fun j hj => by rw [uI_n hj]; exact q2 j hj, fun k hk => ?_, fun k hk => ?_⟩, rch_1 fun B => ?_⟩
    · by_cases e : k = i
      · subst e; rw [uI_s, up_s]
      · rw [uI_s, up_n (by omega)]; exact q3 k (by omega)
    · rw [uI_s, up_n (by omega)]; exact q4 k (by omega)
    · simp (disch := omega) only [↓e_X11_valley_25, ↓h_X11_valley_25, ↓it_s, ↓y_iload, ↓y_lload, ↓y_aload, ↓y_istore, ↓y_lstore, ↓y_astore, ↓y_iinc, ↓y_cI, ↓y_cL, ↓y_bin, ↓y_binL, ↓y_div, ↓y_divL, ↓y_lshl, ↓y_un, ↓y_i2l, ↓y_lneg, ↓y_l2i, ↓y_lcmp, ↓y_dupI, ↓y_dupR, ↓y_dup2, ↓y_pop, ↓y_goto, ↓y_eq0, ↓y_lt0, ↓y_le0, ↓y_eq, ↓y_lt, ↓y_le, ↓y_switch, ↓y_sw0, ↓y_sw1, ↓y_getI, ↓y_getL, ↓y_getR, ↓y_getT, ↓y_putI, ↓y_putZ, ↓y_putL, ↓y_putT, ↓y_iald, ↓y_bald, ↓y_lald, ↓y_aald, ↓y_iast, ↓y_bast, ↓y_last, ↓y_alen, ↓y_iret, ↓y_zret, ↓y_lret, ↓y_vret, ↓y_svI, ↓y_svL, ↓y_svV, ↓y_ivI, ↓y_ivL, ↓y_ivV, ↓y_max, ↓y_min, ↓y_absL, ↓y_cpI, ↓y_cpL, ↓x_n1I, ↓x_n1L, ↓x_n1R, ↓x_n0I, ↓x_n0L, ↓x_n0R, ↓x_s0, ↓x_s1i, ↓x_s1r, ↓x_s1n, ↓x_s2, ↓x_c0, ↓x_c2, ↓x_tk0, ↓x_tk1, ↓x_rcv, x_rI1, x_rL1, x_rV1, x_rIn, x_rLn, x_rVn, x_rIf, x_rLf, x_rVf, x_40, x_41, x_42, x_43, x_44, ↓reduceIte, if_true, if_false, ao_iadd, ao_isub, ao_imul, ao_iand, ao_ior, ao_ishl, ao_ishr, ao_iushr, ao_ladd, ao_lsub, ao_lmul, ao_land, ao_lor, ao_idiv, ao_irem, ao_ldiv, ao_lrem, ao_ineg, ao_i2b, ao_i2s, Nat.reduceAdd, Nat.reduceMul, Nat.reduceSub, Nat.reduceEqDiff, Nat.reduceLeDiff, and_self, true_and, x_lit, x_ofn, x_z0, x_z1, x_inbT, x_ltT, x_ltF, x_leT, x_leF, x_eqF, x_eqT, x_inb, x_lt, x_le, x_eq, x_cl, x_sub, nI_add, pk_mul, x_m1e, x_m1e', x_m1l, x_m1n, x_m1s, Nat.not_lt_zero, x_zb, x_b0, x_b1, decide_eq_false_iff_not, decide_eq_true_eq, Bool.false_eq_true, Bool.true_eq_false, kd_123, kd_128, ln_128]) 442 0 () σ (by omega) ⟨rfl, fun _ _ => rfl, fun k hk => by omega, fun _ _ => rfl⟩
  exact ⟨ρ, r1, h1⟩
def z49 (ρ : am_M) : am_M := am_uI (am_uI (am_uI (am_uI ρ 128 1768 (nI 4)) 123 25 (nI 0)) 123 26 (nI 0)) 123 27 (nI 0)
theorem M_z49 {x : Int32} {ρ : am_M} : rch hd_X11_valley 0 25 [some (.ref 123), some (.int x), some (.int (nI 442))] ρ 73 [some (.ref 123), some (.int x), some (.int (nI 442))] (z49 ρ) := rch_0 fun B => by
  unfold z49
  simp (disch := omega) only [↓e_X11_valley_25, ↓e_X11_valley_49, ↓h_X11_valley_25, ↓h_X11_valley_73, ↓it_s, ↓y_iload, ↓y_lload, ↓y_aload, ↓y_istore, ↓y_lstore, ↓y_astore, ↓y_iinc, ↓y_cI, ↓y_cL, ↓y_bin, ↓y_binL, ↓y_div, ↓y_divL, ↓y_lshl, ↓y_un, ↓y_i2l, ↓y_lneg, ↓y_l2i, ↓y_lcmp, ↓y_dupI, ↓y_dupR, ↓y_dup2, ↓y_pop, ↓y_goto, ↓y_eq0, ↓y_lt0, ↓y_le0, ↓y_eq, ↓y_lt, ↓y_le, ↓y_switch, ↓y_sw0, ↓y_sw1, ↓y_getI, ↓y_getL, ↓y_getR, ↓y_getT, ↓y_putI, ↓y_putZ, ↓y_putL, ↓y_putT, ↓y_iald, ↓y_bald, ↓y_lald, ↓y_aald, ↓y_iast, ↓y_bast, ↓y_last, ↓y_alen, ↓y_iret, ↓y_zret, ↓y_lret, ↓y_vret, ↓y_svI, ↓y_svL, ↓y_svV, ↓y_ivI, ↓y_ivL, ↓y_ivV, ↓y_max, ↓y_min, ↓y_absL, ↓y_cpI, ↓y_cpL, ↓x_n1I, ↓x_n1L, ↓x_n1R, ↓x_n0I, ↓x_n0L, ↓x_n0R, ↓x_s0, ↓x_s1i, ↓x_s1r, ↓x_s1n, ↓x_s2, ↓x_c0, ↓x_c2, ↓x_tk0, ↓x_tk1, ↓x_rcv, x_rI1, x_rL1, x_rV1, x_rIn, x_rLn, x_rVn, x_rIf, x_rLf, x_rVf, x_40, x_41, x_42, x_43, x_44, ↓reduceIte, if_true, if_false, ao_iadd, ao_isub, ao_imul, ao_iand, ao_ior, ao_ishl, ao_ishr, ao_iushr, ao_ladd, ao_lsub, ao_lmul, ao_land, ao_lor, ao_idiv, ao_irem, ao_ldiv, ao_lrem, ao_ineg, ao_i2b, ao_i2s, Nat.reduceAdd, Nat.reduceMul, Nat.reduceSub, Nat.reduceEqDiff, Nat.reduceLeDiff, and_self, true_and, x_lit, x_ofn, x_z0, x_z1, x_inbT, x_ltT, x_ltF, x_leT, x_leF, x_eqF, x_eqT, x_inb, x_lt, x_le, x_eq, x_cl, x_sub, nI_add, pk_mul, x_m1e, x_m1e', x_m1l, x_m1n, x_m1s, Nat.not_lt_zero, x_zb, x_b0, x_b1, decide_eq_false_iff_not, decide_eq_true_eq, Bool.false_eq_true, Bool.true_eq_false, kd_123, kd_128, ln_128]
theorem z49_MC {σ ρ : am_M} (h : zrI σ 442 ρ) : MC ((z49 ρ).1 128) 1768 V0 ∧ ∀ k, 0 < k → k < 442 → (z49 ρ).1 128 (1768 + k) = nI 0 := by
  obtain ⟨q1, q2, q3, q4⟩ := h
  have hz : (z49 ρ).1 128 = va_up (ρ.1 128) 1768 (nI 4) := by
    unfold z49; rw [uI_n (by omega), uI_n (by omega), uI_n (by omega), uI_s]
  have h0 : ∀ k, 0 < k → k < 442 → (z49 ρ).1 128 (1768 + k) = nI 0 := fun k p q => by
    rw [hz, up_n (by omega)]; exact q3 k q
  have h0' : ∀ k, 1768 < k → k < 2210 → (z49 ρ).1 128 k = nI 0 := fun k p q => by
    have := h0 (k - 1768) (by omega) (by omega)
    rw [show 1768 + (k - 1768) = k by omega] at this
    exact this
  refine ⟨⟨fun k hk => ?_, ⟨?_, seg_nil⟩, ⟨?_, seg_nil⟩, fun s hs => ?_, fun p hp => ⟨?_, seg_nil⟩, fun w i hw hi => absurd hi (Nat.not_lt_zero _)⟩, h0⟩
  · by_cases e : k = 0
    · subst e; rw [hz, Nat.zero_add, up_s]; rfl
    · rw [h0' _ (by omega) (by omega)]
      show nI 0 = nI (if k = 0 then 4 else 0)
      rw [if_neg e]
  · rw [h0' _ (by omega) (by omega)]; rfl
  · rw [h0' _ (by omega) (by omega)]; rfl
  · rw [h0' _ (by omega) (by omega)]; rfl
  · rw [h0' _ (by omega) (by omega)]; rfl
