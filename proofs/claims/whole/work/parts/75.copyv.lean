/-! a table and a valley of the class copied -/
theorem X_cpShape {a b : Nat} {σ : am_M} (ha : am_kd a = 6) (hb : am_kd b = 6) (h : b ≠ a) : S_X6_copyShape [.ref a, .ref b] σ = some (none, am_uI (am_uI (am_uI σ a 6 (σ.1 b 6)) a 7 (σ.1 b 7)) a 11 (σ.1 b 11)) := by
  simp (disch := omega) only [g_X6_copyShape, ↓e_X6_copyShape_0, ↓it_s, ↓y_iload, ↓y_lload, ↓y_aload, ↓y_istore, ↓y_lstore, ↓y_astore, ↓y_iinc, ↓y_cI, ↓y_cL, ↓y_bin, ↓y_binL, ↓y_div, ↓y_divL, ↓y_lshl, ↓y_un, ↓y_i2l, ↓y_lneg, ↓y_l2i, ↓y_lcmp, ↓y_dupI, ↓y_dupR, ↓y_dup2, ↓y_pop, ↓y_goto, ↓y_eq0, ↓y_lt0, ↓y_le0, ↓y_eq, ↓y_lt, ↓y_le, ↓y_switch, ↓y_sw0, ↓y_sw1, ↓y_getI, ↓y_getL, ↓y_getR, ↓y_getT, ↓y_putI, ↓y_putZ, ↓y_putL, ↓y_putT, ↓y_iald, ↓y_bald, ↓y_lald, ↓y_aald, ↓y_iast, ↓y_bast, ↓y_last, ↓y_alen, ↓y_iret, ↓y_zret, ↓y_lret, ↓y_vret, ↓y_svI, ↓y_svL, ↓y_svV, ↓y_ivI, ↓y_ivL, ↓y_ivV, ↓y_max, ↓y_min, ↓y_absL, ↓y_cpI, ↓y_cpL, ↓x_n1I, ↓x_n1L, ↓x_n1R, ↓x_n0I, ↓x_n0L, ↓x_n0R, ↓x_s0, ↓x_s1i, ↓x_s1r, ↓x_s1n, ↓x_s2, ↓x_c0, ↓x_c2, ↓x_tk0, ↓x_tk1, ↓x_rcv, x_rI1, x_rL1, x_rV1, x_rIn, x_rLn, x_rVn, x_rIf, x_rLf, x_rVf, x_40, x_41, x_42, x_43, x_44, ↓reduceIte, if_true, if_false, ao_iadd, ao_isub, ao_imul, ao_iand, ao_ior, ao_ishl, ao_ishr, ao_iushr, ao_ladd, ao_lsub, ao_lmul, ao_land, ao_lor, ao_idiv, ao_irem, ao_ldiv, ao_lrem, ao_ineg, ao_i2b, ao_i2s, Nat.reduceAdd, Nat.reduceMul, Nat.reduceSub, Nat.reduceEqDiff, Nat.reduceLeDiff, and_self, true_and, x_lit, x_ofn, x_z0, x_z1, x_inbT, x_ltT, x_ltF, x_leT, x_leF, x_eqF, x_eqT, x_inb, x_lt, x_le, x_eq, x_cl, x_sub, nI_add, pk_mul, x_m1e, x_m1e', x_m1l, x_m1n, x_m1s, Nat.not_lt_zero, x_zb, x_b0, x_b1, decide_eq_false_iff_not, decide_eq_true_eq, Bool.false_eq_true, Bool.true_eq_false, ha, hb, uI_n]
theorem X_cpTable {a b : Nat} {σ : am_M} (ha : isT a) (hb : isT b) (h : a + 7 ≤ b ∨ b + 7 ≤ a) : ∃ τ, S_X6_copyFrom [.ref a, .ref b] σ = some (none, τ) ∧ τ.2 = σ.2 ∧ (∀ j, (j < a ∨ a + 5 ≤ j) → τ.1 j = σ.1 j) ∧ (∀ i, i < 168 → τ.1 (a + 1) i = σ.1 (b + 1) i) ∧ (∀ i, i < 7 → τ.1 (a + 2) i = σ.1 (b + 2) i) ∧ (∀ i, i < 24 → τ.1 (a + 3) i = σ.1 (b + 3) i) ∧ (∀ i, i < 4 → τ.1 (a + 4) i = σ.1 (b + 4) i) ∧ ∀ k, (k = 3 ∨ k = 4 ∨ (6 ≤ k ∧ k ≤ 11)) → τ.1 a k = σ.1 b k := by
  obtain ⟨a0, a1, a2, a3, a4, -, -, l1, l2, l3, l4, -, -⟩ := isT_k ha
  obtain ⟨b0, b1, b2, b3, b4, -, -, m1, m2, m3, m4, -, -⟩ := isT_k hb
  obtain ⟨c1, c2⟩ := cp_ok 168 (by omega)
  obtain ⟨c3, c4⟩ := cp_ok 7 (by omega)
  obtain ⟨c5, c6⟩ := cp_ok 24 (by omega)
  obtain ⟨c7, c8⟩ := cp_ok 4 (by omega)
  obtain ⟨c9, c10⟩ := cp_ok 0 (by omega)
  obtain ⟨ρ, er⟩ : ∃ s, s = am_uA (am_uA (am_uA (am_uA σ (a + 1) (va_cpy (σ.1 (b + 1)) (σ.1 (a + 1)) 0 0 168)) (a + 2) (va_cpy (σ.1 (b + 2)) (σ.1 (a + 2)) 0 0 7)) (a + 3) (va_cpy (σ.1 (b + 3)) (σ.1 (a + 3)) 0 0 24)) (a + 4) (va_cpy (σ.1 (b + 4)) (σ.1 (a + 4)) 0 0 4) := ⟨_, rfl⟩
  have er' := er.symm
  have hb' : ρ.1 b = σ.1 b := by rw [er, uA_n (by omega), uA_n (by omega), uA_n (by omega), uA_n (by omega)]
  have sh := fun τ => X_cpShape (σ := τ) a0 b0 (show b ≠ a by omega)
  refine ⟨am_uI (am_uI (am_uI (am_uI (am_uI (am_uI (am_uI (am_uI ρ a 3 (σ.1 b 3)) a 4 (σ.1 b 4)) a 6 (σ.1 b 6)) a 7 (σ.1 b 7)) a 11 (σ.1 b 11)) a 8 (σ.1 b 8)) a 9 (σ.1 b 9)) a 10 (σ.1 b 10), ?_, ?_, ?_, ?_, ?_, ?_, ?_, ?_⟩
  · simp (disch := omega) only [g_X6_copyFrom, ↓e_X6_copyFrom_0, ↓it_s, ↓y_iload, ↓y_lload, ↓y_aload, ↓y_istore, ↓y_lstore, ↓y_astore, ↓y_iinc, ↓y_cI, ↓y_cL, ↓y_bin, ↓y_binL, ↓y_div, ↓y_divL, ↓y_lshl, ↓y_un, ↓y_i2l, ↓y_lneg, ↓y_l2i, ↓y_lcmp, ↓y_dupI, ↓y_dupR, ↓y_dup2, ↓y_pop, ↓y_goto, ↓y_eq0, ↓y_lt0, ↓y_le0, ↓y_eq, ↓y_lt, ↓y_le, ↓y_switch, ↓y_sw0, ↓y_sw1, ↓y_getI, ↓y_getL, ↓y_getR, ↓y_getT, ↓y_putI, ↓y_putZ, ↓y_putL, ↓y_putT, ↓y_iald, ↓y_bald, ↓y_lald, ↓y_aald, ↓y_iast, ↓y_bast, ↓y_last, ↓y_alen, ↓y_iret, ↓y_zret, ↓y_lret, ↓y_vret, ↓y_svI, ↓y_svL, ↓y_svV, ↓y_ivI, ↓y_ivL, ↓y_ivV, ↓y_max, ↓y_min, ↓y_absL, ↓y_cpI, ↓y_cpL, ↓x_n1I, ↓x_n1L, ↓x_n1R, ↓x_n0I, ↓x_n0L, ↓x_n0R, ↓x_s0, ↓x_s1i, ↓x_s1r, ↓x_s1n, ↓x_s2, ↓x_c0, ↓x_c2, ↓x_tk0, ↓x_tk1, ↓x_rcv, x_rI1, x_rL1, x_rV1, x_rIn, x_rLn, x_rVn, x_rIf, x_rLf, x_rVf, x_40, x_41, x_42, x_43, x_44, ↓reduceIte, if_true, if_false, ao_iadd, ao_isub, ao_imul, ao_iand, ao_ior, ao_ishl, ao_ishr, ao_iushr, ao_ladd, ao_lsub, ao_lmul, ao_land, ao_lor, ao_idiv, ao_irem, ao_ldiv, ao_lrem, ao_ineg, ao_i2b, ao_i2s, Nat.reduceAdd, Nat.reduceMul, Nat.reduceSub, Nat.reduceEqDiff, Nat.reduceLeDiff, and_self, true_and, x_lit, x_ofn, x_z0, x_z1, x_inbT, x_ltT, x_ltF, x_leT, x_leF, x_eqF, x_eqT, x_inb, x_lt, x_le, x_eq, x_cl, x_sub, nI_add, pk_mul, x_m1e, x_m1e', x_m1l, x_m1n, x_m1s, Nat.not_lt_zero, x_zb, x_b0, x_b1, decide_eq_false_iff_not, decide_eq_true_eq, Bool.false_eq_true, Bool.true_eq_false, a0, a1, a2, a3, a4, b0, b1, b2, b3, b4, l1, l2, l3, l4, m1, m2, m3, m4, c1, c2, c3, c4, c5, c6, c7, c8, c10, sh, uA_n, uI_n, er', hb']
  · rw [er]; rfl
  · intro j hj
    by_cases e : j = a
    · omega
    · rw [uI_n e, uI_n e, uI_n e, uI_n e, uI_n e, uI_n e, uI_n e, uI_n e, er, uA_n (by omega), uA_n (by omega), uA_n (by omega), uA_n (by omega)]
  · intro i hi
    have e : a + 1 ≠ a := by omega
    rw [uI_n e, uI_n e, uI_n e, uI_n e, uI_n e, uI_n e, uI_n e, uI_n e, er, uA_n (by omega), uA_n (by omega), uA_n (by omega), uA_s, cpy_lt hi]
  · intro i hi
    have e : a + 2 ≠ a := by omega
    rw [uI_n e, uI_n e, uI_n e, uI_n e, uI_n e, uI_n e, uI_n e, uI_n e, er, uA_n (by omega), uA_n (by omega), uA_s, cpy_lt hi]
  · intro i hi
    have e : a + 3 ≠ a := by omega
    rw [uI_n e, uI_n e, uI_n e, uI_n e, uI_n e, uI_n e, uI_n e, uI_n e, er, uA_n (by omega), uA_s, cpy_lt hi]
  · intro i hi
    have e : a + 4 ≠ a := by omega
    rw [uI_n e, uI_n e, uI_n e, uI_n e, uI_n e, uI_n e, uI_n e, uI_n e, er, uA_s, cpy_lt hi]
  · intro k hk
    have hk2 : k = 3 ∨ k = 4 ∨ k = 6 ∨ k = 7 ∨ k = 8 ∨ k = 9 ∨ k = 10 ∨ k = 11 := by omega
    rcases hk2 with rfl | rfl | rfl | rfl | rfl | rfl | rfl | rfl <;> simp (disch := omega) only [uI_s, up_s, up_n]
/-- the valley at v holds what the one at w held -/
def cpV (v w : Nat) (σ τ : am_M) : Prop := (∀ j, (j < v ∨ v + 17 ≤ j) → τ.1 j = σ.1 j ∧ τ.2 j = σ.2 j) ∧ ((∀ i, i < 168 → τ.1 (v + 1 + 1) i = σ.1 (w + 1 + 1) i) ∧ (∀ i, i < 7 → τ.1 (v + 1 + 2) i = σ.1 (w + 1 + 2) i) ∧ (∀ i, i < 24 → τ.1 (v + 1 + 3) i = σ.1 (w + 1 + 3) i) ∧ (∀ i, i < 4 → τ.1 (v + 1 + 4) i = σ.1 (w + 1 + 4) i) ∧ ∀ k, (k = 3 ∨ k = 4 ∨ (6 ≤ k ∧ k ≤ 11)) → τ.1 (v + 1) k = σ.1 (w + 1) k) ∧ ((∀ i, i < 360 → τ.1 (v + 9) i = σ.1 (w + 9) i) ∧ τ.1 (v + 8) 1 = σ.1 (w + 8) 1 ∧ τ.1 (v + 8) 2 = σ.1 (w + 8) 2 ∧ τ.1 (v + 8) 3 = σ.1 (w + 8) 3) ∧ ((∀ i, i < 4 → τ.2 (v + 10) i = σ.2 (w + 10) i) ∧ ∀ i, i < 6 → τ.2 (v + 11) i = σ.2 (w + 11) i) ∧ τ.1 v 4 = σ.1 w 4 ∧ τ.1 v 5 = σ.1 w 5 ∧ (∀ i, i < 6 → τ.1 (v + 12) i = σ.1 (w + 12) i) ∧ (∀ i, i < 6 → τ.1 (v + 13) i = σ.1 (w + 13) i) ∧ (∀ i, i < 6 → τ.1 (v + 14) i = σ.1 (w + 14) i) ∧ (∀ i, i < 6 → τ.1 (v + 15) i = σ.1 (w + 15) i) ∧ ∀ i, i < 6 → τ.1 (v + 16) i = σ.1 (w + 16) i
theorem isV_all {v : Nat} (h : isV v) : (am_kd v = 8 ∧ am_kd (v + 8) = 4 ∧ am_kd (v + 9) = 20 ∧ am_ln (v + 9) = 360 ∧ am_kd (v + 10) = 21 ∧ am_ln (v + 10) = 4 ∧ am_kd (v + 11) = 21 ∧ am_ln (v + 11) = 6) ∧ (am_kd (v + 12) = 20 ∧ am_ln (v + 12) = 6 ∧ am_kd (v + 13) = 20 ∧ am_ln (v + 13) = 6 ∧ am_kd (v + 14) = 20 ∧ am_ln (v + 14) = 6 ∧ am_kd (v + 15) = 20 ∧ am_ln (v + 15) = 6 ∧ am_kd (v + 16) = 20 ∧ am_ln (v + 16) = 6) ∧ isT (v + 1) := by
  rcases h with rfl | rfl | rfl | rfl | rfl <;> exact ⟨⟨rfl, rfl, rfl, rfl, rfl, rfl, rfl, rfl⟩, ⟨rfl, rfl, rfl, rfl, rfl, rfl, rfl, rfl, rfl, rfl⟩, by unfold isT; omega⟩
theorem X_cpVal {v w : Nat} {σ : am_M} (hv : isV v) (hw : isV w) (h : v + 17 ≤ w ∨ w + 17 ≤ v) (hz : σ.1 (w + 8) 3 &&& nI 1 = σ.1 (w + 8) 3) : ∃ τ, S_X8_copyFrom [.ref v, .ref w] σ = some (none, τ) ∧ cpV v w σ τ := by
  obtain ⟨⟨v0, v8, v9, w9, v10, w10, v11, w11⟩, ⟨v12, w12, v13, w13, v14, w14, v15, w15, v16, w16⟩, tv⟩ := isV_all hv
  obtain ⟨⟨x0, x8, x9, y9, x10, y10, x11, y11⟩, ⟨x12, y12, x13, y13, x14, y14, x15, y15, x16, y16⟩, tw⟩ := isV_all hw
  obtain ⟨τ1, t0, t1, t2, t3, t4, t5, t6, t7⟩ := X_cpTable (σ := σ) tv tw (by omega)
  have hz1 : τ1.1 (w + 8) 3 &&& nI 1 = τ1.1 (w + 8) 3 := by rw [t2 (w + 8) (by omega)]; exact hz
  obtain ⟨τ2, p0, p1, p2, p3, p4, p5, p6⟩ := X_cpPlan (σ := τ1) v8 x8 v9 x9 w9 y9 (by omega) (by omega) (by omega) hz1
  obtain ⟨c1, c2⟩ := cp_ok 4 (by omega)
  obtain ⟨c3, c4⟩ := cp_ok 6 (by omega)
  obtain ⟨c9, c10⟩ := cp_ok 0 (by omega)
  obtain ⟨ρ, er⟩ : ∃ s, s = am_uB (am_uB τ2 (v + 10) (va_cpy (τ2.2 (w + 10)) (τ2.2 (v + 10)) 0 0 4)) (v + 11) (va_cpy (τ2.2 (w + 11)) (τ2.2 (v + 11)) 0 0 6) := ⟨_, rfl⟩
  have er' := er.symm
  have r1 : ρ.1 = τ2.1 := by rw [er]; rfl
  obtain ⟨μ, em⟩ : ∃ s, s = am_uI (am_uI ρ v 4 (τ2.1 w 4)) v 5 (τ2.1 w 5) := ⟨_, rfl⟩
  have em' := em.symm
  have mn : ∀ j, j ≠ v → μ.1 j = τ2.1 j := fun j hj => by rw [em, uI_n hj, uI_n hj, r1]
  have rw0 : (am_uI ρ v 4 (τ2.1 w 4)).1 w = τ2.1 w := by rw [uI_n (by omega), r1]
  refine ⟨am_uA (am_uA (am_uA (am_uA (am_uA μ (v + 12) (va_cpy (τ2.1 (w + 12)) (τ2.1 (v + 12)) 0 0 6)) (v + 13) (va_cpy (τ2.1 (w + 13)) (τ2.1 (v + 13)) 0 0 6)) (v + 14) (va_cpy (τ2.1 (w + 14)) (τ2.1 (v + 14)) 0 0 6)) (v + 15) (va_cpy (τ2.1 (w + 15)) (τ2.1 (v + 15)) 0 0 6)) (v + 16) (va_cpy (τ2.1 (w + 16)) (τ2.1 (v + 16)) 0 0 6), ?_, ?_, ⟨?_, ?_, ?_, ?_, ?_⟩, ⟨?_, ?_, ?_, ?_⟩, ⟨?_, ?_⟩, ?_, ?_, ?_, ?_, ?_, ?_, ?_⟩
  · have kt := (isT_k tv).1
    have m12 := mn (v + 12) (by omega)
    have n12 := mn (w + 12) (by omega)
    have m13 := mn (v + 13) (by omega)
    have n13 := mn (w + 13) (by omega)
    have m14 := mn (v + 14) (by omega)
    have n14 := mn (w + 14) (by omega)
    have m15 := mn (v + 15) (by omega)
    have n15 := mn (w + 15) (by omega)
    have m16 := mn (v + 16) (by omega)
    have n16 := mn (w + 16) (by omega)
    simp (disch := omega) only [g_X8_copyFrom, ↓e_X8_copyFrom_0, ↓it_s, ↓y_iload, ↓y_lload, ↓y_aload, ↓y_istore, ↓y_lstore, ↓y_astore, ↓y_iinc, ↓y_cI, ↓y_cL, ↓y_bin, ↓y_binL, ↓y_div, ↓y_divL, ↓y_lshl, ↓y_un, ↓y_i2l, ↓y_lneg, ↓y_l2i, ↓y_lcmp, ↓y_dupI, ↓y_dupR, ↓y_dup2, ↓y_pop, ↓y_goto, ↓y_eq0, ↓y_lt0, ↓y_le0, ↓y_eq, ↓y_lt, ↓y_le, ↓y_switch, ↓y_sw0, ↓y_sw1, ↓y_getI, ↓y_getL, ↓y_getR, ↓y_getT, ↓y_putI, ↓y_putZ, ↓y_putL, ↓y_putT, ↓y_iald, ↓y_bald, ↓y_lald, ↓y_aald, ↓y_iast, ↓y_bast, ↓y_last, ↓y_alen, ↓y_iret, ↓y_zret, ↓y_lret, ↓y_vret, ↓y_svI, ↓y_svL, ↓y_svV, ↓y_ivI, ↓y_ivL, ↓y_ivV, ↓y_max, ↓y_min, ↓y_absL, ↓y_cpI, ↓y_cpL, ↓x_n1I, ↓x_n1L, ↓x_n1R, ↓x_n0I, ↓x_n0L, ↓x_n0R, ↓x_s0, ↓x_s1i, ↓x_s1r, ↓x_s1n, ↓x_s2, ↓x_c0, ↓x_c2, ↓x_tk0, ↓x_tk1, ↓x_rcv, x_rI1, x_rL1, x_rV1, x_rIn, x_rLn, x_rVn, x_rIf, x_rLf, x_rVf, x_40, x_41, x_42, x_43, x_44, ↓reduceIte, if_true, if_false, ao_iadd, ao_isub, ao_imul, ao_iand, ao_ior, ao_ishl, ao_ishr, ao_iushr, ao_ladd, ao_lsub, ao_lmul, ao_land, ao_lor, ao_idiv, ao_irem, ao_ldiv, ao_lrem, ao_ineg, ao_i2b, ao_i2s, Nat.reduceAdd, Nat.reduceMul, Nat.reduceSub, Nat.reduceEqDiff, Nat.reduceLeDiff, and_self, true_and, x_lit, x_ofn, x_z0, x_z1, x_inbT, x_ltT, x_ltF, x_leT, x_leF, x_eqF, x_eqT, x_inb, x_lt, x_le, x_eq, x_cl, x_sub, nI_add, pk_mul, x_m1e, x_m1e', x_m1l, x_m1n, x_m1s, Nat.not_lt_zero, x_zb, x_b0, x_b1, decide_eq_false_iff_not, decide_eq_true_eq, Bool.false_eq_true, Bool.true_eq_false, kt, v8, v0, v10, w10, v11, w11, v12, w12, v13, w13, v14, w14, v15, w15, v16, w16, x0, x10, y10, x11, y11, x12, y12, x13, y13, x14, y14, x15, y15, x16, y16, c1, c2, c3, c4, c10, t0, p0, uB_n, er', r1, rw0, em', uA_n, m12, n12, m13, n13, m14, n14, m15, n15, m16, n16]
  · intro j hj
    refine ⟨?_, ?_⟩
    · rw [uA_n (by omega), uA_n (by omega), uA_n (by omega), uA_n (by omega), uA_n (by omega), mn j (by omega), p6 j (by omega) (by omega), t2 j (by omega)]
    · show μ.2 j = σ.2 j
      have : μ.2 = ρ.2 := by rw [em]; rfl
      rw [this, er, uB_n (by omega), uB_n (by omega), p5, t1]
  · intro i hi
    rw [uA_n (by omega), uA_n (by omega), uA_n (by omega), uA_n (by omega), uA_n (by omega), mn _ (by omega), p6 _ (by omega) (by omega)]; exact t3 i hi
  · intro i hi
    rw [uA_n (by omega), uA_n (by omega), uA_n (by omega), uA_n (by omega), uA_n (by omega), mn _ (by omega), p6 _ (by omega) (by omega)]; exact t4 i hi
  · intro i hi
    rw [uA_n (by omega), uA_n (by omega), uA_n (by omega), uA_n (by omega), uA_n (by omega), mn _ (by omega), p6 _ (by omega) (by omega)]; exact t5 i hi
  · intro i hi
    rw [uA_n (by omega), uA_n (by omega), uA_n (by omega), uA_n (by omega), uA_n (by omega), mn _ (by omega), p6 _ (by omega) (by omega)]; exact t6 i hi
  · intro i hi
    rw [uA_n (by omega), uA_n (by omega), uA_n (by omega), uA_n (by omega), uA_n (by omega), mn _ (by omega), p6 _ (by omega) (by omega)]; exact t7 i hi
  · intro i hi
    rw [uA_n (by omega), uA_n (by omega), uA_n (by omega), uA_n (by omega), uA_n (by omega), mn _ (by omega), p1 i hi, t2 _ (by omega)]
  · rw [uA_n (by omega), uA_n (by omega), uA_n (by omega), uA_n (by omega), uA_n (by omega), mn _ (by omega), p2, t2 _ (by omega)]
  · rw [uA_n (by omega), uA_n (by omega), uA_n (by omega), uA_n (by omega), uA_n (by omega), mn _ (by omega), p3, t2 _ (by omega)]
  · rw [uA_n (by omega), uA_n (by omega), uA_n (by omega), uA_n (by omega), uA_n (by omega), mn _ (by omega), p4, t2 _ (by omega)]
  · intro i hi
    show μ.2 (v + 10) i = σ.2 (w + 10) i
    have : μ.2 = ρ.2 := by rw [em]; rfl
    rw [this, er, uB_n (by omega), uB_s, cpy_lt hi, p5, t1]
  · intro i hi
    show μ.2 (v + 11) i = σ.2 (w + 11) i
    have : μ.2 = ρ.2 := by rw [em]; rfl
    rw [this, er, uB_s, cpy_lt hi, p5, t1]
  · rw [uA_n (by omega), uA_n (by omega), uA_n (by omega), uA_n (by omega), uA_n (by omega), em, uI_s, up_n (by omega), uI_s, up_s, p6 _ (by omega) (by omega), t2 _ (by omega)]
  · rw [uA_n (by omega), uA_n (by omega), uA_n (by omega), uA_n (by omega), uA_n (by omega), em, uI_s, up_s, p6 _ (by omega) (by omega), t2 _ (by omega)]
  · intro i hi
    rw [uA_n (by omega), uA_n (by omega), uA_n (by omega), uA_n (by omega), uA_s, cpy_lt hi, p6 _ (by omega) (by omega), t2 _ (by omega)]
  · intro i hi
    rw [uA_n (by omega), uA_n (by omega), uA_n (by omega), uA_s, cpy_lt hi, p6 _ (by omega) (by omega), t2 _ (by omega)]
  · intro i hi
    rw [uA_n (by omega), uA_n (by omega), uA_s, cpy_lt hi, p6 _ (by omega) (by omega), t2 _ (by omega)]
  · intro i hi
    rw [uA_n (by omega), uA_s, cpy_lt hi, p6 _ (by omega) (by omega), t2 _ (by omega)]
  · intro i hi
    rw [uA_s, cpy_lt hi, p6 _ (by omega) (by omega), t2 _ (by omega)]
/-- what stands at w stands then at v -/
theorem VG_cp {v w : Nat} {σ τ : am_M} {V : Vt} (h : VG σ w V) (hw : WG V) (hc : cpV v w σ τ) : VG τ v V := by
  obtain ⟨-, ⟨t1, t2, t3, t4, t5⟩, -, -, f4, f5, f12, f13, f14, f15, f16⟩ := hc
  obtain ⟨⟨n1, n2, n3, n4, n5, n6⟩, ⟨q1, q2, ⟨sf, q3, q4, q5, q6⟩, q7⟩, ⟨g1, g2, g3⟩⟩ := h
  have h6 := hw.1.2.2.2.2.2.1
  refine ⟨⟨?_, ?_, ?_, ?_, ?_, ?_⟩, ⟨?_, ?_, ⟨sf, ?_, ?_, q5, ?_⟩, ?_⟩, ⟨?_, ?_, ?_⟩⟩
  · rw [t5 6 (by omega)]; exact n1
  · rw [t5 7 (by omega)]; exact n2
  · rw [t5 9 (by omega)]; exact n3
  · rw [t5 10 (by omega)]; exact n4
  · rw [t5 11 (by omega)]; exact n5
  · rw [t5 8 (by omega)]; exact n6
  · intro p hp
    rw [t2 p hp]; exact q1 p hp
  · intro p hp k c hk
    have h1 := hw.2.1.len (show p < 8 by omega)
    have h2 := (List.getElem?_eq_some_iff.mp hk).1
    rw [t1 _ (by omega)]; exact q2 p hp k c hk
  · rw [t5 3 (by omega)]; exact q3
  · rw [t5 4 (by omega)]; exact q4
  · intro k c hk
    have h2 := (List.getElem?_eq_some_iff.mp hk).1
    rw [t3 _ (by omega)]; exact q6 k c hk
  · intro s hs
    rw [t4 s hs]; exact q7 s hs
  · rw [f4]; exact g1
  · rw [f5]; exact g2
  · intro f hf
    rw [f12 f (by omega), f13 f (by omega), f14 f (by omega), f15 f (by omega), f16 f (by omega)]; exact g3 f hf
