/-! a valley of the class is copied -/
theorem cp_ok : ∀ n, n < 400 → am_cpOk (nI 0) (nI 0) (nI n) n n = true ∧ (nI n).toNatClampNeg = n := by decide +kernel
theorem cpy_lt {α : Type} {f g : Nat → α} {n k : Nat} (h : k < n) : va_cpy f g 0 0 n k = f k := by
  show (if 0 ≤ k ∧ k < 0 + n then f (0 + (k - 0)) else g k) = f k
  rw [if_pos ⟨Nat.zero_le _, by omega⟩, Nat.sub_zero, Nat.zero_add]
theorem cpy_ge {α : Type} {f g : Nat → α} {n k : Nat} (h : n ≤ k) : va_cpy f g 0 0 n k = g k := by
  show (if 0 ≤ k ∧ k < 0 + n then f (0 + (k - 0)) else g k) = g k
  rw [if_neg (by omega)]
theorem X_cpPlan {a b : Nat} {σ : am_M} (ha : am_kd a = 4) (hb : am_kd b = 4) (ha1 : am_kd (a + 1) = 20) (hb1 : am_kd (b + 1) = 20) (la : am_ln (a + 1) = 360) (lb : am_ln (b + 1) = 360) (h1 : a ≠ b) (h2 : a + 1 ≠ b) (h3 : b + 1 ≠ a) (hz : σ.1 b 3 &&& nI 1 = σ.1 b 3) : ∃ τ, S_X4_copyFrom [.ref a, .ref b] σ = some (none, τ) ∧ (∀ i, i < 360 → τ.1 (a + 1) i = σ.1 (b + 1) i) ∧ τ.1 a 1 = σ.1 b 1 ∧ τ.1 a 2 = σ.1 b 2 ∧ τ.1 a 3 = σ.1 b 3 ∧ τ.2 = σ.2 ∧ ∀ j, j ≠ a → j ≠ a + 1 → τ.1 j = σ.1 j := by
  obtain ⟨c1, c2⟩ := cp_ok 360 (by omega)
  obtain ⟨c3, c4⟩ := cp_ok 0 (by omega)
  obtain ⟨ρ, e1⟩ : ∃ s, s = am_uA σ (a + 1) (va_cpy (σ.1 (b + 1)) (σ.1 (a + 1)) 0 0 360) := ⟨_, rfl⟩
  have e1' := e1.symm
  refine ⟨am_uI (am_uI (am_uI ρ a 1 (σ.1 b 1)) a 2 (σ.1 b 2)) a 3 (σ.1 b 3), ?_, ?_, ?_, ?_, ?_, ?_, ?_⟩
  · have g0 : ∀ j, j ≠ a + 1 → ρ.1 j = σ.1 j := fun j hj => by rw [e1, uA_n hj]
    have g1 : ρ.1 b 1 = σ.1 b 1 := by rw [g0 b (fun z => h2 z.symm)]
    have g2 : (am_uI ρ a 1 (σ.1 b 1)).1 b 2 = σ.1 b 2 := by rw [uI_n (fun z => h1 z.symm), g0 b (fun z => h2 z.symm)]
    have g3 : (am_uI (am_uI ρ a 1 (σ.1 b 1)) a 2 (σ.1 b 2)).1 b 3 = σ.1 b 3 := by rw [uI_n (fun z => h1 z.symm), uI_n (fun z => h1 z.symm), g0 b (fun z => h2 z.symm)]
    simp (disch := omega) only [g_X4_copyFrom, ↓e_X4_copyFrom_0, ↓it_s, ↓y_iload, ↓y_lload, ↓y_aload, ↓y_istore, ↓y_lstore, ↓y_astore, ↓y_iinc, ↓y_cI, ↓y_cL, ↓y_bin, ↓y_binL, ↓y_div, ↓y_divL, ↓y_lshl, ↓y_un, ↓y_i2l, ↓y_lneg, ↓y_l2i, ↓y_lcmp, ↓y_dupI, ↓y_dupR, ↓y_dup2, ↓y_pop, ↓y_goto, ↓y_eq0, ↓y_lt0, ↓y_le0, ↓y_eq, ↓y_lt, ↓y_le, ↓y_switch, ↓y_sw0, ↓y_sw1, ↓y_getI, ↓y_getL, ↓y_getR, ↓y_getT, ↓y_putI, ↓y_putZ, ↓y_putL, ↓y_putT, ↓y_iald, ↓y_bald, ↓y_lald, ↓y_aald, ↓y_iast, ↓y_bast, ↓y_last, ↓y_alen, ↓y_iret, ↓y_zret, ↓y_lret, ↓y_vret, ↓y_svI, ↓y_svL, ↓y_svV, ↓y_ivI, ↓y_ivL, ↓y_ivV, ↓y_max, ↓y_min, ↓y_absL, ↓y_cpI, ↓y_cpL, ↓x_n1I, ↓x_n1L, ↓x_n1R, ↓x_n0I, ↓x_n0L, ↓x_n0R, ↓x_s0, ↓x_s1i, ↓x_s1r, ↓x_s1n, ↓x_s2, ↓x_c0, ↓x_c2, ↓x_tk0, ↓x_tk1, ↓x_rcv, x_rI1, x_rL1, x_rV1, x_rIn, x_rLn, x_rVn, x_rIf, x_rLf, x_rVf, x_40, x_41, x_42, x_43, x_44, ↓reduceIte, if_true, if_false, ao_iadd, ao_isub, ao_imul, ao_iand, ao_ior, ao_ishl, ao_ishr, ao_iushr, ao_ladd, ao_lsub, ao_lmul, ao_land, ao_lor, ao_idiv, ao_irem, ao_ldiv, ao_lrem, ao_ineg, ao_i2b, ao_i2s, Nat.reduceAdd, Nat.reduceMul, Nat.reduceSub, Nat.reduceEqDiff, Nat.reduceLeDiff, and_self, true_and, x_lit, x_ofn, x_z0, x_z1, x_inbT, x_ltT, x_ltF, x_leT, x_leF, x_eqF, x_eqT, x_inb, x_lt, x_le, x_eq, x_cl, x_sub, nI_add, pk_mul, x_m1e, x_m1e', x_m1l, x_m1n, x_m1s, Nat.not_lt_zero, x_zb, x_b0, x_b1, decide_eq_false_iff_not, decide_eq_true_eq, Bool.false_eq_true, Bool.true_eq_false, ha, hb, ha1, hb1, la, lb, c1, c2, c4, e1', g1, g2, g3, hz]
  · intro i hi
    rw [uI_n (by omega), uI_n (by omega), uI_n (by omega), e1, uA_s, cpy_lt hi]
  · rw [uI_s, up_n (by omega), uI_s, up_n (by omega), uI_s, up_s]
  · rw [uI_s, up_n (by omega), uI_s, up_s]
  · rw [uI_s, up_s]
  · rw [uI_2, uI_2, uI_2, e1]; rfl
  · intro j p q
    rw [uI_n p, uI_n p, uI_n p, e1, uA_n q]
