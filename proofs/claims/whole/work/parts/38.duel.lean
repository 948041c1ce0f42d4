/-! games of two banks -/
theorem nI_b2f : nI (b2 false) = nI 0 := rfl
theorem X_duel {t set : Nat} (ht : isT t) (hset : set < 16) : ∀ (k n : Nat) (first : Bool) (V : Vt) (σ : am_M), k ≤ 3 → k < n → WN V → WC V → TN σ t V → TP σ t V →
    ∃ τ, S_X2_duel n [.ref 50, .ref t, .int (nI set), .int (nI k), .int (nI (b2 first))] σ = some (some (.int (duelV set k first V)), τ) ∧ TP τ t V ∧ frR t k σ τ := by
  obtain ⟨k0, k1, k2, k3, k4, k5, k6, l1, l2, l3, l4, l5, l6⟩ := isT_k ht
  have h5 := isT_5 ht
  intro k
  induction k with
  | zero =>
    intro n first V σ hk hn wn wc hN hP
    obtain ⟨n, rfl⟩ : ∃ q, n = q + 1 := ⟨n - 1, by omega⟩
    refine ⟨σ, ?_, hP, frR_rf _ _ _⟩
    show F_X2_duel (S_X2_duel n) _ _ = _
    simp (disch := omega) only [g_X2_duel, ↓e_X2_duel_0, ↓e_X2_duel_10, ↓it_s, ↓y_iload, ↓y_lload, ↓y_aload, ↓y_istore, ↓y_lstore, ↓y_astore, ↓y_iinc, ↓y_cI, ↓y_cL, ↓y_bin, ↓y_binL, ↓y_div, ↓y_divL, ↓y_lshl, ↓y_un, ↓y_i2l, ↓y_lneg, ↓y_l2i, ↓y_lcmp, ↓y_dupI, ↓y_dupR, ↓y_dup2, ↓y_pop, ↓y_goto, ↓y_eq0, ↓y_lt0, ↓y_le0, ↓y_eq, ↓y_lt, ↓y_le, ↓y_switch, ↓y_sw0, ↓y_sw1, ↓y_getI, ↓y_getL, ↓y_getR, ↓y_getT, ↓y_putI, ↓y_putZ, ↓y_putL, ↓y_putT, ↓y_iald, ↓y_bald, ↓y_lald, ↓y_aald, ↓y_iast, ↓y_bast, ↓y_last, ↓y_alen, ↓y_iret, ↓y_zret, ↓y_lret, ↓y_vret, ↓y_svI, ↓y_svL, ↓y_svV, ↓y_ivI, ↓y_ivL, ↓y_ivV, ↓y_max, ↓y_min, ↓y_absL, ↓y_cpI, ↓y_cpL, ↓x_n1I, ↓x_n1L, ↓x_n1R, ↓x_n0I, ↓x_n0L, ↓x_n0R, ↓x_s0, ↓x_s1i, ↓x_s1r, ↓x_s1n, ↓x_s2, ↓x_c0, ↓x_c2, ↓x_tk0, ↓x_tk1, ↓x_rcv, x_rI1, x_rL1, x_rV1, x_rIn, x_rLn, x_rVn, x_rIf, x_rLf, x_rVf, x_40, x_41, x_42, x_43, x_44, ↓reduceIte, if_true, if_false, ao_iadd, ao_isub, ao_imul, ao_iand, ao_ior, ao_ishl, ao_ishr, ao_iushr, ao_ladd, ao_lsub, ao_lmul, ao_land, ao_lor, ao_idiv, ao_irem, ao_ldiv, ao_lrem, ao_ineg, ao_i2b, ao_i2s, Nat.reduceAdd, Nat.reduceMul, Nat.reduceSub, Nat.reduceEqDiff, Nat.reduceLeDiff, and_self, true_and, x_lit, x_ofn, x_z0, x_z1, x_inbT, x_ltT, x_ltF, x_leT, x_leF, x_eqF, x_eqT, x_inb, x_lt, x_le, x_eq, x_cl, x_sub, nI_add, pk_mul, x_m1e, x_m1e', x_m1l, x_m1n, x_m1s, Nat.not_lt_zero, x_zb, x_b0, x_b1, decide_eq_false_iff_not, decide_eq_true_eq, Bool.false_eq_true, Bool.true_eq_false]
    rfl
  | succ k ih =>
    intro n first V σ hk hn wn wc hN hP
    obtain ⟨n, rfl⟩ : ∃ q, n = q + 1 := ⟨n - 1, by omega⟩
    obtain ⟨E, eE⟩ : ∃ E, E = S_X2_duel n := ⟨_, rfl⟩
    have hlen := mvL_len wn
    obtain ⟨σ1, a1, a2, a3⟩ := X_listMoves (h := 51) (start := (k + 1) * 49) ht ⟨by omega, rfl, by show (k + 1) * 49 + 49 ≤ 196; omega, Nat.le_refl _⟩ wn wc hN hP
    have hne : ∀ i, i < 7 → t + i ≠ 51 := fun i hi => (h5 i hi).1
    have hne2 : ∀ i, i < 7 → t + i ≠ 52 := fun i hi => (h5 i hi).2
    have hP1 : TP σ1 t V := TP_fr hP (fun j q1 q2 => a3.2.1 j (by have := hne (j - t) (by omega); omega))
    have hF1 : frR t (k + 1) σ σ1 := ⟨a3.1, fun j p q r s u => a3.2.1 j s, fun i hi => a3.2.2 i (by omega), fun i hi => by rw [a3.2.1 52 (by omega)]⟩
    obtain ⟨⟨b, x8, x9, x10⟩, σ3, ⟨b1, b2', b3, b4, b6⟩, hr⟩ := rch_for (hd := hd_X2_duel E) (p := 32) (n := (mvL V).length) (C := 1)
      (fun i (a : Option Int32 × Option Value × Option Value × Option Value) => [some (.ref 50), some (.ref t), some (.int (nI set)), some (.int (nI (k + 1))), some (.int (nI (b2 first))), some (.int (nI (mvL V).length)), some (.int (a.1.getD (nI 0))), some (.int (nI i)), a.2.1, a.2.2.1, a.2.2.2])
      (fun i a τ => TP τ t V ∧ seg (τ.1 51) ((k + 1) * 49) (mvL V) ∧ a.1 = duelF first (duelV set k (!first)) set V ((mvL V).take i) ∧ (i = 0 ↔ a.1 = none) ∧ frR t (k + 1) σ τ)
      (fun i a τ hi hI => by
        obtain ⟨b, x8, x9, x10⟩ := a
        obtain ⟨i1, i2, i3, i4, i6⟩ := hI
        dsimp only at i3 i4
        have hm : (mvL V)[i]? = some (mvL V)[i] := List.getElem?_eq_getElem hi
        obtain ⟨f, to, em, hf, hto, hok⟩ := mvL_at hm
        rw [em] at hm
        obtain ⟨o1, o2, o3, o4, o5, c, hc, o6, o7⟩ := ok_spec wn hto hok
        obtain ⟨q1, q2, q3⟩ := mvc_eq hto hc
        have hc24 : c < 24 := wc.1 f (by omega) c (List.mem_of_getLast? hc)
        have hcode := i2 _ _ hm
        have hNτ : TN τ t V := TN_fr hN (i6.2.1 t (by omega) (by omega) (by omega) (hne 0 (by omega)) (hne2 0 (by omega)))
        obtain ⟨τ1, s1, s2, s3⟩ := X_shift ht i1 wn wc hf hto hok hc
        have hwm := WC_mv wn wc hf hto hok hc
        have hN1 : TN τ1 t (moveC V f to c) := TN_cg (TN_fr hNτ (s3.2 t (by omega) (by omega) (by omega))) (moveC_N _ _ _ _)
        have hwn : WN (moveC V f to c) := by unfold WN; rw [moveC_N]; exact wn
        obtain ⟨τ2, r1, r2, r3⟩ := ih n (!first) (moveC V f to c) τ1 (by omega) (by omega) hwn hwm hN1 s2
        rw [← eE] at r1
        obtain ⟨τ3, u1, u2, u3⟩ := X_unshift ht wn wc hf hto hok hc r2
        have hF3 : frR t k τ τ3 := frR_tr (frR_S ht s3) (frR_tr r3 (frR_S ht u3))
        have h51 : seg (τ3.1 51) ((k + 1) * 49) (mvL V) := seg_cg i2 (fun j hj => hF3.2.2.1 _ (by omega))
        have hstep := duelF_s (first := first) (rec := duelV set k (!first)) (set := set) (V := V) hm
        rw [q1, q2, q3, ← i3] at hstep
        obtain ⟨v, ev⟩ : ∃ v, v = gD set c to + duelV set k (!first) (moveC V f to c) := ⟨_, rfl⟩
        rw [← ev] at hstep
        have hq10 : nI (10 * f + to) / nI 10 = nI f := by rw [x_div (by omega) (by omega) (by omega)]; congr 1; omega
        have hr10 : 10 * f + to - f * 10 = to := by omega
        refine ⟨(pickD first b v, some (.int (nI (10 * f + to))), some (.int (nI c)), some (.int v)), τ3, ⟨u2, h51, by rw [hstep], ⟨fun e => by omega, fun e => by unfold pickD at e; dsimp only at e; split at e <;> cases e⟩, frR_tr i6 (frR_mono hF3 (by omega))⟩, rch_1 fun B => ?_⟩
        dsimp only
        cases b with
        | none =>
          have i0 : i = 0 := i4.mpr rfl
          have eb : (pickD first none v).getD (nI 0) = v := rfl
          have en : (none : Option Int32).getD (nI 0) = nI 0 := rfl
          rw [eb, en, ev, i0]
          rw [i0] at hcode
          cases first
          · have r1' : E [.ref 50, .ref t, .int (nI set), .int (nI k), .int (nI 1)] τ1 = some (some (.int (duelV set k (!false) (moveC V f to c))), τ2) := r1
            simp (disch := omega) only [↓e_X2_duel_32, ↓e_X2_duel_102, ↓e_X2_duel_103, ↓e_X2_duel_145, ↓e_X2_duel_152, ↓e_X2_duel_156, ↓h_X2_duel_32, ↓it_s, ↓y_iload, ↓y_lload, ↓y_aload, ↓y_istore, ↓y_lstore, ↓y_astore, ↓y_iinc, ↓y_cI, ↓y_cL, ↓y_bin, ↓y_binL, ↓y_div, ↓y_divL, ↓y_lshl, ↓y_un, ↓y_i2l, ↓y_lneg, ↓y_l2i, ↓y_lcmp, ↓y_dupI, ↓y_dupR, ↓y_dup2, ↓y_pop, ↓y_goto, ↓y_eq0, ↓y_lt0, ↓y_le0, ↓y_eq, ↓y_lt, ↓y_le, ↓y_switch, ↓y_sw0, ↓y_sw1, ↓y_getI, ↓y_getL, ↓y_getR, ↓y_getT, ↓y_putI, ↓y_putZ, ↓y_putL, ↓y_putT, ↓y_iald, ↓y_bald, ↓y_lald, ↓y_aald, ↓y_iast, ↓y_bast, ↓y_last, ↓y_alen, ↓y_iret, ↓y_zret, ↓y_lret, ↓y_vret, ↓y_svI, ↓y_svL, ↓y_svV, ↓y_ivI, ↓y_ivL, ↓y_ivV, ↓y_max, ↓y_min, ↓y_absL, ↓y_cpI, ↓y_cpL, ↓x_n1I, ↓x_n1L, ↓x_n1R, ↓x_n0I, ↓x_n0L, ↓x_n0R, ↓x_s0, ↓x_s1i, ↓x_s1r, ↓x_s1n, ↓x_s2, ↓x_c0, ↓x_c2, ↓x_tk0, ↓x_tk1, ↓x_rcv, x_rI1, x_rL1, x_rV1, x_rIn, x_rLn, x_rVn, x_rIf, x_rLf, x_rVf, x_40, x_41, x_42, x_43, x_44, ↓reduceIte, if_true, if_false, ao_iadd, ao_isub, ao_imul, ao_iand, ao_ior, ao_ishl, ao_ishr, ao_iushr, ao_ladd, ao_lsub, ao_lmul, ao_land, ao_lor, ao_idiv, ao_irem, ao_ldiv, ao_lrem, ao_ineg, ao_i2b, ao_i2s, Nat.reduceAdd, Nat.reduceMul, Nat.reduceSub, Nat.reduceEqDiff, Nat.reduceLeDiff, and_self, true_and, x_lit, x_ofn, x_z0, x_z1, x_inbT, x_ltT, x_ltF, x_leT, x_leF, x_eqF, x_eqT, x_inb, x_lt, x_le, x_eq, x_cl, x_sub, nI_add, pk_mul, x_m1e, x_m1e', x_m1l, x_m1n, x_m1s, Nat.not_lt_zero, x_zb, x_b0, x_b1, decide_eq_false_iff_not, decide_eq_true_eq, Bool.false_eq_true, Bool.true_eq_false, k0, hcode, hq10, hr10, s1, X_gain hset hc24 hto, Nat.add_sub_cancel, b2_f, r1', u1, kd_50, kd_51, ln_51]
          · have r1' : E [.ref 50, .ref t, .int (nI set), .int (nI k), .int (nI 0)] τ1 = some (some (.int (duelV set k (!true) (moveC V f to c))), τ2) := r1
            simp (disch := omega) only [↓e_X2_duel_32, ↓e_X2_duel_102, ↓e_X2_duel_103, ↓e_X2_duel_145, ↓e_X2_duel_152, ↓e_X2_duel_156, ↓h_X2_duel_32, ↓it_s, ↓y_iload, ↓y_lload, ↓y_aload, ↓y_istore, ↓y_lstore, ↓y_astore, ↓y_iinc, ↓y_cI, ↓y_cL, ↓y_bin, ↓y_binL, ↓y_div, ↓y_divL, ↓y_lshl, ↓y_un, ↓y_i2l, ↓y_lneg, ↓y_l2i, ↓y_lcmp, ↓y_dupI, ↓y_dupR, ↓y_dup2, ↓y_pop, ↓y_goto, ↓y_eq0, ↓y_lt0, ↓y_le0, ↓y_eq, ↓y_lt, ↓y_le, ↓y_switch, ↓y_sw0, ↓y_sw1, ↓y_getI, ↓y_getL, ↓y_getR, ↓y_getT, ↓y_putI, ↓y_putZ, ↓y_putL, ↓y_putT, ↓y_iald, ↓y_bald, ↓y_lald, ↓y_aald, ↓y_iast, ↓y_bast, ↓y_last, ↓y_alen, ↓y_iret, ↓y_zret, ↓y_lret, ↓y_vret, ↓y_svI, ↓y_svL, ↓y_svV, ↓y_ivI, ↓y_ivL, ↓y_ivV, ↓y_max, ↓y_min, ↓y_absL, ↓y_cpI, ↓y_cpL, ↓x_n1I, ↓x_n1L, ↓x_n1R, ↓x_n0I, ↓x_n0L, ↓x_n0R, ↓x_s0, ↓x_s1i, ↓x_s1r, ↓x_s1n, ↓x_s2, ↓x_c0, ↓x_c2, ↓x_tk0, ↓x_tk1, ↓x_rcv, x_rI1, x_rL1, x_rV1, x_rIn, x_rLn, x_rVn, x_rIf, x_rLf, x_rVf, x_40, x_41, x_42, x_43, x_44, ↓reduceIte, if_true, if_false, ao_iadd, ao_isub, ao_imul, ao_iand, ao_ior, ao_ishl, ao_ishr, ao_iushr, ao_ladd, ao_lsub, ao_lmul, ao_land, ao_lor, ao_idiv, ao_irem, ao_ldiv, ao_lrem, ao_ineg, ao_i2b, ao_i2s, Nat.reduceAdd, Nat.reduceMul, Nat.reduceSub, Nat.reduceEqDiff, Nat.reduceLeDiff, and_self, true_and, x_lit, x_ofn, x_z0, x_z1, x_inbT, x_ltT, x_ltF, x_leT, x_leF, x_eqF, x_eqT, x_inb, x_lt, x_le, x_eq, x_cl, x_sub, nI_add, pk_mul, x_m1e, x_m1e', x_m1l, x_m1n, x_m1s, Nat.not_lt_zero, x_zb, x_b0, x_b1, decide_eq_false_iff_not, decide_eq_true_eq, Bool.false_eq_true, Bool.true_eq_false, k0, hcode, hq10, hr10, s1, X_gain hset hc24 hto, Nat.add_sub_cancel, b2_t, r1', u1, kd_50, kd_51, ln_51]
        | some x =>
          have i0 : i ≠ 0 := fun e => by have := i4.mp e; cases this
          have en : (some x).getD (nI 0) = x := rfl
          rw [en]
          cases first
          · have r1' : E [.ref 50, .ref t, .int (nI set), .int (nI k), .int (nI 1)] τ1 = some (some (.int (duelV set k (!false) (moveC V f to c))), τ2) := r1
            by_cases hv : v < x
            · have eb : (pickD false (some x) v).getD (nI 0) = v := by simp [pickD, hv]
              rw [eb]
              rw [ev] at hv ⊢
              simp (disch := omega) only [↓e_X2_duel_32, ↓e_X2_duel_102, ↓e_X2_duel_103, ↓e_X2_duel_145, ↓e_X2_duel_152, ↓e_X2_duel_156, ↓h_X2_duel_32, ↓it_s, ↓y_iload, ↓y_lload, ↓y_aload, ↓y_istore, ↓y_lstore, ↓y_astore, ↓y_iinc, ↓y_cI, ↓y_cL, ↓y_bin, ↓y_binL, ↓y_div, ↓y_divL, ↓y_lshl, ↓y_un, ↓y_i2l, ↓y_lneg, ↓y_l2i, ↓y_lcmp, ↓y_dupI, ↓y_dupR, ↓y_dup2, ↓y_pop, ↓y_goto, ↓y_eq0, ↓y_lt0, ↓y_le0, ↓y_eq, ↓y_lt, ↓y_le, ↓y_switch, ↓y_sw0, ↓y_sw1, ↓y_getI, ↓y_getL, ↓y_getR, ↓y_getT, ↓y_putI, ↓y_putZ, ↓y_putL, ↓y_putT, ↓y_iald, ↓y_bald, ↓y_lald, ↓y_aald, ↓y_iast, ↓y_bast, ↓y_last, ↓y_alen, ↓y_iret, ↓y_zret, ↓y_lret, ↓y_vret, ↓y_svI, ↓y_svL, ↓y_svV, ↓y_ivI, ↓y_ivL, ↓y_ivV, ↓y_max, ↓y_min, ↓y_absL, ↓y_cpI, ↓y_cpL, ↓x_n1I, ↓x_n1L, ↓x_n1R, ↓x_n0I, ↓x_n0L, ↓x_n0R, ↓x_s0, ↓x_s1i, ↓x_s1r, ↓x_s1n, ↓x_s2, ↓x_c0, ↓x_c2, ↓x_tk0, ↓x_tk1, ↓x_rcv, x_rI1, x_rL1, x_rV1, x_rIn, x_rLn, x_rVn, x_rIf, x_rLf, x_rVf, x_40, x_41, x_42, x_43, x_44, ↓reduceIte, if_true, if_false, ao_iadd, ao_isub, ao_imul, ao_iand, ao_ior, ao_ishl, ao_ishr, ao_iushr, ao_ladd, ao_lsub, ao_lmul, ao_land, ao_lor, ao_idiv, ao_irem, ao_ldiv, ao_lrem, ao_ineg, ao_i2b, ao_i2s, Nat.reduceAdd, Nat.reduceMul, Nat.reduceSub, Nat.reduceEqDiff, Nat.reduceLeDiff, and_self, true_and, x_lit, x_ofn, x_z0, x_z1, x_inbT, x_ltT, x_ltF, x_leT, x_leF, x_eqF, x_eqT, x_inb, x_lt, x_le, x_eq, x_cl, x_sub, nI_add, pk_mul, x_m1e, x_m1e', x_m1l, x_m1n, x_m1s, Nat.not_lt_zero, x_zb, x_b0, x_b1, decide_eq_false_iff_not, decide_eq_true_eq, Bool.false_eq_true, Bool.true_eq_false, k0, hcode, hq10, hr10, s1, X_gain hset hc24 hto, Nat.add_sub_cancel, b2_f, r1', u1, hv, kd_50, kd_51, ln_51]
            · have eb : (pickD false (some x) v).getD (nI 0) = x := by simp [pickD, hv]
              rw [eb]
              rw [ev] at hv ⊢
              simp (disch := omega) only [↓e_X2_duel_32, ↓e_X2_duel_102, ↓e_X2_duel_103, ↓e_X2_duel_145, ↓e_X2_duel_152, ↓e_X2_duel_156, ↓h_X2_duel_32, ↓it_s, ↓y_iload, ↓y_lload, ↓y_aload, ↓y_istore, ↓y_lstore, ↓y_astore, ↓y_iinc, ↓y_cI, ↓y_cL, ↓y_bin, ↓y_binL, ↓y_div, ↓y_divL, ↓y_lshl, ↓y_un, ↓y_i2l, ↓y_lneg, ↓y_l2i, ↓y_lcmp, ↓y_dupI, ↓y_dupR, ↓y_dup2, ↓y_pop, ↓y_goto, ↓y_eq0, ↓y_lt0, ↓y_le0, ↓y_eq, ↓y_lt, ↓y_le, ↓y_switch, ↓y_sw0, ↓y_sw1, ↓y_getI, ↓y_getL, ↓y_getR, ↓y_getT, ↓y_putI, ↓y_putZ, ↓y_putL, ↓y_putT, ↓y_iald, ↓y_bald, ↓y_lald, ↓y_aald, ↓y_iast, ↓y_bast, ↓y_last, ↓y_alen, ↓y_iret, ↓y_zret, ↓y_lret, ↓y_vret, ↓y_svI, ↓y_svL, ↓y_svV, ↓y_ivI, ↓y_ivL, ↓y_ivV, ↓y_max, ↓y_min, ↓y_absL, ↓y_cpI, ↓y_cpL, ↓x_n1I, ↓x_n1L, ↓x_n1R, ↓x_n0I, ↓x_n0L, ↓x_n0R, ↓x_s0, ↓x_s1i, ↓x_s1r, ↓x_s1n, ↓x_s2, ↓x_c0, ↓x_c2, ↓x_tk0, ↓x_tk1, ↓x_rcv, x_rI1, x_rL1, x_rV1, x_rIn, x_rLn, x_rVn, x_rIf, x_rLf, x_rVf, x_40, x_41, x_42, x_43, x_44, ↓reduceIte, if_true, if_false, ao_iadd, ao_isub, ao_imul, ao_iand, ao_ior, ao_ishl, ao_ishr, ao_iushr, ao_ladd, ao_lsub, ao_lmul, ao_land, ao_lor, ao_idiv, ao_irem, ao_ldiv, ao_lrem, ao_ineg, ao_i2b, ao_i2s, Nat.reduceAdd, Nat.reduceMul, Nat.reduceSub, Nat.reduceEqDiff, Nat.reduceLeDiff, and_self, true_and, x_lit, x_ofn, x_z0, x_z1, x_inbT, x_ltT, x_ltF, x_leT, x_leF, x_eqF, x_eqT, x_inb, x_lt, x_le, x_eq, x_cl, x_sub, nI_add, pk_mul, x_m1e, x_m1e', x_m1l, x_m1n, x_m1s, Nat.not_lt_zero, x_zb, x_b0, x_b1, decide_eq_false_iff_not, decide_eq_true_eq, Bool.false_eq_true, Bool.true_eq_false, k0, hcode, hq10, hr10, s1, X_gain hset hc24 hto, Nat.add_sub_cancel, b2_f, r1', u1, hv, kd_50, kd_51, ln_51]
          · have r1' : E [.ref 50, .ref t, .int (nI set), .int (nI k), .int (nI 0)] τ1 = some (some (.int (duelV set k (!true) (moveC V f to c))), τ2) := r1
            by_cases hv : v ≤ x
            · have hv' : ¬ x < v := by rw [Int32.lt_iff_toInt_lt]; rw [Int32.le_iff_toInt_le] at hv; omega
              have eb : (pickD true (some x) v).getD (nI 0) = x := by simp [pickD, hv']
              rw [eb]
              rw [ev] at hv ⊢
              simp (disch := omega) only [↓e_X2_duel_32, ↓e_X2_duel_102, ↓e_X2_duel_103, ↓e_X2_duel_145, ↓e_X2_duel_152, ↓e_X2_duel_156, ↓h_X2_duel_32, ↓it_s, ↓y_iload, ↓y_lload, ↓y_aload, ↓y_istore, ↓y_lstore, ↓y_astore, ↓y_iinc, ↓y_cI, ↓y_cL, ↓y_bin, ↓y_binL, ↓y_div, ↓y_divL, ↓y_lshl, ↓y_un, ↓y_i2l, ↓y_lneg, ↓y_l2i, ↓y_lcmp, ↓y_dupI, ↓y_dupR, ↓y_dup2, ↓y_pop, ↓y_goto, ↓y_eq0, ↓y_lt0, ↓y_le0, ↓y_eq, ↓y_lt, ↓y_le, ↓y_switch, ↓y_sw0, ↓y_sw1, ↓y_getI, ↓y_getL, ↓y_getR, ↓y_getT, ↓y_putI, ↓y_putZ, ↓y_putL, ↓y_putT, ↓y_iald, ↓y_bald, ↓y_lald, ↓y_aald, ↓y_iast, ↓y_bast, ↓y_last, ↓y_alen, ↓y_iret, ↓y_zret, ↓y_lret, ↓y_vret, ↓y_svI, ↓y_svL, ↓y_svV, ↓y_ivI, ↓y_ivL, ↓y_ivV, ↓y_max, ↓y_min, ↓y_absL, ↓y_cpI, ↓y_cpL, ↓x_n1I, ↓x_n1L, ↓x_n1R, ↓x_n0I, ↓x_n0L, ↓x_n0R, ↓x_s0, ↓x_s1i, ↓x_s1r, ↓x_s1n, ↓x_s2, ↓x_c0, ↓x_c2, ↓x_tk0, ↓x_tk1, ↓x_rcv, x_rI1, x_rL1, x_rV1, x_rIn, x_rLn, x_rVn, x_rIf, x_rLf, x_rVf, x_40, x_41, x_42, x_43, x_44, ↓reduceIte, if_true, if_false, ao_iadd, ao_isub, ao_imul, ao_iand, ao_ior, ao_ishl, ao_ishr, ao_iushr, ao_ladd, ao_lsub, ao_lmul, ao_land, ao_lor, ao_idiv, ao_irem, ao_ldiv, ao_lrem, ao_ineg, ao_i2b, ao_i2s, Nat.reduceAdd, Nat.reduceMul, Nat.reduceSub, Nat.reduceEqDiff, Nat.reduceLeDiff, and_self, true_and, x_lit, x_ofn, x_z0, x_z1, x_inbT, x_ltT, x_ltF, x_leT, x_leF, x_eqF, x_eqT, x_inb, x_lt, x_le, x_eq, x_cl, x_sub, nI_add, pk_mul, x_m1e, x_m1e', x_m1l, x_m1n, x_m1s, Nat.not_lt_zero, x_zb, x_b0, x_b1, decide_eq_false_iff_not, decide_eq_true_eq, Bool.false_eq_true, Bool.true_eq_false, k0, hcode, hq10, hr10, s1, X_gain hset hc24 hto, Nat.add_sub_cancel, b2_t, r1', u1, hv, kd_50, kd_51, ln_51]
            · have hv' : x < v := by rw [Int32.lt_iff_toInt_lt]; rw [Int32.le_iff_toInt_le] at hv; omega
              have eb : (pickD true (some x) v).getD (nI 0) = v := by simp [pickD, hv']
              rw [eb]
              rw [ev] at hv ⊢
              simp (disch := omega) only [↓e_X2_duel_32, ↓e_X2_duel_102, ↓e_X2_duel_103, ↓e_X2_duel_145, ↓e_X2_duel_152, ↓e_X2_duel_156, ↓h_X2_duel_32, ↓it_s, ↓y_iload, ↓y_lload, ↓y_aload, ↓y_istore, ↓y_lstore, ↓y_astore, ↓y_iinc, ↓y_cI, ↓y_cL, ↓y_bin, ↓y_binL, ↓y_div, ↓y_divL, ↓y_lshl, ↓y_un, ↓y_i2l, ↓y_lneg, ↓y_l2i, ↓y_lcmp, ↓y_dupI, ↓y_dupR, ↓y_dup2, ↓y_pop, ↓y_goto, ↓y_eq0, ↓y_lt0, ↓y_le0, ↓y_eq, ↓y_lt, ↓y_le, ↓y_switch, ↓y_sw0, ↓y_sw1, ↓y_getI, ↓y_getL, ↓y_getR, ↓y_getT, ↓y_putI, ↓y_putZ, ↓y_putL, ↓y_putT, ↓y_iald, ↓y_bald, ↓y_lald, ↓y_aald, ↓y_iast, ↓y_bast, ↓y_last, ↓y_alen, ↓y_iret, ↓y_zret, ↓y_lret, ↓y_vret, ↓y_svI, ↓y_svL, ↓y_svV, ↓y_ivI, ↓y_ivL, ↓y_ivV, ↓y_max, ↓y_min, ↓y_absL, ↓y_cpI, ↓y_cpL, ↓x_n1I, ↓x_n1L, ↓x_n1R, ↓x_n0I, ↓x_n0L, ↓x_n0R, ↓x_s0, ↓x_s1i, ↓x_s1r, ↓x_s1n, ↓x_s2, ↓x_c0, ↓x_c2, ↓x_tk0, ↓x_tk1, ↓x_rcv, x_rI1, x_rL1, x_rV1, x_rIn, x_rLn, x_rVn, x_rIf, x_rLf, x_rVf, x_40, x_41, x_42, x_43, x_44, ↓reduceIte, if_true, if_false, ao_iadd, ao_isub, ao_imul, ao_iand, ao_ior, ao_ishl, ao_ishr, ao_iushr, ao_ladd, ao_lsub, ao_lmul, ao_land, ao_lor, ao_idiv, ao_irem, ao_ldiv, ao_lrem, ao_ineg, ao_i2b, ao_i2s, Nat.reduceAdd, Nat.reduceMul, Nat.reduceSub, Nat.reduceEqDiff, Nat.reduceLeDiff, and_self, true_and, x_lit, x_ofn, x_z0, x_z1, x_inbT, x_ltT, x_ltF, x_leT, x_leF, x_eqF, x_eqT, x_inb, x_lt, x_le, x_eq, x_cl, x_sub, nI_add, pk_mul, x_m1e, x_m1e', x_m1l, x_m1n, x_m1s, Nat.not_lt_zero, x_zb, x_b0, x_b1, decide_eq_false_iff_not, decide_eq_true_eq, Bool.false_eq_true, Bool.true_eq_false, k0, hcode, hq10, hr10, s1, X_gain hset hc24 hto, Nat.add_sub_cancel, b2_t, r1', u1, hv, kd_50, kd_51, ln_51])
      (mvL V).length 0 (none, none, none, none) σ1 (by omega) ⟨hP1, a2, rfl, ⟨fun _ => rfl, fun _ => rfl⟩, hF1⟩
    dsimp only at b3 hr
    rw [List.take_length] at b3
    have eV : duelV set (k + 1) first V = b.getD (nI 0) := by rw [b3]; rfl
    refine ⟨σ3, ?_, b1, b6⟩
    have hf := rch_fin hr (fin_0 (r := some (some (.int (b.getD (nI 0))), σ3)) fun B => by
      simp (disch := omega) only [↓e_X2_duel_32, ↓e_X2_duel_162, ↓h_X2_duel_32, ↓it_s, ↓y_iload, ↓y_lload, ↓y_aload, ↓y_istore, ↓y_lstore, ↓y_astore, ↓y_iinc, ↓y_cI, ↓y_cL, ↓y_bin, ↓y_binL, ↓y_div, ↓y_divL, ↓y_lshl, ↓y_un, ↓y_i2l, ↓y_lneg, ↓y_l2i, ↓y_lcmp, ↓y_dupI, ↓y_dupR, ↓y_dup2, ↓y_pop, ↓y_goto, ↓y_eq0, ↓y_lt0, ↓y_le0, ↓y_eq, ↓y_lt, ↓y_le, ↓y_switch, ↓y_sw0, ↓y_sw1, ↓y_getI, ↓y_getL, ↓y_getR, ↓y_getT, ↓y_putI, ↓y_putZ, ↓y_putL, ↓y_putT, ↓y_iald, ↓y_bald, ↓y_lald, ↓y_aald, ↓y_iast, ↓y_bast, ↓y_last, ↓y_alen, ↓y_iret, ↓y_zret, ↓y_lret, ↓y_vret, ↓y_svI, ↓y_svL, ↓y_svV, ↓y_ivI, ↓y_ivL, ↓y_ivV, ↓y_max, ↓y_min, ↓y_absL, ↓y_cpI, ↓y_cpL, ↓x_n1I, ↓x_n1L, ↓x_n1R, ↓x_n0I, ↓x_n0L, ↓x_n0R, ↓x_s0, ↓x_s1i, ↓x_s1r, ↓x_s1n, ↓x_s2, ↓x_c0, ↓x_c2, ↓x_tk0, ↓x_tk1, ↓x_rcv, x_rI1, x_rL1, x_rV1, x_rIn, x_rLn, x_rVn, x_rIf, x_rLf, x_rVf, x_40, x_41, x_42, x_43, x_44, ↓reduceIte, if_true, if_false, ao_iadd, ao_isub, ao_imul, ao_iand, ao_ior, ao_ishl, ao_ishr, ao_iushr, ao_ladd, ao_lsub, ao_lmul, ao_land, ao_lor, ao_idiv, ao_irem, ao_ldiv, ao_lrem, ao_ineg, ao_i2b, ao_i2s, Nat.reduceAdd, Nat.reduceMul, Nat.reduceSub, Nat.reduceEqDiff, Nat.reduceLeDiff, and_self, true_and, x_lit, x_ofn, x_z0, x_z1, x_inbT, x_ltT, x_ltF, x_leT, x_leF, x_eqF, x_eqT, x_inb, x_lt, x_le, x_eq, x_cl, x_sub, nI_add, pk_mul, x_m1e, x_m1e', x_m1l, x_m1n, x_m1s, Nat.not_lt_zero, x_zb, x_b0, x_b1, decide_eq_false_iff_not, decide_eq_true_eq, Bool.false_eq_true, Bool.true_eq_false])
    have hf0 := fin_run hf (by unfold am_fuel; omega)
    have en : (none : Option Int32).getD (nI 0) = nI 0 := rfl
    rw [en] at hf0
    show F_X2_duel (S_X2_duel n) _ _ = _
    rw [← eE, eV, ← hf0]
    simp (disch := omega) only [g_X2_duel, ↓e_X2_duel_0, ↓e_X2_duel_12, ↓h_X2_duel_32, ↓it_s, ↓y_iload, ↓y_lload, ↓y_aload, ↓y_istore, ↓y_lstore, ↓y_astore, ↓y_iinc, ↓y_cI, ↓y_cL, ↓y_bin, ↓y_binL, ↓y_div, ↓y_divL, ↓y_lshl, ↓y_un, ↓y_i2l, ↓y_lneg, ↓y_l2i, ↓y_lcmp, ↓y_dupI, ↓y_dupR, ↓y_dup2, ↓y_pop, ↓y_goto, ↓y_eq0, ↓y_lt0, ↓y_le0, ↓y_eq, ↓y_lt, ↓y_le, ↓y_switch, ↓y_sw0, ↓y_sw1, ↓y_getI, ↓y_getL, ↓y_getR, ↓y_getT, ↓y_putI, ↓y_putZ, ↓y_putL, ↓y_putT, ↓y_iald, ↓y_bald, ↓y_lald, ↓y_aald, ↓y_iast, ↓y_bast, ↓y_last, ↓y_alen, ↓y_iret, ↓y_zret, ↓y_lret, ↓y_vret, ↓y_svI, ↓y_svL, ↓y_svV, ↓y_ivI, ↓y_ivL, ↓y_ivV, ↓y_max, ↓y_min, ↓y_absL, ↓y_cpI, ↓y_cpL, ↓x_n1I, ↓x_n1L, ↓x_n1R, ↓x_n0I, ↓x_n0L, ↓x_n0R, ↓x_s0, ↓x_s1i, ↓x_s1r, ↓x_s1n, ↓x_s2, ↓x_c0, ↓x_c2, ↓x_tk0, ↓x_tk1, ↓x_rcv, x_rI1, x_rL1, x_rV1, x_rIn, x_rLn, x_rVn, x_rIf, x_rLf, x_rVf, x_40, x_41, x_42, x_43, x_44, ↓reduceIte, if_true, if_false, ao_iadd, ao_isub, ao_imul, ao_iand, ao_ior, ao_ishl, ao_ishr, ao_iushr, ao_ladd, ao_lsub, ao_lmul, ao_land, ao_lor, ao_idiv, ao_irem, ao_ldiv, ao_lrem, ao_ineg, ao_i2b, ao_i2s, Nat.reduceAdd, Nat.reduceMul, Nat.reduceSub, Nat.reduceEqDiff, Nat.reduceLeDiff, and_self, true_and, x_lit, x_ofn, x_z0, x_z1, x_inbT, x_ltT, x_ltF, x_leT, x_leF, x_eqF, x_eqT, x_inb, x_lt, x_le, x_eq, x_cl, x_sub, nI_add, pk_mul, x_m1e, x_m1e', x_m1l, x_m1n, x_m1s, Nat.not_lt_zero, x_zb, x_b0, x_b1, decide_eq_false_iff_not, decide_eq_true_eq, Bool.false_eq_true, Bool.true_eq_false, k0, a1, kd_50, kd_51, ln_51]
theorem lv_even : ∀ lv, lv < 4 → nI lv - nI lv / nI 2 * nI 2 = nI (lv % 2) := fun lv h => x_rem (by omega) (by omega) (by omega)
theorem M_plays {set : Nat} (hset : set < 16) : ∀ (k n lv : Nat) (V : Vt) (σ : am_M), k + lv ≤ 3 → k < n → WG V → MC (σ.1 128) 0 V →
    ∃ τ, S_X11_plays n [.ref 123, .int (nI set), .int (nI k), .int (nI lv)] σ = some (some (.int (duelV set k (decide (lv % 2 = 0)) V)), τ) ∧ τ.1 128 = σ.1 128 ∧ frA lv σ τ := by
  intro k
  induction k with
  | zero =>
    intro n lv V σ hk hn hw hM
    obtain ⟨n, rfl⟩ : ∃ q, n = q + 1 := ⟨n - 1, by omega⟩
    have hkp := M_keeps (σ := σ) (lv := lv) (by omega)
    obtain ⟨σ1, e1⟩ : ∃ s, s = am_uA σ 129 (va_cpy (σ.1 128) (σ.1 129) 0 (170 * lv) 170) := ⟨_, rfl⟩
    rw [← e1] at hkp
    have hF1 : frA lv σ σ1 := by rw [e1]; exact frA_k lv σ
    have hc1 : σ1.1 128 = σ.1 128 := by rw [e1, uA_n (by omega)]
    obtain ⟨E, eE⟩ : ∃ E, E = S_X11_plays n := ⟨_, rfl⟩
    refine ⟨σ1, ?_, hc1, hF1⟩
    show F_X11_plays (S_X11_plays n) _ _ = _
    rw [← eE]
    simp (disch := omega) only [g_X11_plays, ↓e_X11_plays_0, ↓e_X11_plays_13, ↓e_X11_plays_26, ↓e_X11_plays_158, ↓it_s, ↓y_iload, ↓y_lload, ↓y_aload, ↓y_istore, ↓y_lstore, ↓y_astore, ↓y_iinc, ↓y_cI, ↓y_cL, ↓y_bin, ↓y_binL, ↓y_div, ↓y_divL, ↓y_lshl, ↓y_un, ↓y_i2l, ↓y_lneg, ↓y_l2i, ↓y_lcmp, ↓y_dupI, ↓y_dupR, ↓y_dup2, ↓y_pop, ↓y_goto, ↓y_eq0, ↓y_lt0, ↓y_le0, ↓y_eq, ↓y_lt, ↓y_le, ↓y_switch, ↓y_sw0, ↓y_sw1, ↓y_getI, ↓y_getL, ↓y_getR, ↓y_getT, ↓y_putI, ↓y_putZ, ↓y_putL, ↓y_putT, ↓y_iald, ↓y_bald, ↓y_lald, ↓y_aald, ↓y_iast, ↓y_bast, ↓y_last, ↓y_alen, ↓y_iret, ↓y_zret, ↓y_lret, ↓y_vret, ↓y_svI, ↓y_svL, ↓y_svV, ↓y_ivI, ↓y_ivL, ↓y_ivV, ↓y_max, ↓y_min, ↓y_absL, ↓y_cpI, ↓y_cpL, ↓x_n1I, ↓x_n1L, ↓x_n1R, ↓x_n0I, ↓x_n0L, ↓x_n0R, ↓x_s0, ↓x_s1i, ↓x_s1r, ↓x_s1n, ↓x_s2, ↓x_c0, ↓x_c2, ↓x_tk0, ↓x_tk1, ↓x_rcv, x_rI1, x_rL1, x_rV1, x_rIn, x_rLn, x_rVn, x_rIf, x_rLf, x_rVf, x_40, x_41, x_42, x_43, x_44, ↓reduceIte, if_true, if_false, ao_iadd, ao_isub, ao_imul, ao_iand, ao_ior, ao_ishl, ao_ishr, ao_iushr, ao_ladd, ao_lsub, ao_lmul, ao_land, ao_lor, ao_idiv, ao_irem, ao_ldiv, ao_lrem, ao_ineg, ao_i2b, ao_i2s, Nat.reduceAdd, Nat.reduceMul, Nat.reduceSub, Nat.reduceEqDiff, Nat.reduceLeDiff, and_self, true_and, x_lit, x_ofn, x_z0, x_z1, x_inbT, x_ltT, x_ltF, x_leT, x_leF, x_eqF, x_eqT, x_inb, x_lt, x_le, x_eq, x_cl, x_sub, nI_add, pk_mul, x_m1e, x_m1e', x_m1l, x_m1n, x_m1s, Nat.not_lt_zero, x_zb, x_b0, x_b1, decide_eq_false_iff_not, decide_eq_true_eq, Bool.false_eq_true, Bool.true_eq_false, hkp, kd_123]
    rfl
  | succ k ih =>
    intro n lv V σ hk hn hw hM
    obtain ⟨n, rfl⟩ : ∃ q, n = q + 1 := ⟨n - 1, by omega⟩
    obtain ⟨E, eE⟩ : ∃ E, E = S_X11_plays n := ⟨_, rfl⟩
    have hlen := mvL_len hw.1
    have hmany := M_moveBy (key := none) hM hw.1 hw.2.1 (fun j e => by cases e)
    have hmany' : S_X11_moveBy [.ref 123, .int (-nI 1)] σ = some (some (.int (nI (mvL V).length)), σ) := hmany
    have hkp := M_keeps (σ := σ) (lv := lv) (by omega)
    obtain ⟨σ1, e1⟩ : ∃ s, s = am_uA σ 129 (va_cpy (σ.1 128) (σ.1 129) 0 (170 * lv) 170) := ⟨_, rfl⟩
    rw [← e1] at hkp
    have hF1 : frA lv σ σ1 := by rw [e1]; exact frA_k lv σ
    have hc1 : σ1.1 128 = σ.1 128 := by rw [e1, uA_n (by omega)]
    have ha1 : ∀ q, q < 170 → σ1.1 129 (170 * lv + q) = σ.1 128 q := fun q hq => by rw [e1, uA_s, kp_at hq]
    obtain ⟨first, ef⟩ : ∃ first, first = decide (lv % 2 = 0) := ⟨_, rfl⟩
    have ef' : decide ((lv + 1) % 2 = 0) = !first := by
      rw [ef]
      by_cases h : lv % 2 = 0
      · simp [h]; omega
      · simp [h]; omega
    have hev := lv_even lv (by omega)
    rw [← ef]
    obtain ⟨⟨b, x7, x8, x9⟩, σ3, ⟨b1, b2', b3, b4, b5⟩, hr⟩ := rch_for (hd := hd_X11_plays E) (p := 26) (n := (mvL V).length) (C := 1)
      (fun i (a : Option Int32 × Option Value × Option Value × Option Value) => [some (.ref 123), some (.int (nI set)), some (.int (nI (k + 1))), some (.int (nI lv)), some (.int (nI (mvL V).length)), some (.int (a.1.getD (nI 0))), some (.int (nI i)), a.2.1, a.2.2.1, a.2.2.2])
      (fun i a τ => τ.1 128 = σ.1 128 ∧ (∀ q, q < 170 → τ.1 129 (170 * lv + q) = σ.1 128 q) ∧ a.1 = duelF first (duelV set k (!first)) set V ((mvL V).take i) ∧ (i = 0 ↔ a.1 = none) ∧ frA lv σ τ)
      (fun i a τ hi hI => by
        obtain ⟨b, x7, x8, x9⟩ := a
        obtain ⟨i1, i2, i3, i4, i5⟩ := hI
        dsimp only at i3 i4
        have hm : (mvL V)[i]? = some (mvL V)[i] := List.getElem?_eq_getElem hi
        obtain ⟨f, to, em, hf, hto, hok⟩ := mvL_at hm
        rw [em] at hm
        obtain ⟨o1, o2, o3, o4, o5, c, hc, o6, o7⟩ := ok_spec hw.1 hto hok
        obtain ⟨q1, q2, q3⟩ := mvc_eq hto hc
        have hc24 : c < 24 := hw.2.1.1 f (by omega) c (List.mem_of_getLast? hc)
        have hMτ : MC (τ.1 128) 0 V := by rw [i1]; exact hM
        have hby := M_moveBy (key := some i) hMτ hw.1 hw.2.1 (fun j e => by cases e; omega)
        rw [resM_at hm] at hby
        have hby' : S_X11_moveBy [.ref 123, .int (nI i)] τ = some (some (.int (nI (10 * f + to))), τ) := hby
        obtain ⟨g, s1, s2, s3⟩ := M_goesK hMτ hw hf hto hok hc
        obtain ⟨τ1, t1⟩ : ∃ s, s = am_uA τ 128 g := ⟨_, rfl⟩
        rw [← t1] at s1
        have hM1 : MC (τ1.1 128) 0 (moveV V f to c) := by rw [t1, uA_s]; exact s2
        obtain ⟨τ2, r1, r2, r3⟩ := ih n (lv + 1) (moveV V f to c) τ1 (by omega) (by omega) (WG_mv hw hf hto hok hc) hM1
        rw [← eE, duelV_mv, ef'] at r1
        have hgv := M_gives (σ := τ2) (lv := lv) (by omega)
        have h129 : ∀ q, q < 170 → τ2.1 129 (170 * lv + q) = σ.1 128 q := fun q hq => by
          rw [r3.2.2.2 _ (by omega), t1, uA_n (by omega)]; exact i2 q hq
        have hback : va_cpy (τ2.1 129) (τ2.1 128) (170 * lv) 0 170 = σ.1 128 := by
          refine gv_kp (fun j hj => ?_) h129
          rw [r2, t1, uA_s, s3 j hj, i1]
        rw [hback] at hgv
        obtain ⟨τ3, t3⟩ : ∃ s, s = am_uA τ2 128 (σ.1 128) := ⟨_, rfl⟩
        rw [← t3] at hgv
        have hF3 : frA lv τ τ3 := by
          refine frA_tr ?_ (frA_tr (frA_mono r3 (by omega)) ?_)
          · rw [t1]; exact frA_c lv τ g
          · rw [t3]; exact frA_c lv τ2 _
        have hstep := duelF_s (first := first) (rec := duelV set k (!first)) (set := set) (V := V) hm
        rw [q1, q2, q3, ← i3] at hstep
        obtain ⟨v, ev⟩ : ∃ v, v = gD set c to + duelV set k (!first) (moveC V f to c) := ⟨_, rfl⟩
        rw [← ev] at hstep
        have hq10 : nI (10 * f + to) / nI 10 = nI f := by rw [x_div (by omega) (by omega) (by omega)]; congr 1; omega
        have hr10 : 10 * f + to - f * 10 = to := by omega
        have hg : ∀ (B : Nat → am_K), hd_X11_plays E B 26 [some (.ref 123), some (.int (nI set)), some (.int (nI (k + 1))), some (.int (nI lv)), some (.int (nI (mvL V).length)), some (.int (b.getD (nI 0))), some (.int (nI i)), x7, x8, x9] [] τ = dn_X11_plays_97 E B [some (.ref 123), some (.int (nI set)), some (.int (nI (k + 1))), some (.int (nI lv)), some (.int (nI (mvL V).length)), some (.int (b.getD (nI 0))), some (.int (nI i)), some (.int (nI (10 * f + to))), some (.int (nI c)), x9] [.int (gD set c to)] τ1 := fun B => by
          by_cases e7 : to = 7
          · subst e7
            cases e : set.testBit (c / 6)
            · simp (disch := omega) only [↓e_X11_plays_26, ↓e_X11_plays_71, ↓e_X11_plays_91, ↓h_X11_plays_26, ↓it_s, ↓y_iload, ↓y_lload, ↓y_aload, ↓y_istore, ↓y_lstore, ↓y_astore, ↓y_iinc, ↓y_cI, ↓y_cL, ↓y_bin, ↓y_binL, ↓y_div, ↓y_divL, ↓y_lshl, ↓y_un, ↓y_i2l, ↓y_lneg, ↓y_l2i, ↓y_lcmp, ↓y_dupI, ↓y_dupR, ↓y_dup2, ↓y_pop, ↓y_goto, ↓y_eq0, ↓y_lt0, ↓y_le0, ↓y_eq, ↓y_lt, ↓y_le, ↓y_switch, ↓y_sw0, ↓y_sw1, ↓y_getI, ↓y_getL, ↓y_getR, ↓y_getT, ↓y_putI, ↓y_putZ, ↓y_putL, ↓y_putT, ↓y_iald, ↓y_bald, ↓y_lald, ↓y_aald, ↓y_iast, ↓y_bast, ↓y_last, ↓y_alen, ↓y_iret, ↓y_zret, ↓y_lret, ↓y_vret, ↓y_svI, ↓y_svL, ↓y_svV, ↓y_ivI, ↓y_ivL, ↓y_ivV, ↓y_max, ↓y_min, ↓y_absL, ↓y_cpI, ↓y_cpL, ↓x_n1I, ↓x_n1L, ↓x_n1R, ↓x_n0I, ↓x_n0L, ↓x_n0R, ↓x_s0, ↓x_s1i, ↓x_s1r, ↓x_s1n, ↓x_s2, ↓x_c0, ↓x_c2, ↓x_tk0, ↓x_tk1, ↓x_rcv, x_rI1, x_rL1, x_rV1, x_rIn, x_rLn, x_rVn, x_rIf, x_rLf, x_rVf, x_40, x_41, x_42, x_43, x_44, ↓reduceIte, if_true, if_false, ao_iadd, ao_isub, ao_imul, ao_iand, ao_ior, ao_ishl, ao_ishr, ao_iushr, ao_ladd, ao_lsub, ao_lmul, ao_land, ao_lor, ao_idiv, ao_irem, ao_ldiv, ao_lrem, ao_ineg, ao_i2b, ao_i2s, Nat.reduceAdd, Nat.reduceMul, Nat.reduceSub, Nat.reduceEqDiff, Nat.reduceLeDiff, and_self, true_and, x_lit, x_ofn, x_z0, x_z1, x_inbT, x_ltT, x_ltF, x_leT, x_leF, x_eqF, x_eqT, x_inb, x_lt, x_le, x_eq, x_cl, x_sub, nI_add, pk_mul, x_m1e, x_m1e', x_m1l, x_m1n, x_m1s, Nat.not_lt_zero, x_zb, x_b0, x_b1, decide_eq_false_iff_not, decide_eq_true_eq, Bool.false_eq_true, Bool.true_eq_false, hby', hq10, hr10, s1, M_suitOf, M_rankOf, M_has hset (show c / 6 < 4 by omega), e, b2_f, kd_123, gD]
            · simp (disch := omega) only [↓e_X11_plays_26, ↓e_X11_plays_71, ↓e_X11_plays_91, ↓h_X11_plays_26, ↓it_s, ↓y_iload, ↓y_lload, ↓y_aload, ↓y_istore, ↓y_lstore, ↓y_astore, ↓y_iinc, ↓y_cI, ↓y_cL, ↓y_bin, ↓y_binL, ↓y_div, ↓y_divL, ↓y_lshl, ↓y_un, ↓y_i2l, ↓y_lneg, ↓y_l2i, ↓y_lcmp, ↓y_dupI, ↓y_dupR, ↓y_dup2, ↓y_pop, ↓y_goto, ↓y_eq0, ↓y_lt0, ↓y_le0, ↓y_eq, ↓y_lt, ↓y_le, ↓y_switch, ↓y_sw0, ↓y_sw1, ↓y_getI, ↓y_getL, ↓y_getR, ↓y_getT, ↓y_putI, ↓y_putZ, ↓y_putL, ↓y_putT, ↓y_iald, ↓y_bald, ↓y_lald, ↓y_aald, ↓y_iast, ↓y_bast, ↓y_last, ↓y_alen, ↓y_iret, ↓y_zret, ↓y_lret, ↓y_vret, ↓y_svI, ↓y_svL, ↓y_svV, ↓y_ivI, ↓y_ivL, ↓y_ivV, ↓y_max, ↓y_min, ↓y_absL, ↓y_cpI, ↓y_cpL, ↓x_n1I, ↓x_n1L, ↓x_n1R, ↓x_n0I, ↓x_n0L, ↓x_n0R, ↓x_s0, ↓x_s1i, ↓x_s1r, ↓x_s1n, ↓x_s2, ↓x_c0, ↓x_c2, ↓x_tk0, ↓x_tk1, ↓x_rcv, x_rI1, x_rL1, x_rV1, x_rIn, x_rLn, x_rVn, x_rIf, x_rLf, x_rVf, x_40, x_41, x_42, x_43, x_44, ↓reduceIte, if_true, if_false, ao_iadd, ao_isub, ao_imul, ao_iand, ao_ior, ao_ishl, ao_ishr, ao_iushr, ao_ladd, ao_lsub, ao_lmul, ao_land, ao_lor, ao_idiv, ao_irem, ao_ldiv, ao_lrem, ao_ineg, ao_i2b, ao_i2s, Nat.reduceAdd, Nat.reduceMul, Nat.reduceSub, Nat.reduceEqDiff, Nat.reduceLeDiff, and_self, true_and, x_lit, x_ofn, x_z0, x_z1, x_inbT, x_ltT, x_ltF, x_leT, x_leF, x_eqF, x_eqT, x_inb, x_lt, x_le, x_eq, x_cl, x_sub, nI_add, pk_mul, x_m1e, x_m1e', x_m1l, x_m1n, x_m1s, Nat.not_lt_zero, x_zb, x_b0, x_b1, decide_eq_false_iff_not, decide_eq_true_eq, Bool.false_eq_true, Bool.true_eq_false, hby', hq10, hr10, s1, M_suitOf, M_rankOf, M_has hset (show c / 6 < 4 by omega), e, b2_t, kd_123, gD]
          · simp (disch := omega) only [↓e_X11_plays_26, ↓e_X11_plays_71, ↓e_X11_plays_91, ↓h_X11_plays_26, ↓it_s, ↓y_iload, ↓y_lload, ↓y_aload, ↓y_istore, ↓y_lstore, ↓y_astore, ↓y_iinc, ↓y_cI, ↓y_cL, ↓y_bin, ↓y_binL, ↓y_div, ↓y_divL, ↓y_lshl, ↓y_un, ↓y_i2l, ↓y_lneg, ↓y_l2i, ↓y_lcmp, ↓y_dupI, ↓y_dupR, ↓y_dup2, ↓y_pop, ↓y_goto, ↓y_eq0, ↓y_lt0, ↓y_le0, ↓y_eq, ↓y_lt, ↓y_le, ↓y_switch, ↓y_sw0, ↓y_sw1, ↓y_getI, ↓y_getL, ↓y_getR, ↓y_getT, ↓y_putI, ↓y_putZ, ↓y_putL, ↓y_putT, ↓y_iald, ↓y_bald, ↓y_lald, ↓y_aald, ↓y_iast, ↓y_bast, ↓y_last, ↓y_alen, ↓y_iret, ↓y_zret, ↓y_lret, ↓y_vret, ↓y_svI, ↓y_svL, ↓y_svV, ↓y_ivI, ↓y_ivL, ↓y_ivV, ↓y_max, ↓y_min, ↓y_absL, ↓y_cpI, ↓y_cpL, ↓x_n1I, ↓x_n1L, ↓x_n1R, ↓x_n0I, ↓x_n0L, ↓x_n0R, ↓x_s0, ↓x_s1i, ↓x_s1r, ↓x_s1n, ↓x_s2, ↓x_c0, ↓x_c2, ↓x_tk0, ↓x_tk1, ↓x_rcv, x_rI1, x_rL1, x_rV1, x_rIn, x_rLn, x_rVn, x_rIf, x_rLf, x_rVf, x_40, x_41, x_42, x_43, x_44, ↓reduceIte, if_true, if_false, ao_iadd, ao_isub, ao_imul, ao_iand, ao_ior, ao_ishl, ao_ishr, ao_iushr, ao_ladd, ao_lsub, ao_lmul, ao_land, ao_lor, ao_idiv, ao_irem, ao_ldiv, ao_lrem, ao_ineg, ao_i2b, ao_i2s, Nat.reduceAdd, Nat.reduceMul, Nat.reduceSub, Nat.reduceEqDiff, Nat.reduceLeDiff, and_self, true_and, x_lit, x_ofn, x_z0, x_z1, x_inbT, x_ltT, x_ltF, x_leT, x_leF, x_eqF, x_eqT, x_inb, x_lt, x_le, x_eq, x_cl, x_sub, nI_add, pk_mul, x_m1e, x_m1e', x_m1l, x_m1n, x_m1s, Nat.not_lt_zero, x_zb, x_b0, x_b1, decide_eq_false_iff_not, decide_eq_true_eq, Bool.false_eq_true, Bool.true_eq_false, hby', hq10, hr10, s1, e7, kd_123, gD]
        refine ⟨(pickD first b v, some (.int (nI (10 * f + to))), some (.int (nI c)), some (.int v)), τ3, ⟨by rw [t3, uA_s], ?_, by rw [hstep], ⟨fun e => by omega, fun e => by unfold pickD at e; dsimp only at e; split at e <;> cases e⟩, frA_tr i5 hF3⟩, rch_1 fun B => ?_⟩
        · intro q hq; rw [t3, uA_n (by omega)]; exact h129 q hq
        · rw [hg B]
          dsimp only
          cases b with
          | none =>
            have i0 : i = 0 := i4.mpr rfl
            have eb : (pickD first none v).getD (nI 0) = v := rfl
            have en : (none : Option Int32).getD (nI 0) = nI 0 := rfl
            rw [eb, en, ev, i0]
            simp (disch := omega) only [↓e_X11_plays_97, ↓e_X11_plays_141, ↓e_X11_plays_148, ↓e_X11_plays_152, ↓it_s, ↓y_iload, ↓y_lload, ↓y_aload, ↓y_istore, ↓y_lstore, ↓y_astore, ↓y_iinc, ↓y_cI, ↓y_cL, ↓y_bin, ↓y_binL, ↓y_div, ↓y_divL, ↓y_lshl, ↓y_un, ↓y_i2l, ↓y_lneg, ↓y_l2i, ↓y_lcmp, ↓y_dupI, ↓y_dupR, ↓y_dup2, ↓y_pop, ↓y_goto, ↓y_eq0, ↓y_lt0, ↓y_le0, ↓y_eq, ↓y_lt, ↓y_le, ↓y_switch, ↓y_sw0, ↓y_sw1, ↓y_getI, ↓y_getL, ↓y_getR, ↓y_getT, ↓y_putI, ↓y_putZ, ↓y_putL, ↓y_putT, ↓y_iald, ↓y_bald, ↓y_lald, ↓y_aald, ↓y_iast, ↓y_bast, ↓y_last, ↓y_alen, ↓y_iret, ↓y_zret, ↓y_lret, ↓y_vret, ↓y_svI, ↓y_svL, ↓y_svV, ↓y_ivI, ↓y_ivL, ↓y_ivV, ↓y_max, ↓y_min, ↓y_absL, ↓y_cpI, ↓y_cpL, ↓x_n1I, ↓x_n1L, ↓x_n1R, ↓x_n0I, ↓x_n0L, ↓x_n0R, ↓x_s0, ↓x_s1i, ↓x_s1r, ↓x_s1n, ↓x_s2, ↓x_c0, ↓x_c2, ↓x_tk0, ↓x_tk1, ↓x_rcv, x_rI1, x_rL1, x_rV1, x_rIn, x_rLn, x_rVn, x_rIf, x_rLf, x_rVf, x_40, x_41, x_42, x_43, x_44, ↓reduceIte, if_true, if_false, ao_iadd, ao_isub, ao_imul, ao_iand, ao_ior, ao_ishl, ao_ishr, ao_iushr, ao_ladd, ao_lsub, ao_lmul, ao_land, ao_lor, ao_idiv, ao_irem, ao_ldiv, ao_lrem, ao_ineg, ao_i2b, ao_i2s, Nat.reduceAdd, Nat.reduceMul, Nat.reduceSub, Nat.reduceEqDiff, Nat.reduceLeDiff, and_self, true_and, x_lit, x_ofn, x_z0, x_z1, x_inbT, x_ltT, x_ltF, x_leT, x_leF, x_eqF, x_eqT, x_inb, x_lt, x_le, x_eq, x_cl, x_sub, nI_add, pk_mul, x_m1e, x_m1e', x_m1l, x_m1n, x_m1s, Nat.not_lt_zero, x_zb, x_b0, x_b1, decide_eq_false_iff_not, decide_eq_true_eq, Bool.false_eq_true, Bool.true_eq_false, Nat.add_sub_cancel, r1, hgv, kd_123]
          | some x =>
            have i0 : i ≠ 0 := fun e => by have := i4.mp e; cases this
            have en : (some x).getD (nI 0) = x := rfl
            rw [en]
            by_cases hl : lv % 2 = 0
            · have efT : first = true := by rw [ef]; exact decide_eq_true hl
              rw [hl] at hev
              rw [efT] at r1 ev ⊢
              by_cases hv : v ≤ x
              · have hv' : ¬ x < v := by rw [Int32.lt_iff_toInt_lt]; rw [Int32.le_iff_toInt_le] at hv; omega
                have eb : (pickD true (some x) v).getD (nI 0) = x := by simp [pickD, hv']
                rw [eb]
                rw [ev] at hv ⊢
                simp (disch := omega) only [↓e_X11_plays_97, ↓e_X11_plays_141, ↓e_X11_plays_148, ↓e_X11_plays_152, ↓it_s, ↓y_iload, ↓y_lload, ↓y_aload, ↓y_istore, ↓y_lstore, ↓y_astore, ↓y_iinc, ↓y_cI, ↓y_cL, ↓y_bin, ↓y_binL, ↓y_div, ↓y_divL, ↓y_lshl, ↓y_un, ↓y_i2l, ↓y_lneg, ↓y_l2i, ↓y_lcmp, ↓y_dupI, ↓y_dupR, ↓y_dup2, ↓y_pop, ↓y_goto, ↓y_eq0, ↓y_lt0, ↓y_le0, ↓y_eq, ↓y_lt, ↓y_le, ↓y_switch, ↓y_sw0, ↓y_sw1, ↓y_getI, ↓y_getL, ↓y_getR, ↓y_getT, ↓y_putI, ↓y_putZ, ↓y_putL, ↓y_putT, ↓y_iald, ↓y_bald, ↓y_lald, ↓y_aald, ↓y_iast, ↓y_bast, ↓y_last, ↓y_alen, ↓y_iret, ↓y_zret, ↓y_lret, ↓y_vret, ↓y_svI, ↓y_svL, ↓y_svV, ↓y_ivI, ↓y_ivL, ↓y_ivV, ↓y_max, ↓y_min, ↓y_absL, ↓y_cpI, ↓y_cpL, ↓x_n1I, ↓x_n1L, ↓x_n1R, ↓x_n0I, ↓x_n0L, ↓x_n0R, ↓x_s0, ↓x_s1i, ↓x_s1r, ↓x_s1n, ↓x_s2, ↓x_c0, ↓x_c2, ↓x_tk0, ↓x_tk1, ↓x_rcv, x_rI1, x_rL1, x_rV1, x_rIn, x_rLn, x_rVn, x_rIf, x_rLf, x_rVf, x_40, x_41, x_42, x_43, x_44, ↓reduceIte, if_true, if_false, ao_iadd, ao_isub, ao_imul, ao_iand, ao_ior, ao_ishl, ao_ishr, ao_iushr, ao_ladd, ao_lsub, ao_lmul, ao_land, ao_lor, ao_idiv, ao_irem, ao_ldiv, ao_lrem, ao_ineg, ao_i2b, ao_i2s, Nat.reduceAdd, Nat.reduceMul, Nat.reduceSub, Nat.reduceEqDiff, Nat.reduceLeDiff, and_self, true_and, ↓hev, x_lit, x_ofn, x_z0, x_z1, x_inbT, x_ltT, x_ltF, x_leT, x_leF, x_eqF, x_eqT, x_inb, x_lt, x_le, x_eq, x_cl, x_sub, nI_add, pk_mul, x_m1e, x_m1e', x_m1l, x_m1n, x_m1s, Nat.not_lt_zero, x_zb, x_b0, x_b1, decide_eq_false_iff_not, decide_eq_true_eq, Bool.false_eq_true, Bool.true_eq_false, Nat.add_sub_cancel, r1, hgv, hv, kd_123]
              · have hv' : x < v := by rw [Int32.lt_iff_toInt_lt]; rw [Int32.le_iff_toInt_le] at hv; omega
                have eb : (pickD true (some x) v).getD (nI 0) = v := by simp [pickD, hv']
                rw [eb]
                rw [ev] at hv ⊢
                simp (disch := omega) only [↓e_X11_plays_97, ↓e_X11_plays_141, ↓e_X11_plays_148, ↓e_X11_plays_152, ↓it_s, ↓y_iload, ↓y_lload, ↓y_aload, ↓y_istore, ↓y_lstore, ↓y_astore, ↓y_iinc, ↓y_cI, ↓y_cL, ↓y_bin, ↓y_binL, ↓y_div, ↓y_divL, ↓y_lshl, ↓y_un, ↓y_i2l, ↓y_lneg, ↓y_l2i, ↓y_lcmp, ↓y_dupI, ↓y_dupR, ↓y_dup2, ↓y_pop, ↓y_goto, ↓y_eq0, ↓y_lt0, ↓y_le0, ↓y_eq, ↓y_lt, ↓y_le, ↓y_switch, ↓y_sw0, ↓y_sw1, ↓y_getI, ↓y_getL, ↓y_getR, ↓y_getT, ↓y_putI, ↓y_putZ, ↓y_putL, ↓y_putT, ↓y_iald, ↓y_bald, ↓y_lald, ↓y_aald, ↓y_iast, ↓y_bast, ↓y_last, ↓y_alen, ↓y_iret, ↓y_zret, ↓y_lret, ↓y_vret, ↓y_svI, ↓y_svL, ↓y_svV, ↓y_ivI, ↓y_ivL, ↓y_ivV, ↓y_max, ↓y_min, ↓y_absL, ↓y_cpI, ↓y_cpL, ↓x_n1I, ↓x_n1L, ↓x_n1R, ↓x_n0I, ↓x_n0L, ↓x_n0R, ↓x_s0, ↓x_s1i, ↓x_s1r, ↓x_s1n, ↓x_s2, ↓x_c0, ↓x_c2, ↓x_tk0, ↓x_tk1, ↓x_rcv, x_rI1, x_rL1, x_rV1, x_rIn, x_rLn, x_rVn, x_rIf, x_rLf, x_rVf, x_40, x_41, x_42, x_43, x_44, ↓reduceIte, if_true, if_false, ao_iadd, ao_isub, ao_imul, ao_iand, ao_ior, ao_ishl, ao_ishr, ao_iushr, ao_ladd, ao_lsub, ao_lmul, ao_land, ao_lor, ao_idiv, ao_irem, ao_ldiv, ao_lrem, ao_ineg, ao_i2b, ao_i2s, Nat.reduceAdd, Nat.reduceMul, Nat.reduceSub, Nat.reduceEqDiff, Nat.reduceLeDiff, and_self, true_and, ↓hev, x_lit, x_ofn, x_z0, x_z1, x_inbT, x_ltT, x_ltF, x_leT, x_leF, x_eqF, x_eqT, x_inb, x_lt, x_le, x_eq, x_cl, x_sub, nI_add, pk_mul, x_m1e, x_m1e', x_m1l, x_m1n, x_m1s, Nat.not_lt_zero, x_zb, x_b0, x_b1, decide_eq_false_iff_not, decide_eq_true_eq, Bool.false_eq_true, Bool.true_eq_false, Nat.add_sub_cancel, r1, hgv, hv, kd_123]
            · have efF : first = false := by rw [ef]; exact decide_eq_false hl
              rw [show lv % 2 = 1 by omega] at hev
              rw [efF] at r1 ev ⊢
              by_cases hv : v < x
              · have eb : (pickD false (some x) v).getD (nI 0) = v := by simp [pickD, hv]
                rw [eb]
                rw [ev] at hv ⊢
                simp (disch := omega) only [↓e_X11_plays_97, ↓e_X11_plays_141, ↓e_X11_plays_148, ↓e_X11_plays_152, ↓it_s, ↓y_iload, ↓y_lload, ↓y_aload, ↓y_istore, ↓y_lstore, ↓y_astore, ↓y_iinc, ↓y_cI, ↓y_cL, ↓y_bin, ↓y_binL, ↓y_div, ↓y_divL, ↓y_lshl, ↓y_un, ↓y_i2l, ↓y_lneg, ↓y_l2i, ↓y_lcmp, ↓y_dupI, ↓y_dupR, ↓y_dup2, ↓y_pop, ↓y_goto, ↓y_eq0, ↓y_lt0, ↓y_le0, ↓y_eq, ↓y_lt, ↓y_le, ↓y_switch, ↓y_sw0, ↓y_sw1, ↓y_getI, ↓y_getL, ↓y_getR, ↓y_getT, ↓y_putI, ↓y_putZ, ↓y_putL, ↓y_putT, ↓y_iald, ↓y_bald, ↓y_lald, ↓y_aald, ↓y_iast, ↓y_bast, ↓y_last, ↓y_alen, ↓y_iret, ↓y_zret, ↓y_lret, ↓y_vret, ↓y_svI, ↓y_svL, ↓y_svV, ↓y_ivI, ↓y_ivL, ↓y_ivV, ↓y_max, ↓y_min, ↓y_absL, ↓y_cpI, ↓y_cpL, ↓x_n1I, ↓x_n1L, ↓x_n1R, ↓x_n0I, ↓x_n0L, ↓x_n0R, ↓x_s0, ↓x_s1i, ↓x_s1r, ↓x_s1n, ↓x_s2, ↓x_c0, ↓x_c2, ↓x_tk0, ↓x_tk1, ↓x_rcv, x_rI1, x_rL1, x_rV1, x_rIn, x_rLn, x_rVn, x_rIf, x_rLf, x_rVf, x_40, x_41, x_42, x_43, x_44, ↓reduceIte, if_true, if_false, ao_iadd, ao_isub, ao_imul, ao_iand, ao_ior, ao_ishl, ao_ishr, ao_iushr, ao_ladd, ao_lsub, ao_lmul, ao_land, ao_lor, ao_idiv, ao_irem, ao_ldiv, ao_lrem, ao_ineg, ao_i2b, ao_i2s, Nat.reduceAdd, Nat.reduceMul, Nat.reduceSub, Nat.reduceEqDiff, Nat.reduceLeDiff, and_self, true_and, ↓hev, x_lit, x_ofn, x_z0, x_z1, x_inbT, x_ltT, x_ltF, x_leT, x_leF, x_eqF, x_eqT, x_inb, x_lt, x_le, x_eq, x_cl, x_sub, nI_add, pk_mul, x_m1e, x_m1e', x_m1l, x_m1n, x_m1s, Nat.not_lt_zero, x_zb, x_b0, x_b1, decide_eq_false_iff_not, decide_eq_true_eq, Bool.false_eq_true, Bool.true_eq_false, Nat.add_sub_cancel, r1, hgv, hv, kd_123]
              · have eb : (pickD false (some x) v).getD (nI 0) = x := by simp [pickD, hv]
                rw [eb]
                rw [ev] at hv ⊢
                simp (disch := omega) only [↓e_X11_plays_97, ↓e_X11_plays_141, ↓e_X11_plays_148, ↓e_X11_plays_152, ↓it_s, ↓y_iload, ↓y_lload, ↓y_aload, ↓y_istore, ↓y_lstore, ↓y_astore, ↓y_iinc, ↓y_cI, ↓y_cL, ↓y_bin, ↓y_binL, ↓y_div, ↓y_divL, ↓y_lshl, ↓y_un, ↓y_i2l, ↓y_lneg, ↓y_l2i, ↓y_lcmp, ↓y_dupI, ↓y_dupR, ↓y_dup2, ↓y_pop, ↓y_goto, ↓y_eq0, ↓y_lt0, ↓y_le0, ↓y_eq, ↓y_lt, ↓y_le, ↓y_switch, ↓y_sw0, ↓y_sw1, ↓y_getI, ↓y_getL, ↓y_getR, ↓y_getT, ↓y_putI, ↓y_putZ, ↓y_putL, ↓y_putT, ↓y_iald, ↓y_bald, ↓y_lald, ↓y_aald, ↓y_iast, ↓y_bast, ↓y_last, ↓y_alen, ↓y_iret, ↓y_zret, ↓y_lret, ↓y_vret, ↓y_svI, ↓y_svL, ↓y_svV, ↓y_ivI, ↓y_ivL, ↓y_ivV, ↓y_max, ↓y_min, ↓y_absL, ↓y_cpI, ↓y_cpL, ↓x_n1I, ↓x_n1L, ↓x_n1R, ↓x_n0I, ↓x_n0L, ↓x_n0R, ↓x_s0, ↓x_s1i, ↓x_s1r, ↓x_s1n, ↓x_s2, ↓x_c0, ↓x_c2, ↓x_tk0, ↓x_tk1, ↓x_rcv, x_rI1, x_rL1, x_rV1, x_rIn, x_rLn, x_rVn, x_rIf, x_rLf, x_rVf, x_40, x_41, x_42, x_43, x_44, ↓reduceIte, if_true, if_false, ao_iadd, ao_isub, ao_imul, ao_iand, ao_ior, ao_ishl, ao_ishr, ao_iushr, ao_ladd, ao_lsub, ao_lmul, ao_land, ao_lor, ao_idiv, ao_irem, ao_ldiv, ao_lrem, ao_ineg, ao_i2b, ao_i2s, Nat.reduceAdd, Nat.reduceMul, Nat.reduceSub, Nat.reduceEqDiff, Nat.reduceLeDiff, and_self, true_and, ↓hev, x_lit, x_ofn, x_z0, x_z1, x_inbT, x_ltT, x_ltF, x_leT, x_leF, x_eqF, x_eqT, x_inb, x_lt, x_le, x_eq, x_cl, x_sub, nI_add, pk_mul, x_m1e, x_m1e', x_m1l, x_m1n, x_m1s, Nat.not_lt_zero, x_zb, x_b0, x_b1, decide_eq_false_iff_not, decide_eq_true_eq, Bool.false_eq_true, Bool.true_eq_false, Nat.add_sub_cancel, r1, hgv, hv, kd_123])
      (mvL V).length 0 (none, none, none, none) σ1 (by omega) ⟨hc1, ha1, rfl, ⟨fun _ => rfl, fun _ => rfl⟩, hF1⟩
    dsimp only at b3 hr
    rw [List.take_length] at b3
    have eV : duelV set (k + 1) first V = b.getD (nI 0) := by rw [b3]; rfl
    refine ⟨σ3, ?_, b1, b5⟩
    have hf := rch_fin hr (fin_0 (r := some (some (.int (b.getD (nI 0))), σ3)) fun B => by
      simp (disch := omega) only [↓e_X11_plays_26, ↓e_X11_plays_158, ↓h_X11_plays_26, ↓it_s, ↓y_iload, ↓y_lload, ↓y_aload, ↓y_istore, ↓y_lstore, ↓y_astore, ↓y_iinc, ↓y_cI, ↓y_cL, ↓y_bin, ↓y_binL, ↓y_div, ↓y_divL, ↓y_lshl, ↓y_un, ↓y_i2l, ↓y_lneg, ↓y_l2i, ↓y_lcmp, ↓y_dupI, ↓y_dupR, ↓y_dup2, ↓y_pop, ↓y_goto, ↓y_eq0, ↓y_lt0, ↓y_le0, ↓y_eq, ↓y_lt, ↓y_le, ↓y_switch, ↓y_sw0, ↓y_sw1, ↓y_getI, ↓y_getL, ↓y_getR, ↓y_getT, ↓y_putI, ↓y_putZ, ↓y_putL, ↓y_putT, ↓y_iald, ↓y_bald, ↓y_lald, ↓y_aald, ↓y_iast, ↓y_bast, ↓y_last, ↓y_alen, ↓y_iret, ↓y_zret, ↓y_lret, ↓y_vret, ↓y_svI, ↓y_svL, ↓y_svV, ↓y_ivI, ↓y_ivL, ↓y_ivV, ↓y_max, ↓y_min, ↓y_absL, ↓y_cpI, ↓y_cpL, ↓x_n1I, ↓x_n1L, ↓x_n1R, ↓x_n0I, ↓x_n0L, ↓x_n0R, ↓x_s0, ↓x_s1i, ↓x_s1r, ↓x_s1n, ↓x_s2, ↓x_c0, ↓x_c2, ↓x_tk0, ↓x_tk1, ↓x_rcv, x_rI1, x_rL1, x_rV1, x_rIn, x_rLn, x_rVn, x_rIf, x_rLf, x_rVf, x_40, x_41, x_42, x_43, x_44, ↓reduceIte, if_true, if_false, ao_iadd, ao_isub, ao_imul, ao_iand, ao_ior, ao_ishl, ao_ishr, ao_iushr, ao_ladd, ao_lsub, ao_lmul, ao_land, ao_lor, ao_idiv, ao_irem, ao_ldiv, ao_lrem, ao_ineg, ao_i2b, ao_i2s, Nat.reduceAdd, Nat.reduceMul, Nat.reduceSub, Nat.reduceEqDiff, Nat.reduceLeDiff, and_self, true_and, x_lit, x_ofn, x_z0, x_z1, x_inbT, x_ltT, x_ltF, x_leT, x_leF, x_eqF, x_eqT, x_inb, x_lt, x_le, x_eq, x_cl, x_sub, nI_add, pk_mul, x_m1e, x_m1e', x_m1l, x_m1n, x_m1s, Nat.not_lt_zero, x_zb, x_b0, x_b1, decide_eq_false_iff_not, decide_eq_true_eq, Bool.false_eq_true, Bool.true_eq_false])
    have hf0 := fin_run hf (by unfold am_fuel; omega)
    have en : (none : Option Int32).getD (nI 0) = nI 0 := rfl
    rw [en] at hf0
    show F_X11_plays (S_X11_plays n) _ _ = _
    rw [← eE, eV, ← hf0]
    simp (disch := omega) only [g_X11_plays, ↓e_X11_plays_0, ↓e_X11_plays_8, ↓e_X11_plays_13, ↓h_X11_plays_26, ↓it_s, ↓y_iload, ↓y_lload, ↓y_aload, ↓y_istore, ↓y_lstore, ↓y_astore, ↓y_iinc, ↓y_cI, ↓y_cL, ↓y_bin, ↓y_binL, ↓y_div, ↓y_divL, ↓y_lshl, ↓y_un, ↓y_i2l, ↓y_lneg, ↓y_l2i, ↓y_lcmp, ↓y_dupI, ↓y_dupR, ↓y_dup2, ↓y_pop, ↓y_goto, ↓y_eq0, ↓y_lt0, ↓y_le0, ↓y_eq, ↓y_lt, ↓y_le, ↓y_switch, ↓y_sw0, ↓y_sw1, ↓y_getI, ↓y_getL, ↓y_getR, ↓y_getT, ↓y_putI, ↓y_putZ, ↓y_putL, ↓y_putT, ↓y_iald, ↓y_bald, ↓y_lald, ↓y_aald, ↓y_iast, ↓y_bast, ↓y_last, ↓y_alen, ↓y_iret, ↓y_zret, ↓y_lret, ↓y_vret, ↓y_svI, ↓y_svL, ↓y_svV, ↓y_ivI, ↓y_ivL, ↓y_ivV, ↓y_max, ↓y_min, ↓y_absL, ↓y_cpI, ↓y_cpL, ↓x_n1I, ↓x_n1L, ↓x_n1R, ↓x_n0I, ↓x_n0L, ↓x_n0R, ↓x_s0, ↓x_s1i, ↓x_s1r, ↓x_s1n, ↓x_s2, ↓x_c0, ↓x_c2, ↓x_tk0, ↓x_tk1, ↓x_rcv, x_rI1, x_rL1, x_rV1, x_rIn, x_rLn, x_rVn, x_rIf, x_rLf, x_rVf, x_40, x_41, x_42, x_43, x_44, ↓reduceIte, if_true, if_false, ao_iadd, ao_isub, ao_imul, ao_iand, ao_ior, ao_ishl, ao_ishr, ao_iushr, ao_ladd, ao_lsub, ao_lmul, ao_land, ao_lor, ao_idiv, ao_irem, ao_ldiv, ao_lrem, ao_ineg, ao_i2b, ao_i2s, Nat.reduceAdd, Nat.reduceMul, Nat.reduceSub, Nat.reduceEqDiff, Nat.reduceLeDiff, and_self, true_and, x_lit, x_ofn, x_z0, x_z1, x_inbT, x_ltT, x_ltF, x_leT, x_leF, x_eqF, x_eqT, x_inb, x_lt, x_le, x_eq, x_cl, x_sub, nI_add, pk_mul, x_m1e, x_m1e', x_m1l, x_m1n, x_m1s, Nat.not_lt_zero, x_zb, x_b0, x_b1, decide_eq_false_iff_not, decide_eq_true_eq, Bool.false_eq_true, Bool.true_eq_false, hmany', hkp, kd_123]
