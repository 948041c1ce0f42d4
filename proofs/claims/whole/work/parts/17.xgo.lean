/-! the class: a card goes -/
theorem TN_fr {σ τ : am_M} {t : Nat} {V : Vt} (h : TN σ t V) (e : τ.1 t = σ.1 t) : TN τ t V := by
  unfold TN at *
  rw [e]; exact h
theorem X_shiftR {t f to c : Nat} {σ : am_M} {V : Vt} (ht : isT t) (h : TP σ t V) (hw : WC V) (hf : f < 7) (hto : to < 6) (hft : f ≠ to) (hc : (vP V f).getLast? = some c) (hl : (vP V to).length < 12) :
    ∃ τ, S_X6_shift [.ref t, .int (nI f), .int (nI to)] σ = some (some (.int (nI c)), τ) ∧ TP τ t (moveC V f to c) ∧ τ.2 = σ.2 ∧ (∀ j, j ≠ t + 1 → j ≠ t + 2 → τ.1 j = σ.1 j) := by
  obtain ⟨k0, k1, k2, -, -, -, -, l1, l2, -⟩ := isT_k ht
  have hp := WC_pop hw (show f < 8 by omega)
  have hc24 : c < 24 := hw.1 f (by omega) c (List.mem_of_getLast? hc)
  have h0 := (seg_last (h.2.1 f hf) hc).1
  have h1 := X_lift ht h hw hf hc
  have hP := TP_pop h hf h0
  have e1 : vP (popP V f) to = vP V to := popP_same (fun q => hft q.symm)
  have h2 := X_lay (p := to) (c := c) ht hP (by omega) (by show (vP (popP V f) to).length < 24; rw [e1]; omega)
  have h3 := TP_push (p := to) (c := c) hP (fun q hq => hp.len (by omega)) (by omega) (by show (vP (popP V f) to).length < 24; rw [e1]; omega)
  have e2 : vuP (vuP V f (vP V f).dropLast) to (vP (vuP V f (vP V f).dropLast) to ++ [c]) = moveC V f to c := by
    unfold moveC
    rw [if_neg (by omega)]
    show vuP (popP V f) to (vP (popP V f) to ++ [c]) = _
    rw [e1]
  rw [e2] at h3
  refine ⟨_, ?_, h3, rfl, fun j a b => ?_⟩
  · simp (disch := omega) only [g_X6_shift, ↓e_X6_shift_37, ↓e_X6_shift_31, ↓e_X6_shift_13, ↓e_X6_shift_0, ↓it_s, ↓y_iload, ↓y_lload, ↓y_aload, ↓y_istore, ↓y_lstore, ↓y_astore, ↓y_iinc, ↓y_cI, ↓y_cL, ↓y_bin, ↓y_binL, ↓y_div, ↓y_divL, ↓y_lshl, ↓y_un, ↓y_i2l, ↓y_lneg, ↓y_l2i, ↓y_lcmp, ↓y_dupI, ↓y_dupR, ↓y_dup2, ↓y_pop, ↓y_goto, ↓y_eq0, ↓y_lt0, ↓y_le0, ↓y_eq, ↓y_lt, ↓y_le, ↓y_switch, ↓y_sw0, ↓y_sw1, ↓y_getI, ↓y_getL, ↓y_getR, ↓y_getT, ↓y_putI, ↓y_putZ, ↓y_putL, ↓y_putT, ↓y_iald, ↓y_bald, ↓y_lald, ↓y_aald, ↓y_iast, ↓y_bast, ↓y_last, ↓y_alen, ↓y_iret, ↓y_zret, ↓y_lret, ↓y_vret, ↓y_svI, ↓y_svL, ↓y_svV, ↓y_ivI, ↓y_ivL, ↓y_ivV, ↓y_max, ↓y_min, ↓y_absL, ↓y_cpI, ↓y_cpL, ↓x_n1I, ↓x_n1L, ↓x_n1R, ↓x_n0I, ↓x_n0L, ↓x_n0R, ↓x_s0, ↓x_s1i, ↓x_s1r, ↓x_s1n, ↓x_s2, ↓x_c0, ↓x_c2, ↓x_tk0, ↓x_tk1, ↓x_rcv, x_rI1, x_rL1, x_rV1, x_rIn, x_rLn, x_rVn, x_rIf, x_rLf, x_rVf, x_40, x_41, x_42, x_43, x_44, ↓reduceIte, if_true, if_false, ao_iadd, ao_isub, ao_imul, ao_iand, ao_ior, ao_ishl, ao_ishr, ao_iushr, ao_ladd, ao_lsub, ao_lmul, ao_land, ao_lor, ao_idiv, ao_irem, ao_ldiv, ao_lrem, ao_ineg, ao_i2b, ao_i2s, Nat.reduceAdd, Nat.reduceMul, Nat.reduceSub, Nat.reduceEqDiff, Nat.reduceLeDiff, and_self, true_and, h1, h2, k0, x_lit, x_ofn, x_z0, x_z1, x_inbT, x_ltT, x_ltF, x_leT, x_leF, x_eqF, x_eqT, x_inb, x_lt, x_le, x_eq, x_cl, x_sub, nI_add, pk_mul, x_m1e, x_m1e', x_m1l, x_m1n, x_m1s, Nat.not_lt_zero, x_zb, x_b0, x_b1, decide_eq_false_iff_not, decide_eq_true_eq, Bool.false_eq_true, Bool.true_eq_false]
  · rw [uI_n b, uI_n a, uI_n b]
theorem X_shiftH {t f c : Nat} {σ : am_M} {V : Vt} (ht : isT t) (h : TP σ t V) (hw : WC V) (hf : f < 7) (hc : (vP V f).getLast? = some c) :
    ∃ τ, S_X6_shift [.ref t, .int (nI f), .int (nI 7)] σ = some (some (.int (nI c)), τ) ∧ TP τ t (moveC V f 7 c) ∧ τ.2 = σ.2 ∧ (∀ j, j ≠ t + 2 → j ≠ t + 4 → τ.1 j = σ.1 j) := by
  obtain ⟨k0, k1, k2, -, -, -, -, l1, l2, -⟩ := isT_k ht
  have h0 := (seg_last (h.2.1 f hf) hc).1
  have hc24 : c < 24 := hw.1 f (by omega) c (List.mem_of_getLast? hc)
  have hh6 := hw.2.2.2.2 (c / 6)
  have h1 := X_lift ht h hw hf hc
  have hP := TP_pop h hf h0
  have h2 := X_raise (s := c / 6) (x := 1) ht hP (by omega) (show vH V (c / 6) < 100 by omega)
  have h3 := TP_home (s := c / 6) (x := vH V (c / 6) + 1) hP (by omega)
  refine ⟨_, ?_, h3, rfl, fun j a b => ?_⟩
  · simp (disch := omega) only [g_X6_shift, ↓e_X6_shift_37, ↓e_X6_shift_31, ↓e_X6_shift_13, ↓e_X6_shift_0, ↓it_s, ↓y_iload, ↓y_lload, ↓y_aload, ↓y_istore, ↓y_lstore, ↓y_astore, ↓y_iinc, ↓y_cI, ↓y_cL, ↓y_bin, ↓y_binL, ↓y_div, ↓y_divL, ↓y_lshl, ↓y_un, ↓y_i2l, ↓y_lneg, ↓y_l2i, ↓y_lcmp, ↓y_dupI, ↓y_dupR, ↓y_dup2, ↓y_pop, ↓y_goto, ↓y_eq0, ↓y_lt0, ↓y_le0, ↓y_eq, ↓y_lt, ↓y_le, ↓y_switch, ↓y_sw0, ↓y_sw1, ↓y_getI, ↓y_getL, ↓y_getR, ↓y_getT, ↓y_putI, ↓y_putZ, ↓y_putL, ↓y_putT, ↓y_iald, ↓y_bald, ↓y_lald, ↓y_aald, ↓y_iast, ↓y_bast, ↓y_last, ↓y_alen, ↓y_iret, ↓y_zret, ↓y_lret, ↓y_vret, ↓y_svI, ↓y_svL, ↓y_svV, ↓y_ivI, ↓y_ivL, ↓y_ivV, ↓y_max, ↓y_min, ↓y_absL, ↓y_cpI, ↓y_cpL, ↓x_n1I, ↓x_n1L, ↓x_n1R, ↓x_n0I, ↓x_n0L, ↓x_n0R, ↓x_s0, ↓x_s1i, ↓x_s1r, ↓x_s1n, ↓x_s2, ↓x_c0, ↓x_c2, ↓x_tk0, ↓x_tk1, ↓x_rcv, x_rI1, x_rL1, x_rV1, x_rIn, x_rLn, x_rVn, x_rIf, x_rLf, x_rVf, x_40, x_41, x_42, x_43, x_44, ↓reduceIte, if_true, if_false, ao_iadd, ao_isub, ao_imul, ao_iand, ao_ior, ao_ishl, ao_ishr, ao_iushr, ao_ladd, ao_lsub, ao_lmul, ao_land, ao_lor, ao_idiv, ao_irem, ao_ldiv, ao_lrem, ao_ineg, ao_i2b, ao_i2s, Nat.reduceAdd, Nat.reduceMul, Nat.reduceSub, Nat.reduceEqDiff, Nat.reduceLeDiff, and_self, true_and, h1, h2, k0, x_lit, x_ofn, x_z0, x_z1, x_inbT, x_ltT, x_ltF, x_leT, x_leF, x_eqF, x_eqT, x_inb, x_lt, x_le, x_eq, x_cl, x_sub, nI_add, pk_mul, x_m1e, x_m1e', x_m1l, x_m1n, x_m1s, Nat.not_lt_zero, x_zb, x_b0, x_b1, decide_eq_false_iff_not, decide_eq_true_eq, Bool.false_eq_true, Bool.true_eq_false, X_suitOf]
    rfl
  · rw [uI_n b, uI_n a]
/-- all of a valley but names and seasons -/
def VG (σ : am_M) (v : Nat) (V : Vt) : Prop := TN σ (v + 1) V ∧ TP σ (v + 1) V ∧ VF σ v V
def WG (V : Vt) : Prop := WN V ∧ WC V ∧ WFd V
theorem TP_fr {σ τ : am_M} {t : Nat} {V : Vt} (h : TP σ t V) (e : ∀ j, t ≤ j → j ≤ t + 4 → τ.1 j = σ.1 j) : TP τ t V := by
  unfold TP at *
  rw [e t (by omega) (by omega), e (t + 1) (by omega) (by omega), e (t + 2) (by omega) (by omega), e (t + 3) (by omega) (by omega), e (t + 4) (by omega) (by omega)]
  exact h
theorem VF_fr {σ τ : am_M} {v : Nat} {V : Vt} (h : VF σ v V) (e0 : τ.1 v = σ.1 v) (e : ∀ j, v + 12 ≤ j → j ≤ v + 16 → τ.1 j = σ.1 j) : VF τ v V := by
  unfold VF at *
  rw [e0, e (v + 12) (by omega) (by omega), e (v + 13) (by omega) (by omega), e (v + 14) (by omega) (by omega), e (v + 15) (by omega) (by omega), e (v + 16) (by omega) (by omega)]
  exact h
theorem TP_cg {σ : am_M} {t : Nat} {V U : Vt} (h : TP σ t V) (h1 : vP U = vP V) (h2 : vH U = vH V) : TP σ t U := by
  unfold TP at *
  rw [h1, h2]; exact h
theorem TN_cg {σ : am_M} {t : Nat} {V U : Vt} (h : TN σ t V) (h1 : vN U = vN V) : TN σ t U := by
  unfold TN at *
  rw [h1]; exact h
theorem VF_cg {σ : am_M} {t : Nat} {V U : Vt} (h : VF σ t V) (h1 : vN U = vN V) (h2 : vF U = vF V) : VF σ t U := by
  unfold VF at *
  rw [h1, h2]; exact h
theorem moveC_N (V : Vt) (f to c : Nat) : vN (moveC V f to c) = vN V := by unfold moveC; split <;> rfl
theorem moveC_F (V : Vt) (f to c : Nat) : vF (moveC V f to c) = vF V := by unfold moveC; split <;> rfl
theorem moveV_N (V : Vt) (f to c : Nat) : vN (moveV V f to c) = vN V := by unfold moveV moveC; split <;> rfl
theorem moveV_P (V : Vt) (f to c : Nat) : vP (moveV V f to c) = vP (moveC V f to c) := by unfold moveV; split <;> rfl
theorem moveV_H (V : Vt) (f to c : Nat) : vH (moveV V f to c) = vH (moveC V f to c) := by unfold moveV; split <;> rfl
theorem moveV_W (V : Vt) (f to c : Nat) : (moveV V f to c).2.2.2.2 = V.2.2.2.2 := by unfold moveV moveC; split <;> rfl
theorem X_play {v f to c : Nat} {σ : am_M} {V : Vt} (hv : isV v) (h : VG σ v V) (hw : WG V) (hf : f < 7) (hto : to < 8) (h6 : to ≠ 6) (hft : f ≠ to) (hc : (vP V f).getLast? = some c) (hl : to ≠ 7 → (vP V to).length < 12) :
    ∃ τ, S_X8_play [.ref v, .int (nI f), .int (nI to)] σ = some (some (.int (nI c)), τ) ∧ VG τ v (moveV V f to c) ∧ τ.2 = σ.2 ∧ (∀ j, j ≠ v + 2 → j ≠ v + 3 → j ≠ v + 5 → j ≠ v + 14 → j ≠ v + 16 → τ.1 j = σ.1 j) := by
  obtain ⟨k0, k12, k13, k14, k15, k16, l12, l13, l14, l15, l16⟩ := isV_k hv
  obtain ⟨hn, hp, hF⟩ := h
  obtain ⟨wn, wc, wd⟩ := hw
  have ht := isV_T hv
  have kT := (isT_k ht).1
  have hc24 : c < 24 := wc.1 f (by omega) c (List.mem_of_getLast? hc)
  by_cases e7 : to = 7
  · subst e7
    obtain ⟨τ, t1, t2, t3, t4⟩ := X_shiftH ht hp wc hf hc
    have hF1 : VF τ v (moveC V f 7 c) := VF_cg (VF_fr hF (t4 v (by omega) (by omega)) (fun j a b => t4 j (by omega) (by omega))) (moveC_N _ _ _ _) (moveC_F _ _ _ _)
    obtain ⟨ρ, r1, r2, r3⟩ := X_wetSuit (s := c / 6) (r := c % 6 + 1) hv hF1 (V := moveC V f 7 c) wn wd (by omega) (by omega)
    have e0 : moveV V f 7 c = wetAll (moveC V f 7 c) (c / 6) (c % 6 + 1) := by unfold moveV; rw [if_pos rfl]
    refine ⟨ρ, ?_, ⟨?_, ?_, ?_⟩, ?_, fun j a b c d e => ?_⟩
    · simp (disch := omega) only [g_X8_play, ↓e_X8_play_33, ↓e_X8_play_0, ↓it_s, ↓y_iload, ↓y_lload, ↓y_aload, ↓y_istore, ↓y_lstore, ↓y_astore, ↓y_iinc, ↓y_cI, ↓y_cL, ↓y_bin, ↓y_binL, ↓y_div, ↓y_divL, ↓y_lshl, ↓y_un, ↓y_i2l, ↓y_lneg, ↓y_l2i, ↓y_lcmp, ↓y_dupI, ↓y_dupR, ↓y_dup2, ↓y_pop, ↓y_goto, ↓y_eq0, ↓y_lt0, ↓y_le0, ↓y_eq, ↓y_lt, ↓y_le, ↓y_switch, ↓y_sw0, ↓y_sw1, ↓y_getI, ↓y_getL, ↓y_getR, ↓y_getT, ↓y_putI, ↓y_putZ, ↓y_putL, ↓y_putT, ↓y_iald, ↓y_bald, ↓y_lald, ↓y_aald, ↓y_iast, ↓y_bast, ↓y_last, ↓y_alen, ↓y_iret, ↓y_zret, ↓y_lret, ↓y_vret, ↓y_svI, ↓y_svL, ↓y_svV, ↓y_ivI, ↓y_ivL, ↓y_ivV, ↓y_max, ↓y_min, ↓y_absL, ↓y_cpI, ↓y_cpL, ↓x_n1I, ↓x_n1L, ↓x_n1R, ↓x_n0I, ↓x_n0L, ↓x_n0R, ↓x_s0, ↓x_s1i, ↓x_s1r, ↓x_s1n, ↓x_s2, ↓x_c0, ↓x_c2, ↓x_tk0, ↓x_tk1, ↓x_rcv, x_rI1, x_rL1, x_rV1, x_rIn, x_rLn, x_rVn, x_rIf, x_rLf, x_rVf, x_40, x_41, x_42, x_43, x_44, ↓reduceIte, if_true, if_false, ao_iadd, ao_isub, ao_imul, ao_iand, ao_ior, ao_ishl, ao_ishr, ao_iushr, ao_ladd, ao_lsub, ao_lmul, ao_land, ao_lor, ao_idiv, ao_irem, ao_ldiv, ao_lrem, ao_ineg, ao_i2b, ao_i2s, Nat.reduceAdd, Nat.reduceMul, Nat.reduceSub, Nat.reduceEqDiff, Nat.reduceLeDiff, and_self, true_and, t1, k0, kT, x_lit, x_ofn, x_z0, x_z1, x_inbT, x_ltT, x_ltF, x_leT, x_leF, x_eqF, x_eqT, x_inb, x_lt, x_le, x_eq, x_cl, x_sub, nI_add, pk_mul, x_m1e, x_m1e', x_m1l, x_m1n, x_m1s, Nat.not_lt_zero, x_zb, x_b0, x_b1, decide_eq_false_iff_not, decide_eq_true_eq, Bool.false_eq_true, Bool.true_eq_false, X_suitOf, X_rankOf, r1]
    · exact TN_cg (TN_fr hn ((r3.2 _ (by omega) (by omega)).trans (t4 _ (by omega) (by omega)))) (moveV_N _ _ _ _)
    · exact TP_cg (TP_fr t2 (fun j a b => r3.2 j (by omega) (by omega))) (moveV_P _ _ _ _) (moveV_H _ _ _ _)
    · rw [e0]; exact r2
    · exact r3.1.trans t3
    · rw [r3.2 j d e, t4 j b c]
  · obtain ⟨τ, t1, t2, t3, t4⟩ := X_shiftR ht hp wc hf (show to < 6 by omega) hft hc (hl e7)
    have e0 : moveV V f to c = moveC V f to c := by unfold moveV; rw [if_neg e7]
    refine ⟨τ, ?_, ⟨?_, ?_, ?_⟩, t3, fun j a b c d e => t4 j a b⟩
    · simp (disch := omega) only [g_X8_play, ↓e_X8_play_33, ↓e_X8_play_0, ↓it_s, ↓y_iload, ↓y_lload, ↓y_aload, ↓y_istore, ↓y_lstore, ↓y_astore, ↓y_iinc, ↓y_cI, ↓y_cL, ↓y_bin, ↓y_binL, ↓y_div, ↓y_divL, ↓y_lshl, ↓y_un, ↓y_i2l, ↓y_lneg, ↓y_l2i, ↓y_lcmp, ↓y_dupI, ↓y_dupR, ↓y_dup2, ↓y_pop, ↓y_goto, ↓y_eq0, ↓y_lt0, ↓y_le0, ↓y_eq, ↓y_lt, ↓y_le, ↓y_switch, ↓y_sw0, ↓y_sw1, ↓y_getI, ↓y_getL, ↓y_getR, ↓y_getT, ↓y_putI, ↓y_putZ, ↓y_putL, ↓y_putT, ↓y_iald, ↓y_bald, ↓y_lald, ↓y_aald, ↓y_iast, ↓y_bast, ↓y_last, ↓y_alen, ↓y_iret, ↓y_zret, ↓y_lret, ↓y_vret, ↓y_svI, ↓y_svL, ↓y_svV, ↓y_ivI, ↓y_ivL, ↓y_ivV, ↓y_max, ↓y_min, ↓y_absL, ↓y_cpI, ↓y_cpL, ↓x_n1I, ↓x_n1L, ↓x_n1R, ↓x_n0I, ↓x_n0L, ↓x_n0R, ↓x_s0, ↓x_s1i, ↓x_s1r, ↓x_s1n, ↓x_s2, ↓x_c0, ↓x_c2, ↓x_tk0, ↓x_tk1, ↓x_rcv, x_rI1, x_rL1, x_rV1, x_rIn, x_rLn, x_rVn, x_rIf, x_rLf, x_rVf, x_40, x_41, x_42, x_43, x_44, ↓reduceIte, if_true, if_false, ao_iadd, ao_isub, ao_imul, ao_iand, ao_ior, ao_ishl, ao_ishr, ao_iushr, ao_ladd, ao_lsub, ao_lmul, ao_land, ao_lor, ao_idiv, ao_irem, ao_ldiv, ao_lrem, ao_ineg, ao_i2b, ao_i2s, Nat.reduceAdd, Nat.reduceMul, Nat.reduceSub, Nat.reduceEqDiff, Nat.reduceLeDiff, and_self, true_and, t1, k0, kT, x_lit, x_ofn, x_z0, x_z1, x_inbT, x_ltT, x_ltF, x_leT, x_leF, x_eqF, x_eqT, x_inb, x_lt, x_le, x_eq, x_cl, x_sub, nI_add, pk_mul, x_m1e, x_m1e', x_m1l, x_m1n, x_m1s, Nat.not_lt_zero, x_zb, x_b0, x_b1, decide_eq_false_iff_not, decide_eq_true_eq, Bool.false_eq_true, Bool.true_eq_false]
    · exact TN_cg (TN_fr hn (t4 _ (by omega) (by omega))) (moveV_N _ _ _ _)
    · rw [e0]; exact t2
    · rw [e0]; exact VF_cg (VF_fr hF (t4 v (by omega) (by omega)) (fun j a b => t4 j (by omega) (by omega))) (moveC_N _ _ _ _) (moveC_F _ _ _ _)
/-- valleys stay as they can be -/
theorem WFd_wetAll {V : Vt} {s r : Nat} (h : WFd V) (hr : r ≤ 99) : WFd (wetAll V s r) := by
  intro f hf
  have hf' : f < vN V 5 := hf
  obtain ⟨⟨a0, a5⟩, a1, a2, a3, a4⟩ := h f hf'
  have e : ∀ w, vF (wetAll V s r) w f = if vF V 0 f = s then (if w = 2 then (wet1 V f r).1 else if w = 4 then (wet1 V f r).2 else vF V w f) else vF V w f := by
    intro w
    show (if f < vN V 5 ∧ _ then _ else _) = _
    simp only [hf', true_and]
  rw [e 0, e 1, e 2, e 3, e 4]
  have hN : vN (wetAll V s r) 1 = vN V 1 := rfl
  rw [hN]
  by_cases e1 : vF V 0 f = s
  · simp only [e1, if_true, Nat.reduceEqDiff, if_false]
    rw [e1] at a0
    unfold wet1
    by_cases e2 : vF V 4 f = 0
    · have := a5 e2
      simp only [e2, if_true]
      by_cases e3 : vF V 3 f < vF V 2 f + r
      · simp only [e3, if_true]
        exact ⟨⟨a0, by omega⟩, a1, by omega, a3, by omega⟩
      · simp only [e3, if_false]
        exact ⟨⟨a0, by omega⟩, a1, by omega, a3, by omega⟩
    · simp only [e2, if_false]
      exact ⟨⟨a0, fun q => absurd q (by simpa using e2)⟩, a1, a2, a3, a4⟩
  · simp only [e1, if_false]
    exact ⟨⟨a0, a5⟩, a1, a2, a3, a4⟩
/-- a move that can be, with its card -/
theorem canM_spec {V : Vt} {f to : Nat} (h : canM V f to = true) (hto : to < 8) : ∃ c, (vP V f).getLast? = some c ∧ f ≠ to ∧ (to = 7 → vH V (c / 6) = c % 6) ∧ (to ≠ 7 → bearsC V to c = true) := by
  unfold canM at h
  split at h
  · cases h
  · rename_i c hc
    rw [Bool.and_eq_true, decide_eq_true_eq] at h
    refine ⟨c, hc, h.1, fun e => ?_, fun e => ?_⟩
    · have := h.2
      rw [if_pos e, decide_eq_true_eq] at this
      exact this
    · have := h.2
      rw [if_neg e] at this
      exact this
theorem bearsC_len {V : Vt} {to c : Nat} (h : bearsC V to c = true) : (vP V to).length < 12 := by
  unfold bearsC at h
  split at h
  · rename_i e
    rw [List.getLast?_eq_none_iff.mp e]; simp
  · rw [Bool.and_eq_true, decide_eq_true_eq] at h
    exact h.1
theorem WG_moveV {V : Vt} {f to c : Nat} (h : WG V) (hf : f < 7) (hto : to < 8) (hT : isTo V to = true) (hm : canM V f to = true) (hc : (vP V f).getLast? = some c) : WG (moveV V f to c) := by
  obtain ⟨wn, wc, wd⟩ := h
  obtain ⟨c', hc', h1, h2, h3⟩ := canM_spec hm hto
  rw [hc] at hc'
  cases hc'
  have hc24 : c < 24 := wc.1 f (by omega) c (List.mem_of_getLast? hc)
  have h6 : to ≠ 6 := by
    intro e
    subst e
    unfold isTo at hT
    have := of_decide_eq_true hT
    have := wn.2.2.2.2.1
    omega
  have hC : WC (moveC V f to c) := WC_moveC wc hf hto h6 h1 hc hT (fun e => by rw [h2 e]; omega) (fun e => bearsC_len (h3 e))
  refine ⟨?_, WC_cg hC (moveV_P _ _ _ _) (moveV_H _ _ _ _) (by rw [moveV_N, moveC_N]), ?_⟩
  · unfold WN at *; rw [moveV_N]; exact wn
  · have hd : WFd (moveC V f to c) := by
      unfold WFd at *
      rw [moveC_N, moveC_F]; exact wd
    unfold moveV
    split
    · exact WFd_wetAll hd (by omega)
    · exact hd
