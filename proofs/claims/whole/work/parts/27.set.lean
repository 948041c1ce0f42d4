theorem dayV_0 (V : Vt) : dayV V 0 = V := by
  unfold dayV
  have e : dayTo V 0 (vN V 5) = V := by
    unfold dayTo
    refine Prod.ext rfl (Prod.ext rfl (Prod.ext rfl (Prod.ext (funext fun w => funext fun f => ?_) rfl)))
    show (if f < _ then (if w = 2 then (dryF V f 0).1 else if w = 4 then (dryF V f 0).2 else vF V w f) else vF V w f) = vF V w f
    unfold dryF
    rw [dryP_0]
    split
    · split
      · rename_i e; subst e; rfl
      · split
        · rename_i e; subst e; rfl
        · rfl
    · rfl
  rw [e]
  unfold vuN
  rw [Nat.add_zero, up_id rfl]
theorem dayV_s (V : Vt) (n : Nat) : dayV V (n + 1) = dayV (dayV V n) 1 := by
  have hN : ∀ k, k ≠ 6 → vN (dayV V n) k = vN V k := fun k hk => up_n hk
  have h6 : vN (dayV V n) 6 = vN V 6 + n := (up_s V.1 6 (vN V 6 + n))
  have h5 : vN (dayV V n) 5 = vN V 5 := hN 5 (by omega)
  refine Prod.ext ?_ (Prod.ext rfl (Prod.ext rfl (Prod.ext (funext fun w => funext fun f => ?_) rfl)))
  · funext k
    show va_up V.1 6 (vN V 6 + (n + 1)) k = va_up (va_up V.1 6 (vN V 6 + n)) 6 (vN (dayV V n) 6 + 1) k
    rw [h6]
    by_cases e : k = 6
    · subst e; rw [up_s, up_s]; omega
    · rw [up_n e, up_n e, up_n e]
  · show (if f < vN V 5 then (if w = 2 then (dryF V f (n + 1)).1 else if w = 4 then (dryF V f (n + 1)).2 else vF V w f) else vF V w f) = (if f < vN (dayV V n) 5 then (if w = 2 then (dryF (dayV V n) f 1).1 else if w = 4 then (dryF (dayV V n) f 1).2 else vF (dayV V n) w f) else vF (dayV V n) w f)
    rw [h5]
    have q : ∀ w, vF (dayV V n) w f = if f < vN V 5 then (if w = 2 then (dryF V f n).1 else if w = 4 then (dryF V f n).2 else vF V w f) else vF V w f := fun w => rfl
    by_cases hf : f < vN V 5
    · have e1 : dryF (dayV V n) f 1 = dryF V f (n + 1) := by
        unfold dryF
        rw [q 2, q 1, q 4]
        simp only [hf, if_true, Nat.reduceEqDiff, if_false]
        unfold dryF
        exact (dryP_s _ _ _ _).symm
      rw [if_pos hf, if_pos hf, e1, q w, if_pos hf]
      split
      · rfl
      · split
        · rfl
        · rfl
    · rw [if_neg hf, if_neg hf, q w, if_neg hf]
/-- the set of fields of a fate, below i -/
def setR (V : Vt) (k : Nat) : Nat → Int32
  | 0 => nI 0
  | i + 1 => if vF V 4 i = k then setR V k i ||| (nI 1 <<< (nI i &&& nI 31)) else setR V k i
theorem XS_loop {v k : Nat} {V : Vt} {σ : am_M} (hv : isV v) (h : VF σ v V) (wn : WN V) (hd : WFd V) (hk : k < 1000) : ∀ (m i N : Nat), vN V 5 - i = m → i ≤ vN V 5 → m < N →
    am_it hd_X8_setOf N 4 [some (.ref v), some (.int (nI k)), some (.int (setR V k i)), some (.int (nI i))] [] σ = some (some (.int (setR V k (vN V 5))), σ) := by
  obtain ⟨k0, k12, k13, k14, k15, k16, l12, l13, l14, l15, l16⟩ := isV_k hv
  have h6 := wn.2.2.2.2.2.1
  have h1 : σ.1 v 4 = nI (vN V 5) := h.1
  intro m
  induction m with
  | zero =>
    intro i N hm hi hN
    have e : i = vN V 5 := by omega
    obtain ⟨N, rfl⟩ : ∃ k, N = k + 1 := ⟨N - 1, by omega⟩
    rw [← e]
    simp (disch := omega) only [g_X8_setOf, ↓e_X8_setOf_40, ↓e_X8_setOf_34, ↓e_X8_setOf_4, ↓e_X8_setOf_0, ↓h_X8_setOf_4, ↓it_s, ↓y_iload, ↓y_lload, ↓y_aload, ↓y_istore, ↓y_lstore, ↓y_astore, ↓y_iinc, ↓y_cI, ↓y_cL, ↓y_bin, ↓y_binL, ↓y_div, ↓y_divL, ↓y_lshl, ↓y_un, ↓y_i2l, ↓y_lneg, ↓y_l2i, ↓y_lcmp, ↓y_dupI, ↓y_dupR, ↓y_dup2, ↓y_pop, ↓y_goto, ↓y_eq0, ↓y_lt0, ↓y_le0, ↓y_eq, ↓y_lt, ↓y_le, ↓y_switch, ↓y_sw0, ↓y_sw1, ↓y_getI, ↓y_getL, ↓y_getR, ↓y_getT, ↓y_putI, ↓y_putZ, ↓y_putL, ↓y_putT, ↓y_iald, ↓y_bald, ↓y_lald, ↓y_aald, ↓y_iast, ↓y_bast, ↓y_last, ↓y_alen, ↓y_iret, ↓y_zret, ↓y_lret, ↓y_vret, ↓y_svI, ↓y_svL, ↓y_svV, ↓y_ivI, ↓y_ivL, ↓y_ivV, ↓y_max, ↓y_min, ↓y_absL, ↓y_cpI, ↓y_cpL, ↓x_n1I, ↓x_n1L, ↓x_n1R, ↓x_n0I, ↓x_n0L, ↓x_n0R, ↓x_s0, ↓x_s1i, ↓x_s1r, ↓x_s1n, ↓x_s2, ↓x_c0, ↓x_c2, ↓x_tk0, ↓x_tk1, ↓x_rcv, x_rI1, x_rL1, x_rV1, x_rIn, x_rLn, x_rVn, x_rIf, x_rLf, x_rVf, x_40, x_41, x_42, x_43, x_44, ↓reduceIte, if_true, if_false, ao_iadd, ao_isub, ao_imul, ao_iand, ao_ior, ao_ishl, ao_ishr, ao_iushr, ao_ladd, ao_lsub, ao_lmul, ao_land, ao_lor, ao_idiv, ao_irem, ao_ldiv, ao_lrem, ao_ineg, ao_i2b, ao_i2s, Nat.reduceAdd, Nat.reduceMul, Nat.reduceSub, Nat.reduceEqDiff, Nat.reduceLeDiff, and_self, true_and, x_lit, x_ofn, x_z0, x_z1, x_inbT, x_ltT, x_ltF, x_leT, x_leF, x_eqF, x_eqT, x_inb, x_lt, x_le, x_eq, x_cl, x_sub, nI_add, pk_mul, x_m1e, x_m1e', x_m1l, x_m1n, x_m1s, Nat.not_lt_zero, x_zb, x_b0, x_b1, decide_eq_false_iff_not, decide_eq_true_eq, Bool.false_eq_true, Bool.true_eq_false, k0, h1]
  | succ m ih =>
    intro i N hm hi hN
    have hlt : i < vN V 5 := by omega
    obtain ⟨N, rfl⟩ : ∃ k, N = k + 1 := ⟨N - 1, by omega⟩
    obtain ⟨a0, a1, a2, a3, a4⟩ := h.2.2 i hlt
    obtain ⟨b0, b1, b2', b3, b4⟩ := hd i hlt
    have := ih (i + 1) N (by omega) (by omega) (by omega)
    rw [← this]
    by_cases e : vF V 4 i = k
    · have e2 : setR V k (i + 1) = setR V k i ||| (nI 1 <<< (nI i &&& nI 31)) := by show (if _ then _ else _) = _; rw [if_pos e]
      rw [e2]
      simp (disch := omega) only [g_X8_setOf, ↓e_X8_setOf_40, ↓e_X8_setOf_34, ↓e_X8_setOf_4, ↓e_X8_setOf_0, ↓h_X8_setOf_4, ↓it_s, ↓y_iload, ↓y_lload, ↓y_aload, ↓y_istore, ↓y_lstore, ↓y_astore, ↓y_iinc, ↓y_cI, ↓y_cL, ↓y_bin, ↓y_binL, ↓y_div, ↓y_divL, ↓y_lshl, ↓y_un, ↓y_i2l, ↓y_lneg, ↓y_l2i, ↓y_lcmp, ↓y_dupI, ↓y_dupR, ↓y_dup2, ↓y_pop, ↓y_goto, ↓y_eq0, ↓y_lt0, ↓y_le0, ↓y_eq, ↓y_lt, ↓y_le, ↓y_switch, ↓y_sw0, ↓y_sw1, ↓y_getI, ↓y_getL, ↓y_getR, ↓y_getT, ↓y_putI, ↓y_putZ, ↓y_putL, ↓y_putT, ↓y_iald, ↓y_bald, ↓y_lald, ↓y_aald, ↓y_iast, ↓y_bast, ↓y_last, ↓y_alen, ↓y_iret, ↓y_zret, ↓y_lret, ↓y_vret, ↓y_svI, ↓y_svL, ↓y_svV, ↓y_ivI, ↓y_ivL, ↓y_ivV, ↓y_max, ↓y_min, ↓y_absL, ↓y_cpI, ↓y_cpL, ↓x_n1I, ↓x_n1L, ↓x_n1R, ↓x_n0I, ↓x_n0L, ↓x_n0R, ↓x_s0, ↓x_s1i, ↓x_s1r, ↓x_s1n, ↓x_s2, ↓x_c0, ↓x_c2, ↓x_tk0, ↓x_tk1, ↓x_rcv, x_rI1, x_rL1, x_rV1, x_rIn, x_rLn, x_rVn, x_rIf, x_rLf, x_rVf, x_40, x_41, x_42, x_43, x_44, ↓reduceIte, if_true, if_false, ao_iadd, ao_isub, ao_imul, ao_iand, ao_ior, ao_ishl, ao_ishr, ao_iushr, ao_ladd, ao_lsub, ao_lmul, ao_land, ao_lor, ao_idiv, ao_irem, ao_ldiv, ao_lrem, ao_ineg, ao_i2b, ao_i2s, Nat.reduceAdd, Nat.reduceMul, Nat.reduceSub, Nat.reduceEqDiff, Nat.reduceLeDiff, and_self, true_and, x_lit, x_ofn, x_z0, x_z1, x_inbT, x_ltT, x_ltF, x_leT, x_leF, x_eqF, x_eqT, x_inb, x_lt, x_le, x_eq, x_cl, x_sub, nI_add, pk_mul, x_m1e, x_m1e', x_m1l, x_m1n, x_m1s, Nat.not_lt_zero, x_zb, x_b0, x_b1, decide_eq_false_iff_not, decide_eq_true_eq, Bool.false_eq_true, Bool.true_eq_false, k0, k16, l16, h1, a4]
    · have e2 : setR V k (i + 1) = setR V k i := by show (if _ then _ else _) = _; rw [if_neg e]
      rw [e2]
      simp (disch := omega) only [g_X8_setOf, ↓e_X8_setOf_40, ↓e_X8_setOf_34, ↓e_X8_setOf_4, ↓e_X8_setOf_0, ↓h_X8_setOf_4, ↓it_s, ↓y_iload, ↓y_lload, ↓y_aload, ↓y_istore, ↓y_lstore, ↓y_astore, ↓y_iinc, ↓y_cI, ↓y_cL, ↓y_bin, ↓y_binL, ↓y_div, ↓y_divL, ↓y_lshl, ↓y_un, ↓y_i2l, ↓y_lneg, ↓y_l2i, ↓y_lcmp, ↓y_dupI, ↓y_dupR, ↓y_dup2, ↓y_pop, ↓y_goto, ↓y_eq0, ↓y_lt0, ↓y_le0, ↓y_eq, ↓y_lt, ↓y_le, ↓y_switch, ↓y_sw0, ↓y_sw1, ↓y_getI, ↓y_getL, ↓y_getR, ↓y_getT, ↓y_putI, ↓y_putZ, ↓y_putL, ↓y_putT, ↓y_iald, ↓y_bald, ↓y_lald, ↓y_aald, ↓y_iast, ↓y_bast, ↓y_last, ↓y_alen, ↓y_iret, ↓y_zret, ↓y_lret, ↓y_vret, ↓y_svI, ↓y_svL, ↓y_svV, ↓y_ivI, ↓y_ivL, ↓y_ivV, ↓y_max, ↓y_min, ↓y_absL, ↓y_cpI, ↓y_cpL, ↓x_n1I, ↓x_n1L, ↓x_n1R, ↓x_n0I, ↓x_n0L, ↓x_n0R, ↓x_s0, ↓x_s1i, ↓x_s1r, ↓x_s1n, ↓x_s2, ↓x_c0, ↓x_c2, ↓x_tk0, ↓x_tk1, ↓x_rcv, x_rI1, x_rL1, x_rV1, x_rIn, x_rLn, x_rVn, x_rIf, x_rLf, x_rVf, x_40, x_41, x_42, x_43, x_44, ↓reduceIte, if_true, if_false, ao_iadd, ao_isub, ao_imul, ao_iand, ao_ior, ao_ishl, ao_ishr, ao_iushr, ao_ladd, ao_lsub, ao_lmul, ao_land, ao_lor, ao_idiv, ao_irem, ao_ldiv, ao_lrem, ao_ineg, ao_i2b, ao_i2s, Nat.reduceAdd, Nat.reduceMul, Nat.reduceSub, Nat.reduceEqDiff, Nat.reduceLeDiff, and_self, true_and, x_lit, x_ofn, x_z0, x_z1, x_inbT, x_ltT, x_ltF, x_leT, x_leF, x_eqF, x_eqT, x_inb, x_lt, x_le, x_eq, x_cl, x_sub, nI_add, pk_mul, x_m1e, x_m1e', x_m1l, x_m1n, x_m1s, Nat.not_lt_zero, x_zb, x_b0, x_b1, decide_eq_false_iff_not, decide_eq_true_eq, Bool.false_eq_true, Bool.true_eq_false, k0, k16, l16, h1, a4]
theorem X_setOf {v k : Nat} {V : Vt} {σ : am_M} (hv : isV v) (h : VF σ v V) (wn : WN V) (hd : WFd V) (hk : k < 1000) : S_X8_setOf [.ref v, .int (nI k)] σ = some (some (.int (setR V k (vN V 5))), σ) :=
  XS_loop hv h wn hd hk (vN V 5) 0 (am_fuel + 1) rfl (by omega) (by have := wn.2.2.2.2.2.1; unfold am_fuel; omega)
theorem x_or0 (x : Int32) : x ||| nI 0 = x := Int32.or_zero
theorem MS_loop {k : Nat} {V : Vt} {σ : am_M} (h : MC (σ.1 128) 0 V) (wn : WN V) (hd : WFd V) (hk : k < 1000) : ∀ (m i N : Nat), vN V 5 - i = m → i ≤ vN V 5 → m < N →
    am_it hd_X11_fieldsThat N 4 [some (.ref 123), some (.int (nI k)), some (.int (setR V k i)), some (.int (nI i))] [] σ = some (some (.int (setR V k (vN V 5))), σ) := by
  have h6 := wn.2.2.2.2.2.1
  have h1 : σ.1 128 5 = nI (vN V 5) := (MC_0 h).1 5 (by omega)
  intro m
  induction m with
  | zero =>
    intro i N hm hi hN
    have e : i = vN V 5 := by omega
    obtain ⟨N, rfl⟩ : ∃ k, N = k + 1 := ⟨N - 1, by omega⟩
    rw [← e]
    simp (disch := omega) only [g_X11_fieldsThat, ↓e_X11_fieldsThat_44, ↓e_X11_fieldsThat_36, ↓e_X11_fieldsThat_35, ↓e_X11_fieldsThat_4, ↓e_X11_fieldsThat_0, ↓h_X11_fieldsThat_4, ↓it_s, ↓y_iload, ↓y_lload, ↓y_aload, ↓y_istore, ↓y_lstore, ↓y_astore, ↓y_iinc, ↓y_cI, ↓y_cL, ↓y_bin, ↓y_binL, ↓y_div, ↓y_divL, ↓y_lshl, ↓y_un, ↓y_i2l, ↓y_lneg, ↓y_l2i, ↓y_lcmp, ↓y_dupI, ↓y_dupR, ↓y_dup2, ↓y_pop, ↓y_goto, ↓y_eq0, ↓y_lt0, ↓y_le0, ↓y_eq, ↓y_lt, ↓y_le, ↓y_switch, ↓y_sw0, ↓y_sw1, ↓y_getI, ↓y_getL, ↓y_getR, ↓y_getT, ↓y_putI, ↓y_putZ, ↓y_putL, ↓y_putT, ↓y_iald, ↓y_bald, ↓y_lald, ↓y_aald, ↓y_iast, ↓y_bast, ↓y_last, ↓y_alen, ↓y_iret, ↓y_zret, ↓y_lret, ↓y_vret, ↓y_svI, ↓y_svL, ↓y_svV, ↓y_ivI, ↓y_ivL, ↓y_ivV, ↓y_max, ↓y_min, ↓y_absL, ↓y_cpI, ↓y_cpL, ↓x_n1I, ↓x_n1L, ↓x_n1R, ↓x_n0I, ↓x_n0L, ↓x_n0R, ↓x_s0, ↓x_s1i, ↓x_s1r, ↓x_s1n, ↓x_s2, ↓x_c0, ↓x_c2, ↓x_tk0, ↓x_tk1, ↓x_rcv, x_rI1, x_rL1, x_rV1, x_rIn, x_rLn, x_rVn, x_rIf, x_rLf, x_rVf, x_40, x_41, x_42, x_43, x_44, ↓reduceIte, if_true, if_false, ao_iadd, ao_isub, ao_imul, ao_iand, ao_ior, ao_ishl, ao_ishr, ao_iushr, ao_ladd, ao_lsub, ao_lmul, ao_land, ao_lor, ao_idiv, ao_irem, ao_ldiv, ao_lrem, ao_ineg, ao_i2b, ao_i2s, Nat.reduceAdd, Nat.reduceMul, Nat.reduceSub, Nat.reduceEqDiff, Nat.reduceLeDiff, and_self, true_and, x_lit, x_ofn, x_z0, x_z1, x_inbT, x_ltT, x_ltF, x_leT, x_leF, x_eqF, x_eqT, x_inb, x_lt, x_le, x_eq, x_cl, x_sub, nI_add, pk_mul, x_m1e, x_m1e', x_m1l, x_m1n, x_m1s, Nat.not_lt_zero, x_zb, x_b0, x_b1, decide_eq_false_iff_not, decide_eq_true_eq, Bool.false_eq_true, Bool.true_eq_false, kd_123, kd_128, ln_128, h1]
  | succ m ih =>
    intro i N hm hi hN
    have hlt : i < vN V 5 := by omega
    obtain ⟨N, rfl⟩ : ∃ k, N = k + 1 := ⟨N - 1, by omega⟩
    have a4 := (MC_0 h).2.2.2.2.2 4 i (by omega) hlt
    simp only [Nat.reduceMul, Nat.reduceAdd] at a4
    obtain ⟨b0, b1, b2', b3, b4⟩ := hd i hlt
    have := ih (i + 1) N (by omega) (by omega) (by omega)
    rw [← this]
    by_cases e : vF V 4 i = k
    · have e2 : setR V k (i + 1) = setR V k i ||| (nI 1 <<< (nI i &&& nI 31)) := by show (if _ then _ else _) = _; rw [if_pos e]
      rw [e2]
      simp (disch := omega) only [g_X11_fieldsThat, ↓e_X11_fieldsThat_44, ↓e_X11_fieldsThat_36, ↓e_X11_fieldsThat_35, ↓e_X11_fieldsThat_4, ↓e_X11_fieldsThat_0, ↓h_X11_fieldsThat_4, ↓it_s, ↓y_iload, ↓y_lload, ↓y_aload, ↓y_istore, ↓y_lstore, ↓y_astore, ↓y_iinc, ↓y_cI, ↓y_cL, ↓y_bin, ↓y_binL, ↓y_div, ↓y_divL, ↓y_lshl, ↓y_un, ↓y_i2l, ↓y_lneg, ↓y_l2i, ↓y_lcmp, ↓y_dupI, ↓y_dupR, ↓y_dup2, ↓y_pop, ↓y_goto, ↓y_eq0, ↓y_lt0, ↓y_le0, ↓y_eq, ↓y_lt, ↓y_le, ↓y_switch, ↓y_sw0, ↓y_sw1, ↓y_getI, ↓y_getL, ↓y_getR, ↓y_getT, ↓y_putI, ↓y_putZ, ↓y_putL, ↓y_putT, ↓y_iald, ↓y_bald, ↓y_lald, ↓y_aald, ↓y_iast, ↓y_bast, ↓y_last, ↓y_alen, ↓y_iret, ↓y_zret, ↓y_lret, ↓y_vret, ↓y_svI, ↓y_svL, ↓y_svV, ↓y_ivI, ↓y_ivL, ↓y_ivV, ↓y_max, ↓y_min, ↓y_absL, ↓y_cpI, ↓y_cpL, ↓x_n1I, ↓x_n1L, ↓x_n1R, ↓x_n0I, ↓x_n0L, ↓x_n0R, ↓x_s0, ↓x_s1i, ↓x_s1r, ↓x_s1n, ↓x_s2, ↓x_c0, ↓x_c2, ↓x_tk0, ↓x_tk1, ↓x_rcv, x_rI1, x_rL1, x_rV1, x_rIn, x_rLn, x_rVn, x_rIf, x_rLf, x_rVf, x_40, x_41, x_42, x_43, x_44, ↓reduceIte, if_true, if_false, ao_iadd, ao_isub, ao_imul, ao_iand, ao_ior, ao_ishl, ao_ishr, ao_iushr, ao_ladd, ao_lsub, ao_lmul, ao_land, ao_lor, ao_idiv, ao_irem, ao_ldiv, ao_lrem, ao_ineg, ao_i2b, ao_i2s, Nat.reduceAdd, Nat.reduceMul, Nat.reduceSub, Nat.reduceEqDiff, Nat.reduceLeDiff, and_self, true_and, x_lit, x_ofn, x_z0, x_z1, x_inbT, x_ltT, x_ltF, x_leT, x_leF, x_eqF, x_eqT, x_inb, x_lt, x_le, x_eq, x_cl, x_sub, nI_add, pk_mul, x_m1e, x_m1e', x_m1l, x_m1n, x_m1s, Nat.not_lt_zero, x_zb, x_b0, x_b1, decide_eq_false_iff_not, decide_eq_true_eq, Bool.false_eq_true, Bool.true_eq_false, kd_123, kd_128, ln_128, h1, a4]
    · have e2 : setR V k (i + 1) = setR V k i := by show (if _ then _ else _) = _; rw [if_neg e]
      rw [e2]
      simp (disch := omega) only [g_X11_fieldsThat, ↓e_X11_fieldsThat_44, ↓e_X11_fieldsThat_36, ↓e_X11_fieldsThat_35, ↓e_X11_fieldsThat_4, ↓e_X11_fieldsThat_0, ↓h_X11_fieldsThat_4, ↓it_s, ↓y_iload, ↓y_lload, ↓y_aload, ↓y_istore, ↓y_lstore, ↓y_astore, ↓y_iinc, ↓y_cI, ↓y_cL, ↓y_bin, ↓y_binL, ↓y_div, ↓y_divL, ↓y_lshl, ↓y_un, ↓y_i2l, ↓y_lneg, ↓y_l2i, ↓y_lcmp, ↓y_dupI, ↓y_dupR, ↓y_dup2, ↓y_pop, ↓y_goto, ↓y_eq0, ↓y_lt0, ↓y_le0, ↓y_eq, ↓y_lt, ↓y_le, ↓y_switch, ↓y_sw0, ↓y_sw1, ↓y_getI, ↓y_getL, ↓y_getR, ↓y_getT, ↓y_putI, ↓y_putZ, ↓y_putL, ↓y_putT, ↓y_iald, ↓y_bald, ↓y_lald, ↓y_aald, ↓y_iast, ↓y_bast, ↓y_last, ↓y_alen, ↓y_iret, ↓y_zret, ↓y_lret, ↓y_vret, ↓y_svI, ↓y_svL, ↓y_svV, ↓y_ivI, ↓y_ivL, ↓y_ivV, ↓y_max, ↓y_min, ↓y_absL, ↓y_cpI, ↓y_cpL, ↓x_n1I, ↓x_n1L, ↓x_n1R, ↓x_n0I, ↓x_n0L, ↓x_n0R, ↓x_s0, ↓x_s1i, ↓x_s1r, ↓x_s1n, ↓x_s2, ↓x_c0, ↓x_c2, ↓x_tk0, ↓x_tk1, ↓x_rcv, x_rI1, x_rL1, x_rV1, x_rIn, x_rLn, x_rVn, x_rIf, x_rLf, x_rVf, x_40, x_41, x_42, x_43, x_44, ↓reduceIte, if_true, if_false, ao_iadd, ao_isub, ao_imul, ao_iand, ao_ior, ao_ishl, ao_ishr, ao_iushr, ao_ladd, ao_lsub, ao_lmul, ao_land, ao_lor, ao_idiv, ao_irem, ao_ldiv, ao_lrem, ao_ineg, ao_i2b, ao_i2s, Nat.reduceAdd, Nat.reduceMul, Nat.reduceSub, Nat.reduceEqDiff, Nat.reduceLeDiff, and_self, true_and, x_lit, x_ofn, x_z0, x_z1, x_inbT, x_ltT, x_ltF, x_leT, x_leF, x_eqF, x_eqT, x_inb, x_lt, x_le, x_eq, x_cl, x_sub, nI_add, pk_mul, x_m1e, x_m1e', x_m1l, x_m1n, x_m1s, Nat.not_lt_zero, x_zb, x_b0, x_b1, decide_eq_false_iff_not, decide_eq_true_eq, Bool.false_eq_true, Bool.true_eq_false, kd_123, kd_128, ln_128, h1, a4, x_or0]
theorem M_fieldsThat {k : Nat} {V : Vt} {σ : am_M} (h : MC (σ.1 128) 0 V) (wn : WN V) (hd : WFd V) (hk : k < 1000) : S_X11_fieldsThat [.ref 123, .int (nI k)] σ = some (some (.int (setR V k (vN V 5))), σ) :=
  MS_loop h wn hd hk (vN V 5) 0 (am_fuel + 1) rfl (by omega) (by have := wn.2.2.2.2.2.1; unfold am_fuel; omega)
