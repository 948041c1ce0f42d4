/-! all moves, in order -/
def okM (V : Vt) (f to : Nat) : Bool := isFr V f && isTo V to && canM V f to
def mvI (V : Vt) (f n : Nat) : List Nat := ((List.range n).filter (okM V f)).map (fun to => 10 * f + to)
def mvO (V : Vt) (n : Nat) : List Nat := (List.range n).flatMap (fun f => mvI V f 8)
def mvL (V : Vt) : List Nat := mvO V 7
theorem mvI_s (V : Vt) (f n : Nat) : mvI V f (n + 1) = mvI V f n ++ (if okM V f n = true then [10 * f + n] else []) := by
  unfold mvI
  rw [List.range_succ, List.filter_append, List.map_append]
  by_cases h : okM V f n = true
  · simp [h]
  · simp [h]
theorem mvO_s (V : Vt) (n : Nat) : mvO V (n + 1) = mvO V n ++ mvI V n 8 := by
  unfold mvO
  rw [List.range_succ, List.flatMap_append]
  simp
theorem mvI_0 (V : Vt) (f : Nat) : mvI V f 0 = [] := rfl
theorem mvO_0 (V : Vt) : mvO V 0 = [] := rfl
theorem mvI_empty {V : Vt} {f : Nat} (h : vP V f = []) (n : Nat) : mvI V f n = [] := by
  induction n with
  | zero => rfl
  | succ n ih =>
    rw [mvI_s, ih]
    have : canM V f n = false := by simp [canM, h]
    simp [okM, this]
theorem okM_6 {V : Vt} (hn : WN V) (f : Nat) : okM V f 6 = false := by
  have := hn.2.2.2.2.1
  have : isTo V 6 = false := by simp [isTo]; omega
  simp [okM, this]
theorem mvI_len {V : Vt} (hn : WN V) (f n : Nat) : (mvI V f n).length ≤ n ∧ (7 ≤ n → (mvI V f n).length + 1 ≤ n) := by
  induction n with
  | zero => exact ⟨Nat.le_refl _, fun h => by omega⟩
  | succ n ih =>
    rw [mvI_s, List.length_append]
    by_cases h6 : n = 6
    · subst h6
      rw [okM_6 hn]
      simp
      have := ih.1
      omega
    · have : (if okM V f n = true then [10 * f + n] else []).length ≤ 1 := by split <;> simp
      refine ⟨by have := ih.1; omega, fun h => ?_⟩
      have := ih.2 (by omega)
      omega
theorem mvO_len {V : Vt} (hn : WN V) (n : Nat) : (mvO V n).length ≤ 7 * n := by
  induction n with
  | zero => exact Nat.le_refl _
  | succ n ih =>
    rw [mvO_s, List.length_append]
    have := (mvI_len hn n 8).2 (by omega)
    omega
/-- what listing changes: the list's row alone, from the start on 49 places -/
def frL (h start : Nat) (σ τ : am_M) : Prop := τ.2 = σ.2 ∧ (∀ j, j ≠ h → τ.1 j = σ.1 j) ∧ ∀ i, (i < start ∨ start + 49 ≤ i) → τ.1 h i = σ.1 h i
theorem frL_rf (h start : Nat) (σ : am_M) : frL h start σ σ := ⟨rfl, fun _ _ => rfl, fun _ _ => rfl⟩
theorem frL_tr {h start : Nat} {a b c : am_M} (h1 : frL h start a b) (h2 : frL h start b c) : frL h start a c := ⟨h2.1.trans h1.1, fun j hj => (h2.2.1 j hj).trans (h1.2.1 j hj), fun i hi => (h2.2.2 i hi).trans (h1.2.2 i hi)⟩
theorem isT_le {t : Nat} (h : isT t) : 10 ≤ t ∧ t ≤ 107 := by rcases h with rfl | rfl | rfl | rfl | rfl | rfl <;> decide
def isLs (h start : Nat) : Prop := (h = 63 ∨ h = 46 ∨ h = 49 ∨ h = 51) ∧ am_kd h = 20 ∧ start + 49 ≤ am_ln h ∧ am_ln h ≤ 196
theorem XL_in {t h start f : Nat} {V : Vt} (ht : isT t) (hls : isLs h start) (wn : WN V) (wc : WC V) (hf : f < 7) (hF : vP V f ≠ []) : ∀ (m to n : Nat) (σ : am_M) (d6 : Option Value), 8 - to = m → to ≤ 8 → TN σ t V → TP σ t V → seg (σ.1 h) start (mvO V f ++ mvI V f to) →
    ∃ (σ' : am_M) (d5 d6' : Option Value), am_it hd_X6_listMoves (n + m + 1) 28 [some (.ref t), some (.ref h), some (.int (nI start)), some (.int (nI (mvO V f ++ mvI V f to).length)), some (.int (nI f)), some (.int (nI to)), d6] [] σ = am_it hd_X6_listMoves n 5 [some (.ref t), some (.ref h), some (.int (nI start)), some (.int (nI (mvO V (f + 1)).length)), some (.int (nI (f + 1))), d5, d6'] [] σ' ∧ seg (σ'.1 h) start (mvO V (f + 1)) ∧ frL h start σ σ' := by
  obtain ⟨k0, k1, k2, k3, k4, -, -, l1, l2, l3, l4, -⟩ := isT_k ht
  obtain ⟨hh, kh, lh, lh2⟩ := hls
  have htl := isT_le ht
  have hht : ∀ j, t ≤ j → j ≤ t + 4 → j ≠ h := by
    intro j h1 h2
    rcases hh with rfl | rfl | rfl | rfl <;> rcases ht with rfl | rfl | rfl | rfl | rfl | rfl <;> omega
  have kh2 : (20 ≤ am_kd h ∧ am_kd h ≤ 24) = True := by rw [kh]; simp
  have hr6 := wn.2.2.2.2.1
  intro m
  induction m with
  | zero =>
    intro to n σ d6 hm hto hN hP hS
    have e : to = 8 := by omega
    subst e
    refine ⟨σ, some (.int (nI 8)), d6, ?_, by rw [mvO_s]; exact hS, frL_rf _ _ _⟩
    rw [mvO_s]
    simp (disch := omega) only [g_X6_listMoves, ↓e_X6_listMoves_90, ↓e_X6_listMoves_84, ↓e_X6_listMoves_78, ↓e_X6_listMoves_28, ↓e_X6_listMoves_25, ↓e_X6_listMoves_5, ↓e_X6_listMoves_0, ↓h_X6_listMoves_5, ↓h_X6_listMoves_28, ↓it_s, ↓y_iload, ↓y_lload, ↓y_aload, ↓y_istore, ↓y_lstore, ↓y_astore, ↓y_iinc, ↓y_cI, ↓y_cL, ↓y_bin, ↓y_binL, ↓y_div, ↓y_divL, ↓y_lshl, ↓y_un, ↓y_i2l, ↓y_lneg, ↓y_l2i, ↓y_lcmp, ↓y_dupI, ↓y_dupR, ↓y_dup2, ↓y_pop, ↓y_goto, ↓y_eq0, ↓y_lt0, ↓y_le0, ↓y_eq, ↓y_lt, ↓y_le, ↓y_switch, ↓y_sw0, ↓y_sw1, ↓y_getI, ↓y_getL, ↓y_getR, ↓y_getT, ↓y_putI, ↓y_putZ, ↓y_putL, ↓y_putT, ↓y_iald, ↓y_bald, ↓y_lald, ↓y_aald, ↓y_iast, ↓y_bast, ↓y_last, ↓y_alen, ↓y_iret, ↓y_zret, ↓y_lret, ↓y_vret, ↓y_svI, ↓y_svL, ↓y_svV, ↓y_ivI, ↓y_ivL, ↓y_ivV, ↓y_max, ↓y_min, ↓y_absL, ↓y_cpI, ↓y_cpL, ↓x_n1I, ↓x_n1L, ↓x_n1R, ↓x_n0I, ↓x_n0L, ↓x_n0R, ↓x_s0, ↓x_s1i, ↓x_s1r, ↓x_s1n, ↓x_s2, ↓x_c0, ↓x_c2, ↓x_tk0, ↓x_tk1, ↓x_rcv, x_rI1, x_rL1, x_rV1, x_rIn, x_rLn, x_rVn, x_rIf, x_rLf, x_rVf, x_40, x_41, x_42, x_43, x_44, ↓reduceIte, if_true, if_false, ao_iadd, ao_isub, ao_imul, ao_iand, ao_ior, ao_ishl, ao_ishr, ao_iushr, ao_ladd, ao_lsub, ao_lmul, ao_land, ao_lor, ao_idiv, ao_irem, ao_ldiv, ao_lrem, ao_ineg, ao_i2b, ao_i2s, Nat.reduceAdd, Nat.reduceMul, Nat.reduceSub, Nat.reduceEqDiff, Nat.reduceLeDiff, and_self, true_and, x_lit, x_ofn, x_z0, x_z1, x_inbT, x_ltT, x_ltF, x_leT, x_leF, x_eqF, x_eqT, x_inb, x_lt, x_le, x_eq, x_cl, x_sub, nI_add, pk_mul, x_m1e, x_m1e', x_m1l, x_m1n, x_m1s, Nat.not_lt_zero, x_zb, x_b0, x_b1, decide_eq_false_iff_not, decide_eq_true_eq, Bool.false_eq_true, Bool.true_eq_false, Nat.add_zero]
  | succ m ih =>
    intro to n σ d6 hm hto hN hP hS
    have hall := X_allows (f := f) (to := to) ht hP hN wc wn hf (by omega)
    have hfr : isFr V f = true := by
      unfold isFr
      apply decide_eq_true
      by_cases e : f = 6
      · exact Or.inr e
      · apply Or.inl
        apply Classical.byContradiction
        intro h2
        exact hF (wc.2.2.2.1 f (by omega) (by omega))
    have hok : okM V f to = (isTo V to && canM V f to) := by unfold okM; rw [hfr]; simp
    have hlen1 := mvO_len wn f
    have hlen2 := (mvI_len wn f to).1
    have hlen3 := (mvI_len wn f to).2
    have hlen : (mvO V f ++ mvI V f to).length < 49 := by
      rw [List.length_append]
      by_cases e7 : to = 7
      · have := hlen3 (by omega); omega
      · omega
    cases hb : (isTo V to && canM V f to) with
    | false =>
      have e1 : mvI V f (to + 1) = mvI V f to := by rw [mvI_s, hok, hb]; simp
      obtain ⟨σ', d5, d6', t1, t2, t3⟩ := ih (to + 1) n σ (some (.int (nI (start + (mvO V f ++ mvI V f to).length)))) (by omega) (by omega) hN hP (by rw [e1]; exact hS)
      rw [e1] at t1
      refine ⟨σ', d5, d6', ?_, t2, t3⟩
      rw [hb] at hall
      obtain ⟨N, eN⟩ : ∃ N, N = n + m + 1 := ⟨_, rfl⟩
      rw [← eN] at t1
      rw [show n + (m + 1) + 1 = N + 1 by omega]
      simp (disch := omega) only [g_X6_listMoves, ↓e_X6_listMoves_90, ↓e_X6_listMoves_84, ↓e_X6_listMoves_78, ↓e_X6_listMoves_28, ↓e_X6_listMoves_25, ↓e_X6_listMoves_5, ↓e_X6_listMoves_0, ↓h_X6_listMoves_5, ↓h_X6_listMoves_28, ↓it_s, ↓y_iload, ↓y_lload, ↓y_aload, ↓y_istore, ↓y_lstore, ↓y_astore, ↓y_iinc, ↓y_cI, ↓y_cL, ↓y_bin, ↓y_binL, ↓y_div, ↓y_divL, ↓y_lshl, ↓y_un, ↓y_i2l, ↓y_lneg, ↓y_l2i, ↓y_lcmp, ↓y_dupI, ↓y_dupR, ↓y_dup2, ↓y_pop, ↓y_goto, ↓y_eq0, ↓y_lt0, ↓y_le0, ↓y_eq, ↓y_lt, ↓y_le, ↓y_switch, ↓y_sw0, ↓y_sw1, ↓y_getI, ↓y_getL, ↓y_getR, ↓y_getT, ↓y_putI, ↓y_putZ, ↓y_putL, ↓y_putT, ↓y_iald, ↓y_bald, ↓y_lald, ↓y_aald, ↓y_iast, ↓y_bast, ↓y_last, ↓y_alen, ↓y_iret, ↓y_zret, ↓y_lret, ↓y_vret, ↓y_svI, ↓y_svL, ↓y_svV, ↓y_ivI, ↓y_ivL, ↓y_ivV, ↓y_max, ↓y_min, ↓y_absL, ↓y_cpI, ↓y_cpL, ↓x_n1I, ↓x_n1L, ↓x_n1R, ↓x_n0I, ↓x_n0L, ↓x_n0R, ↓x_s0, ↓x_s1i, ↓x_s1r, ↓x_s1n, ↓x_s2, ↓x_c0, ↓x_c2, ↓x_tk0, ↓x_tk1, ↓x_rcv, x_rI1, x_rL1, x_rV1, x_rIn, x_rLn, x_rVn, x_rIf, x_rLf, x_rVf, x_40, x_41, x_42, x_43, x_44, ↓reduceIte, if_true, if_false, ao_iadd, ao_isub, ao_imul, ao_iand, ao_ior, ao_ishl, ao_ishr, ao_iushr, ao_ladd, ao_lsub, ao_lmul, ao_land, ao_lor, ao_idiv, ao_irem, ao_ldiv, ao_lrem, ao_ineg, ao_i2b, ao_i2s, Nat.reduceAdd, Nat.reduceMul, Nat.reduceSub, Nat.reduceEqDiff, Nat.reduceLeDiff, and_self, true_and, x_lit, x_ofn, x_z0, x_z1, x_inbT, x_ltT, x_ltF, x_leT, x_leF, x_eqF, x_eqT, x_inb, x_lt, x_le, x_eq, x_cl, x_sub, nI_add, pk_mul, x_m1e, x_m1e', x_m1l, x_m1n, x_m1s, Nat.not_lt_zero, x_zb, x_b0, x_b1, decide_eq_false_iff_not, decide_eq_true_eq, Bool.false_eq_true, Bool.true_eq_false, hall, k0, b2_f]
      exact t1
    | true =>
      have e1 : mvO V f ++ mvI V f (to + 1) = (mvO V f ++ mvI V f to) ++ [10 * f + to] := by rw [mvI_s, hok, hb]; simp
      have hS2 := seg_push hS (10 * f + to) rfl
      have hfr1 : frL h start σ (am_uI σ h (start + (mvO V f ++ mvI V f to).length) (nI (10 * f + to))) := ⟨rfl, fun j hj => uI_n hj, fun i hi => by rw [uI_s, up_n (by omega)]⟩
      obtain ⟨σ', d5, d6', t1, t2, t3⟩ := ih (to + 1) n (am_uI σ h (start + (mvO V f ++ mvI V f to).length) (nI (10 * f + to))) (some (.int (nI (start + (mvO V f ++ mvI V f to).length)))) (by omega) (by omega) (TN_fr hN (uI_n (hht t (by omega) (by omega)))) (TP_fr hP (fun j h1 h2 => uI_n (hht j h1 h2))) (by rw [e1, uI_s]; exact hS2)
      rw [e1, List.length_append] at t1
      refine ⟨σ', d5, d6', ?_, t2, frL_tr hfr1 t3⟩
      rw [hb] at hall
      obtain ⟨N, eN⟩ : ∃ N, N = n + m + 1 := ⟨_, rfl⟩
      rw [← eN] at t1
      rw [show n + (m + 1) + 1 = N + 1 by omega]
      simp (disch := omega) only [g_X6_listMoves, ↓e_X6_listMoves_90, ↓e_X6_listMoves_84, ↓e_X6_listMoves_78, ↓e_X6_listMoves_28, ↓e_X6_listMoves_25, ↓e_X6_listMoves_5, ↓e_X6_listMoves_0, ↓h_X6_listMoves_5, ↓h_X6_listMoves_28, ↓it_s, ↓y_iload, ↓y_lload, ↓y_aload, ↓y_istore, ↓y_lstore, ↓y_astore, ↓y_iinc, ↓y_cI, ↓y_cL, ↓y_bin, ↓y_binL, ↓y_div, ↓y_divL, ↓y_lshl, ↓y_un, ↓y_i2l, ↓y_lneg, ↓y_l2i, ↓y_lcmp, ↓y_dupI, ↓y_dupR, ↓y_dup2, ↓y_pop, ↓y_goto, ↓y_eq0, ↓y_lt0, ↓y_le0, ↓y_eq, ↓y_lt, ↓y_le, ↓y_switch, ↓y_sw0, ↓y_sw1, ↓y_getI, ↓y_getL, ↓y_getR, ↓y_getT, ↓y_putI, ↓y_putZ, ↓y_putL, ↓y_putT, ↓y_iald, ↓y_bald, ↓y_lald, ↓y_aald, ↓y_iast, ↓y_bast, ↓y_last, ↓y_alen, ↓y_iret, ↓y_zret, ↓y_lret, ↓y_vret, ↓y_svI, ↓y_svL, ↓y_svV, ↓y_ivI, ↓y_ivL, ↓y_ivV, ↓y_max, ↓y_min, ↓y_absL, ↓y_cpI, ↓y_cpL, ↓x_n1I, ↓x_n1L, ↓x_n1R, ↓x_n0I, ↓x_n0L, ↓x_n0R, ↓x_s0, ↓x_s1i, ↓x_s1r, ↓x_s1n, ↓x_s2, ↓x_c0, ↓x_c2, ↓x_tk0, ↓x_tk1, ↓x_rcv, x_rI1, x_rL1, x_rV1, x_rIn, x_rLn, x_rVn, x_rIf, x_rLf, x_rVf, x_40, x_41, x_42, x_43, x_44, ↓reduceIte, if_true, if_false, ao_iadd, ao_isub, ao_imul, ao_iand, ao_ior, ao_ishl, ao_ishr, ao_iushr, ao_ladd, ao_lsub, ao_lmul, ao_land, ao_lor, ao_idiv, ao_irem, ao_ldiv, ao_lrem, ao_ineg, ao_i2b, ao_i2s, Nat.reduceAdd, Nat.reduceMul, Nat.reduceSub, Nat.reduceEqDiff, Nat.reduceLeDiff, and_self, true_and, x_lit, x_ofn, x_z0, x_z1, x_inbT, x_ltT, x_ltF, x_leT, x_leF, x_eqF, x_eqT, x_inb, x_lt, x_le, x_eq, x_cl, x_sub, nI_add, pk_mul, x_m1e, x_m1e', x_m1l, x_m1n, x_m1s, Nat.not_lt_zero, x_zb, x_b0, x_b1, decide_eq_false_iff_not, decide_eq_true_eq, Bool.false_eq_true, Bool.true_eq_false, hall, k0, kh, kh2, b2_t]
      exact t1
theorem XL_out {t h start : Nat} {V : Vt} (ht : isT t) (hls : isLs h start) (wn : WN V) (wc : WC V) : ∀ (m f n : Nat) (σ : am_M) (d5 d6 : Option Value), 7 - f = m → f ≤ 7 → 10 * m < n → TN σ t V → TP σ t V → seg (σ.1 h) start (mvO V f) →
    ∃ τ, am_it hd_X6_listMoves n 5 [some (.ref t), some (.ref h), some (.int (nI start)), some (.int (nI (mvO V f).length)), some (.int (nI f)), d5, d6] [] σ = some (some (.int (nI (mvL V).length)), τ) ∧ seg (τ.1 h) start (mvL V) ∧ frL h start σ τ := by
  have hls0 := hls
  obtain ⟨k0, k1, k2, k3, k4, -, -, l1, l2, l3, l4, -⟩ := isT_k ht
  obtain ⟨hh, kh, lh, lh2⟩ := hls
  have hht : ∀ j, t ≤ j → j ≤ t + 4 → j ≠ h := by
    intro j h1 h2
    rcases hh with rfl | rfl | rfl | rfl <;> rcases ht with rfl | rfl | rfl | rfl | rfl | rfl <;> omega
  intro m
  induction m with
  | zero =>
    intro f n σ d5 d6 hm hf hn hN hP hS
    have e : f = 7 := by omega
    subst e
    obtain ⟨n, rfl⟩ : ∃ k, n = k + 1 := ⟨n - 1, by omega⟩
    refine ⟨σ, ?_, hS, frL_rf _ _ _⟩
    simp (disch := omega) only [g_X6_listMoves, ↓e_X6_listMoves_90, ↓e_X6_listMoves_84, ↓e_X6_listMoves_78, ↓e_X6_listMoves_28, ↓e_X6_listMoves_25, ↓e_X6_listMoves_5, ↓e_X6_listMoves_0, ↓h_X6_listMoves_5, ↓h_X6_listMoves_28, ↓it_s, ↓y_iload, ↓y_lload, ↓y_aload, ↓y_istore, ↓y_lstore, ↓y_astore, ↓y_iinc, ↓y_cI, ↓y_cL, ↓y_bin, ↓y_binL, ↓y_div, ↓y_divL, ↓y_lshl, ↓y_un, ↓y_i2l, ↓y_lneg, ↓y_l2i, ↓y_lcmp, ↓y_dupI, ↓y_dupR, ↓y_dup2, ↓y_pop, ↓y_goto, ↓y_eq0, ↓y_lt0, ↓y_le0, ↓y_eq, ↓y_lt, ↓y_le, ↓y_switch, ↓y_sw0, ↓y_sw1, ↓y_getI, ↓y_getL, ↓y_getR, ↓y_getT, ↓y_putI, ↓y_putZ, ↓y_putL, ↓y_putT, ↓y_iald, ↓y_bald, ↓y_lald, ↓y_aald, ↓y_iast, ↓y_bast, ↓y_last, ↓y_alen, ↓y_iret, ↓y_zret, ↓y_lret, ↓y_vret, ↓y_svI, ↓y_svL, ↓y_svV, ↓y_ivI, ↓y_ivL, ↓y_ivV, ↓y_max, ↓y_min, ↓y_absL, ↓y_cpI, ↓y_cpL, ↓x_n1I, ↓x_n1L, ↓x_n1R, ↓x_n0I, ↓x_n0L, ↓x_n0R, ↓x_s0, ↓x_s1i, ↓x_s1r, ↓x_s1n, ↓x_s2, ↓x_c0, ↓x_c2, ↓x_tk0, ↓x_tk1, ↓x_rcv, x_rI1, x_rL1, x_rV1, x_rIn, x_rLn, x_rVn, x_rIf, x_rLf, x_rVf, x_40, x_41, x_42, x_43, x_44, ↓reduceIte, if_true, if_false, ao_iadd, ao_isub, ao_imul, ao_iand, ao_ior, ao_ishl, ao_ishr, ao_iushr, ao_ladd, ao_lsub, ao_lmul, ao_land, ao_lor, ao_idiv, ao_irem, ao_ldiv, ao_lrem, ao_ineg, ao_i2b, ao_i2s, Nat.reduceAdd, Nat.reduceMul, Nat.reduceSub, Nat.reduceEqDiff, Nat.reduceLeDiff, and_self, true_and, x_lit, x_ofn, x_z0, x_z1, x_inbT, x_ltT, x_ltF, x_leT, x_leF, x_eqF, x_eqT, x_inb, x_lt, x_le, x_eq, x_cl, x_sub, nI_add, pk_mul, x_m1e, x_m1e', x_m1l, x_m1n, x_m1s, Nat.not_lt_zero, x_zb, x_b0, x_b1, decide_eq_false_iff_not, decide_eq_true_eq, Bool.false_eq_true, Bool.true_eq_false]
    rfl
  | succ m ih =>
    intro f n σ d5 d6 hm hf hn hN hP hS
    obtain ⟨n, rfl⟩ : ∃ k, n = k + 1 := ⟨n - 1, by omega⟩
    have h1 := hP.1 f (by omega)
    have hl := wc.len (p := f) (by omega)
    by_cases e0 : vP V f = []
    · have e1 : mvO V (f + 1) = mvO V f := by rw [mvO_s, mvI_empty e0]; simp
      have h1' : σ.1 (t + 2) f = nI 0 := by rw [h1, e0]; rfl
      obtain ⟨τ, t1, t2, t3⟩ := ih (f + 1) n σ d5 d6 (by omega) (by omega) (by omega) hN hP (by rw [e1]; exact hS)
      rw [e1] at t1
      refine ⟨τ, ?_, t2, t3⟩
      rw [← t1]
      obtain ⟨N, eN⟩ : ∃ N, N = n := ⟨_, rfl⟩
      rw [← eN]
      simp (disch := omega) only [g_X6_listMoves, ↓e_X6_listMoves_90, ↓e_X6_listMoves_84, ↓e_X6_listMoves_78, ↓e_X6_listMoves_28, ↓e_X6_listMoves_25, ↓e_X6_listMoves_5, ↓e_X6_listMoves_0, ↓h_X6_listMoves_5, ↓h_X6_listMoves_28, ↓it_s, ↓y_iload, ↓y_lload, ↓y_aload, ↓y_istore, ↓y_lstore, ↓y_astore, ↓y_iinc, ↓y_cI, ↓y_cL, ↓y_bin, ↓y_binL, ↓y_div, ↓y_divL, ↓y_lshl, ↓y_un, ↓y_i2l, ↓y_lneg, ↓y_l2i, ↓y_lcmp, ↓y_dupI, ↓y_dupR, ↓y_dup2, ↓y_pop, ↓y_goto, ↓y_eq0, ↓y_lt0, ↓y_le0, ↓y_eq, ↓y_lt, ↓y_le, ↓y_switch, ↓y_sw0, ↓y_sw1, ↓y_getI, ↓y_getL, ↓y_getR, ↓y_getT, ↓y_putI, ↓y_putZ, ↓y_putL, ↓y_putT, ↓y_iald, ↓y_bald, ↓y_lald, ↓y_aald, ↓y_iast, ↓y_bast, ↓y_last, ↓y_alen, ↓y_iret, ↓y_zret, ↓y_lret, ↓y_vret, ↓y_svI, ↓y_svL, ↓y_svV, ↓y_ivI, ↓y_ivL, ↓y_ivV, ↓y_max, ↓y_min, ↓y_absL, ↓y_cpI, ↓y_cpL, ↓x_n1I, ↓x_n1L, ↓x_n1R, ↓x_n0I, ↓x_n0L, ↓x_n0R, ↓x_s0, ↓x_s1i, ↓x_s1r, ↓x_s1n, ↓x_s2, ↓x_c0, ↓x_c2, ↓x_tk0, ↓x_tk1, ↓x_rcv, x_rI1, x_rL1, x_rV1, x_rIn, x_rLn, x_rVn, x_rIf, x_rLf, x_rVf, x_40, x_41, x_42, x_43, x_44, ↓reduceIte, if_true, if_false, ao_iadd, ao_isub, ao_imul, ao_iand, ao_ior, ao_ishl, ao_ishr, ao_iushr, ao_ladd, ao_lsub, ao_lmul, ao_land, ao_lor, ao_idiv, ao_irem, ao_ldiv, ao_lrem, ao_ineg, ao_i2b, ao_i2s, Nat.reduceAdd, Nat.reduceMul, Nat.reduceSub, Nat.reduceEqDiff, Nat.reduceLeDiff, and_self, true_and, x_lit, x_ofn, x_z0, x_z1, x_inbT, x_ltT, x_ltF, x_leT, x_leF, x_eqF, x_eqT, x_inb, x_lt, x_le, x_eq, x_cl, x_sub, nI_add, pk_mul, x_m1e, x_m1e', x_m1l, x_m1n, x_m1s, Nat.not_lt_zero, x_zb, x_b0, x_b1, decide_eq_false_iff_not, decide_eq_true_eq, Bool.false_eq_true, Bool.true_eq_false, k0, k2, l2, h1']
    · have hpos : 0 < (vP V f).length := List.length_pos_iff.mpr e0
      obtain ⟨n', rfl⟩ : ∃ k, n = k + 8 := ⟨n - 8, by omega⟩
      obtain ⟨σ', d5', d6', a1, a2, a3⟩ := XL_in ht hls0 wn wc (f := f) (by omega) e0 8 0 n' σ d6 rfl (by omega) hN hP (by rw [mvI_0, List.append_nil]; exact hS)
      rw [mvI_0, List.append_nil] at a1
      obtain ⟨τ, t1, t2, t3⟩ := ih (f + 1) n' σ' d5' d6' (by omega) (by omega) (by omega) (TN_fr hN (a3.2.1 t (hht t (by omega) (by omega)))) (TP_fr hP (fun j h1 h2 => a3.2.1 j (hht j h1 h2))) a2
      refine ⟨τ, ?_, t2, frL_tr a3 t3⟩
      rw [← t1, ← a1]
      obtain ⟨N, eN⟩ : ∃ N, N = n' + 8 := ⟨_, rfl⟩
      rw [← eN]
      have e2 : ∀ lv st τ, am_it hd_X6_listMoves (N + 1) 28 lv st τ = dn_X6_listMoves_28 (am_it hd_X6_listMoves N) lv st τ := fun _ _ _ => rfl
      rw [e2]
      simp (disch := omega) only [↓e_X6_listMoves_5, ↓e_X6_listMoves_25, ↓h_X6_listMoves_5, ↓it_s, ↓y_iload, ↓y_lload, ↓y_aload, ↓y_istore, ↓y_lstore, ↓y_astore, ↓y_iinc, ↓y_cI, ↓y_cL, ↓y_bin, ↓y_binL, ↓y_div, ↓y_divL, ↓y_lshl, ↓y_un, ↓y_i2l, ↓y_lneg, ↓y_l2i, ↓y_lcmp, ↓y_dupI, ↓y_dupR, ↓y_dup2, ↓y_pop, ↓y_goto, ↓y_eq0, ↓y_lt0, ↓y_le0, ↓y_eq, ↓y_lt, ↓y_le, ↓y_switch, ↓y_sw0, ↓y_sw1, ↓y_getI, ↓y_getL, ↓y_getR, ↓y_getT, ↓y_putI, ↓y_putZ, ↓y_putL, ↓y_putT, ↓y_iald, ↓y_bald, ↓y_lald, ↓y_aald, ↓y_iast, ↓y_bast, ↓y_last, ↓y_alen, ↓y_iret, ↓y_zret, ↓y_lret, ↓y_vret, ↓y_svI, ↓y_svL, ↓y_svV, ↓y_ivI, ↓y_ivL, ↓y_ivV, ↓y_max, ↓y_min, ↓y_absL, ↓y_cpI, ↓y_cpL, ↓x_n1I, ↓x_n1L, ↓x_n1R, ↓x_n0I, ↓x_n0L, ↓x_n0R, ↓x_s0, ↓x_s1i, ↓x_s1r, ↓x_s1n, ↓x_s2, ↓x_c0, ↓x_c2, ↓x_tk0, ↓x_tk1, ↓x_rcv, x_rI1, x_rL1, x_rV1, x_rIn, x_rLn, x_rVn, x_rIf, x_rLf, x_rVf, x_40, x_41, x_42, x_43, x_44, ↓reduceIte, if_true, if_false, ao_iadd, ao_isub, ao_imul, ao_iand, ao_ior, ao_ishl, ao_ishr, ao_iushr, ao_ladd, ao_lsub, ao_lmul, ao_land, ao_lor, ao_idiv, ao_irem, ao_ldiv, ao_lrem, ao_ineg, ao_i2b, ao_i2s, Nat.reduceAdd, Nat.reduceMul, Nat.reduceSub, Nat.reduceEqDiff, Nat.reduceLeDiff, and_self, true_and, x_lit, x_ofn, x_z0, x_z1, x_inbT, x_ltT, x_ltF, x_leT, x_leF, x_eqF, x_eqT, x_inb, x_lt, x_le, x_eq, x_cl, x_sub, nI_add, pk_mul, x_m1e, x_m1e', x_m1l, x_m1n, x_m1s, Nat.not_lt_zero, x_zb, x_b0, x_b1, decide_eq_false_iff_not, decide_eq_true_eq, Bool.false_eq_true, Bool.true_eq_false, k0, k2, l2, h1]
theorem X_listMoves {t h start : Nat} {σ : am_M} {V : Vt} (ht : isT t) (hls : isLs h start) (wn : WN V) (wc : WC V) (hN : TN σ t V) (hP : TP σ t V) :
    ∃ τ, S_X6_listMoves [.ref t, .ref h, .int (nI start)] σ = some (some (.int (nI (mvL V).length)), τ) ∧ seg (τ.1 h) start (mvL V) ∧ frL h start σ τ := by
  obtain ⟨τ, t1, t2, t3⟩ := XL_out ht hls wn wc 7 0 (am_fuel + 1) σ none none rfl (by omega) (by unfold am_fuel; omega) hN hP seg_nil
  exact ⟨τ, t1, t2, t3⟩
