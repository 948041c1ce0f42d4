/-! the model: a card goes -/
theorem uA_uA (σ : am_M) (h : Nat) (f g : Nat → Int32) : am_uA (am_uA σ h f) h g = am_uA σ h g := by
  unfold am_uA
  have : va_up (va_up σ.1 h f) h g = va_up σ.1 h g := by
    funext a
    by_cases e : a = h
    · subst e; rw [up_s, up_s]
    · rw [up_n e, up_n e, up_n e]
  simp only [this]
theorem uI_uA (σ : am_M) (h k : Nat) (v : Int32) : am_uI σ h k v = am_uA σ h (va_up (σ.1 h) k v) := rfl
theorem uA_id {σ : am_M} {h : Nat} {f : Nat → Int32} (e : σ.1 h = f) : am_uA σ h f = σ := by
  unfold am_uA
  have : va_up σ.1 h f = σ.1 := by
    funext a
    by_cases e2 : a = h
    · subst e2; rw [up_s, e]
    · rw [up_n e2]
  simp only [this]
theorem up_id {α : Type} {f : Nat → α} {k : Nat} {v : α} (e : f k = v) : va_up f k v = f := by
  funext a
  by_cases e2 : a = k
  · subst e2; rw [up_s, e]
  · rw [up_n e2]
def wetC (f : Nat → Int32) (i : Nat) (x : Nat × Nat) : Nat → Int32 := va_up (va_up f (152 + i) (nI x.1)) (164 + i) (nI x.2)
theorem wetC_hi (f : Nat → Int32) (i : Nat) (x : Nat × Nat) (hi : i < 6) : ∀ j, (j < 140 ∨ 170 ≤ j) → wetC f i x j = f j := fun j hj => by unfold wetC; rw [up_n (by omega), up_n (by omega)]
theorem MC_wetC {f : Nat → Int32} {i : Nat} {x : Nat × Nat} {V : Vt} (h : MC f 0 V) (hw : WC V) (hn : vN V 5 ≤ 6) (hi : i < 6) : MC (wetC f i x) 0 (vuW V i x) := by
  have h1 := MC_uF (w := 2) (i := i) (x := x.1) h hw hn (by omega) hi
  have h2 := MC_uF (w := 4) (i := i) (x := x.2) h1 (WC_cg hw rfl rfl rfl) hn (by omega) hi
  simp only [Nat.reduceMul, Nat.reduceAdd, Nat.add_zero] at h2
  exact h2
theorem M_waters {i r : Nat} {σ : am_M} {V : Vt} (h : MC (σ.1 128) 0 V) (hn : vN V 5 ≤ 6) (hi : i < vN V 5) (hd : vF V 2 i ≤ 198 ∧ vF V 3 i ≤ 99 ∧ vF V 4 i ≤ 2) (hr : r ≤ 99) : S_X11_waters [.ref 123, .int (nI i), .int (nI r)] σ = some (none, am_uA σ 128 (wetC (σ.1 128) i (wet1 V i r))) := by
  have m6 := (MC_0 h).2.2.2.2.2
  have a2 := m6 2 i (by omega) hi
  have a3 := m6 3 i (by omega) hi
  have a4 := m6 4 i (by omega) hi
  simp only [Nat.reduceMul, Nat.reduceAdd] at a2 a3 a4
  obtain ⟨d2, d3, d4⟩ := hd
  have i1 : 152 + i + 12 = 164 + i := by omega
  have i2 : 152 + i + 6 = 158 + i := by omega
  unfold wetC
  by_cases e1 : vF V 4 i = 0
  · rw [e1] at a4
    by_cases e2 : vF V 3 i < vF V 2 i + r
    · simp (disch := omega) only [g_X11_waters, ↓e_X11_waters_57, ↓e_X11_waters_19, ↓e_X11_waters_0, ↓it_s, ↓y_iload, ↓y_lload, ↓y_aload, ↓y_istore, ↓y_lstore, ↓y_astore, ↓y_iinc, ↓y_cI, ↓y_cL, ↓y_bin, ↓y_binL, ↓y_div, ↓y_divL, ↓y_lshl, ↓y_un, ↓y_i2l, ↓y_lneg, ↓y_l2i, ↓y_lcmp, ↓y_dupI, ↓y_dupR, ↓y_dup2, ↓y_pop, ↓y_goto, ↓y_eq0, ↓y_lt0, ↓y_le0, ↓y_eq, ↓y_lt, ↓y_le, ↓y_switch, ↓y_sw0, ↓y_sw1, ↓y_getI, ↓y_getL, ↓y_getR, ↓y_getT, ↓y_putI, ↓y_putZ, ↓y_putL, ↓y_putT, ↓y_iald, ↓y_bald, ↓y_lald, ↓y_aald, ↓y_iast, ↓y_bast, ↓y_last, ↓y_alen, ↓y_iret, ↓y_zret, ↓y_lret, ↓y_vret, ↓y_svI, ↓y_svL, ↓y_svV, ↓y_ivI, ↓y_ivL, ↓y_ivV, ↓y_max, ↓y_min, ↓y_absL, ↓y_cpI, ↓y_cpL, ↓x_n1I, ↓x_n1L, ↓x_n1R, ↓x_n0I, ↓x_n0L, ↓x_n0R, ↓x_s0, ↓x_s1i, ↓x_s1r, ↓x_s1n, ↓x_s2, ↓x_c0, ↓x_c2, ↓x_tk0, ↓x_tk1, ↓x_rcv, x_rI1, x_rL1, x_rV1, x_rIn, x_rLn, x_rVn, x_rIf, x_rLf, x_rVf, x_40, x_41, x_42, x_43, x_44, ↓reduceIte, if_true, if_false, ao_iadd, ao_isub, ao_imul, ao_iand, ao_ior, ao_ishl, ao_ishr, ao_iushr, ao_ladd, ao_lsub, ao_lmul, ao_land, ao_lor, ao_idiv, ao_irem, ao_ldiv, ao_lrem, ao_ineg, ao_i2b, ao_i2s, Nat.reduceAdd, Nat.reduceMul, Nat.reduceSub, Nat.reduceEqDiff, Nat.reduceLeDiff, and_self, true_and, x_lit, x_ofn, x_z0, x_z1, x_inbT, x_ltT, x_ltF, x_leT, x_leF, x_eqF, x_eqT, x_inb, x_lt, x_le, x_eq, x_cl, x_sub, nI_add, pk_mul, x_m1e, x_m1e', x_m1l, x_m1n, x_m1s, Nat.not_lt_zero, x_zb, x_b0, x_b1, decide_eq_false_iff_not, decide_eq_true_eq, Bool.false_eq_true, Bool.true_eq_false, kd_123, kd_128, ln_128, i1, i2, a2, a3, a4, uI_s, up_s, up_n]
      simp [wet1, e1, e2, uI_uA, uA_uA, uA_s]
    · simp (disch := omega) only [g_X11_waters, ↓e_X11_waters_57, ↓e_X11_waters_19, ↓e_X11_waters_0, ↓it_s, ↓y_iload, ↓y_lload, ↓y_aload, ↓y_istore, ↓y_lstore, ↓y_astore, ↓y_iinc, ↓y_cI, ↓y_cL, ↓y_bin, ↓y_binL, ↓y_div, ↓y_divL, ↓y_lshl, ↓y_un, ↓y_i2l, ↓y_lneg, ↓y_l2i, ↓y_lcmp, ↓y_dupI, ↓y_dupR, ↓y_dup2, ↓y_pop, ↓y_goto, ↓y_eq0, ↓y_lt0, ↓y_le0, ↓y_eq, ↓y_lt, ↓y_le, ↓y_switch, ↓y_sw0, ↓y_sw1, ↓y_getI, ↓y_getL, ↓y_getR, ↓y_getT, ↓y_putI, ↓y_putZ, ↓y_putL, ↓y_putT, ↓y_iald, ↓y_bald, ↓y_lald, ↓y_aald, ↓y_iast, ↓y_bast, ↓y_last, ↓y_alen, ↓y_iret, ↓y_zret, ↓y_lret, ↓y_vret, ↓y_svI, ↓y_svL, ↓y_svV, ↓y_ivI, ↓y_ivL, ↓y_ivV, ↓y_max, ↓y_min, ↓y_absL, ↓y_cpI, ↓y_cpL, ↓x_n1I, ↓x_n1L, ↓x_n1R, ↓x_n0I, ↓x_n0L, ↓x_n0R, ↓x_s0, ↓x_s1i, ↓x_s1r, ↓x_s1n, ↓x_s2, ↓x_c0, ↓x_c2, ↓x_tk0, ↓x_tk1, ↓x_rcv, x_rI1, x_rL1, x_rV1, x_rIn, x_rLn, x_rVn, x_rIf, x_rLf, x_rVf, x_40, x_41, x_42, x_43, x_44, ↓reduceIte, if_true, if_false, ao_iadd, ao_isub, ao_imul, ao_iand, ao_ior, ao_ishl, ao_ishr, ao_iushr, ao_ladd, ao_lsub, ao_lmul, ao_land, ao_lor, ao_idiv, ao_irem, ao_ldiv, ao_lrem, ao_ineg, ao_i2b, ao_i2s, Nat.reduceAdd, Nat.reduceMul, Nat.reduceSub, Nat.reduceEqDiff, Nat.reduceLeDiff, and_self, true_and, x_lit, x_ofn, x_z0, x_z1, x_inbT, x_ltT, x_ltF, x_leT, x_leF, x_eqF, x_eqT, x_inb, x_lt, x_le, x_eq, x_cl, x_sub, nI_add, pk_mul, x_m1e, x_m1e', x_m1l, x_m1n, x_m1s, Nat.not_lt_zero, x_zb, x_b0, x_b1, decide_eq_false_iff_not, decide_eq_true_eq, Bool.false_eq_true, Bool.true_eq_false, kd_123, kd_128, ln_128, i1, i2, a2, a3, a4, uI_s, up_s, up_n]
      simp [wet1, e1, e2, uI_uA, uA_uA, uA_s]
      rw [up_id (k := 164 + i) (by rw [up_n (by omega), a4])]
  · simp (disch := omega) only [g_X11_waters, ↓e_X11_waters_57, ↓e_X11_waters_19, ↓e_X11_waters_0, ↓it_s, ↓y_iload, ↓y_lload, ↓y_aload, ↓y_istore, ↓y_lstore, ↓y_astore, ↓y_iinc, ↓y_cI, ↓y_cL, ↓y_bin, ↓y_binL, ↓y_div, ↓y_divL, ↓y_lshl, ↓y_un, ↓y_i2l, ↓y_lneg, ↓y_l2i, ↓y_lcmp, ↓y_dupI, ↓y_dupR, ↓y_dup2, ↓y_pop, ↓y_goto, ↓y_eq0, ↓y_lt0, ↓y_le0, ↓y_eq, ↓y_lt, ↓y_le, ↓y_switch, ↓y_sw0, ↓y_sw1, ↓y_getI, ↓y_getL, ↓y_getR, ↓y_getT, ↓y_putI, ↓y_putZ, ↓y_putL, ↓y_putT, ↓y_iald, ↓y_bald, ↓y_lald, ↓y_aald, ↓y_iast, ↓y_bast, ↓y_last, ↓y_alen, ↓y_iret, ↓y_zret, ↓y_lret, ↓y_vret, ↓y_svI, ↓y_svL, ↓y_svV, ↓y_ivI, ↓y_ivL, ↓y_ivV, ↓y_max, ↓y_min, ↓y_absL, ↓y_cpI, ↓y_cpL, ↓x_n1I, ↓x_n1L, ↓x_n1R, ↓x_n0I, ↓x_n0L, ↓x_n0R, ↓x_s0, ↓x_s1i, ↓x_s1r, ↓x_s1n, ↓x_s2, ↓x_c0, ↓x_c2, ↓x_tk0, ↓x_tk1, ↓x_rcv, x_rI1, x_rL1, x_rV1, x_rIn, x_rLn, x_rVn, x_rIf, x_rLf, x_rVf, x_40, x_41, x_42, x_43, x_44, ↓reduceIte, if_true, if_false, ao_iadd, ao_isub, ao_imul, ao_iand, ao_ior, ao_ishl, ao_ishr, ao_iushr, ao_ladd, ao_lsub, ao_lmul, ao_land, ao_lor, ao_idiv, ao_irem, ao_ldiv, ao_lrem, ao_ineg, ao_i2b, ao_i2s, Nat.reduceAdd, Nat.reduceMul, Nat.reduceSub, Nat.reduceEqDiff, Nat.reduceLeDiff, and_self, true_and, x_lit, x_ofn, x_z0, x_z1, x_inbT, x_ltT, x_ltF, x_leT, x_leF, x_eqF, x_eqT, x_inb, x_lt, x_le, x_eq, x_cl, x_sub, nI_add, pk_mul, x_m1e, x_m1e', x_m1l, x_m1n, x_m1s, Nat.not_lt_zero, x_zb, x_b0, x_b1, decide_eq_false_iff_not, decide_eq_true_eq, Bool.false_eq_true, Bool.true_eq_false, kd_123, kd_128, ln_128, i1, i2, a2, a3, a4]
    simp [wet1, e1]
    rw [up_id a2, up_id a4, uA_id rfl]
theorem M_goes_loop {V : Vt} {c : Nat} {a1 a2 : Option Value} (hw : WC V) (hn : WN V) (hd : WFd V) (hc : c < 24) : ∀ (m i n : Nat) (σ : am_M), vN V 5 - i = m → i ≤ vN V 5 → m < n → MC (σ.1 128) 0 (wetTo V (c / 6) (c % 6 + 1) i) →
    ∃ g, am_it hd_X11_goes n 102 [some (.ref 123), a1, a2, some (.int (nI c)), some (.int (nI i))] [] σ = some (some (.int (nI c)), am_uA σ 128 g) ∧ MC g 0 (wetAll V (c / 6) (c % 6 + 1)) ∧ ∀ j, (j < 140 ∨ 170 ≤ j) → g j = σ.1 128 j := by
  have h6 := hn.2.2.2.2.2.1
  have hs4 := hn.2.1
  intro m
  induction m with
  | zero =>
    intro i n σ hm hi hn h
    have e : i = vN V 5 := by omega
    obtain ⟨n, rfl⟩ : ∃ k, n = k + 1 := ⟨n - 1, by omega⟩
    have h1 : σ.1 128 5 = nI (vN V 5) := (MC_0 h).1 5 (by omega)
    refine ⟨σ.1 128, ?_, by rw [e] at h; exact h, fun _ _ => rfl⟩
    rw [uA_id rfl]
    simp (disch := omega) only [g_X11_goes, ↓e_X11_goes_147, ↓e_X11_goes_141, ↓e_X11_goes_102, ↓e_X11_goes_83, ↓e_X11_goes_39, ↓e_X11_goes_26, ↓e_X11_goes_0, ↓h_X11_goes_102, ↓it_s, ↓y_iload, ↓y_lload, ↓y_aload, ↓y_istore, ↓y_lstore, ↓y_astore, ↓y_iinc, ↓y_cI, ↓y_cL, ↓y_bin, ↓y_binL, ↓y_div, ↓y_divL, ↓y_lshl, ↓y_un, ↓y_i2l, ↓y_lneg, ↓y_l2i, ↓y_lcmp, ↓y_dupI, ↓y_dupR, ↓y_dup2, ↓y_pop, ↓y_goto, ↓y_eq0, ↓y_lt0, ↓y_le0, ↓y_eq, ↓y_lt, ↓y_le, ↓y_switch, ↓y_sw0, ↓y_sw1, ↓y_getI, ↓y_getL, ↓y_getR, ↓y_getT, ↓y_putI, ↓y_putZ, ↓y_putL, ↓y_putT, ↓y_iald, ↓y_bald, ↓y_lald, ↓y_aald, ↓y_iast, ↓y_bast, ↓y_last, ↓y_alen, ↓y_iret, ↓y_zret, ↓y_lret, ↓y_vret, ↓y_svI, ↓y_svL, ↓y_svV, ↓y_ivI, ↓y_ivL, ↓y_ivV, ↓y_max, ↓y_min, ↓y_absL, ↓y_cpI, ↓y_cpL, ↓x_n1I, ↓x_n1L, ↓x_n1R, ↓x_n0I, ↓x_n0L, ↓x_n0R, ↓x_s0, ↓x_s1i, ↓x_s1r, ↓x_s1n, ↓x_s2, ↓x_c0, ↓x_c2, ↓x_tk0, ↓x_tk1, ↓x_rcv, x_rI1, x_rL1, x_rV1, x_rIn, x_rLn, x_rVn, x_rIf, x_rLf, x_rVf, x_40, x_41, x_42, x_43, x_44, ↓reduceIte, if_true, if_false, ao_iadd, ao_isub, ao_imul, ao_iand, ao_ior, ao_ishl, ao_ishr, ao_iushr, ao_ladd, ao_lsub, ao_lmul, ao_land, ao_lor, ao_idiv, ao_irem, ao_ldiv, ao_lrem, ao_ineg, ao_i2b, ao_i2s, Nat.reduceAdd, Nat.reduceMul, Nat.reduceSub, Nat.reduceEqDiff, Nat.reduceLeDiff, and_self, true_and, x_lit, x_ofn, x_z0, x_z1, x_inbT, x_ltT, x_ltF, x_leT, x_leF, x_eqF, x_eqT, x_inb, x_lt, x_le, x_eq, x_cl, x_sub, nI_add, pk_mul, x_m1e, x_m1e', x_m1l, x_m1n, x_m1s, Nat.not_lt_zero, x_zb, x_b0, x_b1, decide_eq_false_iff_not, decide_eq_true_eq, Bool.false_eq_true, Bool.true_eq_false, kd_123, kd_128, ln_128, h1]
  | succ m ih =>
    intro i n σ hm hi hn h
    have hlt : i < vN V 5 := by omega
    obtain ⟨n, rfl⟩ : ∃ k, n = k + 1 := ⟨n - 1, by omega⟩
    have h1 : σ.1 128 5 = nI (vN V 5) := (MC_0 h).1 5 (by omega)
    have a0 := (MC_0 h).2.2.2.2.2 0 i (by omega) hlt
    obtain ⟨b0, b1, b2', b3, b4⟩ := hd i hlt
    rw [wetTo_0f] at a0
    simp only [Nat.reduceMul, Nat.reduceAdd] at a0
    by_cases e : vF V 0 i = c / 6
    · have hwet := M_waters (i := i) (r := c % 6 + 1) h h6 hlt (by rw [wetTo_ge (Nat.le_refl i), wetTo_ge (Nat.le_refl i), wetTo_ge (Nat.le_refl i)]; exact ⟨b2', b3, b4⟩) (by omega)
      have e1 : wet1 (wetTo V (c / 6) (c % 6 + 1) i) i (c % 6 + 1) = wet1 V i (c % 6 + 1) := by unfold wet1; rw [wetTo_ge (Nat.le_refl i), wetTo_ge (Nat.le_refl i), wetTo_ge (Nat.le_refl i)]
      rw [e1] at hwet
      have hV := MC_wetC (i := i) (x := wet1 V i (c % 6 + 1)) h (WC_cg hw rfl rfl rfl) h6 (by omega)
      have e2 : vuW (wetTo V (c / 6) (c % 6 + 1) i) i (wet1 V i (c % 6 + 1)) = wetTo V (c / 6) (c % 6 + 1) (i + 1) := by rw [wetTo_s, if_pos e]
      rw [e2] at hV
      obtain ⟨g, t1, t2, t3⟩ := ih (i + 1) n (am_uA σ 128 (wetC (σ.1 128) i (wet1 V i (c % 6 + 1)))) (by omega) (by omega) (by omega) (by rw [uA_s]; exact hV)
      refine ⟨g, ?_, t2, fun j hj => (t3 j hj).trans (by rw [uA_s, wetC_hi _ _ _ (by omega) j hj])⟩
      rw [uA_uA] at t1
      simp (disch := omega) only [g_X11_goes, ↓e_X11_goes_147, ↓e_X11_goes_141, ↓e_X11_goes_102, ↓e_X11_goes_83, ↓e_X11_goes_39, ↓e_X11_goes_26, ↓e_X11_goes_0, ↓h_X11_goes_102, ↓it_s, ↓y_iload, ↓y_lload, ↓y_aload, ↓y_istore, ↓y_lstore, ↓y_astore, ↓y_iinc, ↓y_cI, ↓y_cL, ↓y_bin, ↓y_binL, ↓y_div, ↓y_divL, ↓y_lshl, ↓y_un, ↓y_i2l, ↓y_lneg, ↓y_l2i, ↓y_lcmp, ↓y_dupI, ↓y_dupR, ↓y_dup2, ↓y_pop, ↓y_goto, ↓y_eq0, ↓y_lt0, ↓y_le0, ↓y_eq, ↓y_lt, ↓y_le, ↓y_switch, ↓y_sw0, ↓y_sw1, ↓y_getI, ↓y_getL, ↓y_getR, ↓y_getT, ↓y_putI, ↓y_putZ, ↓y_putL, ↓y_putT, ↓y_iald, ↓y_bald, ↓y_lald, ↓y_aald, ↓y_iast, ↓y_bast, ↓y_last, ↓y_alen, ↓y_iret, ↓y_zret, ↓y_lret, ↓y_vret, ↓y_svI, ↓y_svL, ↓y_svV, ↓y_ivI, ↓y_ivL, ↓y_ivV, ↓y_max, ↓y_min, ↓y_absL, ↓y_cpI, ↓y_cpL, ↓x_n1I, ↓x_n1L, ↓x_n1R, ↓x_n0I, ↓x_n0L, ↓x_n0R, ↓x_s0, ↓x_s1i, ↓x_s1r, ↓x_s1n, ↓x_s2, ↓x_c0, ↓x_c2, ↓x_tk0, ↓x_tk1, ↓x_rcv, x_rI1, x_rL1, x_rV1, x_rIn, x_rLn, x_rVn, x_rIf, x_rLf, x_rVf, x_40, x_41, x_42, x_43, x_44, ↓reduceIte, if_true, if_false, ao_iadd, ao_isub, ao_imul, ao_iand, ao_ior, ao_ishl, ao_ishr, ao_iushr, ao_ladd, ao_lsub, ao_lmul, ao_land, ao_lor, ao_idiv, ao_irem, ao_ldiv, ao_lrem, ao_ineg, ao_i2b, ao_i2s, Nat.reduceAdd, Nat.reduceMul, Nat.reduceSub, Nat.reduceEqDiff, Nat.reduceLeDiff, and_self, true_and, x_lit, x_ofn, x_z0, x_z1, x_inbT, x_ltT, x_ltF, x_leT, x_leF, x_eqF, x_eqT, x_inb, x_lt, x_le, x_eq, x_cl, x_sub, nI_add, pk_mul, x_m1e, x_m1e', x_m1l, x_m1n, x_m1s, Nat.not_lt_zero, x_zb, x_b0, x_b1, decide_eq_false_iff_not, decide_eq_true_eq, Bool.false_eq_true, Bool.true_eq_false, kd_123, kd_128, ln_128, h1, M_suitOf, M_rankOf, a0, hwet]
      exact t1
    · have e2 : wetTo V (c / 6) (c % 6 + 1) i = wetTo V (c / 6) (c % 6 + 1) (i + 1) := by rw [wetTo_s, if_neg e]
      rw [e2] at h
      obtain ⟨g, t1, t2, t3⟩ := ih (i + 1) n σ (by omega) (by omega) (by omega) h
      refine ⟨g, ?_, t2, t3⟩
      simp (disch := omega) only [g_X11_goes, ↓e_X11_goes_147, ↓e_X11_goes_141, ↓e_X11_goes_102, ↓e_X11_goes_83, ↓e_X11_goes_39, ↓e_X11_goes_26, ↓e_X11_goes_0, ↓h_X11_goes_102, ↓it_s, ↓y_iload, ↓y_lload, ↓y_aload, ↓y_istore, ↓y_lstore, ↓y_astore, ↓y_iinc, ↓y_cI, ↓y_cL, ↓y_bin, ↓y_binL, ↓y_div, ↓y_divL, ↓y_lshl, ↓y_un, ↓y_i2l, ↓y_lneg, ↓y_l2i, ↓y_lcmp, ↓y_dupI, ↓y_dupR, ↓y_dup2, ↓y_pop, ↓y_goto, ↓y_eq0, ↓y_lt0, ↓y_le0, ↓y_eq, ↓y_lt, ↓y_le, ↓y_switch, ↓y_sw0, ↓y_sw1, ↓y_getI, ↓y_getL, ↓y_getR, ↓y_getT, ↓y_putI, ↓y_putZ, ↓y_putL, ↓y_putT, ↓y_iald, ↓y_bald, ↓y_lald, ↓y_aald, ↓y_iast, ↓y_bast, ↓y_last, ↓y_alen, ↓y_iret, ↓y_zret, ↓y_lret, ↓y_vret, ↓y_svI, ↓y_svL, ↓y_svV, ↓y_ivI, ↓y_ivL, ↓y_ivV, ↓y_max, ↓y_min, ↓y_absL, ↓y_cpI, ↓y_cpL, ↓x_n1I, ↓x_n1L, ↓x_n1R, ↓x_n0I, ↓x_n0L, ↓x_n0R, ↓x_s0, ↓x_s1i, ↓x_s1r, ↓x_s1n, ↓x_s2, ↓x_c0, ↓x_c2, ↓x_tk0, ↓x_tk1, ↓x_rcv, x_rI1, x_rL1, x_rV1, x_rIn, x_rLn, x_rVn, x_rIf, x_rLf, x_rVf, x_40, x_41, x_42, x_43, x_44, ↓reduceIte, if_true, if_false, ao_iadd, ao_isub, ao_imul, ao_iand, ao_ior, ao_ishl, ao_ishr, ao_iushr, ao_ladd, ao_lsub, ao_lmul, ao_land, ao_lor, ao_idiv, ao_irem, ao_ldiv, ao_lrem, ao_ineg, ao_i2b, ao_i2s, Nat.reduceAdd, Nat.reduceMul, Nat.reduceSub, Nat.reduceEqDiff, Nat.reduceLeDiff, and_self, true_and, x_lit, x_ofn, x_z0, x_z1, x_inbT, x_ltT, x_ltF, x_leT, x_leF, x_eqF, x_eqT, x_inb, x_lt, x_le, x_eq, x_cl, x_sub, nI_add, pk_mul, x_m1e, x_m1e', x_m1l, x_m1n, x_m1s, Nat.not_lt_zero, x_zb, x_b0, x_b1, decide_eq_false_iff_not, decide_eq_true_eq, Bool.false_eq_true, Bool.true_eq_false, kd_123, kd_128, ln_128, h1, M_suitOf, a0]
      exact t1
theorem mLen_lt {p : Nat} (h : p < 8) : mLen p < 20 := by
  unfold mLen; repeat' split
  all_goals omega
theorem wetAll_N (V : Vt) (s r k : Nat) : vN (wetAll V s r) k = vN V k := rfl
theorem M_goes {σ : am_M} {V : Vt} {f to c : Nat} (h : MC (σ.1 128) 0 V) (hw : WC V) (hn : WN V) (hd : WFd V) (hf : f < 7) (hto : to < 8) (h6 : to ≠ 6) (hft : f ≠ to) (hc : (vP V f).getLast? = some c) (h7 : to = 7 → vH V (c / 6) < 6) (hl : to ≠ 7 → (vP V to).length < 12) :
    ∃ g, S_X11_goes [.ref 123, .int (nI f), .int (nI to)] σ = some (some (.int (nI c)), am_uA σ 128 g) ∧ MC g 0 (moveV V f to c) ∧ ∀ j, 170 ≤ j → g j = σ.1 128 j := by
  obtain ⟨m1, m2, m3, m4, m5, m6⟩ := MC_0 h
  have hc24 : c < 24 := hw.1 f (by omega) c (List.mem_of_getLast? hc)
  have hp := WC_pop hw (show f < 8 by omega)
  obtain ⟨q1, q2⟩ := MC_pile (p := f) h (by omega)
  simp only [Nat.add_zero] at q1 q2
  have h0 := (seg_last q2 hc).1
  have hlen := hw.len (p := f) (by omega)
  -- the pile that is taken from
  have hpop : MC (va_up (σ.1 128) (mLen f) (nI ((vP V f).length - 1))) 0 (popP V f) := by
    have hb := hw.len (p := f) (by omega)
    have hb2 : f < 6 → (vP V f).length ≤ 12 := hw.2.2.1 f
    refine MC_uP h hw (by omega) (fun j h1 h2 => up_n (by simpa using h1)) ?_ ?_
    · rw [Nat.add_zero, up_s, List.length_dropLast]
    · refine seg_out (l := (vP V f).dropLast) (by simpa using seg_dl q2) ?_
      rw [List.length_dropLast]
      unfold mLen mBeg
      repeat' split
      all_goals omega
  by_cases e7 : to = 7
  · subst e7
    have hh := m4 (c / 6) (by omega)
    have hh6 := h7 rfl
    -- home
    have hM : MC (va_up (va_up (σ.1 128) (mLen f) (nI ((vP V f).length - 1))) (10 + c / 6) (nI (vH V (c / 6) + 1))) 0 (moveC V f 7 c) := by
      have := MC_uH (s := c / 6) (x := vH V (c / 6) + 1) hpop (by omega)
      simp only [Nat.add_zero] at this
      exact this
    have hwc : WC (moveC V f 7 c) := WC_uH hp (by omega)
    obtain ⟨g, t1, t2, t3⟩ := M_goes_loop (a1 := some (.int (nI f))) (a2 := some (.int (nI 7))) hwc (V := moveC V f 7 c) hn hd hc24 (vN V 5) 0 (am_fuel + 1) (am_uA σ 128 (va_up (va_up (σ.1 128) (mLen f) (nI ((vP V f).length - 1))) (10 + c / 6) (nI (vH V (c / 6) + 1)))) rfl (Nat.zero_le _) (by have := hn.2.2.2.2.2.1; unfold am_fuel; omega) (by rw [wetTo_0, uA_s]; exact hM)
    rw [uA_uA] at t1
    refine ⟨g, ?_, t2, fun j hj => ?_⟩
    · rw [← t1]
      by_cases e6 : f = 6
      · subst e6
        have q1' : σ.1 128 9 = nI (vP V 6).length := m3.1
        simp (disch := omega) only [g_X11_goes, ↓e_X11_goes_147, ↓e_X11_goes_141, ↓e_X11_goes_102, ↓e_X11_goes_83, ↓e_X11_goes_39, ↓e_X11_goes_26, ↓e_X11_goes_0, ↓h_X11_goes_102, ↓it_s, ↓y_iload, ↓y_lload, ↓y_aload, ↓y_istore, ↓y_lstore, ↓y_astore, ↓y_iinc, ↓y_cI, ↓y_cL, ↓y_bin, ↓y_binL, ↓y_div, ↓y_divL, ↓y_lshl, ↓y_un, ↓y_i2l, ↓y_lneg, ↓y_l2i, ↓y_lcmp, ↓y_dupI, ↓y_dupR, ↓y_dup2, ↓y_pop, ↓y_goto, ↓y_eq0, ↓y_lt0, ↓y_le0, ↓y_eq, ↓y_lt, ↓y_le, ↓y_switch, ↓y_sw0, ↓y_sw1, ↓y_getI, ↓y_getL, ↓y_getR, ↓y_getT, ↓y_putI, ↓y_putZ, ↓y_putL, ↓y_putT, ↓y_iald, ↓y_bald, ↓y_lald, ↓y_aald, ↓y_iast, ↓y_bast, ↓y_last, ↓y_alen, ↓y_iret, ↓y_zret, ↓y_lret, ↓y_vret, ↓y_svI, ↓y_svL, ↓y_svV, ↓y_ivI, ↓y_ivL, ↓y_ivV, ↓y_max, ↓y_min, ↓y_absL, ↓y_cpI, ↓y_cpL, ↓x_n1I, ↓x_n1L, ↓x_n1R, ↓x_n0I, ↓x_n0L, ↓x_n0R, ↓x_s0, ↓x_s1i, ↓x_s1r, ↓x_s1n, ↓x_s2, ↓x_c0, ↓x_c2, ↓x_tk0, ↓x_tk1, ↓x_rcv, x_rI1, x_rL1, x_rV1, x_rIn, x_rLn, x_rVn, x_rIf, x_rLf, x_rVf, x_40, x_41, x_42, x_43, x_44, ↓reduceIte, if_true, if_false, ao_iadd, ao_isub, ao_imul, ao_iand, ao_ior, ao_ishl, ao_ishr, ao_iushr, ao_ladd, ao_lsub, ao_lmul, ao_land, ao_lor, ao_idiv, ao_irem, ao_ldiv, ao_lrem, ao_ineg, ao_i2b, ao_i2s, Nat.reduceAdd, Nat.reduceMul, Nat.reduceSub, Nat.reduceEqDiff, Nat.reduceLeDiff, and_self, true_and, x_lit, x_ofn, x_z0, x_z1, x_inbT, x_ltT, x_ltF, x_leT, x_leF, x_eqF, x_eqT, x_inb, x_lt, x_le, x_eq, x_cl, x_sub, nI_add, pk_mul, x_m1e, x_m1e', x_m1l, x_m1n, x_m1s, Nat.not_lt_zero, x_zb, x_b0, x_b1, decide_eq_false_iff_not, decide_eq_true_eq, Bool.false_eq_true, Bool.true_eq_false, kd_123, kd_128, ln_128, M_topCard h hw hf, topI_some hc, M_suitOf, q1', hh, uI_s, up_s, up_n, uI_uA, uA_uA, uA_s, show mLen 6 = 9 from rfl]
      · have q1' : σ.1 128 (14 + f) = nI (vP V f).length := (m5 f (by omega)).1
        simp (disch := omega) only [g_X11_goes, ↓e_X11_goes_147, ↓e_X11_goes_141, ↓e_X11_goes_102, ↓e_X11_goes_83, ↓e_X11_goes_39, ↓e_X11_goes_26, ↓e_X11_goes_0, ↓h_X11_goes_102, ↓it_s, ↓y_iload, ↓y_lload, ↓y_aload, ↓y_istore, ↓y_lstore, ↓y_astore, ↓y_iinc, ↓y_cI, ↓y_cL, ↓y_bin, ↓y_binL, ↓y_div, ↓y_divL, ↓y_lshl, ↓y_un, ↓y_i2l, ↓y_lneg, ↓y_l2i, ↓y_lcmp, ↓y_dupI, ↓y_dupR, ↓y_dup2, ↓y_pop, ↓y_goto, ↓y_eq0, ↓y_lt0, ↓y_le0, ↓y_eq, ↓y_lt, ↓y_le, ↓y_switch, ↓y_sw0, ↓y_sw1, ↓y_getI, ↓y_getL, ↓y_getR, ↓y_getT, ↓y_putI, ↓y_putZ, ↓y_putL, ↓y_putT, ↓y_iald, ↓y_bald, ↓y_lald, ↓y_aald, ↓y_iast, ↓y_bast, ↓y_last, ↓y_alen, ↓y_iret, ↓y_zret, ↓y_lret, ↓y_vret, ↓y_svI, ↓y_svL, ↓y_svV, ↓y_ivI, ↓y_ivL, ↓y_ivV, ↓y_max, ↓y_min, ↓y_absL, ↓y_cpI, ↓y_cpL, ↓x_n1I, ↓x_n1L, ↓x_n1R, ↓x_n0I, ↓x_n0L, ↓x_n0R, ↓x_s0, ↓x_s1i, ↓x_s1r, ↓x_s1n, ↓x_s2, ↓x_c0, ↓x_c2, ↓x_tk0, ↓x_tk1, ↓x_rcv, x_rI1, x_rL1, x_rV1, x_rIn, x_rLn, x_rVn, x_rIf, x_rLf, x_rVf, x_40, x_41, x_42, x_43, x_44, ↓reduceIte, if_true, if_false, ao_iadd, ao_isub, ao_imul, ao_iand, ao_ior, ao_ishl, ao_ishr, ao_iushr, ao_ladd, ao_lsub, ao_lmul, ao_land, ao_lor, ao_idiv, ao_irem, ao_ldiv, ao_lrem, ao_ineg, ao_i2b, ao_i2s, Nat.reduceAdd, Nat.reduceMul, Nat.reduceSub, Nat.reduceEqDiff, Nat.reduceLeDiff, and_self, true_and, x_lit, x_ofn, x_z0, x_z1, x_inbT, x_ltT, x_ltF, x_leT, x_leF, x_eqF, x_eqT, x_inb, x_lt, x_le, x_eq, x_cl, x_sub, nI_add, pk_mul, x_m1e, x_m1e', x_m1l, x_m1n, x_m1s, Nat.not_lt_zero, x_zb, x_b0, x_b1, decide_eq_false_iff_not, decide_eq_true_eq, Bool.false_eq_true, Bool.true_eq_false, kd_123, kd_128, ln_128, M_topCard h hw hf, topI_some hc, M_suitOf, q1', hh, uI_s, up_s, up_n, uI_uA, uA_uA, uA_s, show mLen f = 14 + f by unfold mLen; rw [if_pos (by omega)]]
    · have := mLen_lt (p := f) (by omega)
      rw [t3 j (by omega), uA_s, up_n (by omega), up_n (by omega)]
  · have ht : to < 6 := by omega
    have hlt := hl e7
    have e1 : vP (popP V f) to = vP V to := popP_same (fun q => hft q.symm)
    have qt := m5 to ht
    have hne : mLen f ≠ 14 + to := by
      unfold mLen; repeat' split
      all_goals omega
    have hb := mLen_lt (p := f) (by omega)
    refine ⟨va_up (va_up (va_up (σ.1 128) (mLen f) (nI ((vP V f).length - 1))) (20 + 12 * to + (vP V to).length) (nI c)) (14 + to) (nI ((vP V to).length + 1)), ?_, ?_, fun j hj => ?_⟩
    · have e7' : ¬ to = 7 := e7
      by_cases e6 : f = 6
      · subst e6
        have q1' : σ.1 128 9 = nI (vP V 6).length := m3.1
        simp (disch := omega) only [g_X11_goes, ↓e_X11_goes_147, ↓e_X11_goes_141, ↓e_X11_goes_102, ↓e_X11_goes_83, ↓e_X11_goes_39, ↓e_X11_goes_26, ↓e_X11_goes_0, ↓h_X11_goes_102, ↓it_s, ↓y_iload, ↓y_lload, ↓y_aload, ↓y_istore, ↓y_lstore, ↓y_astore, ↓y_iinc, ↓y_cI, ↓y_cL, ↓y_bin, ↓y_binL, ↓y_div, ↓y_divL, ↓y_lshl, ↓y_un, ↓y_i2l, ↓y_lneg, ↓y_l2i, ↓y_lcmp, ↓y_dupI, ↓y_dupR, ↓y_dup2, ↓y_pop, ↓y_goto, ↓y_eq0, ↓y_lt0, ↓y_le0, ↓y_eq, ↓y_lt, ↓y_le, ↓y_switch, ↓y_sw0, ↓y_sw1, ↓y_getI, ↓y_getL, ↓y_getR, ↓y_getT, ↓y_putI, ↓y_putZ, ↓y_putL, ↓y_putT, ↓y_iald, ↓y_bald, ↓y_lald, ↓y_aald, ↓y_iast, ↓y_bast, ↓y_last, ↓y_alen, ↓y_iret, ↓y_zret, ↓y_lret, ↓y_vret, ↓y_svI, ↓y_svL, ↓y_svV, ↓y_ivI, ↓y_ivL, ↓y_ivV, ↓y_max, ↓y_min, ↓y_absL, ↓y_cpI, ↓y_cpL, ↓x_n1I, ↓x_n1L, ↓x_n1R, ↓x_n0I, ↓x_n0L, ↓x_n0R, ↓x_s0, ↓x_s1i, ↓x_s1r, ↓x_s1n, ↓x_s2, ↓x_c0, ↓x_c2, ↓x_tk0, ↓x_tk1, ↓x_rcv, x_rI1, x_rL1, x_rV1, x_rIn, x_rLn, x_rVn, x_rIf, x_rLf, x_rVf, x_40, x_41, x_42, x_43, x_44, ↓reduceIte, if_true, if_false, ao_iadd, ao_isub, ao_imul, ao_iand, ao_ior, ao_ishl, ao_ishr, ao_iushr, ao_ladd, ao_lsub, ao_lmul, ao_land, ao_lor, ao_idiv, ao_irem, ao_ldiv, ao_lrem, ao_ineg, ao_i2b, ao_i2s, Nat.reduceAdd, Nat.reduceMul, Nat.reduceSub, Nat.reduceEqDiff, Nat.reduceLeDiff, and_self, true_and, x_lit, x_ofn, x_z0, x_z1, x_inbT, x_ltT, x_ltF, x_leT, x_leF, x_eqF, x_eqT, x_inb, x_lt, x_le, x_eq, x_cl, x_sub, nI_add, pk_mul, x_m1e, x_m1e', x_m1l, x_m1n, x_m1s, Nat.not_lt_zero, x_zb, x_b0, x_b1, decide_eq_false_iff_not, decide_eq_true_eq, Bool.false_eq_true, Bool.true_eq_false, kd_123, kd_128, ln_128, M_topCard h hw hf, topI_some hc, q1', qt.1, uI_s, up_s, up_n, uI_uA, uA_uA, uA_s, show mLen 6 = 9 from rfl]
      · have q1' : σ.1 128 (14 + f) = nI (vP V f).length := (m5 f (by omega)).1
        simp (disch := omega) only [g_X11_goes, ↓e_X11_goes_147, ↓e_X11_goes_141, ↓e_X11_goes_102, ↓e_X11_goes_83, ↓e_X11_goes_39, ↓e_X11_goes_26, ↓e_X11_goes_0, ↓h_X11_goes_102, ↓it_s, ↓y_iload, ↓y_lload, ↓y_aload, ↓y_istore, ↓y_lstore, ↓y_astore, ↓y_iinc, ↓y_cI, ↓y_cL, ↓y_bin, ↓y_binL, ↓y_div, ↓y_divL, ↓y_lshl, ↓y_un, ↓y_i2l, ↓y_lneg, ↓y_l2i, ↓y_lcmp, ↓y_dupI, ↓y_dupR, ↓y_dup2, ↓y_pop, ↓y_goto, ↓y_eq0, ↓y_lt0, ↓y_le0, ↓y_eq, ↓y_lt, ↓y_le, ↓y_switch, ↓y_sw0, ↓y_sw1, ↓y_getI, ↓y_getL, ↓y_getR, ↓y_getT, ↓y_putI, ↓y_putZ, ↓y_putL, ↓y_putT, ↓y_iald, ↓y_bald, ↓y_lald, ↓y_aald, ↓y_iast, ↓y_bast, ↓y_last, ↓y_alen, ↓y_iret, ↓y_zret, ↓y_lret, ↓y_vret, ↓y_svI, ↓y_svL, ↓y_svV, ↓y_ivI, ↓y_ivL, ↓y_ivV, ↓y_max, ↓y_min, ↓y_absL, ↓y_cpI, ↓y_cpL, ↓x_n1I, ↓x_n1L, ↓x_n1R, ↓x_n0I, ↓x_n0L, ↓x_n0R, ↓x_s0, ↓x_s1i, ↓x_s1r, ↓x_s1n, ↓x_s2, ↓x_c0, ↓x_c2, ↓x_tk0, ↓x_tk1, ↓x_rcv, x_rI1, x_rL1, x_rV1, x_rIn, x_rLn, x_rVn, x_rIf, x_rLf, x_rVf, x_40, x_41, x_42, x_43, x_44, ↓reduceIte, if_true, if_false, ao_iadd, ao_isub, ao_imul, ao_iand, ao_ior, ao_ishl, ao_ishr, ao_iushr, ao_ladd, ao_lsub, ao_lmul, ao_land, ao_lor, ao_idiv, ao_irem, ao_ldiv, ao_lrem, ao_ineg, ao_i2b, ao_i2s, Nat.reduceAdd, Nat.reduceMul, Nat.reduceSub, Nat.reduceEqDiff, Nat.reduceLeDiff, and_self, true_and, x_lit, x_ofn, x_z0, x_z1, x_inbT, x_ltT, x_ltF, x_leT, x_leF, x_eqF, x_eqT, x_inb, x_lt, x_le, x_eq, x_cl, x_sub, nI_add, pk_mul, x_m1e, x_m1e', x_m1l, x_m1n, x_m1s, Nat.not_lt_zero, x_zb, x_b0, x_b1, decide_eq_false_iff_not, decide_eq_true_eq, Bool.false_eq_true, Bool.true_eq_false, kd_123, kd_128, ln_128, M_topCard h hw hf, topI_some hc, q1', qt.1, uI_s, up_s, up_n, uI_uA, uA_uA, uA_s, show mLen f = 14 + f by unfold mLen; rw [if_pos (by omega)]]
    · unfold moveV
      rw [if_neg e7]
      unfold moveC
      rw [if_neg e7]
      have hm1 : mLen to = 14 + to := by unfold mLen; rw [if_pos ht]
      have hm2 : mBeg to = 20 + 12 * to := by unfold mBeg; rw [if_pos ht]
      refine MC_uP hpop hp (by omega) (fun j h1 h2 => ?_) ?_ ?_
      · rw [if_pos ht] at h2
        rw [up_n (by omega), up_n (by omega)]
      · rw [hm1, show 14 + to + 0 = 14 + to from rfl, up_s, List.length_append]; rfl
      · rw [hm2, show 20 + 12 * to + 0 = 20 + 12 * to from rfl]
        refine seg_out (seg_push ?_ c rfl) (by omega)
        exact seg_out qt.2 (by omega)
    · rw [up_n (by omega), up_n (by omega), up_n (by omega)]
