/-! days -/
def dryP (w d fa n : Nat) : Nat × Nat := if fa = 0 then (if w < d * n then (0, 1) else (w - d * n, 0)) else (w, fa)
theorem dryP_0 (w d fa : Nat) : dryP w d fa 0 = (w, fa) := by
  unfold dryP
  rw [Nat.mul_zero]
  split
  · rename_i e; subst e; simp
  · rfl
theorem dryP_s (w d fa n : Nat) : dryP w d fa (n + 1) = dryP (dryP w d fa n).1 d (dryP w d fa n).2 1 := by
  unfold dryP
  rw [Nat.mul_one, Nat.mul_add, Nat.mul_one]
  by_cases h : fa = 0
  · simp only [h, if_true]
    by_cases h2 : w < d * n
    · simp only [h2, if_true, show w < d * n + d by omega, Nat.one_ne_zero, if_false]
    · simp only [h2, if_false, if_true]
      by_cases h3 : w < d * n + d
      · simp only [h3, if_true, show w - d * n < d by omega]
      · simp only [h3, if_false, show ¬ w - d * n < d by omega]
        rw [Nat.sub_sub]
  · simp only [h, if_false]
def dryF (V : Vt) (f n : Nat) : Nat × Nat := dryP (vF V 2 f) (vF V 1 f) (vF V 4 f) n
/-- n days pass over the fields below i -/
def dayTo (V : Vt) (n i : Nat) : Vt := (V.1, V.2.1, V.2.2.1, (fun w f => if f < i then (if w = 2 then (dryF V f n).1 else if w = 4 then (dryF V f n).2 else vF V w f) else vF V w f), V.2.2.2.2)
def dayV (V : Vt) (n : Nat) : Vt := vuN (dayTo V n (vN V 5)) 6 (vN V 6 + n)
theorem dayTo_0 (V : Vt) (n : Nat) : dayTo V n 0 = V := by
  unfold dayTo; simp
theorem dayTo_s (V : Vt) (n i : Nat) : dayTo V n (i + 1) = vuW (dayTo V n i) i (dryF V i n) := by
  unfold dayTo vuW vuF
  simp only [Prod.mk.injEq, true_and, and_true]
  funext w f
  by_cases hf : f = i
  · subst hf
    by_cases h2 : w = 2
    · subst h2; simp [va_up]
    · by_cases h4 : w = 4
      · subst h4; simp [va_up]
      · simp [va_up, h2, h4]
  · by_cases h4 : w = 4
    · subst h4; simp [va_up, hf, show (f < i + 1) = (f < i) by rw [eq_iff_iff]; omega]
    · by_cases h2 : w = 2
      · subst h2; simp [va_up, hf, show (f < i + 1) = (f < i) by rw [eq_iff_iff]; omega]
      · simp [va_up, hf, h2, h4, show (f < i + 1) = (f < i) by rw [eq_iff_iff]; omega]
theorem dayTo_ge {V : Vt} {n i f w : Nat} (h : i ≤ f) : vF (dayTo V n i) w f = vF V w f := by
  show (if f < i then _ else _) = _
  rw [if_neg (by omega)]
theorem WFd_dayTo {V : Vt} {n i : Nat} (h : WFd V) : WFd (dayTo V n i) := by
  intro f hf
  have hf' : f < vN V 5 := hf
  obtain ⟨⟨a0, a5⟩, a1, a2, a3, a4⟩ := h f hf'
  have e : ∀ w, vF (dayTo V n i) w f = if f < i then (if w = 2 then (dryF V f n).1 else if w = 4 then (dryF V f n).2 else vF V w f) else vF V w f := fun w => rfl
  rw [e 0, e 1, e 2, e 3, e 4]
  have hN : vN (dayTo V n i) 1 = vN V 1 := rfl
  rw [hN]
  by_cases e1 : f < i
  · simp only [e1, if_true, Nat.reduceEqDiff, if_false]
    unfold dryF dryP
    by_cases e2 : vF V 4 f = 0
    · have := a5 e2
      simp only [e2, if_true]
      split
      · exact ⟨⟨a0, by omega⟩, a1, by omega, a3, by omega⟩
      · exact ⟨⟨a0, by intro _; show _ - _ ≤ 99; omega⟩, a1, by show _ - _ ≤ 198; omega, a3, by omega⟩
    · simp only [e2, if_false]
      exact ⟨⟨a0, fun q => absurd q (by simpa using e2)⟩, a1, a2, a3, a4⟩
  · simp only [e1, if_false]
    exact ⟨⟨a0, a5⟩, a1, a2, a3, a4⟩
theorem x_sneg {a b : Nat} (hb : b < 1073741824) (h : a < b) : (nI a - nI b < nI 0) = True := eq_true (pk_sneg hb h)
theorem X_dry {v f m : Nat} {σ : am_M} {V : Vt} (hv : isV v) (h : VF σ v V) (hf : f < vN V 5) (h6 : vN V 5 ≤ 6) (h4 : vF V 4 f = 0) (h2 : vF V 2 f ≤ 198) (hm : m < 100000) : S_X8_dry [.ref v, .int (nI f), .int (nI m)] σ = some (none, wetM σ v f (if vF V 2 f < m then (0, 1) else (vF V 2 f - m, 0))) := by
  obtain ⟨k0, k12, k13, k14, k15, k16, l12, l13, l14, l15, l16⟩ := isV_k hv
  obtain ⟨a0, a1, a2, a3, a4⟩ := h.2.2 f hf
  rw [h4] at a4
  unfold wetM
  by_cases e : vF V 2 f < m
  · simp only [e, if_true]
    simp (disch := omega) only [g_X8_dry, ↓e_X8_dry_33, ↓e_X8_dry_0, ↓it_s, ↓y_iload, ↓y_lload, ↓y_aload, ↓y_istore, ↓y_lstore, ↓y_astore, ↓y_iinc, ↓y_cI, ↓y_cL, ↓y_bin, ↓y_binL, ↓y_div, ↓y_divL, ↓y_lshl, ↓y_un, ↓y_i2l, ↓y_lneg, ↓y_l2i, ↓y_lcmp, ↓y_dupI, ↓y_dupR, ↓y_dup2, ↓y_pop, ↓y_goto, ↓y_eq0, ↓y_lt0, ↓y_le0, ↓y_eq, ↓y_lt, ↓y_le, ↓y_switch, ↓y_sw0, ↓y_sw1, ↓y_getI, ↓y_getL, ↓y_getR, ↓y_getT, ↓y_putI, ↓y_putZ, ↓y_putL, ↓y_putT, ↓y_iald, ↓y_bald, ↓y_lald, ↓y_aald, ↓y_iast, ↓y_bast, ↓y_last, ↓y_alen, ↓y_iret, ↓y_zret, ↓y_lret, ↓y_vret, ↓y_svI, ↓y_svL, ↓y_svV, ↓y_ivI, ↓y_ivL, ↓y_ivV, ↓y_max, ↓y_min, ↓y_absL, ↓y_cpI, ↓y_cpL, ↓x_n1I, ↓x_n1L, ↓x_n1R, ↓x_n0I, ↓x_n0L, ↓x_n0R, ↓x_s0, ↓x_s1i, ↓x_s1r, ↓x_s1n, ↓x_s2, ↓x_c0, ↓x_c2, ↓x_tk0, ↓x_tk1, ↓x_rcv, x_rI1, x_rL1, x_rV1, x_rIn, x_rLn, x_rVn, x_rIf, x_rLf, x_rVf, x_40, x_41, x_42, x_43, x_44, ↓reduceIte, if_true, if_false, ao_iadd, ao_isub, ao_imul, ao_iand, ao_ior, ao_ishl, ao_ishr, ao_iushr, ao_ladd, ao_lsub, ao_lmul, ao_land, ao_lor, ao_idiv, ao_irem, ao_ldiv, ao_lrem, ao_ineg, ao_i2b, ao_i2s, Nat.reduceAdd, Nat.reduceMul, Nat.reduceSub, Nat.reduceEqDiff, Nat.reduceLeDiff, and_self, true_and, x_lit, x_ofn, x_z0, x_z1, x_inbT, x_ltT, x_ltF, x_leT, x_leF, x_eqF, x_eqT, x_inb, x_lt, x_le, x_eq, x_cl, x_sub, nI_add, pk_mul, x_m1e, x_m1e', x_m1l, x_m1n, x_m1s, Nat.not_lt_zero, x_zb, x_b0, x_b1, decide_eq_false_iff_not, decide_eq_true_eq, Bool.false_eq_true, Bool.true_eq_false, x_sneg, k0, k14, k16, l14, l16, a2, uI_n, uI_s, up_s, up_n]
    rw [uI_uA (am_uI σ (v + 14) f (nI (vF V 2 f) - nI m)) (v + 14), uI_uA σ (v + 14) f (nI (vF V 2 f) - nI m), uA_uA, uI_uA σ (v + 14) f (nI 0), uA_s]
    congr 4
    funext j
    by_cases ej : j = f
    · subst ej; rw [up_s, up_s]
    · rw [up_n ej, up_n ej, up_n ej]
  · simp only [e, if_false]
    simp (disch := omega) only [g_X8_dry, ↓e_X8_dry_33, ↓e_X8_dry_0, ↓it_s, ↓y_iload, ↓y_lload, ↓y_aload, ↓y_istore, ↓y_lstore, ↓y_astore, ↓y_iinc, ↓y_cI, ↓y_cL, ↓y_bin, ↓y_binL, ↓y_div, ↓y_divL, ↓y_lshl, ↓y_un, ↓y_i2l, ↓y_lneg, ↓y_l2i, ↓y_lcmp, ↓y_dupI, ↓y_dupR, ↓y_dup2, ↓y_pop, ↓y_goto, ↓y_eq0, ↓y_lt0, ↓y_le0, ↓y_eq, ↓y_lt, ↓y_le, ↓y_switch, ↓y_sw0, ↓y_sw1, ↓y_getI, ↓y_getL, ↓y_getR, ↓y_getT, ↓y_putI, ↓y_putZ, ↓y_putL, ↓y_putT, ↓y_iald, ↓y_bald, ↓y_lald, ↓y_aald, ↓y_iast, ↓y_bast, ↓y_last, ↓y_alen, ↓y_iret, ↓y_zret, ↓y_lret, ↓y_vret, ↓y_svI, ↓y_svL, ↓y_svV, ↓y_ivI, ↓y_ivL, ↓y_ivV, ↓y_max, ↓y_min, ↓y_absL, ↓y_cpI, ↓y_cpL, ↓x_n1I, ↓x_n1L, ↓x_n1R, ↓x_n0I, ↓x_n0L, ↓x_n0R, ↓x_s0, ↓x_s1i, ↓x_s1r, ↓x_s1n, ↓x_s2, ↓x_c0, ↓x_c2, ↓x_tk0, ↓x_tk1, ↓x_rcv, x_rI1, x_rL1, x_rV1, x_rIn, x_rLn, x_rVn, x_rIf, x_rLf, x_rVf, x_40, x_41, x_42, x_43, x_44, ↓reduceIte, if_true, if_false, ao_iadd, ao_isub, ao_imul, ao_iand, ao_ior, ao_ishl, ao_ishr, ao_iushr, ao_ladd, ao_lsub, ao_lmul, ao_land, ao_lor, ao_idiv, ao_irem, ao_ldiv, ao_lrem, ao_ineg, ao_i2b, ao_i2s, Nat.reduceAdd, Nat.reduceMul, Nat.reduceSub, Nat.reduceEqDiff, Nat.reduceLeDiff, and_self, true_and, x_lit, x_ofn, x_z0, x_z1, x_inbT, x_ltT, x_ltF, x_leT, x_leF, x_eqF, x_eqT, x_inb, x_lt, x_le, x_eq, x_cl, x_sub, nI_add, pk_mul, x_m1e, x_m1e', x_m1l, x_m1n, x_m1s, Nat.not_lt_zero, x_zb, x_b0, x_b1, decide_eq_false_iff_not, decide_eq_true_eq, Bool.false_eq_true, Bool.true_eq_false, k0, k14, k16, l14, l16, a2, uI_n, uI_s, up_s]
    rw [uI_id (h := v + 16) (by rw [uI_n (by omega), a4])]
theorem XD_loop {v n : Nat} {V : Vt} (hv : isV v) (wn : WN V) (hd : WFd V) (hn : n ≤ 99) : ∀ (m i N : Nat) (σ : am_M), vN V 5 - i = m → i ≤ vN V 5 → m < N → VF σ v (vuN (dayTo V n i) 6 (vN V 6 + n)) →
    ∃ τ, am_it hd_X8_passDays N 26 [some (.ref v), some (.int (nI n)), some (.int (nI i))] [] σ = some (some (.int (nI 1)), τ) ∧ VF τ v (dayV V n) ∧ only2 (v + 14) (v + 16) σ τ := by
  obtain ⟨k0, k12, k13, k14, k15, k16, l12, l13, l14, l15, l16⟩ := isV_k hv
  have h6 := wn.2.2.2.2.2.1
  intro m
  induction m with
  | zero =>
    intro i N σ hm hi hN h
    have e : i = vN V 5 := by omega
    obtain ⟨N, rfl⟩ : ∃ k, N = k + 1 := ⟨N - 1, by omega⟩
    have h1 : σ.1 v 4 = nI (vN V 5) := h.1
    refine ⟨σ, ?_, by rw [e] at h; exact h, only2_rf _ _ _⟩
    simp (disch := omega) only [g_X8_passDays, ↓e_X8_passDays_68, ↓e_X8_passDays_62, ↓e_X8_passDays_26, ↓e_X8_passDays_14, ↓e_X8_passDays_0, ↓h_X8_passDays_26, ↓it_s, ↓y_iload, ↓y_lload, ↓y_aload, ↓y_istore, ↓y_lstore, ↓y_astore, ↓y_iinc, ↓y_cI, ↓y_cL, ↓y_bin, ↓y_binL, ↓y_div, ↓y_divL, ↓y_lshl, ↓y_un, ↓y_i2l, ↓y_lneg, ↓y_l2i, ↓y_lcmp, ↓y_dupI, ↓y_dupR, ↓y_dup2, ↓y_pop, ↓y_goto, ↓y_eq0, ↓y_lt0, ↓y_le0, ↓y_eq, ↓y_lt, ↓y_le, ↓y_switch, ↓y_sw0, ↓y_sw1, ↓y_getI, ↓y_getL, ↓y_getR, ↓y_getT, ↓y_putI, ↓y_putZ, ↓y_putL, ↓y_putT, ↓y_iald, ↓y_bald, ↓y_lald, ↓y_aald, ↓y_iast, ↓y_bast, ↓y_last, ↓y_alen, ↓y_iret, ↓y_zret, ↓y_lret, ↓y_vret, ↓y_svI, ↓y_svL, ↓y_svV, ↓y_ivI, ↓y_ivL, ↓y_ivV, ↓y_max, ↓y_min, ↓y_absL, ↓y_cpI, ↓y_cpL, ↓x_n1I, ↓x_n1L, ↓x_n1R, ↓x_n0I, ↓x_n0L, ↓x_n0R, ↓x_s0, ↓x_s1i, ↓x_s1r, ↓x_s1n, ↓x_s2, ↓x_c0, ↓x_c2, ↓x_tk0, ↓x_tk1, ↓x_rcv, x_rI1, x_rL1, x_rV1, x_rIn, x_rLn, x_rVn, x_rIf, x_rLf, x_rVf, x_40, x_41, x_42, x_43, x_44, ↓reduceIte, if_true, if_false, ao_iadd, ao_isub, ao_imul, ao_iand, ao_ior, ao_ishl, ao_ishr, ao_iushr, ao_ladd, ao_lsub, ao_lmul, ao_land, ao_lor, ao_idiv, ao_irem, ao_ldiv, ao_lrem, ao_ineg, ao_i2b, ao_i2s, Nat.reduceAdd, Nat.reduceMul, Nat.reduceSub, Nat.reduceEqDiff, Nat.reduceLeDiff, and_self, true_and, x_lit, x_ofn, x_z0, x_z1, x_inbT, x_ltT, x_ltF, x_leT, x_leF, x_eqF, x_eqT, x_inb, x_lt, x_le, x_eq, x_cl, x_sub, nI_add, pk_mul, x_m1e, x_m1e', x_m1l, x_m1n, x_m1s, Nat.not_lt_zero, x_zb, x_b0, x_b1, decide_eq_false_iff_not, decide_eq_true_eq, Bool.false_eq_true, Bool.true_eq_false, k0, h1]
  | succ m ih =>
    intro i N σ hm hi hN h
    have hlt : i < vN V 5 := by omega
    obtain ⟨N, rfl⟩ : ∃ k, N = k + 1 := ⟨N - 1, by omega⟩
    have h1 : σ.1 v 4 = nI (vN V 5) := h.1
    obtain ⟨a0, a1, a2, a3, a4⟩ := h.2.2 i hlt
    obtain ⟨b0, b1, b2', b3, b4⟩ := hd i hlt
    have g : ∀ w, vF (vuN (dayTo V n i) 6 (vN V 6 + n)) w i = vF V w i := fun w => dayTo_ge (Nat.le_refl i)
    rw [g] at a0 a1 a2 a3 a4
    have hmul : vF V 1 i * n ≤ 20 * 99 := Nat.mul_le_mul b1 hn
    have e2 : vuN (vuW (dayTo V n i) i (dryF V i n)) 6 (vN V 6 + n) = vuN (dayTo V n (i + 1)) 6 (vN V 6 + n) := by rw [dayTo_s]
    have hV := VF_wetM (f := i) (x := dryF V i n) h
    have hV : VF (wetM σ v i (dryF V i n)) v (vuN (dayTo V n (i + 1)) 6 (vN V 6 + n)) := by rw [← e2]; exact hV
    obtain ⟨τ, t1, t2, t3⟩ := ih (i + 1) N (wetM σ v i (dryF V i n)) (by omega) (by omega) (by omega) hV
    refine ⟨τ, ?_, t2, only2_tr (wetM_only _ _ _ _) t3⟩
    by_cases e : vF V 4 i = 0
    · have hdry := X_dry (f := i) (m := vF V 1 i * n) hv h (show i < vN V 5 from hlt) h6 ((g 4).trans e) (by rw [g 2]; exact b2') (by omega)
      rw [g 2] at hdry
      have e3 : (if vF V 2 i < vF V 1 i * n then (0, 1) else (vF V 2 i - vF V 1 i * n, 0)) = dryF V i n := by
        unfold dryF dryP
        rw [if_pos e]
      rw [e3] at hdry
      rw [e] at a4
      simp (disch := omega) only [g_X8_passDays, ↓e_X8_passDays_68, ↓e_X8_passDays_62, ↓e_X8_passDays_26, ↓e_X8_passDays_14, ↓e_X8_passDays_0, ↓h_X8_passDays_26, ↓it_s, ↓y_iload, ↓y_lload, ↓y_aload, ↓y_istore, ↓y_lstore, ↓y_astore, ↓y_iinc, ↓y_cI, ↓y_cL, ↓y_bin, ↓y_binL, ↓y_div, ↓y_divL, ↓y_lshl, ↓y_un, ↓y_i2l, ↓y_lneg, ↓y_l2i, ↓y_lcmp, ↓y_dupI, ↓y_dupR, ↓y_dup2, ↓y_pop, ↓y_goto, ↓y_eq0, ↓y_lt0, ↓y_le0, ↓y_eq, ↓y_lt, ↓y_le, ↓y_switch, ↓y_sw0, ↓y_sw1, ↓y_getI, ↓y_getL, ↓y_getR, ↓y_getT, ↓y_putI, ↓y_putZ, ↓y_putL, ↓y_putT, ↓y_iald, ↓y_bald, ↓y_lald, ↓y_aald, ↓y_iast, ↓y_bast, ↓y_last, ↓y_alen, ↓y_iret, ↓y_zret, ↓y_lret, ↓y_vret, ↓y_svI, ↓y_svL, ↓y_svV, ↓y_ivI, ↓y_ivL, ↓y_ivV, ↓y_max, ↓y_min, ↓y_absL, ↓y_cpI, ↓y_cpL, ↓x_n1I, ↓x_n1L, ↓x_n1R, ↓x_n0I, ↓x_n0L, ↓x_n0R, ↓x_s0, ↓x_s1i, ↓x_s1r, ↓x_s1n, ↓x_s2, ↓x_c0, ↓x_c2, ↓x_tk0, ↓x_tk1, ↓x_rcv, x_rI1, x_rL1, x_rV1, x_rIn, x_rLn, x_rVn, x_rIf, x_rLf, x_rVf, x_40, x_41, x_42, x_43, x_44, ↓reduceIte, if_true, if_false, ao_iadd, ao_isub, ao_imul, ao_iand, ao_ior, ao_ishl, ao_ishr, ao_iushr, ao_ladd, ao_lsub, ao_lmul, ao_land, ao_lor, ao_idiv, ao_irem, ao_ldiv, ao_lrem, ao_ineg, ao_i2b, ao_i2s, Nat.reduceAdd, Nat.reduceMul, Nat.reduceSub, Nat.reduceEqDiff, Nat.reduceLeDiff, and_self, true_and, x_lit, x_ofn, x_z0, x_z1, x_inbT, x_ltT, x_ltF, x_leT, x_leF, x_eqF, x_eqT, x_inb, x_lt, x_le, x_eq, x_cl, x_sub, nI_add, pk_mul, x_m1e, x_m1e', x_m1l, x_m1n, x_m1s, Nat.not_lt_zero, x_zb, x_b0, x_b1, decide_eq_false_iff_not, decide_eq_true_eq, Bool.false_eq_true, Bool.true_eq_false, k0, k13, k16, l13, l16, h1, a4, a1, hdry]
      exact t1
    · have e3 : dryF V i n = (vF V 2 i, vF V 4 i) := by unfold dryF dryP; rw [if_neg e]
      have e4 : wetM σ v i (dryF V i n) = σ := by
        rw [e3]
        unfold wetM
        rw [uI_id (h := v + 14) a2, uI_id a4]
      rw [e4] at t1
      simp (disch := omega) only [g_X8_passDays, ↓e_X8_passDays_68, ↓e_X8_passDays_62, ↓e_X8_passDays_26, ↓e_X8_passDays_14, ↓e_X8_passDays_0, ↓h_X8_passDays_26, ↓it_s, ↓y_iload, ↓y_lload, ↓y_aload, ↓y_istore, ↓y_lstore, ↓y_astore, ↓y_iinc, ↓y_cI, ↓y_cL, ↓y_bin, ↓y_binL, ↓y_div, ↓y_divL, ↓y_lshl, ↓y_un, ↓y_i2l, ↓y_lneg, ↓y_l2i, ↓y_lcmp, ↓y_dupI, ↓y_dupR, ↓y_dup2, ↓y_pop, ↓y_goto, ↓y_eq0, ↓y_lt0, ↓y_le0, ↓y_eq, ↓y_lt, ↓y_le, ↓y_switch, ↓y_sw0, ↓y_sw1, ↓y_getI, ↓y_getL, ↓y_getR, ↓y_getT, ↓y_putI, ↓y_putZ, ↓y_putL, ↓y_putT, ↓y_iald, ↓y_bald, ↓y_lald, ↓y_aald, ↓y_iast, ↓y_bast, ↓y_last, ↓y_alen, ↓y_iret, ↓y_zret, ↓y_lret, ↓y_vret, ↓y_svI, ↓y_svL, ↓y_svV, ↓y_ivI, ↓y_ivL, ↓y_ivV, ↓y_max, ↓y_min, ↓y_absL, ↓y_cpI, ↓y_cpL, ↓x_n1I, ↓x_n1L, ↓x_n1R, ↓x_n0I, ↓x_n0L, ↓x_n0R, ↓x_s0, ↓x_s1i, ↓x_s1r, ↓x_s1n, ↓x_s2, ↓x_c0, ↓x_c2, ↓x_tk0, ↓x_tk1, ↓x_rcv, x_rI1, x_rL1, x_rV1, x_rIn, x_rLn, x_rVn, x_rIf, x_rLf, x_rVf, x_40, x_41, x_42, x_43, x_44, ↓reduceIte, if_true, if_false, ao_iadd, ao_isub, ao_imul, ao_iand, ao_ior, ao_ishl, ao_ishr, ao_iushr, ao_ladd, ao_lsub, ao_lmul, ao_land, ao_lor, ao_idiv, ao_irem, ao_ldiv, ao_lrem, ao_ineg, ao_i2b, ao_i2s, Nat.reduceAdd, Nat.reduceMul, Nat.reduceSub, Nat.reduceEqDiff, Nat.reduceLeDiff, and_self, true_and, x_lit, x_ofn, x_z0, x_z1, x_inbT, x_ltT, x_ltF, x_leT, x_leF, x_eqF, x_eqT, x_inb, x_lt, x_le, x_eq, x_cl, x_sub, nI_add, pk_mul, x_m1e, x_m1e', x_m1l, x_m1n, x_m1s, Nat.not_lt_zero, x_zb, x_b0, x_b1, decide_eq_false_iff_not, decide_eq_true_eq, Bool.false_eq_true, Bool.true_eq_false, k0, k16, l16, h1, a4]
      exact t1
theorem X_passDays {v n : Nat} {σ : am_M} {V : Vt} (hv : isV v) (h : VF σ v V) (wn : WN V) (hd : WFd V) (hn : n ≤ 99) (hday : vN V 6 + n ≤ 9999) : ∃ τ, S_X8_passDays [.ref v, .int (nI n)] σ = some (some (.int (nI 1)), τ) ∧ VF τ v (dayV V n) ∧ τ.2 = σ.2 ∧ (∀ j, j ≠ v → j ≠ v + 14 → j ≠ v + 16 → τ.1 j = σ.1 j) := by
  obtain ⟨k0, k12, k13, k14, k15, k16, l12, l13, l14, l15, l16⟩ := isV_k hv
  have h6 := wn.2.2.2.2.2.1
  have h5 := h.2.1
  have hV : VF (am_uI σ v 5 (nI (vN V 6 + n))) v (vuN (dayTo V n 0) 6 (vN V 6 + n)) := by
    rw [dayTo_0]
    refine ⟨?_, ?_, fun f hf => ?_⟩
    · rw [uI_s, up_n (by omega)]; exact h.1
    · rw [uI_s, up_s]; rfl
    · rw [uI_n (by omega), uI_n (by omega), uI_n (by omega), uI_n (by omega), uI_n (by omega)]; exact h.2.2 f hf
  obtain ⟨τ, t1, t2, t3⟩ := XD_loop hv wn hd hn (vN V 5) 0 (am_fuel + 1) _ rfl (by omega) (by unfold am_fuel; omega) hV
  refine ⟨τ, ?_, t2, t3.1, fun j a b c => by rw [t3.2 j b c, uI_n a]⟩
  rw [← t1]
  have e3 : ∀ lv st τ, am_it hd_X8_passDays (am_fuel + 1) 26 lv st τ = dn_X8_passDays_26 (am_it hd_X8_passDays am_fuel) lv st τ := fun _ _ _ => rfl
  rw [e3]
  simp (disch := omega) only [g_X8_passDays, ↓e_X8_passDays_0, ↓e_X8_passDays_14, ↓it_s, ↓y_iload, ↓y_lload, ↓y_aload, ↓y_istore, ↓y_lstore, ↓y_astore, ↓y_iinc, ↓y_cI, ↓y_cL, ↓y_bin, ↓y_binL, ↓y_div, ↓y_divL, ↓y_lshl, ↓y_un, ↓y_i2l, ↓y_lneg, ↓y_l2i, ↓y_lcmp, ↓y_dupI, ↓y_dupR, ↓y_dup2, ↓y_pop, ↓y_goto, ↓y_eq0, ↓y_lt0, ↓y_le0, ↓y_eq, ↓y_lt, ↓y_le, ↓y_switch, ↓y_sw0, ↓y_sw1, ↓y_getI, ↓y_getL, ↓y_getR, ↓y_getT, ↓y_putI, ↓y_putZ, ↓y_putL, ↓y_putT, ↓y_iald, ↓y_bald, ↓y_lald, ↓y_aald, ↓y_iast, ↓y_bast, ↓y_last, ↓y_alen, ↓y_iret, ↓y_zret, ↓y_lret, ↓y_vret, ↓y_svI, ↓y_svL, ↓y_svV, ↓y_ivI, ↓y_ivL, ↓y_ivV, ↓y_max, ↓y_min, ↓y_absL, ↓y_cpI, ↓y_cpL, ↓x_n1I, ↓x_n1L, ↓x_n1R, ↓x_n0I, ↓x_n0L, ↓x_n0R, ↓x_s0, ↓x_s1i, ↓x_s1r, ↓x_s1n, ↓x_s2, ↓x_c0, ↓x_c2, ↓x_tk0, ↓x_tk1, ↓x_rcv, x_rI1, x_rL1, x_rV1, x_rIn, x_rLn, x_rVn, x_rIf, x_rLf, x_rVf, x_40, x_41, x_42, x_43, x_44, ↓reduceIte, if_true, if_false, ao_iadd, ao_isub, ao_imul, ao_iand, ao_ior, ao_ishl, ao_ishr, ao_iushr, ao_ladd, ao_lsub, ao_lmul, ao_land, ao_lor, ao_idiv, ao_irem, ao_ldiv, ao_lrem, ao_ineg, ao_i2b, ao_i2s, Nat.reduceAdd, Nat.reduceMul, Nat.reduceSub, Nat.reduceEqDiff, Nat.reduceLeDiff, and_self, true_and, x_lit, x_ofn, x_z0, x_z1, x_inbT, x_ltT, x_ltF, x_leT, x_leF, x_eqF, x_eqT, x_inb, x_lt, x_le, x_eq, x_cl, x_sub, nI_add, pk_mul, x_m1e, x_m1e', x_m1l, x_m1n, x_m1s, Nat.not_lt_zero, x_zb, x_b0, x_b1, decide_eq_false_iff_not, decide_eq_true_eq, Bool.false_eq_true, Bool.true_eq_false, k0, h5]
theorem X_passDaysN {v n : Nat} {σ : am_M} {V : Vt} (hv : isV v) (h : VF σ v V) (wn : WN V) (hn : n ≤ 99) (hday : ¬ vN V 6 + n ≤ 9999) : S_X8_passDays [.ref v, .int (nI n)] σ = some (some (.int (nI 0)), σ) := by
  obtain ⟨k0, -⟩ := isV_k hv
  have h5 := h.2.1
  have := wn.2.2.2.2.2.2.1
  simp (disch := omega) only [g_X8_passDays, ↓e_X8_passDays_0, ↓it_s, ↓y_iload, ↓y_lload, ↓y_aload, ↓y_istore, ↓y_lstore, ↓y_astore, ↓y_iinc, ↓y_cI, ↓y_cL, ↓y_bin, ↓y_binL, ↓y_div, ↓y_divL, ↓y_lshl, ↓y_un, ↓y_i2l, ↓y_lneg, ↓y_l2i, ↓y_lcmp, ↓y_dupI, ↓y_dupR, ↓y_dup2, ↓y_pop, ↓y_goto, ↓y_eq0, ↓y_lt0, ↓y_le0, ↓y_eq, ↓y_lt, ↓y_le, ↓y_switch, ↓y_sw0, ↓y_sw1, ↓y_getI, ↓y_getL, ↓y_getR, ↓y_getT, ↓y_putI, ↓y_putZ, ↓y_putL, ↓y_putT, ↓y_iald, ↓y_bald, ↓y_lald, ↓y_aald, ↓y_iast, ↓y_bast, ↓y_last, ↓y_alen, ↓y_iret, ↓y_zret, ↓y_lret, ↓y_vret, ↓y_svI, ↓y_svL, ↓y_svV, ↓y_ivI, ↓y_ivL, ↓y_ivV, ↓y_max, ↓y_min, ↓y_absL, ↓y_cpI, ↓y_cpL, ↓x_n1I, ↓x_n1L, ↓x_n1R, ↓x_n0I, ↓x_n0L, ↓x_n0R, ↓x_s0, ↓x_s1i, ↓x_s1r, ↓x_s1n, ↓x_s2, ↓x_c0, ↓x_c2, ↓x_tk0, ↓x_tk1, ↓x_rcv, x_rI1, x_rL1, x_rV1, x_rIn, x_rLn, x_rVn, x_rIf, x_rLf, x_rVf, x_40, x_41, x_42, x_43, x_44, ↓reduceIte, if_true, if_false, ao_iadd, ao_isub, ao_imul, ao_iand, ao_ior, ao_ishl, ao_ishr, ao_iushr, ao_ladd, ao_lsub, ao_lmul, ao_land, ao_lor, ao_idiv, ao_irem, ao_ldiv, ao_lrem, ao_ineg, ao_i2b, ao_i2s, Nat.reduceAdd, Nat.reduceMul, Nat.reduceSub, Nat.reduceEqDiff, Nat.reduceLeDiff, and_self, true_and, x_lit, x_ofn, x_z0, x_z1, x_inbT, x_ltT, x_ltF, x_leT, x_leF, x_eqF, x_eqT, x_inb, x_lt, x_le, x_eq, x_cl, x_sub, nI_add, pk_mul, x_m1e, x_m1e', x_m1l, x_m1n, x_m1s, Nat.not_lt_zero, x_zb, x_b0, x_b1, decide_eq_false_iff_not, decide_eq_true_eq, Bool.false_eq_true, Bool.true_eq_false, k0, h5]
/-- the model: one day -/
theorem MD_loop {V : Vt} (wn : WN V) (wc : WC V) (hd : WFd V) : ∀ (m i N : Nat) (σ : am_M) (d2 : Option Value), vN V 5 - i = m → i ≤ vN V 5 → m < N → MC (σ.1 128) 0 (dayTo V 1 i) →
    ∃ (g : Nat → Int32) (B : Nat → am_K) (d1 d2' : Option Value), am_it hd_X11_goesDay N 2 [some (.ref 123), some (.int (nI i)), d2] [] σ = dn_X11_goesDay_86 B [some (.ref 123), d1, d2'] [] (am_uA σ 128 g) ∧ MC g 0 (dayTo V 1 (vN V 5)) ∧ ∀ j, 170 ≤ j → g j = σ.1 128 j := by
  have h6 := wn.2.2.2.2.2.1
  intro m
  induction m with
  | zero =>
    intro i N σ d2 hm hi hN h
    have e : i = vN V 5 := by omega
    obtain ⟨N, rfl⟩ : ∃ k, N = k + 1 := ⟨N - 1, by omega⟩
    have h1 : σ.1 128 5 = nI (vN V 5) := (MC_0 h).1 5 (by omega)
    refine ⟨σ.1 128, am_it hd_X11_goesDay N, some (.int (nI i)), d2, ?_, by rw [e] at h; exact h, fun _ _ => rfl⟩
    rw [uA_id rfl]
    simp (disch := omega) only [↓e_X11_goesDay_2, ↓h_X11_goesDay_2, ↓it_s, ↓y_iload, ↓y_lload, ↓y_aload, ↓y_istore, ↓y_lstore, ↓y_astore, ↓y_iinc, ↓y_cI, ↓y_cL, ↓y_bin, ↓y_binL, ↓y_div, ↓y_divL, ↓y_lshl, ↓y_un, ↓y_i2l, ↓y_lneg, ↓y_l2i, ↓y_lcmp, ↓y_dupI, ↓y_dupR, ↓y_dup2, ↓y_pop, ↓y_goto, ↓y_eq0, ↓y_lt0, ↓y_le0, ↓y_eq, ↓y_lt, ↓y_le, ↓y_switch, ↓y_sw0, ↓y_sw1, ↓y_getI, ↓y_getL, ↓y_getR, ↓y_getT, ↓y_putI, ↓y_putZ, ↓y_putL, ↓y_putT, ↓y_iald, ↓y_bald, ↓y_lald, ↓y_aald, ↓y_iast, ↓y_bast, ↓y_last, ↓y_alen, ↓y_iret, ↓y_zret, ↓y_lret, ↓y_vret, ↓y_svI, ↓y_svL, ↓y_svV, ↓y_ivI, ↓y_ivL, ↓y_ivV, ↓y_max, ↓y_min, ↓y_absL, ↓y_cpI, ↓y_cpL, ↓x_n1I, ↓x_n1L, ↓x_n1R, ↓x_n0I, ↓x_n0L, ↓x_n0R, ↓x_s0, ↓x_s1i, ↓x_s1r, ↓x_s1n, ↓x_s2, ↓x_c0, ↓x_c2, ↓x_tk0, ↓x_tk1, ↓x_rcv, x_rI1, x_rL1, x_rV1, x_rIn, x_rLn, x_rVn, x_rIf, x_rLf, x_rVf, x_40, x_41, x_42, x_43, x_44, ↓reduceIte, if_true, if_false, ao_iadd, ao_isub, ao_imul, ao_iand, ao_ior, ao_ishl, ao_ishr, ao_iushr, ao_ladd, ao_lsub, ao_lmul, ao_land, ao_lor, ao_idiv, ao_irem, ao_ldiv, ao_lrem, ao_ineg, ao_i2b, ao_i2s, Nat.reduceAdd, Nat.reduceMul, Nat.reduceSub, Nat.reduceEqDiff, Nat.reduceLeDiff, and_self, true_and, x_lit, x_ofn, x_z0, x_z1, x_inbT, x_ltT, x_ltF, x_leT, x_leF, x_eqF, x_eqT, x_inb, x_lt, x_le, x_eq, x_cl, x_sub, nI_add, pk_mul, x_m1e, x_m1e', x_m1l, x_m1n, x_m1s, Nat.not_lt_zero, x_zb, x_b0, x_b1, decide_eq_false_iff_not, decide_eq_true_eq, Bool.false_eq_true, Bool.true_eq_false, kd_123, kd_128, ln_128, h1]
  | succ m ih =>
    intro i N σ d2 hm hi hN h
    have hlt : i < vN V 5 := by omega
    obtain ⟨N, rfl⟩ : ∃ k, N = k + 1 := ⟨N - 1, by omega⟩
    have h1 : σ.1 128 5 = nI (vN V 5) := (MC_0 h).1 5 (by omega)
    have q := (MC_0 h).2.2.2.2.2
    have a1 := q 1 i (by omega) hlt
    have a2 := q 2 i (by omega) hlt
    have a4 := q 4 i (by omega) hlt
    rw [dayTo_ge (Nat.le_refl i)] at a1 a2 a4
    simp only [Nat.reduceMul, Nat.reduceAdd] at a1 a2 a4
    obtain ⟨b0, b1, b2', b3, b4⟩ := hd i hlt
    have i1 : 152 + i + 12 = 164 + i := by omega
    have i2 : 152 + i - 6 = 146 + i := by omega
    have hV := MC_wetC (i := i) (x := dryF V i 1) h (WC_cg wc rfl rfl rfl) h6 (by omega)
    rw [← dayTo_s] at hV
    obtain ⟨g, B, d1, d2', t1, t2, t3⟩ := ih (i + 1) N (am_uA σ 128 (wetC (σ.1 128) i (dryF V i 1))) (some (.int (nI (152 + i)))) (by omega) (by omega) (by omega) (by rw [uA_s]; exact hV)
    rw [uA_uA] at t1
    refine ⟨g, B, d1, d2', ?_, t2, fun j hj => (t3 j hj).trans (by rw [uA_s, wetC_hi _ _ _ (by omega) j (by omega)])⟩
    rw [← t1]
    by_cases e : vF V 4 i = 0
    · rw [e] at a4
      by_cases e2 : vF V 2 i < vF V 1 i
      · have e3 : dryF V i 1 = (0, 1) := by unfold dryF dryP; rw [if_pos e, Nat.mul_one, if_pos e2]
        rw [e3]
        have hA : am_it hd_X11_goesDay (N + 1) 2 [some (.ref 123), some (.int (nI i)), d2] [] σ = dn_X11_goesDay_63 (am_it hd_X11_goesDay N) [some (.ref 123), some (.int (nI i)), some (.int (nI (152 + i)))] [] (am_uI σ 128 (152 + i) (nI (vF V 2 i) - nI (vF V 1 i))) := by
          simp (disch := omega) only [↓e_X11_goesDay_2, ↓e_X11_goesDay_33, ↓h_X11_goesDay_2, ↓it_s, ↓y_iload, ↓y_lload, ↓y_aload, ↓y_istore, ↓y_lstore, ↓y_astore, ↓y_iinc, ↓y_cI, ↓y_cL, ↓y_bin, ↓y_binL, ↓y_div, ↓y_divL, ↓y_lshl, ↓y_un, ↓y_i2l, ↓y_lneg, ↓y_l2i, ↓y_lcmp, ↓y_dupI, ↓y_dupR, ↓y_dup2, ↓y_pop, ↓y_goto, ↓y_eq0, ↓y_lt0, ↓y_le0, ↓y_eq, ↓y_lt, ↓y_le, ↓y_switch, ↓y_sw0, ↓y_sw1, ↓y_getI, ↓y_getL, ↓y_getR, ↓y_getT, ↓y_putI, ↓y_putZ, ↓y_putL, ↓y_putT, ↓y_iald, ↓y_bald, ↓y_lald, ↓y_aald, ↓y_iast, ↓y_bast, ↓y_last, ↓y_alen, ↓y_iret, ↓y_zret, ↓y_lret, ↓y_vret, ↓y_svI, ↓y_svL, ↓y_svV, ↓y_ivI, ↓y_ivL, ↓y_ivV, ↓y_max, ↓y_min, ↓y_absL, ↓y_cpI, ↓y_cpL, ↓x_n1I, ↓x_n1L, ↓x_n1R, ↓x_n0I, ↓x_n0L, ↓x_n0R, ↓x_s0, ↓x_s1i, ↓x_s1r, ↓x_s1n, ↓x_s2, ↓x_c0, ↓x_c2, ↓x_tk0, ↓x_tk1, ↓x_rcv, x_rI1, x_rL1, x_rV1, x_rIn, x_rLn, x_rVn, x_rIf, x_rLf, x_rVf, x_40, x_41, x_42, x_43, x_44, ↓reduceIte, if_true, if_false, ao_iadd, ao_isub, ao_imul, ao_iand, ao_ior, ao_ishl, ao_ishr, ao_iushr, ao_ladd, ao_lsub, ao_lmul, ao_land, ao_lor, ao_idiv, ao_irem, ao_ldiv, ao_lrem, ao_ineg, ao_i2b, ao_i2s, Nat.reduceAdd, Nat.reduceMul, Nat.reduceSub, Nat.reduceEqDiff, Nat.reduceLeDiff, and_self, true_and, x_lit, x_ofn, x_z0, x_z1, x_inbT, x_ltT, x_ltF, x_leT, x_leF, x_eqF, x_eqT, x_inb, x_lt, x_le, x_eq, x_cl, x_sub, nI_add, pk_mul, x_m1e, x_m1e', x_m1l, x_m1n, x_m1s, Nat.not_lt_zero, x_zb, x_b0, x_b1, decide_eq_false_iff_not, decide_eq_true_eq, Bool.false_eq_true, Bool.true_eq_false, x_sneg, kd_123, kd_128, ln_128, h1, i1, i2, a1, a2, a4, uI_s, up_s]
        rw [hA]
        have hB : ∀ τ : am_M, dn_X11_goesDay_63 (am_it hd_X11_goesDay N) [some (.ref 123), some (.int (nI i)), some (.int (nI (152 + i)))] [] τ = am_it hd_X11_goesDay N 2 [some (.ref 123), some (.int (nI (i + 1))), some (.int (nI (152 + i)))] [] (am_uI (am_uI τ 128 (152 + i) (nI 0)) 128 (164 + i) (nI 1)) := by
          intro τ
          simp (disch := omega) only [↓e_X11_goesDay_63, ↓e_X11_goesDay_80, ↓it_s, ↓y_iload, ↓y_lload, ↓y_aload, ↓y_istore, ↓y_lstore, ↓y_astore, ↓y_iinc, ↓y_cI, ↓y_cL, ↓y_bin, ↓y_binL, ↓y_div, ↓y_divL, ↓y_lshl, ↓y_un, ↓y_i2l, ↓y_lneg, ↓y_l2i, ↓y_lcmp, ↓y_dupI, ↓y_dupR, ↓y_dup2, ↓y_pop, ↓y_goto, ↓y_eq0, ↓y_lt0, ↓y_le0, ↓y_eq, ↓y_lt, ↓y_le, ↓y_switch, ↓y_sw0, ↓y_sw1, ↓y_getI, ↓y_getL, ↓y_getR, ↓y_getT, ↓y_putI, ↓y_putZ, ↓y_putL, ↓y_putT, ↓y_iald, ↓y_bald, ↓y_lald, ↓y_aald, ↓y_iast, ↓y_bast, ↓y_last, ↓y_alen, ↓y_iret, ↓y_zret, ↓y_lret, ↓y_vret, ↓y_svI, ↓y_svL, ↓y_svV, ↓y_ivI, ↓y_ivL, ↓y_ivV, ↓y_max, ↓y_min, ↓y_absL, ↓y_cpI, ↓y_cpL, ↓x_n1I, ↓x_n1L, ↓x_n1R, ↓x_n0I, ↓x_n0L, ↓x_n0R, ↓x_s0, ↓x_s1i, ↓x_s1r, ↓x_s1n, ↓x_s2, ↓x_c0, ↓x_c2, ↓x_tk0, ↓x_tk1, ↓x_rcv, x_rI1, x_rL1, x_rV1, x_rIn, x_rLn, x_rVn, x_rIf, x_rLf, x_rVf, x_40, x_41, x_42, x_43, x_44, ↓reduceIte, if_true, if_false, ao_iadd, ao_isub, ao_imul, ao_iand, ao_ior, ao_ishl, ao_ishr, ao_iushr, ao_ladd, ao_lsub, ao_lmul, ao_land, ao_lor, ao_idiv, ao_irem, ao_ldiv, ao_lrem, ao_ineg, ao_i2b, ao_i2s, Nat.reduceAdd, Nat.reduceMul, Nat.reduceSub, Nat.reduceEqDiff, Nat.reduceLeDiff, and_self, true_and, x_lit, x_ofn, x_z0, x_z1, x_inbT, x_ltT, x_ltF, x_leT, x_leF, x_eqF, x_eqT, x_inb, x_lt, x_le, x_eq, x_cl, x_sub, nI_add, pk_mul, x_m1e, x_m1e', x_m1l, x_m1n, x_m1s, Nat.not_lt_zero, x_zb, x_b0, x_b1, decide_eq_false_iff_not, decide_eq_true_eq, Bool.false_eq_true, Bool.true_eq_false, kd_123, kd_128, ln_128, i1]
        rw [hB]
        simp only [uI_uA, uA_uA, uA_s]
        congr 2
        unfold wetC
        funext j
        by_cases ej : j = 164 + i
        · subst ej; rw [up_s, up_s]
        · rw [up_n ej, up_n ej]
          by_cases ek : j = 152 + i
          · subst ek; rw [up_s, up_s]
          · rw [up_n ek, up_n ek, up_n ek]
      · have e3 : dryF V i 1 = (vF V 2 i - vF V 1 i, 0) := by unfold dryF dryP; rw [if_pos e, Nat.mul_one, if_neg e2]
        rw [e3]
        simp (disch := omega) only [↓e_X11_goesDay_2, ↓e_X11_goesDay_33, ↓e_X11_goesDay_80, ↓h_X11_goesDay_2, ↓it_s, ↓y_iload, ↓y_lload, ↓y_aload, ↓y_istore, ↓y_lstore, ↓y_astore, ↓y_iinc, ↓y_cI, ↓y_cL, ↓y_bin, ↓y_binL, ↓y_div, ↓y_divL, ↓y_lshl, ↓y_un, ↓y_i2l, ↓y_lneg, ↓y_l2i, ↓y_lcmp, ↓y_dupI, ↓y_dupR, ↓y_dup2, ↓y_pop, ↓y_goto, ↓y_eq0, ↓y_lt0, ↓y_le0, ↓y_eq, ↓y_lt, ↓y_le, ↓y_switch, ↓y_sw0, ↓y_sw1, ↓y_getI, ↓y_getL, ↓y_getR, ↓y_getT, ↓y_putI, ↓y_putZ, ↓y_putL, ↓y_putT, ↓y_iald, ↓y_bald, ↓y_lald, ↓y_aald, ↓y_iast, ↓y_bast, ↓y_last, ↓y_alen, ↓y_iret, ↓y_zret, ↓y_lret, ↓y_vret, ↓y_svI, ↓y_svL, ↓y_svV, ↓y_ivI, ↓y_ivL, ↓y_ivV, ↓y_max, ↓y_min, ↓y_absL, ↓y_cpI, ↓y_cpL, ↓x_n1I, ↓x_n1L, ↓x_n1R, ↓x_n0I, ↓x_n0L, ↓x_n0R, ↓x_s0, ↓x_s1i, ↓x_s1r, ↓x_s1n, ↓x_s2, ↓x_c0, ↓x_c2, ↓x_tk0, ↓x_tk1, ↓x_rcv, x_rI1, x_rL1, x_rV1, x_rIn, x_rLn, x_rVn, x_rIf, x_rLf, x_rVf, x_40, x_41, x_42, x_43, x_44, ↓reduceIte, if_true, if_false, ao_iadd, ao_isub, ao_imul, ao_iand, ao_ior, ao_ishl, ao_ishr, ao_iushr, ao_ladd, ao_lsub, ao_lmul, ao_land, ao_lor, ao_idiv, ao_irem, ao_ldiv, ao_lrem, ao_ineg, ao_i2b, ao_i2s, Nat.reduceAdd, Nat.reduceMul, Nat.reduceSub, Nat.reduceEqDiff, Nat.reduceLeDiff, and_self, true_and, x_lit, x_ofn, x_z0, x_z1, x_inbT, x_ltT, x_ltF, x_leT, x_leF, x_eqF, x_eqT, x_inb, x_lt, x_le, x_eq, x_cl, x_sub, nI_add, pk_mul, x_m1e, x_m1e', x_m1l, x_m1n, x_m1s, Nat.not_lt_zero, x_zb, x_b0, x_b1, decide_eq_false_iff_not, decide_eq_true_eq, Bool.false_eq_true, Bool.true_eq_false, kd_123, kd_128, ln_128, h1, i1, i2, a1, a2, a4, uI_s, up_s, up_n, uI_uA, uA_uA, uA_s]
        congr 2
        unfold wetC
        rw [up_id (k := 164 + i) (by rw [up_n (by omega), a4])]
    · have e3 : dryF V i 1 = (vF V 2 i, vF V 4 i) := by unfold dryF dryP; rw [if_neg e]
      have e4 : am_uA σ 128 (wetC (σ.1 128) i (dryF V i 1)) = σ := by
        rw [e3]
        unfold wetC
        rw [up_id a2, up_id a4, uA_id rfl]
      rw [e4]
      simp (disch := omega) only [↓e_X11_goesDay_2, ↓e_X11_goesDay_80, ↓h_X11_goesDay_2, ↓it_s, ↓y_iload, ↓y_lload, ↓y_aload, ↓y_istore, ↓y_lstore, ↓y_astore, ↓y_iinc, ↓y_cI, ↓y_cL, ↓y_bin, ↓y_binL, ↓y_div, ↓y_divL, ↓y_lshl, ↓y_un, ↓y_i2l, ↓y_lneg, ↓y_l2i, ↓y_lcmp, ↓y_dupI, ↓y_dupR, ↓y_dup2, ↓y_pop, ↓y_goto, ↓y_eq0, ↓y_lt0, ↓y_le0, ↓y_eq, ↓y_lt, ↓y_le, ↓y_switch, ↓y_sw0, ↓y_sw1, ↓y_getI, ↓y_getL, ↓y_getR, ↓y_getT, ↓y_putI, ↓y_putZ, ↓y_putL, ↓y_putT, ↓y_iald, ↓y_bald, ↓y_lald, ↓y_aald, ↓y_iast, ↓y_bast, ↓y_last, ↓y_alen, ↓y_iret, ↓y_zret, ↓y_lret, ↓y_vret, ↓y_svI, ↓y_svL, ↓y_svV, ↓y_ivI, ↓y_ivL, ↓y_ivV, ↓y_max, ↓y_min, ↓y_absL, ↓y_cpI, ↓y_cpL, ↓x_n1I, ↓x_n1L, ↓x_n1R, ↓x_n0I, ↓x_n0L, ↓x_n0R, ↓x_s0, ↓x_s1i, ↓x_s1r, ↓x_s1n, ↓x_s2, ↓x_c0, ↓x_c2, ↓x_tk0, ↓x_tk1, ↓x_rcv, x_rI1, x_rL1, x_rV1, x_rIn, x_rLn, x_rVn, x_rIf, x_rLf, x_rVf, x_40, x_41, x_42, x_43, x_44, ↓reduceIte, if_true, if_false, ao_iadd, ao_isub, ao_imul, ao_iand, ao_ior, ao_ishl, ao_ishr, ao_iushr, ao_ladd, ao_lsub, ao_lmul, ao_land, ao_lor, ao_idiv, ao_irem, ao_ldiv, ao_lrem, ao_ineg, ao_i2b, ao_i2s, Nat.reduceAdd, Nat.reduceMul, Nat.reduceSub, Nat.reduceEqDiff, Nat.reduceLeDiff, and_self, true_and, x_lit, x_ofn, x_z0, x_z1, x_inbT, x_ltT, x_ltF, x_leT, x_leF, x_eqF, x_eqT, x_inb, x_lt, x_le, x_eq, x_cl, x_sub, nI_add, pk_mul, x_m1e, x_m1e', x_m1l, x_m1n, x_m1s, Nat.not_lt_zero, x_zb, x_b0, x_b1, decide_eq_false_iff_not, decide_eq_true_eq, Bool.false_eq_true, Bool.true_eq_false, kd_123, kd_128, ln_128, h1, i1, a4]
theorem M_goesDay {σ : am_M} {V : Vt} (h : MC (σ.1 128) 0 V) (wn : WN V) (wc : WC V) (hd : WFd V) : ∃ g, S_X11_goesDay [.ref 123] σ = some (none, am_uA σ 128 g) ∧ MC g 0 (dayV V 1) ∧ ∀ j, 170 ≤ j → g j = σ.1 128 j := by
  have h6 := wn.2.2.2.2.2.1
  have hday := wn.2.2.2.2.2.2.1
  obtain ⟨g, B, d1, d2, t1, t2, t3⟩ := MD_loop wn wc hd (vN V 5) 0 (am_fuel + 1) σ none rfl (by omega) (by unfold am_fuel; omega) (by rw [dayTo_0]; exact h)
  have g6 : g 6 = nI (vN V 6) := (MC_0 t2).1 6 (by omega)
  have hM := MC_uN (k := 6) (x := vN V 6 + 1) t2 (by omega) (by omega)
  rw [Nat.add_zero] at hM
  refine ⟨va_up g 6 (nI (vN V 6 + 1)), ?_, hM, fun j hj => by rw [up_n (by omega)]; exact t3 j hj⟩
  have e2 : S_X11_goesDay [.ref 123] σ = am_it hd_X11_goesDay (am_fuel + 1) 2 [some (.ref 123), some (.int (nI 0)), none] [] σ := rfl
  rw [e2, t1]
  simp (disch := omega) only [↓e_X11_goesDay_86, ↓it_s, ↓y_iload, ↓y_lload, ↓y_aload, ↓y_istore, ↓y_lstore, ↓y_astore, ↓y_iinc, ↓y_cI, ↓y_cL, ↓y_bin, ↓y_binL, ↓y_div, ↓y_divL, ↓y_lshl, ↓y_un, ↓y_i2l, ↓y_lneg, ↓y_l2i, ↓y_lcmp, ↓y_dupI, ↓y_dupR, ↓y_dup2, ↓y_pop, ↓y_goto, ↓y_eq0, ↓y_lt0, ↓y_le0, ↓y_eq, ↓y_lt, ↓y_le, ↓y_switch, ↓y_sw0, ↓y_sw1, ↓y_getI, ↓y_getL, ↓y_getR, ↓y_getT, ↓y_putI, ↓y_putZ, ↓y_putL, ↓y_putT, ↓y_iald, ↓y_bald, ↓y_lald, ↓y_aald, ↓y_iast, ↓y_bast, ↓y_last, ↓y_alen, ↓y_iret, ↓y_zret, ↓y_lret, ↓y_vret, ↓y_svI, ↓y_svL, ↓y_svV, ↓y_ivI, ↓y_ivL, ↓y_ivV, ↓y_max, ↓y_min, ↓y_absL, ↓y_cpI, ↓y_cpL, ↓x_n1I, ↓x_n1L, ↓x_n1R, ↓x_n0I, ↓x_n0L, ↓x_n0R, ↓x_s0, ↓x_s1i, ↓x_s1r, ↓x_s1n, ↓x_s2, ↓x_c0, ↓x_c2, ↓x_tk0, ↓x_tk1, ↓x_rcv, x_rI1, x_rL1, x_rV1, x_rIn, x_rLn, x_rVn, x_rIf, x_rLf, x_rVf, x_40, x_41, x_42, x_43, x_44, ↓reduceIte, if_true, if_false, ao_iadd, ao_isub, ao_imul, ao_iand, ao_ior, ao_ishl, ao_ishr, ao_iushr, ao_ladd, ao_lsub, ao_lmul, ao_land, ao_lor, ao_idiv, ao_irem, ao_ldiv, ao_lrem, ao_ineg, ao_i2b, ao_i2s, Nat.reduceAdd, Nat.reduceMul, Nat.reduceSub, Nat.reduceEqDiff, Nat.reduceLeDiff, and_self, true_and, x_lit, x_ofn, x_z0, x_z1, x_inbT, x_ltT, x_ltF, x_leT, x_leF, x_eqF, x_eqT, x_inb, x_lt, x_le, x_eq, x_cl, x_sub, nI_add, pk_mul, x_m1e, x_m1e', x_m1l, x_m1n, x_m1s, Nat.not_lt_zero, x_zb, x_b0, x_b1, decide_eq_false_iff_not, decide_eq_true_eq, Bool.false_eq_true, Bool.true_eq_false, kd_123, kd_128, ln_128, uA_s, g6, uI_uA, uA_uA]
