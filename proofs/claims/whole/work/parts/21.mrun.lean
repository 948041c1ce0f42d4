/-! the model's run -/
def MR (σ : am_M) (g r : Nat → Int32) : am_M := am_uA (am_uA σ 128 g) 132 r
theorem MR_c (σ : am_M) (g r : Nat → Int32) : (MR σ g r).1 128 = g := by unfold MR; rw [uA_n (by omega), uA_s]
theorem MR_r (σ : am_M) (g r : Nat → Int32) : (MR σ g r).1 132 = r := by unfold MR; rw [uA_s]
theorem uA_comm (σ : am_M) {h k : Nat} (hk : h ≠ k) (f g : Nat → Int32) : am_uA (am_uA σ h f) k g = am_uA (am_uA σ k g) h f := by
  unfold am_uA
  have : va_up (va_up σ.1 h f) k g = va_up (va_up σ.1 k g) h f := by
    funext a
    by_cases e1 : a = k
    · subst e1; rw [up_s, up_n (fun z => hk z.symm), up_s]
    · by_cases e2 : a = h
      · subst e2; rw [up_n e1, up_s, up_s]
      · rw [up_n e1, up_n e2, up_n e2, up_n e1]
  simp only [this]
theorem MR_uc (σ : am_M) (g r g' : Nat → Int32) : am_uA (MR σ g r) 128 g' = MR σ g' r := by
  unfold MR; rw [uA_comm _ (by omega), uA_uA]
theorem MR_ur (σ : am_M) (g r : Nat → Int32) (k : Nat) (v : Int32) : am_uI (MR σ g r) 132 k v = MR σ g (va_up r k v) := by
  rw [uI_uA, MR_r]; unfold MR; rw [uA_uA]
/-- ranks from a + 1 to b, together -/
def sumR (a b : Nat) : Nat := b * (b + 1) / 2 - a * (a + 1) / 2
theorem tri_s (b : Nat) : (b + 1) * (b + 1 + 1) / 2 = b * (b + 1) / 2 + (b + 1) := by
  have : (b + 1) * (b + 1 + 1) = b * (b + 1) + 2 * (b + 1) := by
    rw [Nat.mul_add (b + 1) (b + 1) 1, Nat.mul_one, Nat.mul_add (b + 1) b 1, Nat.mul_comm (b + 1) b]; omega
  rw [this, Nat.add_mul_div_left _ _ (by omega)]
theorem tri_mono {a b : Nat} (h : a ≤ b) : a * (a + 1) / 2 ≤ b * (b + 1) / 2 := by
  induction b with
  | zero => have : a = 0 := by omega
            subst this; exact Nat.le_refl _
  | succ b ih =>
    by_cases e : a = b + 1
    · subst e; exact Nat.le_refl _
    · rw [tri_s]; have := ih (by omega); omega
theorem sumR_s {a b : Nat} (h : a ≤ b) : sumR a (b + 1) = sumR a b + (b + 1) := by
  unfold sumR
  rw [tri_s]
  have := tri_mono h
  omega
theorem sumR_0 (a : Nat) : sumR a a = 0 := Nat.sub_self _
theorem sumR_le {a b : Nat} (h : b ≤ 6) : sumR a b ≤ 21 := by
  unfold sumR
  have := tri_mono h
  omega
def tot (V : Vt) : Nat := (vP V 0).length + (vP V 1).length + (vP V 2).length + (vP V 3).length + (vP V 4).length + (vP V 5).length + (vP V 6).length
theorem tot_stp {V : Vt} {p : Nat} (hp : p < 7) (hg : goH V p = true) : tot (stp V p) + 1 = tot V := by
  obtain ⟨c, h1, -, -⟩ := goH_spec hg
  have h0 : 0 < (vP V p).length := by
    rw [List.getLast?_eq_getElem?] at h1
    have := (List.getElem?_eq_some_iff.mp h1).1
    omega
  unfold tot
  rw [stp_P h1, stp_P h1, stp_P h1, stp_P h1, stp_P h1, stp_P h1, stp_P h1]
  have : p = 0 ∨ p = 1 ∨ p = 2 ∨ p = 3 ∨ p = 4 ∨ p = 5 ∨ p = 6 := by omega
  rcases this with rfl | rfl | rfl | rfl | rfl | rfl | rfl <;> simp <;> omega
theorem tot_le {V : Vt} (h : WC V) : tot V ≤ 24 := by
  have h1 := h.allLen
  unfold allC at h1
  simp only [List.range, List.range.loop, List.flatMap_cons, List.flatMap_nil, List.append_nil, List.length_append] at h1
  unfold tot
  omega
/-- what holds along a run: from V, T's cards are left; the model's row g, its sums r -/
def RM (V T : Vt) (g0 g r : Nat → Int32) : Prop := WC T ∧ (∀ s, vH V s ≤ vH T s) ∧ WG (ranV V T) ∧ MC g 0 (ranV V T) ∧ (∀ j, 170 ≤ j → g j = g0 j) ∧ ∀ s, s < 4 → r s = nI (sumR (vH V s) (vH T s))
theorem MRun_in {V : Vt} {σ : am_M} {g0 : Nat → Int32} : ∀ (m p n : Nat) (T : Vt) (g r : Nat → Int32) (k fl : Nat) (d4 : Option Value), 7 - p = m → p ≤ 7 → k + tot T ≤ 100 → fl ≤ 1 → RM V T g0 g r →
    ∃ (ps : List Nat) (T2 : Vt) (g2 r2 : Nat → Int32) (fl2 : Nat) (d3 d4' : Option Value), am_it hd_X11_runsAll (n + m + 1) 32 [some (.ref 123), some (.int (nI k)), some (.int (nI fl)), some (.int (nI p)), d4] [] (MR σ g r) = am_it hd_X11_runsAll n 24 [some (.ref 123), some (.int (nI (k + ps.length))), some (.int (nI fl2)), d3, d4'] [] (MR σ g2 r2) ∧ runL T ps = some T2 ∧ RM V T2 g0 g2 r2 ∧ (ps = [] → fl2 = fl ∧ ∀ q, p ≤ q → q < 7 → goH T q = false) ∧ (ps ≠ [] → fl2 = 1 ∧ tot T2 < tot T) ∧ fl2 ≤ 1 := by
  intro m
  induction m with
  | zero =>
    intro p n T g r k fl d4 hm hp hk hfl hR
    have e : p = 7 := by omega
    subst e
    refine ⟨[], T, g, r, fl, some (.int (nI 7)), d4, ?_, rfl, hR, fun _ => ⟨rfl, fun q h1 h2 => by omega⟩, fun h => absurd rfl h, hfl⟩
    simp (disch := omega) only [g_X11_runsAll, ↓e_X11_runsAll_110, ↓e_X11_runsAll_107, ↓e_X11_runsAll_101, ↓e_X11_runsAll_69, ↓e_X11_runsAll_54, ↓e_X11_runsAll_32, ↓e_X11_runsAll_24, ↓e_X11_runsAll_22, ↓e_X11_runsAll_4, ↓e_X11_runsAll_0, ↓h_X11_runsAll_4, ↓h_X11_runsAll_24, ↓h_X11_runsAll_32, ↓it_s, ↓y_iload, ↓y_lload, ↓y_aload, ↓y_istore, ↓y_lstore, ↓y_astore, ↓y_iinc, ↓y_cI, ↓y_cL, ↓y_bin, ↓y_binL, ↓y_div, ↓y_divL, ↓y_lshl, ↓y_un, ↓y_i2l, ↓y_lneg, ↓y_l2i, ↓y_lcmp, ↓y_dupI, ↓y_dupR, ↓y_dup2, ↓y_pop, ↓y_goto, ↓y_eq0, ↓y_lt0, ↓y_le0, ↓y_eq, ↓y_lt, ↓y_le, ↓y_switch, ↓y_sw0, ↓y_sw1, ↓y_getI, ↓y_getL, ↓y_getR, ↓y_getT, ↓y_putI, ↓y_putZ, ↓y_putL, ↓y_putT, ↓y_iald, ↓y_bald, ↓y_lald, ↓y_aald, ↓y_iast, ↓y_bast, ↓y_last, ↓y_alen, ↓y_iret, ↓y_zret, ↓y_lret, ↓y_vret, ↓y_svI, ↓y_svL, ↓y_svV, ↓y_ivI, ↓y_ivL, ↓y_ivV, ↓y_max, ↓y_min, ↓y_absL, ↓y_cpI, ↓y_cpL, ↓x_n1I, ↓x_n1L, ↓x_n1R, ↓x_n0I, ↓x_n0L, ↓x_n0R, ↓x_s0, ↓x_s1i, ↓x_s1r, ↓x_s1n, ↓x_s2, ↓x_c0, ↓x_c2, ↓x_tk0, ↓x_tk1, ↓x_rcv, x_rI1, x_rL1, x_rV1, x_rIn, x_rLn, x_rVn, x_rIf, x_rLf, x_rVf, x_40, x_41, x_42, x_43, x_44, ↓reduceIte, if_true, if_false, ao_iadd, ao_isub, ao_imul, ao_iand, ao_ior, ao_ishl, ao_ishr, ao_iushr, ao_ladd, ao_lsub, ao_lmul, ao_land, ao_lor, ao_idiv, ao_irem, ao_ldiv, ao_lrem, ao_ineg, ao_i2b, ao_i2s, Nat.reduceAdd, Nat.reduceMul, Nat.reduceSub, Nat.reduceEqDiff, Nat.reduceLeDiff, and_self, true_and, x_lit, x_ofn, x_z0, x_z1, x_inbT, x_ltT, x_ltF, x_leT, x_leF, x_eqF, x_eqT, x_inb, x_lt, x_le, x_eq, x_cl, x_sub, nI_add, pk_mul, x_m1e, x_m1e', x_m1l, x_m1n, x_m1s, Nat.not_lt_zero, x_zb, x_b0, x_b1, decide_eq_false_iff_not, decide_eq_true_eq, Bool.false_eq_true, Bool.true_eq_false, Nat.add_zero, List.length_nil]
  | succ m ih =>
    intro p n T g r k fl d4 hm hp hk hfl hR
    have hR0 := hR
    obtain ⟨wT, hle, wG, hM, hgo, hr⟩ := hR
    have hMσ : MC ((MR σ g r).1 128) 0 (ranV V T) := by rw [MR_c]; exact hM
    have wcR : WC (ranV V T) := wG.2.1
    obtain ⟨N, eN⟩ : ∃ N, N = n + m + 1 := ⟨_, rfl⟩
    rw [show n + (m + 1) + 1 = N + 1 by omega]
    have h4 : (MR σ g r).1 128 4 = nI (vN V 4) := (MC_0 hMσ).1 4 (by omega)
    have h46 : vN V 4 ≤ 6 := wG.1.2.2.2.2.1
    cases hg : goH T p with
    | false =>
      obtain ⟨ps, T2, g2, r2, fl2, d3, d4', a1, a2, a3, a4, a5, a6⟩ := ih (p + 1) n T g r k fl d4 (by omega) (by omega) hk hfl hR0
      rw [← eN] at a1
      refine ⟨ps, T2, g2, r2, fl2, d3, d4', ?_, a2, a3, fun e => ?_, a5, a6⟩
      · rw [← a1]
        obtain ⟨M, eM⟩ : ∃ M, M = N := ⟨_, rfl⟩
        by_cases h6 : p < 6 ∧ vN V 4 ≤ p
        · rw [← eM]
          simp (disch := omega) only [g_X11_runsAll, ↓e_X11_runsAll_110, ↓e_X11_runsAll_107, ↓e_X11_runsAll_101, ↓e_X11_runsAll_69, ↓e_X11_runsAll_54, ↓e_X11_runsAll_32, ↓e_X11_runsAll_24, ↓e_X11_runsAll_22, ↓e_X11_runsAll_4, ↓e_X11_runsAll_0, ↓h_X11_runsAll_4, ↓h_X11_runsAll_24, ↓h_X11_runsAll_32, ↓it_s, ↓y_iload, ↓y_lload, ↓y_aload, ↓y_istore, ↓y_lstore, ↓y_astore, ↓y_iinc, ↓y_cI, ↓y_cL, ↓y_bin, ↓y_binL, ↓y_div, ↓y_divL, ↓y_lshl, ↓y_un, ↓y_i2l, ↓y_lneg, ↓y_l2i, ↓y_lcmp, ↓y_dupI, ↓y_dupR, ↓y_dup2, ↓y_pop, ↓y_goto, ↓y_eq0, ↓y_lt0, ↓y_le0, ↓y_eq, ↓y_lt, ↓y_le, ↓y_switch, ↓y_sw0, ↓y_sw1, ↓y_getI, ↓y_getL, ↓y_getR, ↓y_getT, ↓y_putI, ↓y_putZ, ↓y_putL, ↓y_putT, ↓y_iald, ↓y_bald, ↓y_lald, ↓y_aald, ↓y_iast, ↓y_bast, ↓y_last, ↓y_alen, ↓y_iret, ↓y_zret, ↓y_lret, ↓y_vret, ↓y_svI, ↓y_svL, ↓y_svV, ↓y_ivI, ↓y_ivL, ↓y_ivV, ↓y_max, ↓y_min, ↓y_absL, ↓y_cpI, ↓y_cpL, ↓x_n1I, ↓x_n1L, ↓x_n1R, ↓x_n0I, ↓x_n0L, ↓x_n0R, ↓x_s0, ↓x_s1i, ↓x_s1r, ↓x_s1n, ↓x_s2, ↓x_c0, ↓x_c2, ↓x_tk0, ↓x_tk1, ↓x_rcv, x_rI1, x_rL1, x_rV1, x_rIn, x_rLn, x_rVn, x_rIf, x_rLf, x_rVf, x_40, x_41, x_42, x_43, x_44, ↓reduceIte, if_true, if_false, ao_iadd, ao_isub, ao_imul, ao_iand, ao_ior, ao_ishl, ao_ishr, ao_iushr, ao_ladd, ao_lsub, ao_lmul, ao_land, ao_lor, ao_idiv, ao_irem, ao_ldiv, ao_lrem, ao_ineg, ao_i2b, ao_i2s, Nat.reduceAdd, Nat.reduceMul, Nat.reduceSub, Nat.reduceEqDiff, Nat.reduceLeDiff, and_self, true_and, x_lit, x_ofn, x_z0, x_z1, x_inbT, x_ltT, x_ltF, x_leT, x_leF, x_eqF, x_eqT, x_inb, x_lt, x_le, x_eq, x_cl, x_sub, nI_add, pk_mul, x_m1e, x_m1e', x_m1l, x_m1n, x_m1s, Nat.not_lt_zero, x_zb, x_b0, x_b1, decide_eq_false_iff_not, decide_eq_true_eq, Bool.false_eq_true, Bool.true_eq_false, kd_123, kd_128, ln_128, h4]
        · have htop := M_topCard (p := p) hMσ wcR (by omega)
          have hgh : ∃ b, S_X11_goesHome [.ref 123, .int (topI (vP (ranV V T) p))] (MR σ g r) = some (some (.int (nI 0)), MR σ g r) ∧ b = true := by
            refine ⟨true, ?_, rfl⟩
            cases hc : (vP T p).getLast? with
            | none =>
              rw [show vP (ranV V T) p = vP T p from rfl, topI_none hc]
              exact M_goesHomeN
            | some c =>
              have hc24 : c < 24 := wT.1 p (by omega) c (List.mem_of_getLast? hc)
              rw [show vP (ranV V T) p = vP T p from rfl, topI_some hc, M_goesHome hMσ wcR hc24]
              have : ¬ vH T (c / 6) = c % 6 := by
                unfold goH at hg
                rw [hc] at hg
                exact of_decide_eq_false hg
              have e2 : decide (vH (ranV V T) (c / 6) = c % 6) = false := decide_eq_false this
              rw [e2]; rfl
          obtain ⟨-, hgh, -⟩ := hgh
          rw [← eM]
          by_cases h66 : p < 6
          · simp (disch := omega) only [g_X11_runsAll, ↓e_X11_runsAll_110, ↓e_X11_runsAll_107, ↓e_X11_runsAll_101, ↓e_X11_runsAll_69, ↓e_X11_runsAll_54, ↓e_X11_runsAll_32, ↓e_X11_runsAll_24, ↓e_X11_runsAll_22, ↓e_X11_runsAll_4, ↓e_X11_runsAll_0, ↓h_X11_runsAll_4, ↓h_X11_runsAll_24, ↓h_X11_runsAll_32, ↓it_s, ↓y_iload, ↓y_lload, ↓y_aload, ↓y_istore, ↓y_lstore, ↓y_astore, ↓y_iinc, ↓y_cI, ↓y_cL, ↓y_bin, ↓y_binL, ↓y_div, ↓y_divL, ↓y_lshl, ↓y_un, ↓y_i2l, ↓y_lneg, ↓y_l2i, ↓y_lcmp, ↓y_dupI, ↓y_dupR, ↓y_dup2, ↓y_pop, ↓y_goto, ↓y_eq0, ↓y_lt0, ↓y_le0, ↓y_eq, ↓y_lt, ↓y_le, ↓y_switch, ↓y_sw0, ↓y_sw1, ↓y_getI, ↓y_getL, ↓y_getR, ↓y_getT, ↓y_putI, ↓y_putZ, ↓y_putL, ↓y_putT, ↓y_iald, ↓y_bald, ↓y_lald, ↓y_aald, ↓y_iast, ↓y_bast, ↓y_last, ↓y_alen, ↓y_iret, ↓y_zret, ↓y_lret, ↓y_vret, ↓y_svI, ↓y_svL, ↓y_svV, ↓y_ivI, ↓y_ivL, ↓y_ivV, ↓y_max, ↓y_min, ↓y_absL, ↓y_cpI, ↓y_cpL, ↓x_n1I, ↓x_n1L, ↓x_n1R, ↓x_n0I, ↓x_n0L, ↓x_n0R, ↓x_s0, ↓x_s1i, ↓x_s1r, ↓x_s1n, ↓x_s2, ↓x_c0, ↓x_c2, ↓x_tk0, ↓x_tk1, ↓x_rcv, x_rI1, x_rL1, x_rV1, x_rIn, x_rLn, x_rVn, x_rIf, x_rLf, x_rVf, x_40, x_41, x_42, x_43, x_44, ↓reduceIte, if_true, if_false, ao_iadd, ao_isub, ao_imul, ao_iand, ao_ior, ao_ishl, ao_ishr, ao_iushr, ao_ladd, ao_lsub, ao_lmul, ao_land, ao_lor, ao_idiv, ao_irem, ao_ldiv, ao_lrem, ao_ineg, ao_i2b, ao_i2s, Nat.reduceAdd, Nat.reduceMul, Nat.reduceSub, Nat.reduceEqDiff, Nat.reduceLeDiff, and_self, true_and, x_lit, x_ofn, x_z0, x_z1, x_inbT, x_ltT, x_ltF, x_leT, x_leF, x_eqF, x_eqT, x_inb, x_lt, x_le, x_eq, x_cl, x_sub, nI_add, pk_mul, x_m1e, x_m1e', x_m1l, x_m1n, x_m1s, Nat.not_lt_zero, x_zb, x_b0, x_b1, decide_eq_false_iff_not, decide_eq_true_eq, Bool.false_eq_true, Bool.true_eq_false, kd_123, kd_128, ln_128, h4, htop, hgh]
          · simp (disch := omega) only [g_X11_runsAll, ↓e_X11_runsAll_110, ↓e_X11_runsAll_107, ↓e_X11_runsAll_101, ↓e_X11_runsAll_69, ↓e_X11_runsAll_54, ↓e_X11_runsAll_32, ↓e_X11_runsAll_24, ↓e_X11_runsAll_22, ↓e_X11_runsAll_4, ↓e_X11_runsAll_0, ↓h_X11_runsAll_4, ↓h_X11_runsAll_24, ↓h_X11_runsAll_32, ↓it_s, ↓y_iload, ↓y_lload, ↓y_aload, ↓y_istore, ↓y_lstore, ↓y_astore, ↓y_iinc, ↓y_cI, ↓y_cL, ↓y_bin, ↓y_binL, ↓y_div, ↓y_divL, ↓y_lshl, ↓y_un, ↓y_i2l, ↓y_lneg, ↓y_l2i, ↓y_lcmp, ↓y_dupI, ↓y_dupR, ↓y_dup2, ↓y_pop, ↓y_goto, ↓y_eq0, ↓y_lt0, ↓y_le0, ↓y_eq, ↓y_lt, ↓y_le, ↓y_switch, ↓y_sw0, ↓y_sw1, ↓y_getI, ↓y_getL, ↓y_getR, ↓y_getT, ↓y_putI, ↓y_putZ, ↓y_putL, ↓y_putT, ↓y_iald, ↓y_bald, ↓y_lald, ↓y_aald, ↓y_iast, ↓y_bast, ↓y_last, ↓y_alen, ↓y_iret, ↓y_zret, ↓y_lret, ↓y_vret, ↓y_svI, ↓y_svL, ↓y_svV, ↓y_ivI, ↓y_ivL, ↓y_ivV, ↓y_max, ↓y_min, ↓y_absL, ↓y_cpI, ↓y_cpL, ↓x_n1I, ↓x_n1L, ↓x_n1R, ↓x_n0I, ↓x_n0L, ↓x_n0R, ↓x_s0, ↓x_s1i, ↓x_s1r, ↓x_s1n, ↓x_s2, ↓x_c0, ↓x_c2, ↓x_tk0, ↓x_tk1, ↓x_rcv, x_rI1, x_rL1, x_rV1, x_rIn, x_rLn, x_rVn, x_rIf, x_rLf, x_rVf, x_40, x_41, x_42, x_43, x_44, ↓reduceIte, if_true, if_false, ao_iadd, ao_isub, ao_imul, ao_iand, ao_ior, ao_ishl, ao_ishr, ao_iushr, ao_ladd, ao_lsub, ao_lmul, ao_land, ao_lor, ao_idiv, ao_irem, ao_ldiv, ao_lrem, ao_ineg, ao_i2b, ao_i2s, Nat.reduceAdd, Nat.reduceMul, Nat.reduceSub, Nat.reduceEqDiff, Nat.reduceLeDiff, and_self, true_and, x_lit, x_ofn, x_z0, x_z1, x_inbT, x_ltT, x_ltF, x_leT, x_leF, x_eqF, x_eqT, x_inb, x_lt, x_le, x_eq, x_cl, x_sub, nI_add, pk_mul, x_m1e, x_m1e', x_m1l, x_m1n, x_m1s, Nat.not_lt_zero, x_zb, x_b0, x_b1, decide_eq_false_iff_not, decide_eq_true_eq, Bool.false_eq_true, Bool.true_eq_false, kd_123, kd_128, ln_128, htop, hgh]
      · obtain ⟨b1, b2'⟩ := a4 e
        refine ⟨b1, fun q h1 h2 => ?_⟩
        by_cases e3 : q = p
        · subst e3; exact hg
        · exact b2' q (by omega) h2
    | true =>
      obtain ⟨c, c1, c2, c3⟩ := goH_spec hg
      have hc24 : c < 24 := wT.1 p (by omega) c (List.mem_of_getLast? c1)
      have c1' : (vP (ranV V T) p).getLast? = some c := c1
      have hrow : ¬ (p < 6 ∧ vN V 4 ≤ p) := by
        intro h
        have := wT.2.2.2.1 p h.1 (by
          have : vN T 4 = vN T 4 := rfl
          have h5 := wcR.2.2.2.1 p h.1 h.2
          have h6 : vP T p = [] := h5
          rw [h6] at c1; cases c1)
        rw [this] at c1; cases c1
      have htop := M_topCard (p := p) hMσ wcR (by omega)
      rw [topI_some c1'] at htop
      have hgh := M_goesHome hMσ wcR hc24
      have e2 : decide (vH (ranV V T) (c / 6) = c % 6) = true := decide_eq_true c2
      rw [e2] at hgh
      obtain ⟨g', t1, t2, t3⟩ := M_goes (f := p) (to := 7) hMσ wcR wG.1 wG.2.2 (by omega) (by omega) (by omega) (by omega) c1' (fun _ => by show vH T (c / 6) < 6; rw [c2]; omega) (fun h => absurd rfl h)
      have hst := ranV_step c1 c2 (hle (c / 6))
      rw [hst] at t2
      rw [MR_uc] at t1
      have hr1 := hr (c / 6) (by omega)
      have hb := sumR_le (a := vH V (c / 6)) (b := vH T (c / 6)) (by rw [c2]; omega)
      have hcan : canM (ranV V T) p 7 = true := by
        unfold canM
        rw [c1']
        simp only [if_true]
        rw [Bool.and_eq_true]
        exact ⟨decide_eq_true (by omega), e2⟩
      have hRn : RM V (stp T p) g0 g' (va_up r (c / 6) (nI (sumR (vH V (c / 6)) (vH T (c / 6)) + (c % 6 + 1)))) := by
        refine ⟨WC_stp wT (by omega) hg, fun s => ?_, ?_, t2, fun j hj => ?_, fun s hs => ?_⟩
        · rw [stp_H c1]
          split
          · rename_i e; subst e; have := hle (c / 6); omega
          · exact hle s
        · rw [← hst]
          exact WG_moveV wG (by omega) (by omega) (by unfold isTo; exact decide_eq_true (Or.inr rfl)) hcan c1'
        · rw [t3 j hj, MR_c]; exact hgo j hj
        · rw [stp_H c1]
          by_cases e : s = c / 6
          · subst e
            rw [up_s, if_pos rfl, sumR_s (hle _), c2]
          · rw [up_n e, if_neg e]; exact hr s hs
      obtain ⟨ps, T2, g2, r2, fl2, d3, d4', a1, a2, a3, a4, a5, a6⟩ := ih (p + 1) n (stp T p) g' _ (k + 1) 1 (some (.int (nI c))) (by omega) (by omega) (by have := tot_stp (V := T) (p := p) (by omega) hg; omega) (by omega) hRn
      rw [← eN] at a1
      have htot := tot_stp (V := T) (p := p) (by omega) hg
      refine ⟨p :: ps, T2, g2, r2, fl2, d3, d4', ?_, runL_mk (by omega) hg a2, a3, fun e => (by cases e), fun _ => ?_, a6⟩
      · rw [show k + (p :: ps).length = k + 1 + ps.length by simp; omega, ← a1]
        obtain ⟨M, eM⟩ : ∃ M, M = N := ⟨_, rfl⟩
        rw [← eM]
        by_cases h66 : p < 6
        · simp (disch := omega) only [g_X11_runsAll, ↓e_X11_runsAll_110, ↓e_X11_runsAll_107, ↓e_X11_runsAll_101, ↓e_X11_runsAll_69, ↓e_X11_runsAll_54, ↓e_X11_runsAll_32, ↓e_X11_runsAll_24, ↓e_X11_runsAll_22, ↓e_X11_runsAll_4, ↓e_X11_runsAll_0, ↓h_X11_runsAll_4, ↓h_X11_runsAll_24, ↓h_X11_runsAll_32, ↓it_s, ↓y_iload, ↓y_lload, ↓y_aload, ↓y_istore, ↓y_lstore, ↓y_astore, ↓y_iinc, ↓y_cI, ↓y_cL, ↓y_bin, ↓y_binL, ↓y_div, ↓y_divL, ↓y_lshl, ↓y_un, ↓y_i2l, ↓y_lneg, ↓y_l2i, ↓y_lcmp, ↓y_dupI, ↓y_dupR, ↓y_dup2, ↓y_pop, ↓y_goto, ↓y_eq0, ↓y_lt0, ↓y_le0, ↓y_eq, ↓y_lt, ↓y_le, ↓y_switch, ↓y_sw0, ↓y_sw1, ↓y_getI, ↓y_getL, ↓y_getR, ↓y_getT, ↓y_putI, ↓y_putZ, ↓y_putL, ↓y_putT, ↓y_iald, ↓y_bald, ↓y_lald, ↓y_aald, ↓y_iast, ↓y_bast, ↓y_last, ↓y_alen, ↓y_iret, ↓y_zret, ↓y_lret, ↓y_vret, ↓y_svI, ↓y_svL, ↓y_svV, ↓y_ivI, ↓y_ivL, ↓y_ivV, ↓y_max, ↓y_min, ↓y_absL, ↓y_cpI, ↓y_cpL, ↓x_n1I, ↓x_n1L, ↓x_n1R, ↓x_n0I, ↓x_n0L, ↓x_n0R, ↓x_s0, ↓x_s1i, ↓x_s1r, ↓x_s1n, ↓x_s2, ↓x_c0, ↓x_c2, ↓x_tk0, ↓x_tk1, ↓x_rcv, x_rI1, x_rL1, x_rV1, x_rIn, x_rLn, x_rVn, x_rIf, x_rLf, x_rVf, x_40, x_41, x_42, x_43, x_44, ↓reduceIte, if_true, if_false, ao_iadd, ao_isub, ao_imul, ao_iand, ao_ior, ao_ishl, ao_ishr, ao_iushr, ao_ladd, ao_lsub, ao_lmul, ao_land, ao_lor, ao_idiv, ao_irem, ao_ldiv, ao_lrem, ao_ineg, ao_i2b, ao_i2s, Nat.reduceAdd, Nat.reduceMul, Nat.reduceSub, Nat.reduceEqDiff, Nat.reduceLeDiff, and_self, true_and, x_lit, x_ofn, x_z0, x_z1, x_inbT, x_ltT, x_ltF, x_leT, x_leF, x_eqF, x_eqT, x_inb, x_lt, x_le, x_eq, x_cl, x_sub, nI_add, pk_mul, x_m1e, x_m1e', x_m1l, x_m1n, x_m1s, Nat.not_lt_zero, x_zb, x_b0, x_b1, decide_eq_false_iff_not, decide_eq_true_eq, Bool.false_eq_true, Bool.true_eq_false, kd_123, kd_128, kd_132, ln_128, ln_132, h4, htop, hgh, b2_t, t1, M_suitOf, M_rankOf, MR_r, hr1, MR_ur]
        · simp (disch := omega) only [g_X11_runsAll, ↓e_X11_runsAll_110, ↓e_X11_runsAll_107, ↓e_X11_runsAll_101, ↓e_X11_runsAll_69, ↓e_X11_runsAll_54, ↓e_X11_runsAll_32, ↓e_X11_runsAll_24, ↓e_X11_runsAll_22, ↓e_X11_runsAll_4, ↓e_X11_runsAll_0, ↓h_X11_runsAll_4, ↓h_X11_runsAll_24, ↓h_X11_runsAll_32, ↓it_s, ↓y_iload, ↓y_lload, ↓y_aload, ↓y_istore, ↓y_lstore, ↓y_astore, ↓y_iinc, ↓y_cI, ↓y_cL, ↓y_bin, ↓y_binL, ↓y_div, ↓y_divL, ↓y_lshl, ↓y_un, ↓y_i2l, ↓y_lneg, ↓y_l2i, ↓y_lcmp, ↓y_dupI, ↓y_dupR, ↓y_dup2, ↓y_pop, ↓y_goto, ↓y_eq0, ↓y_lt0, ↓y_le0, ↓y_eq, ↓y_lt, ↓y_le, ↓y_switch, ↓y_sw0, ↓y_sw1, ↓y_getI, ↓y_getL, ↓y_getR, ↓y_getT, ↓y_putI, ↓y_putZ, ↓y_putL, ↓y_putT, ↓y_iald, ↓y_bald, ↓y_lald, ↓y_aald, ↓y_iast, ↓y_bast, ↓y_last, ↓y_alen, ↓y_iret, ↓y_zret, ↓y_lret, ↓y_vret, ↓y_svI, ↓y_svL, ↓y_svV, ↓y_ivI, ↓y_ivL, ↓y_ivV, ↓y_max, ↓y_min, ↓y_absL, ↓y_cpI, ↓y_cpL, ↓x_n1I, ↓x_n1L, ↓x_n1R, ↓x_n0I, ↓x_n0L, ↓x_n0R, ↓x_s0, ↓x_s1i, ↓x_s1r, ↓x_s1n, ↓x_s2, ↓x_c0, ↓x_c2, ↓x_tk0, ↓x_tk1, ↓x_rcv, x_rI1, x_rL1, x_rV1, x_rIn, x_rLn, x_rVn, x_rIf, x_rLf, x_rVf, x_40, x_41, x_42, x_43, x_44, ↓reduceIte, if_true, if_false, ao_iadd, ao_isub, ao_imul, ao_iand, ao_ior, ao_ishl, ao_ishr, ao_iushr, ao_ladd, ao_lsub, ao_lmul, ao_land, ao_lor, ao_idiv, ao_irem, ao_ldiv, ao_lrem, ao_ineg, ao_i2b, ao_i2s, Nat.reduceAdd, Nat.reduceMul, Nat.reduceSub, Nat.reduceEqDiff, Nat.reduceLeDiff, and_self, true_and, x_lit, x_ofn, x_z0, x_z1, x_inbT, x_ltT, x_ltF, x_leT, x_leF, x_eqF, x_eqT, x_inb, x_lt, x_le, x_eq, x_cl, x_sub, nI_add, pk_mul, x_m1e, x_m1e', x_m1l, x_m1n, x_m1s, Nat.not_lt_zero, x_zb, x_b0, x_b1, decide_eq_false_iff_not, decide_eq_true_eq, Bool.false_eq_true, Bool.true_eq_false, kd_123, kd_128, kd_132, ln_128, ln_132, h4, htop, hgh, b2_t, t1, M_suitOf, M_rankOf, MR_r, hr1, MR_ur]
      · cases ps with
        | nil =>
          cases a2
          have := (a4 rfl).1
          exact ⟨this, by omega⟩
        | cons q qs =>
          have := a5 (by simp)
          exact ⟨this.1, by omega⟩
theorem runL_tot : ∀ (ps : List Nat) (T U : Vt), runL T ps = some U → tot U + ps.length = tot T
  | [], T, U, h => by cases h; rfl
  | p :: ps, T, U, h => by
    obtain ⟨a, b, c⟩ := runL_cons h
    have h1 := tot_stp a b
    have h2 := runL_tot ps _ U c
    simp; omega
theorem MRun_st (σ : am_M) (k : Nat) (d3 d4 : Option Value) (N : Nat) : am_it hd_X11_runsAll (N + 1) 24 [some (.ref 123), some (.int (nI k)), some (.int (nI 1)), d3, d4] [] σ = am_it hd_X11_runsAll (N + 1) 32 [some (.ref 123), some (.int (nI k)), some (.int (nI 0)), some (.int (nI 0)), d4] [] σ := by
  have e2 : ∀ lv st τ, am_it hd_X11_runsAll (N + 1) 32 lv st τ = dn_X11_runsAll_32 (am_it hd_X11_runsAll N) lv st τ := fun _ _ _ => rfl
  rw [e2]
  simp (disch := omega) only [↓e_X11_runsAll_24, ↓h_X11_runsAll_24, ↓it_s, ↓y_iload, ↓y_lload, ↓y_aload, ↓y_istore, ↓y_lstore, ↓y_astore, ↓y_iinc, ↓y_cI, ↓y_cL, ↓y_bin, ↓y_binL, ↓y_div, ↓y_divL, ↓y_lshl, ↓y_un, ↓y_i2l, ↓y_lneg, ↓y_l2i, ↓y_lcmp, ↓y_dupI, ↓y_dupR, ↓y_dup2, ↓y_pop, ↓y_goto, ↓y_eq0, ↓y_lt0, ↓y_le0, ↓y_eq, ↓y_lt, ↓y_le, ↓y_switch, ↓y_sw0, ↓y_sw1, ↓y_getI, ↓y_getL, ↓y_getR, ↓y_getT, ↓y_putI, ↓y_putZ, ↓y_putL, ↓y_putT, ↓y_iald, ↓y_bald, ↓y_lald, ↓y_aald, ↓y_iast, ↓y_bast, ↓y_last, ↓y_alen, ↓y_iret, ↓y_zret, ↓y_lret, ↓y_vret, ↓y_svI, ↓y_svL, ↓y_svV, ↓y_ivI, ↓y_ivL, ↓y_ivV, ↓y_max, ↓y_min, ↓y_absL, ↓y_cpI, ↓y_cpL, ↓x_n1I, ↓x_n1L, ↓x_n1R, ↓x_n0I, ↓x_n0L, ↓x_n0R, ↓x_s0, ↓x_s1i, ↓x_s1r, ↓x_s1n, ↓x_s2, ↓x_c0, ↓x_c2, ↓x_tk0, ↓x_tk1, ↓x_rcv, x_rI1, x_rL1, x_rV1, x_rIn, x_rLn, x_rVn, x_rIf, x_rLf, x_rVf, x_40, x_41, x_42, x_43, x_44, ↓reduceIte, if_true, if_false, ao_iadd, ao_isub, ao_imul, ao_iand, ao_ior, ao_ishl, ao_ishr, ao_iushr, ao_ladd, ao_lsub, ao_lmul, ao_land, ao_lor, ao_idiv, ao_irem, ao_ldiv, ao_lrem, ao_ineg, ao_i2b, ao_i2s, Nat.reduceAdd, Nat.reduceMul, Nat.reduceSub, Nat.reduceEqDiff, Nat.reduceLeDiff, and_self, true_and, x_lit, x_ofn, x_z0, x_z1, x_inbT, x_ltT, x_ltF, x_leT, x_leF, x_eqF, x_eqT, x_inb, x_lt, x_le, x_eq, x_cl, x_sub, nI_add, pk_mul, x_m1e, x_m1e', x_m1l, x_m1n, x_m1s, Nat.not_lt_zero, x_zb, x_b0, x_b1, decide_eq_false_iff_not, decide_eq_true_eq, Bool.false_eq_true, Bool.true_eq_false]
theorem MRun_ex (σ : am_M) (k : Nat) (d3 d4 : Option Value) (N : Nat) : am_it hd_X11_runsAll (N + 1) 24 [some (.ref 123), some (.int (nI k)), some (.int (nI 0)), d3, d4] [] σ = some (some (.int (nI k)), σ) := by
  simp (disch := omega) only [g_X11_runsAll, ↓e_X11_runsAll_110, ↓e_X11_runsAll_107, ↓e_X11_runsAll_101, ↓e_X11_runsAll_69, ↓e_X11_runsAll_54, ↓e_X11_runsAll_32, ↓e_X11_runsAll_24, ↓e_X11_runsAll_22, ↓e_X11_runsAll_4, ↓e_X11_runsAll_0, ↓h_X11_runsAll_4, ↓h_X11_runsAll_24, ↓h_X11_runsAll_32, ↓it_s, ↓y_iload, ↓y_lload, ↓y_aload, ↓y_istore, ↓y_lstore, ↓y_astore, ↓y_iinc, ↓y_cI, ↓y_cL, ↓y_bin, ↓y_binL, ↓y_div, ↓y_divL, ↓y_lshl, ↓y_un, ↓y_i2l, ↓y_lneg, ↓y_l2i, ↓y_lcmp, ↓y_dupI, ↓y_dupR, ↓y_dup2, ↓y_pop, ↓y_goto, ↓y_eq0, ↓y_lt0, ↓y_le0, ↓y_eq, ↓y_lt, ↓y_le, ↓y_switch, ↓y_sw0, ↓y_sw1, ↓y_getI, ↓y_getL, ↓y_getR, ↓y_getT, ↓y_putI, ↓y_putZ, ↓y_putL, ↓y_putT, ↓y_iald, ↓y_bald, ↓y_lald, ↓y_aald, ↓y_iast, ↓y_bast, ↓y_last, ↓y_alen, ↓y_iret, ↓y_zret, ↓y_lret, ↓y_vret, ↓y_svI, ↓y_svL, ↓y_svV, ↓y_ivI, ↓y_ivL, ↓y_ivV, ↓y_max, ↓y_min, ↓y_absL, ↓y_cpI, ↓y_cpL, ↓x_n1I, ↓x_n1L, ↓x_n1R, ↓x_n0I, ↓x_n0L, ↓x_n0R, ↓x_s0, ↓x_s1i, ↓x_s1r, ↓x_s1n, ↓x_s2, ↓x_c0, ↓x_c2, ↓x_tk0, ↓x_tk1, ↓x_rcv, x_rI1, x_rL1, x_rV1, x_rIn, x_rLn, x_rVn, x_rIf, x_rLf, x_rVf, x_40, x_41, x_42, x_43, x_44, ↓reduceIte, if_true, if_false, ao_iadd, ao_isub, ao_imul, ao_iand, ao_ior, ao_ishl, ao_ishr, ao_iushr, ao_ladd, ao_lsub, ao_lmul, ao_land, ao_lor, ao_idiv, ao_irem, ao_ldiv, ao_lrem, ao_ineg, ao_i2b, ao_i2s, Nat.reduceAdd, Nat.reduceMul, Nat.reduceSub, Nat.reduceEqDiff, Nat.reduceLeDiff, and_self, true_and, x_lit, x_ofn, x_z0, x_z1, x_inbT, x_ltT, x_ltF, x_leT, x_leF, x_eqF, x_eqT, x_inb, x_lt, x_le, x_eq, x_cl, x_sub, nI_add, pk_mul, x_m1e, x_m1e', x_m1l, x_m1n, x_m1s, Nat.not_lt_zero, x_zb, x_b0, x_b1, decide_eq_false_iff_not, decide_eq_true_eq, Bool.false_eq_true, Bool.true_eq_false]
theorem MRun_i (σ : am_M) (s : Nat) (hs : s < 4) (d3 d4 : Option Value) (N : Nat) : am_it hd_X11_runsAll (N + 1) 4 [some (.ref 123), some (.int (nI 0)), some (.int (nI s)), d3, d4] [] σ = am_it hd_X11_runsAll N 4 [some (.ref 123), some (.int (nI 0)), some (.int (nI (s + 1))), d3, d4] [] (am_uI σ 132 s (nI 0)) := by
  simp (disch := omega) only [↓e_X11_runsAll_4, ↓h_X11_runsAll_4, ↓it_s, ↓y_iload, ↓y_lload, ↓y_aload, ↓y_istore, ↓y_lstore, ↓y_astore, ↓y_iinc, ↓y_cI, ↓y_cL, ↓y_bin, ↓y_binL, ↓y_div, ↓y_divL, ↓y_lshl, ↓y_un, ↓y_i2l, ↓y_lneg, ↓y_l2i, ↓y_lcmp, ↓y_dupI, ↓y_dupR, ↓y_dup2, ↓y_pop, ↓y_goto, ↓y_eq0, ↓y_lt0, ↓y_le0, ↓y_eq, ↓y_lt, ↓y_le, ↓y_switch, ↓y_sw0, ↓y_sw1, ↓y_getI, ↓y_getL, ↓y_getR, ↓y_getT, ↓y_putI, ↓y_putZ, ↓y_putL, ↓y_putT, ↓y_iald, ↓y_bald, ↓y_lald, ↓y_aald, ↓y_iast, ↓y_bast, ↓y_last, ↓y_alen, ↓y_iret, ↓y_zret, ↓y_lret, ↓y_vret, ↓y_svI, ↓y_svL, ↓y_svV, ↓y_ivI, ↓y_ivL, ↓y_ivV, ↓y_max, ↓y_min, ↓y_absL, ↓y_cpI, ↓y_cpL, ↓x_n1I, ↓x_n1L, ↓x_n1R, ↓x_n0I, ↓x_n0L, ↓x_n0R, ↓x_s0, ↓x_s1i, ↓x_s1r, ↓x_s1n, ↓x_s2, ↓x_c0, ↓x_c2, ↓x_tk0, ↓x_tk1, ↓x_rcv, x_rI1, x_rL1, x_rV1, x_rIn, x_rLn, x_rVn, x_rIf, x_rLf, x_rVf, x_40, x_41, x_42, x_43, x_44, ↓reduceIte, if_true, if_false, ao_iadd, ao_isub, ao_imul, ao_iand, ao_ior, ao_ishl, ao_ishr, ao_iushr, ao_ladd, ao_lsub, ao_lmul, ao_land, ao_lor, ao_idiv, ao_irem, ao_ldiv, ao_lrem, ao_ineg, ao_i2b, ao_i2s, Nat.reduceAdd, Nat.reduceMul, Nat.reduceSub, Nat.reduceEqDiff, Nat.reduceLeDiff, and_self, true_and, x_lit, x_ofn, x_z0, x_z1, x_inbT, x_ltT, x_ltF, x_leT, x_leF, x_eqF, x_eqT, x_inb, x_lt, x_le, x_eq, x_cl, x_sub, nI_add, pk_mul, x_m1e, x_m1e', x_m1l, x_m1n, x_m1s, Nat.not_lt_zero, x_zb, x_b0, x_b1, decide_eq_false_iff_not, decide_eq_true_eq, Bool.false_eq_true, Bool.true_eq_false, kd_123, kd_132, ln_132]
theorem MRun_j (σ : am_M) (d3 d4 : Option Value) (N : Nat) : am_it hd_X11_runsAll (N + 1) 4 [some (.ref 123), some (.int (nI 0)), some (.int (nI 4)), d3, d4] [] σ = am_it hd_X11_runsAll (N + 1) 24 [some (.ref 123), some (.int (nI 0)), some (.int (nI 1)), d3, d4] [] σ := by
  have e2 : ∀ lv st τ, am_it hd_X11_runsAll (N + 1) 24 lv st τ = dn_X11_runsAll_24 (am_it hd_X11_runsAll N) lv st τ := fun _ _ _ => rfl
  rw [e2]
  simp (disch := omega) only [↓e_X11_runsAll_4, ↓e_X11_runsAll_22, ↓h_X11_runsAll_4, ↓it_s, ↓y_iload, ↓y_lload, ↓y_aload, ↓y_istore, ↓y_lstore, ↓y_astore, ↓y_iinc, ↓y_cI, ↓y_cL, ↓y_bin, ↓y_binL, ↓y_div, ↓y_divL, ↓y_lshl, ↓y_un, ↓y_i2l, ↓y_lneg, ↓y_l2i, ↓y_lcmp, ↓y_dupI, ↓y_dupR, ↓y_dup2, ↓y_pop, ↓y_goto, ↓y_eq0, ↓y_lt0, ↓y_le0, ↓y_eq, ↓y_lt, ↓y_le, ↓y_switch, ↓y_sw0, ↓y_sw1, ↓y_getI, ↓y_getL, ↓y_getR, ↓y_getT, ↓y_putI, ↓y_putZ, ↓y_putL, ↓y_putT, ↓y_iald, ↓y_bald, ↓y_lald, ↓y_aald, ↓y_iast, ↓y_bast, ↓y_last, ↓y_alen, ↓y_iret, ↓y_zret, ↓y_lret, ↓y_vret, ↓y_svI, ↓y_svL, ↓y_svV, ↓y_ivI, ↓y_ivL, ↓y_ivV, ↓y_max, ↓y_min, ↓y_absL, ↓y_cpI, ↓y_cpL, ↓x_n1I, ↓x_n1L, ↓x_n1R, ↓x_n0I, ↓x_n0L, ↓x_n0R, ↓x_s0, ↓x_s1i, ↓x_s1r, ↓x_s1n, ↓x_s2, ↓x_c0, ↓x_c2, ↓x_tk0, ↓x_tk1, ↓x_rcv, x_rI1, x_rL1, x_rV1, x_rIn, x_rLn, x_rVn, x_rIf, x_rLf, x_rVf, x_40, x_41, x_42, x_43, x_44, ↓reduceIte, if_true, if_false, ao_iadd, ao_isub, ao_imul, ao_iand, ao_ior, ao_ishl, ao_ishr, ao_iushr, ao_ladd, ao_lsub, ao_lmul, ao_land, ao_lor, ao_idiv, ao_irem, ao_ldiv, ao_lrem, ao_ineg, ao_i2b, ao_i2s, Nat.reduceAdd, Nat.reduceMul, Nat.reduceSub, Nat.reduceEqDiff, Nat.reduceLeDiff, and_self, true_and, x_lit, x_ofn, x_z0, x_z1, x_inbT, x_ltT, x_ltF, x_leT, x_leF, x_eqF, x_eqT, x_inb, x_lt, x_le, x_eq, x_cl, x_sub, nI_add, pk_mul, x_m1e, x_m1e', x_m1l, x_m1n, x_m1s, Nat.not_lt_zero, x_zb, x_b0, x_b1, decide_eq_false_iff_not, decide_eq_true_eq, Bool.false_eq_true, Bool.true_eq_false]
theorem MRun_out {V : Vt} {σ : am_M} {g0 : Nat → Int32} : ∀ (m n : Nat) (T : Vt) (g r : Nat → Int32) (k : Nat) (d3 d4 : Option Value), tot T ≤ m → k + tot T ≤ 100 → 10 * m + 20 < n → RM V T g0 g r →
    ∃ (ps : List Nat) (T2 : Vt) (g2 r2 : Nat → Int32), am_it hd_X11_runsAll n 24 [some (.ref 123), some (.int (nI k)), some (.int (nI 1)), d3, d4] [] (MR σ g r) = some (some (.int (nI (k + ps.length))), MR σ g2 r2) ∧ runL T ps = some T2 ∧ NF T2 ∧ RM V T2 g0 g2 r2 := by
  intro m
  induction m with
  | zero =>
    intro n T g r k d3 d4 hm hk hn hR
    obtain ⟨n', rfl⟩ : ∃ q, n = q + 1 + 7 + 1 := ⟨n - 9, by omega⟩
    obtain ⟨ps, T2, g2, r2, fl2, e3, e4, a1, a2, a3, a4, a5, a6⟩ := MRun_in (σ := σ) 7 0 (n' + 1) T g r k 0 d4 rfl (by omega) hk (by omega) hR
    have hps : ps = [] := by
      cases ps with
      | nil => rfl
      | cons q qs => have := (a5 (by simp)).2; omega
    subst hps
    obtain ⟨b1, b2'⟩ := a4 rfl
    subst b1
    cases a2
    refine ⟨[], T, g2, r2, ?_, rfl, fun p hp => b2' p (by omega) hp, a3⟩
    rw [MRun_st, a1, MRun_ex]
  | succ m ih =>
    intro n T g r k d3 d4 hm hk hn hR
    obtain ⟨n', rfl⟩ : ∃ q, n = q + 1 + 7 + 1 := ⟨n - 9, by omega⟩
    obtain ⟨ps, T2, g2, r2, fl2, e3, e4, a1, a2, a3, a4, a5, a6⟩ := MRun_in (σ := σ) 7 0 (n' + 1) T g r k 0 d4 rfl (by omega) hk (by omega) hR
    by_cases hps : ps = []
    · subst hps
      obtain ⟨b1, b2'⟩ := a4 rfl
      subst b1
      cases a2
      refine ⟨[], T, g2, r2, ?_, rfl, fun p hp => b2' p (by omega) hp, a3⟩
      rw [MRun_st, a1, MRun_ex]
    · obtain ⟨b1, b2'⟩ := a5 hps
      subst b1
      have ht := runL_tot ps T T2 a2
      obtain ⟨qs, T3, g3, r3, c1, c2, c3, c4⟩ := ih (n' + 1) T2 g2 r2 (k + ps.length) e3 e4 (by omega) (by omega) (by omega) a3
      refine ⟨ps ++ qs, T3, g3, r3, ?_, runL_app ps T T2 T3 qs a2 c2, c3, c4⟩
      rw [MRun_st, a1, c1, List.length_append, Nat.add_assoc]
theorem M_runsAll {V : Vt} {σ : am_M} (h : MC (σ.1 128) 0 V) (hw : WG V) : ∃ (ps : List Nat) (T : Vt) (g r : Nat → Int32), S_X11_runsAll [.ref 123] σ = some (some (.int (nI ps.length)), MR σ g r) ∧ runL V ps = some T ∧ NF T ∧ RM V T (σ.1 128) g r := by
  have hR : RM V V (σ.1 128) (σ.1 128) (va_up (va_up (va_up (va_up (σ.1 132) 0 (nI 0)) 1 (nI 0)) 2 (nI 0)) 3 (nI 0)) := by
    refine ⟨hw.2.1, fun _ => Nat.le_refl _, by rw [ranV_self]; exact hw, by rw [ranV_self]; exact h, fun _ _ => rfl, fun s hs => ?_⟩
    rw [sumR_0]
    have : s = 0 ∨ s = 1 ∨ s = 2 ∨ s = 3 := by omega
    rcases this with rfl | rfl | rfl | rfl <;> simp [va_up]
  have ht := tot_le hw.2.1
  obtain ⟨F, eF⟩ : ∃ F, am_fuel = F + 4 := ⟨am_fuel - 4, by unfold am_fuel; omega⟩
  have hF : 1000 < F := by unfold am_fuel at eF; omega
  obtain ⟨ps, T, g, r, a1, a2, a3, a4⟩ := MRun_out (σ := σ) 24 (F + 1) V (σ.1 128) _ 0 none none (by omega) (by omega) (by omega) hR
  refine ⟨ps, T, g, r, ?_, a2, a3, a4⟩
  rw [Nat.zero_add] at a1
  rw [← a1]
  have e0 : MR σ (σ.1 128) (va_up (va_up (va_up (va_up (σ.1 132) 0 (nI 0)) 1 (nI 0)) 2 (nI 0)) 3 (nI 0)) = am_uI (am_uI (am_uI (am_uI σ 132 0 (nI 0)) 132 1 (nI 0)) 132 2 (nI 0)) 132 3 (nI 0) := by
    unfold MR
    rw [uA_id rfl]
    simp only [uI_uA, uA_uA, uA_s]
  rw [e0, ← MRun_j, ← MRun_i _ 3 (by omega), ← MRun_i _ 2 (by omega), ← MRun_i _ 1 (by omega), ← MRun_i _ 0 (by omega)]
  rw [show F + 1 + 1 + 1 + 1 + 1 = am_fuel + 1 by omega]
  rfl
