/-! the model: moves by their number -/
theorem range_pre : ∀ (b a : Nat), a ≤ b → List.range a <+: List.range b
  | 0, a, h => by
    obtain rfl : a = 0 := by omega
    exact List.prefix_refl _
  | b + 1, a, h => by
    by_cases e : a = b + 1
    · subst e; exact List.prefix_refl _
    · rw [List.range_succ]
      exact (range_pre b a (by omega)).trans (List.prefix_append _ _)
def keyI (k : Option Nat) : Int32 := match k with
  | none => -nI 1
  | some j => nI j
def resM (V : Vt) (k : Option Nat) : Int32 := match k with
  | none => nI (mvL V).length
  | some j => match (mvL V)[j]? with
    | none => -nI 1
    | some c => nI c
theorem key_eq {k : Option Nat} {n : Nat} (hn : n < 2147483648) (hk : ∀ j, k = some j → j < 2147483648) : (nI n = keyI k) = (k = some n) := by
  rw [eq_iff_iff]
  cases k with
  | none => simp [keyI, x_m1e hn]
  | some j =>
    have := hk j rfl
    simp only [keyI]
    rw [x_eq hn this]
    constructor
    · intro e; rw [e]
    · intro e; exact (Option.some.inj e).symm
theorem ML_in {f : Nat} {V : Vt} {σ : am_M} {key : Option Nat} (h : MC (σ.1 128) 0 V) (wn : WN V) (wc : WC V) (hf : f < 7) (hk : ∀ j, key = some j → j < 2147483648) : ∀ (m to n : Nat), 8 - to = m → to ≤ 8 → (∀ j, key = some j → (mvO V f ++ mvI V f to).length ≤ j) →
    (∃ j c, key = some j ∧ (mvO V (f + 1))[j]? = some c ∧ am_it hd_X11_moveBy (n + m + 1) 13 [some (.ref 123), some (.int (keyI key)), some (.int (nI (mvO V f ++ mvI V f to).length)), some (.int (nI f)), some (.int (nI to))] [] σ = some (some (.int (nI c)), σ)) ∨
    (∃ d4, am_it hd_X11_moveBy (n + m + 1) 13 [some (.ref 123), some (.int (keyI key)), some (.int (nI (mvO V f ++ mvI V f to).length)), some (.int (nI f)), some (.int (nI to))] [] σ = am_it hd_X11_moveBy n 4 [some (.ref 123), some (.int (keyI key)), some (.int (nI (mvO V (f + 1)).length)), some (.int (nI (f + 1))), d4] [] σ ∧ ∀ j, key = some j → (mvO V (f + 1)).length ≤ j) := by
  have hr6 := wn.2.2.2.2.1
  intro m
  induction m with
  | zero =>
    intro to n hm hto hj
    have e : to = 8 := by omega
    subst e
    refine Or.inr ⟨some (.int (nI 8)), ?_, by rw [mvO_s]; exact hj⟩
    rw [mvO_s]
    simp (disch := omega) only [g_X11_moveBy, ↓e_X11_moveBy_87, ↓e_X11_moveBy_86, ↓e_X11_moveBy_78, ↓e_X11_moveBy_72, ↓e_X11_moveBy_66, ↓e_X11_moveBy_63, ↓e_X11_moveBy_50, ↓e_X11_moveBy_13, ↓e_X11_moveBy_4, ↓e_X11_moveBy_0, ↓h_X11_moveBy_4, ↓h_X11_moveBy_13, ↓it_s, ↓y_iload, ↓y_lload, ↓y_aload, ↓y_istore, ↓y_lstore, ↓y_astore, ↓y_iinc, ↓y_cI, ↓y_cL, ↓y_bin, ↓y_binL, ↓y_div, ↓y_divL, ↓y_lshl, ↓y_un, ↓y_i2l, ↓y_lneg, ↓y_l2i, ↓y_lcmp, ↓y_dupI, ↓y_dupR, ↓y_dup2, ↓y_pop, ↓y_goto, ↓y_eq0, ↓y_lt0, ↓y_le0, ↓y_eq, ↓y_lt, ↓y_le, ↓y_switch, ↓y_sw0, ↓y_sw1, ↓y_getI, ↓y_getL, ↓y_getR, ↓y_getT, ↓y_putI, ↓y_putZ, ↓y_putL, ↓y_putT, ↓y_iald, ↓y_bald, ↓y_lald, ↓y_aald, ↓y_iast, ↓y_bast, ↓y_last, ↓y_alen, ↓y_iret, ↓y_zret, ↓y_lret, ↓y_vret, ↓y_svI, ↓y_svL, ↓y_svV, ↓y_ivI, ↓y_ivL, ↓y_ivV, ↓y_max, ↓y_min, ↓y_absL, ↓y_cpI, ↓y_cpL, ↓x_n1I, ↓x_n1L, ↓x_n1R, ↓x_n0I, ↓x_n0L, ↓x_n0R, ↓x_s0, ↓x_s1i, ↓x_s1r, ↓x_s1n, ↓x_s2, ↓x_c0, ↓x_c2, ↓x_tk0, ↓x_tk1, ↓x_rcv, x_rI1, x_rL1, x_rV1, x_rIn, x_rLn, x_rVn, x_rIf, x_rLf, x_rVf, x_40, x_41, x_42, x_43, x_44, ↓reduceIte, if_true, if_false, ao_iadd, ao_isub, ao_imul, ao_iand, ao_ior, ao_ishl, ao_ishr, ao_iushr, ao_ladd, ao_lsub, ao_lmul, ao_land, ao_lor, ao_idiv, ao_irem, ao_ldiv, ao_lrem, ao_ineg, ao_i2b, ao_i2s, Nat.reduceAdd, Nat.reduceMul, Nat.reduceSub, Nat.reduceEqDiff, Nat.reduceLeDiff, and_self, true_and, x_lit, x_ofn, x_z0, x_z1, x_inbT, x_ltT, x_ltF, x_leT, x_leF, x_eqF, x_eqT, x_inb, x_lt, x_le, x_eq, x_cl, x_sub, nI_add, pk_mul, x_m1e, x_m1e', x_m1l, x_m1n, x_m1s, Nat.not_lt_zero, x_zb, x_b0, x_b1, decide_eq_false_iff_not, decide_eq_true_eq, Bool.false_eq_true, Bool.true_eq_false, Nat.add_zero]
  | succ m ih =>
    intro to n hm hto hj
    have hlen1 := mvO_len wn f
    have hlen2 := (mvI_len wn f to).1
    have hlen : (mvO V f ++ mvI V f to).length < 100 := by rw [List.length_append]; omega
    obtain ⟨N, eN⟩ : ∃ N, N = n + m + 1 := ⟨_, rfl⟩
    have ih' := ih (to + 1) n (by omega) (by omega)
    rw [← eN] at ih'
    rw [show n + (m + 1) + 1 = N + 1 by omega]
    have hfr := M_isFrom (p := f) h wn (by omega)
    have hti := M_isTo (p := to) h wn (by omega)
    by_cases hok : okM V f to = true
    · have hok' := hok
      unfold okM at hok'
      rw [Bool.and_eq_true, Bool.and_eq_true] at hok'
      obtain ⟨⟨o1, o2⟩, o3⟩ := hok'
      have h6 : to ≠ 6 := by
        intro e; subst e; rw [okM_6 wn] at hok; cases hok
      have hmv := M_isMove (f := f) (to := to) h wc wn hf (by omega) h6
      rw [o1] at hfr
      rw [o2] at hti
      rw [o3] at hmv
      have e1 : mvO V f ++ mvI V f (to + 1) = (mvO V f ++ mvI V f to) ++ [10 * f + to] := by rw [mvI_s, hok]; simp
      by_cases ek : key = some (mvO V f ++ mvI V f to).length
      · refine Or.inl ⟨(mvO V f ++ mvI V f to).length, 10 * f + to, ek, ?_, ?_⟩
        · have e8 : mvO V (f + 1) = (mvO V f ++ mvI V f (to + 1)) ++ (((List.range 8).filter (okM V f)).map (fun to => 10 * f + to)).drop (mvI V f (to + 1)).length := by
            rw [mvO_s, List.append_assoc]
            congr 1
            have hpre : mvI V f (to + 1) <+: mvI V f 8 := by
              unfold mvI
              exact ((range_pre _ _ (by omega)).filter _).map _
            obtain ⟨r, hr⟩ := hpre
            have : ((List.range 8).filter (okM V f)).map (fun to => 10 * f + to) = mvI V f 8 := rfl
            rw [this, ← hr, List.drop_left]
          rw [e8, e1, List.append_assoc, List.getElem?_append_right (Nat.le_refl _), Nat.sub_self]
          rfl
        · have hkk : (nI (mvO V f ++ mvI V f to).length = keyI key) = True := by rw [key_eq (by omega) hk, ek]; simp
          simp (disch := omega) only [g_X11_moveBy, ↓e_X11_moveBy_87, ↓e_X11_moveBy_86, ↓e_X11_moveBy_78, ↓e_X11_moveBy_72, ↓e_X11_moveBy_66, ↓e_X11_moveBy_63, ↓e_X11_moveBy_50, ↓e_X11_moveBy_13, ↓e_X11_moveBy_4, ↓e_X11_moveBy_0, ↓h_X11_moveBy_4, ↓h_X11_moveBy_13, ↓it_s, ↓y_iload, ↓y_lload, ↓y_aload, ↓y_istore, ↓y_lstore, ↓y_astore, ↓y_iinc, ↓y_cI, ↓y_cL, ↓y_bin, ↓y_binL, ↓y_div, ↓y_divL, ↓y_lshl, ↓y_un, ↓y_i2l, ↓y_lneg, ↓y_l2i, ↓y_lcmp, ↓y_dupI, ↓y_dupR, ↓y_dup2, ↓y_pop, ↓y_goto, ↓y_eq0, ↓y_lt0, ↓y_le0, ↓y_eq, ↓y_lt, ↓y_le, ↓y_switch, ↓y_sw0, ↓y_sw1, ↓y_getI, ↓y_getL, ↓y_getR, ↓y_getT, ↓y_putI, ↓y_putZ, ↓y_putL, ↓y_putT, ↓y_iald, ↓y_bald, ↓y_lald, ↓y_aald, ↓y_iast, ↓y_bast, ↓y_last, ↓y_alen, ↓y_iret, ↓y_zret, ↓y_lret, ↓y_vret, ↓y_svI, ↓y_svL, ↓y_svV, ↓y_ivI, ↓y_ivL, ↓y_ivV, ↓y_max, ↓y_min, ↓y_absL, ↓y_cpI, ↓y_cpL, ↓x_n1I, ↓x_n1L, ↓x_n1R, ↓x_n0I, ↓x_n0L, ↓x_n0R, ↓x_s0, ↓x_s1i, ↓x_s1r, ↓x_s1n, ↓x_s2, ↓x_c0, ↓x_c2, ↓x_tk0, ↓x_tk1, ↓x_rcv, x_rI1, x_rL1, x_rV1, x_rIn, x_rLn, x_rVn, x_rIf, x_rLf, x_rVf, x_40, x_41, x_42, x_43, x_44, ↓reduceIte, if_true, if_false, ao_iadd, ao_isub, ao_imul, ao_iand, ao_ior, ao_ishl, ao_ishr, ao_iushr, ao_ladd, ao_lsub, ao_lmul, ao_land, ao_lor, ao_idiv, ao_irem, ao_ldiv, ao_lrem, ao_ineg, ao_i2b, ao_i2s, Nat.reduceAdd, Nat.reduceMul, Nat.reduceSub, Nat.reduceEqDiff, Nat.reduceLeDiff, and_self, true_and, x_lit, x_ofn, x_z0, x_z1, x_inbT, x_ltT, x_ltF, x_leT, x_leF, x_eqF, x_eqT, x_inb, x_lt, x_le, x_eq, x_cl, x_sub, nI_add, pk_mul, x_m1e, x_m1e', x_m1l, x_m1n, x_m1s, Nat.not_lt_zero, x_zb, x_b0, x_b1, decide_eq_false_iff_not, decide_eq_true_eq, Bool.false_eq_true, Bool.true_eq_false, hfr, hti, hmv, kd_123, b2_t, hkk]
      · have hkk : (nI (mvO V f ++ mvI V f to).length = keyI key) = False := by rw [key_eq (by omega) hk]; exact eq_false ek
        have hj' : ∀ j, key = some j → (mvO V f ++ mvI V f (to + 1)).length ≤ j := by
          intro j e
          have h1 := hj j e
          rw [e1, List.length_append]
          have h2 : (mvO V f ++ mvI V f to).length ≠ j := fun q => ek (by rw [e, q])
          simp only [List.length_cons, List.length_nil]
          omega
        have ih2 := ih' hj'
        rw [e1, List.length_append] at ih2
        rcases ih2 with ⟨j, c, a1, a2, a3⟩ | ⟨d4, a1, a2⟩
        · refine Or.inl ⟨j, c, a1, a2, ?_⟩
          simp (disch := omega) only [g_X11_moveBy, ↓e_X11_moveBy_87, ↓e_X11_moveBy_86, ↓e_X11_moveBy_78, ↓e_X11_moveBy_72, ↓e_X11_moveBy_66, ↓e_X11_moveBy_63, ↓e_X11_moveBy_50, ↓e_X11_moveBy_13, ↓e_X11_moveBy_4, ↓e_X11_moveBy_0, ↓h_X11_moveBy_4, ↓h_X11_moveBy_13, ↓it_s, ↓y_iload, ↓y_lload, ↓y_aload, ↓y_istore, ↓y_lstore, ↓y_astore, ↓y_iinc, ↓y_cI, ↓y_cL, ↓y_bin, ↓y_binL, ↓y_div, ↓y_divL, ↓y_lshl, ↓y_un, ↓y_i2l, ↓y_lneg, ↓y_l2i, ↓y_lcmp, ↓y_dupI, ↓y_dupR, ↓y_dup2, ↓y_pop, ↓y_goto, ↓y_eq0, ↓y_lt0, ↓y_le0, ↓y_eq, ↓y_lt, ↓y_le, ↓y_switch, ↓y_sw0, ↓y_sw1, ↓y_getI, ↓y_getL, ↓y_getR, ↓y_getT, ↓y_putI, ↓y_putZ, ↓y_putL, ↓y_putT, ↓y_iald, ↓y_bald, ↓y_lald, ↓y_aald, ↓y_iast, ↓y_bast, ↓y_last, ↓y_alen, ↓y_iret, ↓y_zret, ↓y_lret, ↓y_vret, ↓y_svI, ↓y_svL, ↓y_svV, ↓y_ivI, ↓y_ivL, ↓y_ivV, ↓y_max, ↓y_min, ↓y_absL, ↓y_cpI, ↓y_cpL, ↓x_n1I, ↓x_n1L, ↓x_n1R, ↓x_n0I, ↓x_n0L, ↓x_n0R, ↓x_s0, ↓x_s1i, ↓x_s1r, ↓x_s1n, ↓x_s2, ↓x_c0, ↓x_c2, ↓x_tk0, ↓x_tk1, ↓x_rcv, x_rI1, x_rL1, x_rV1, x_rIn, x_rLn, x_rVn, x_rIf, x_rLf, x_rVf, x_40, x_41, x_42, x_43, x_44, ↓reduceIte, if_true, if_false, ao_iadd, ao_isub, ao_imul, ao_iand, ao_ior, ao_ishl, ao_ishr, ao_iushr, ao_ladd, ao_lsub, ao_lmul, ao_land, ao_lor, ao_idiv, ao_irem, ao_ldiv, ao_lrem, ao_ineg, ao_i2b, ao_i2s, Nat.reduceAdd, Nat.reduceMul, Nat.reduceSub, Nat.reduceEqDiff, Nat.reduceLeDiff, and_self, true_and, x_lit, x_ofn, x_z0, x_z1, x_inbT, x_ltT, x_ltF, x_leT, x_leF, x_eqF, x_eqT, x_inb, x_lt, x_le, x_eq, x_cl, x_sub, nI_add, pk_mul, x_m1e, x_m1e', x_m1l, x_m1n, x_m1s, Nat.not_lt_zero, x_zb, x_b0, x_b1, decide_eq_false_iff_not, decide_eq_true_eq, Bool.false_eq_true, Bool.true_eq_false, hfr, hti, hmv, kd_123, b2_t, hkk]
          exact a3
        · refine Or.inr ⟨d4, ?_, a2⟩
          simp (disch := omega) only [g_X11_moveBy, ↓e_X11_moveBy_87, ↓e_X11_moveBy_86, ↓e_X11_moveBy_78, ↓e_X11_moveBy_72, ↓e_X11_moveBy_66, ↓e_X11_moveBy_63, ↓e_X11_moveBy_50, ↓e_X11_moveBy_13, ↓e_X11_moveBy_4, ↓e_X11_moveBy_0, ↓h_X11_moveBy_4, ↓h_X11_moveBy_13, ↓it_s, ↓y_iload, ↓y_lload, ↓y_aload, ↓y_istore, ↓y_lstore, ↓y_astore, ↓y_iinc, ↓y_cI, ↓y_cL, ↓y_bin, ↓y_binL, ↓y_div, ↓y_divL, ↓y_lshl, ↓y_un, ↓y_i2l, ↓y_lneg, ↓y_l2i, ↓y_lcmp, ↓y_dupI, ↓y_dupR, ↓y_dup2, ↓y_pop, ↓y_goto, ↓y_eq0, ↓y_lt0, ↓y_le0, ↓y_eq, ↓y_lt, ↓y_le, ↓y_switch, ↓y_sw0, ↓y_sw1, ↓y_getI, ↓y_getL, ↓y_getR, ↓y_getT, ↓y_putI, ↓y_putZ, ↓y_putL, ↓y_putT, ↓y_iald, ↓y_bald, ↓y_lald, ↓y_aald, ↓y_iast, ↓y_bast, ↓y_last, ↓y_alen, ↓y_iret, ↓y_zret, ↓y_lret, ↓y_vret, ↓y_svI, ↓y_svL, ↓y_svV, ↓y_ivI, ↓y_ivL, ↓y_ivV, ↓y_max, ↓y_min, ↓y_absL, ↓y_cpI, ↓y_cpL, ↓x_n1I, ↓x_n1L, ↓x_n1R, ↓x_n0I, ↓x_n0L, ↓x_n0R, ↓x_s0, ↓x_s1i, ↓x_s1r, ↓x_s1n, ↓x_s2, ↓x_c0, ↓x_c2, ↓x_tk0, ↓x_tk1, ↓x_rcv, x_rI1, x_rL1, x_rV1, x_rIn, x_rLn, x_rVn, x_rIf, x_rLf, x_rVf, x_40, x_41, x_42, x_43, x_44, ↓reduceIte, if_true, if_false, ao_iadd, ao_isub, ao_imul, ao_iand, ao_ior, ao_ishl, ao_ishr, ao_iushr, ao_ladd, ao_lsub, ao_lmul, ao_land, ao_lor, ao_idiv, ao_irem, ao_ldiv, ao_lrem, ao_ineg, ao_i2b, ao_i2s, Nat.reduceAdd, Nat.reduceMul, Nat.reduceSub, Nat.reduceEqDiff, Nat.reduceLeDiff, and_self, true_and, x_lit, x_ofn, x_z0, x_z1, x_inbT, x_ltT, x_ltF, x_leT, x_leF, x_eqF, x_eqT, x_inb, x_lt, x_le, x_eq, x_cl, x_sub, nI_add, pk_mul, x_m1e, x_m1e', x_m1l, x_m1n, x_m1s, Nat.not_lt_zero, x_zb, x_b0, x_b1, decide_eq_false_iff_not, decide_eq_true_eq, Bool.false_eq_true, Bool.true_eq_false, hfr, hti, hmv, kd_123, b2_t, hkk]
          exact a1
    · have e1 : mvI V f (to + 1) = mvI V f to := by rw [mvI_s]; simp [hok]
      have hrun : am_it hd_X11_moveBy (N + 1) 13 [some (.ref 123), some (.int (keyI key)), some (.int (nI (mvO V f ++ mvI V f to).length)), some (.int (nI f)), some (.int (nI to))] [] σ = am_it hd_X11_moveBy N 13 [some (.ref 123), some (.int (keyI key)), some (.int (nI (mvO V f ++ mvI V f to).length)), some (.int (nI f)), some (.int (nI (to + 1)))] [] σ := by
        cases o1 : isFr V f with
        | false =>
          rw [o1] at hfr
          simp (disch := omega) only [g_X11_moveBy, ↓e_X11_moveBy_87, ↓e_X11_moveBy_86, ↓e_X11_moveBy_78, ↓e_X11_moveBy_72, ↓e_X11_moveBy_66, ↓e_X11_moveBy_63, ↓e_X11_moveBy_50, ↓e_X11_moveBy_13, ↓e_X11_moveBy_4, ↓e_X11_moveBy_0, ↓h_X11_moveBy_4, ↓h_X11_moveBy_13, ↓it_s, ↓y_iload, ↓y_lload, ↓y_aload, ↓y_istore, ↓y_lstore, ↓y_astore, ↓y_iinc, ↓y_cI, ↓y_cL, ↓y_bin, ↓y_binL, ↓y_div, ↓y_divL, ↓y_lshl, ↓y_un, ↓y_i2l, ↓y_lneg, ↓y_l2i, ↓y_lcmp, ↓y_dupI, ↓y_dupR, ↓y_dup2, ↓y_pop, ↓y_goto, ↓y_eq0, ↓y_lt0, ↓y_le0, ↓y_eq, ↓y_lt, ↓y_le, ↓y_switch, ↓y_sw0, ↓y_sw1, ↓y_getI, ↓y_getL, ↓y_getR, ↓y_getT, ↓y_putI, ↓y_putZ, ↓y_putL, ↓y_putT, ↓y_iald, ↓y_bald, ↓y_lald, ↓y_aald, ↓y_iast, ↓y_bast, ↓y_last, ↓y_alen, ↓y_iret, ↓y_zret, ↓y_lret, ↓y_vret, ↓y_svI, ↓y_svL, ↓y_svV, ↓y_ivI, ↓y_ivL, ↓y_ivV, ↓y_max, ↓y_min, ↓y_absL, ↓y_cpI, ↓y_cpL, ↓x_n1I, ↓x_n1L, ↓x_n1R, ↓x_n0I, ↓x_n0L, ↓x_n0R, ↓x_s0, ↓x_s1i, ↓x_s1r, ↓x_s1n, ↓x_s2, ↓x_c0, ↓x_c2, ↓x_tk0, ↓x_tk1, ↓x_rcv, x_rI1, x_rL1, x_rV1, x_rIn, x_rLn, x_rVn, x_rIf, x_rLf, x_rVf, x_40, x_41, x_42, x_43, x_44, ↓reduceIte, if_true, if_false, ao_iadd, ao_isub, ao_imul, ao_iand, ao_ior, ao_ishl, ao_ishr, ao_iushr, ao_ladd, ao_lsub, ao_lmul, ao_land, ao_lor, ao_idiv, ao_irem, ao_ldiv, ao_lrem, ao_ineg, ao_i2b, ao_i2s, Nat.reduceAdd, Nat.reduceMul, Nat.reduceSub, Nat.reduceEqDiff, Nat.reduceLeDiff, and_self, true_and, x_lit, x_ofn, x_z0, x_z1, x_inbT, x_ltT, x_ltF, x_leT, x_leF, x_eqF, x_eqT, x_inb, x_lt, x_le, x_eq, x_cl, x_sub, nI_add, pk_mul, x_m1e, x_m1e', x_m1l, x_m1n, x_m1s, Nat.not_lt_zero, x_zb, x_b0, x_b1, decide_eq_false_iff_not, decide_eq_true_eq, Bool.false_eq_true, Bool.true_eq_false, hfr, kd_123, b2_f]
        | true =>
          rw [o1] at hfr
          cases o2 : isTo V to with
          | false =>
            rw [o2] at hti
            simp (disch := omega) only [g_X11_moveBy, ↓e_X11_moveBy_87, ↓e_X11_moveBy_86, ↓e_X11_moveBy_78, ↓e_X11_moveBy_72, ↓e_X11_moveBy_66, ↓e_X11_moveBy_63, ↓e_X11_moveBy_50, ↓e_X11_moveBy_13, ↓e_X11_moveBy_4, ↓e_X11_moveBy_0, ↓h_X11_moveBy_4, ↓h_X11_moveBy_13, ↓it_s, ↓y_iload, ↓y_lload, ↓y_aload, ↓y_istore, ↓y_lstore, ↓y_astore, ↓y_iinc, ↓y_cI, ↓y_cL, ↓y_bin, ↓y_binL, ↓y_div, ↓y_divL, ↓y_lshl, ↓y_un, ↓y_i2l, ↓y_lneg, ↓y_l2i, ↓y_lcmp, ↓y_dupI, ↓y_dupR, ↓y_dup2, ↓y_pop, ↓y_goto, ↓y_eq0, ↓y_lt0, ↓y_le0, ↓y_eq, ↓y_lt, ↓y_le, ↓y_switch, ↓y_sw0, ↓y_sw1, ↓y_getI, ↓y_getL, ↓y_getR, ↓y_getT, ↓y_putI, ↓y_putZ, ↓y_putL, ↓y_putT, ↓y_iald, ↓y_bald, ↓y_lald, ↓y_aald, ↓y_iast, ↓y_bast, ↓y_last, ↓y_alen, ↓y_iret, ↓y_zret, ↓y_lret, ↓y_vret, ↓y_svI, ↓y_svL, ↓y_svV, ↓y_ivI, ↓y_ivL, ↓y_ivV, ↓y_max, ↓y_min, ↓y_absL, ↓y_cpI, ↓y_cpL, ↓x_n1I, ↓x_n1L, ↓x_n1R, ↓x_n0I, ↓x_n0L, ↓x_n0R, ↓x_s0, ↓x_s1i, ↓x_s1r, ↓x_s1n, ↓x_s2, ↓x_c0, ↓x_c2, ↓x_tk0, ↓x_tk1, ↓x_rcv, x_rI1, x_rL1, x_rV1, x_rIn, x_rLn, x_rVn, x_rIf, x_rLf, x_rVf, x_40, x_41, x_42, x_43, x_44, ↓reduceIte, if_true, if_false, ao_iadd, ao_isub, ao_imul, ao_iand, ao_ior, ao_ishl, ao_ishr, ao_iushr, ao_ladd, ao_lsub, ao_lmul, ao_land, ao_lor, ao_idiv, ao_irem, ao_ldiv, ao_lrem, ao_ineg, ao_i2b, ao_i2s, Nat.reduceAdd, Nat.reduceMul, Nat.reduceSub, Nat.reduceEqDiff, Nat.reduceLeDiff, and_self, true_and, x_lit, x_ofn, x_z0, x_z1, x_inbT, x_ltT, x_ltF, x_leT, x_leF, x_eqF, x_eqT, x_inb, x_lt, x_le, x_eq, x_cl, x_sub, nI_add, pk_mul, x_m1e, x_m1e', x_m1l, x_m1n, x_m1s, Nat.not_lt_zero, x_zb, x_b0, x_b1, decide_eq_false_iff_not, decide_eq_true_eq, Bool.false_eq_true, Bool.true_eq_false, hfr, hti, kd_123, b2_f, b2_t]
          | true =>
            rw [o2] at hti
            have h6 : to ≠ 6 := by
              intro e; subst e
              have := of_decide_eq_true o2
              omega
            have hmv := M_isMove (f := f) (to := to) h wc wn hf (by omega) h6
            have o3 : canM V f to = false := by
              cases q : canM V f to with
              | false => rfl
              | true => exact absurd (by unfold okM; rw [o1, o2, q]; rfl) hok
            rw [o3] at hmv
            simp (disch := omega) only [g_X11_moveBy, ↓e_X11_moveBy_87, ↓e_X11_moveBy_86, ↓e_X11_moveBy_78, ↓e_X11_moveBy_72, ↓e_X11_moveBy_66, ↓e_X11_moveBy_63, ↓e_X11_moveBy_50, ↓e_X11_moveBy_13, ↓e_X11_moveBy_4, ↓e_X11_moveBy_0, ↓h_X11_moveBy_4, ↓h_X11_moveBy_13, ↓it_s, ↓y_iload, ↓y_lload, ↓y_aload, ↓y_istore, ↓y_lstore, ↓y_astore, ↓y_iinc, ↓y_cI, ↓y_cL, ↓y_bin, ↓y_binL, ↓y_div, ↓y_divL, ↓y_lshl, ↓y_un, ↓y_i2l, ↓y_lneg, ↓y_l2i, ↓y_lcmp, ↓y_dupI, ↓y_dupR, ↓y_dup2, ↓y_pop, ↓y_goto, ↓y_eq0, ↓y_lt0, ↓y_le0, ↓y_eq, ↓y_lt, ↓y_le, ↓y_switch, ↓y_sw0, ↓y_sw1, ↓y_getI, ↓y_getL, ↓y_getR, ↓y_getT, ↓y_putI, ↓y_putZ, ↓y_putL, ↓y_putT, ↓y_iald, ↓y_bald, ↓y_lald, ↓y_aald, ↓y_iast, ↓y_bast, ↓y_last, ↓y_alen, ↓y_iret, ↓y_zret, ↓y_lret, ↓y_vret, ↓y_svI, ↓y_svL, ↓y_svV, ↓y_ivI, ↓y_ivL, ↓y_ivV, ↓y_max, ↓y_min, ↓y_absL, ↓y_cpI, ↓y_cpL, ↓x_n1I, ↓x_n1L, ↓x_n1R, ↓x_n0I, ↓x_n0L, ↓x_n0R, ↓x_s0, ↓x_s1i, ↓x_s1r, ↓x_s1n, ↓x_s2, ↓x_c0, ↓x_c2, ↓x_tk0, ↓x_tk1, ↓x_rcv, x_rI1, x_rL1, x_rV1, x_rIn, x_rLn, x_rVn, x_rIf, x_rLf, x_rVf, x_40, x_41, x_42, x_43, x_44, ↓reduceIte, if_true, if_false, ao_iadd, ao_isub, ao_imul, ao_iand, ao_ior, ao_ishl, ao_ishr, ao_iushr, ao_ladd, ao_lsub, ao_lmul, ao_land, ao_lor, ao_idiv, ao_irem, ao_ldiv, ao_lrem, ao_ineg, ao_i2b, ao_i2s, Nat.reduceAdd, Nat.reduceMul, Nat.reduceSub, Nat.reduceEqDiff, Nat.reduceLeDiff, and_self, true_and, x_lit, x_ofn, x_z0, x_z1, x_inbT, x_ltT, x_ltF, x_leT, x_leF, x_eqF, x_eqT, x_inb, x_lt, x_le, x_eq, x_cl, x_sub, nI_add, pk_mul, x_m1e, x_m1e', x_m1l, x_m1n, x_m1s, Nat.not_lt_zero, x_zb, x_b0, x_b1, decide_eq_false_iff_not, decide_eq_true_eq, Bool.false_eq_true, Bool.true_eq_false, hfr, hti, hmv, kd_123, b2_f, b2_t]
      have ih2 := ih' (by rw [e1]; exact hj)
      rw [e1] at ih2
      rw [hrun]
      exact ih2
theorem ML_out {V : Vt} {σ : am_M} {key : Option Nat} (h : MC (σ.1 128) 0 V) (wn : WN V) (wc : WC V) (hk : ∀ j, key = some j → j < 2147483648) : ∀ (m f n : Nat) (d4 : Option Value), 7 - f = m → f ≤ 7 → 10 * m < n → (∀ j, key = some j → (mvO V f).length ≤ j) →
    am_it hd_X11_moveBy n 4 [some (.ref 123), some (.int (keyI key)), some (.int (nI (mvO V f).length)), some (.int (nI f)), d4] [] σ = some (some (.int (resM V key)), σ) := by
  intro m
  induction m with
  | zero =>
    intro f n d4 hm hf hn hj
    have e : f = 7 := by omega
    subst e
    obtain ⟨n, rfl⟩ : ∃ k, n = k + 1 := ⟨n - 1, by omega⟩
    cases key with
    | none =>
      simp (disch := omega) only [g_X11_moveBy, ↓e_X11_moveBy_87, ↓e_X11_moveBy_86, ↓e_X11_moveBy_78, ↓e_X11_moveBy_72, ↓e_X11_moveBy_66, ↓e_X11_moveBy_63, ↓e_X11_moveBy_50, ↓e_X11_moveBy_13, ↓e_X11_moveBy_4, ↓e_X11_moveBy_0, ↓h_X11_moveBy_4, ↓h_X11_moveBy_13, ↓it_s, ↓y_iload, ↓y_lload, ↓y_aload, ↓y_istore, ↓y_lstore, ↓y_astore, ↓y_iinc, ↓y_cI, ↓y_cL, ↓y_bin, ↓y_binL, ↓y_div, ↓y_divL, ↓y_lshl, ↓y_un, ↓y_i2l, ↓y_lneg, ↓y_l2i, ↓y_lcmp, ↓y_dupI, ↓y_dupR, ↓y_dup2, ↓y_pop, ↓y_goto, ↓y_eq0, ↓y_lt0, ↓y_le0, ↓y_eq, ↓y_lt, ↓y_le, ↓y_switch, ↓y_sw0, ↓y_sw1, ↓y_getI, ↓y_getL, ↓y_getR, ↓y_getT, ↓y_putI, ↓y_putZ, ↓y_putL, ↓y_putT, ↓y_iald, ↓y_bald, ↓y_lald, ↓y_aald, ↓y_iast, ↓y_bast, ↓y_last, ↓y_alen, ↓y_iret, ↓y_zret, ↓y_lret, ↓y_vret, ↓y_svI, ↓y_svL, ↓y_svV, ↓y_ivI, ↓y_ivL, ↓y_ivV, ↓y_max, ↓y_min, ↓y_absL, ↓y_cpI, ↓y_cpL, ↓x_n1I, ↓x_n1L, ↓x_n1R, ↓x_n0I, ↓x_n0L, ↓x_n0R, ↓x_s0, ↓x_s1i, ↓x_s1r, ↓x_s1n, ↓x_s2, ↓x_c0, ↓x_c2, ↓x_tk0, ↓x_tk1, ↓x_rcv, x_rI1, x_rL1, x_rV1, x_rIn, x_rLn, x_rVn, x_rIf, x_rLf, x_rVf, x_40, x_41, x_42, x_43, x_44, ↓reduceIte, if_true, if_false, ao_iadd, ao_isub, ao_imul, ao_iand, ao_ior, ao_ishl, ao_ishr, ao_iushr, ao_ladd, ao_lsub, ao_lmul, ao_land, ao_lor, ao_idiv, ao_irem, ao_ldiv, ao_lrem, ao_ineg, ao_i2b, ao_i2s, Nat.reduceAdd, Nat.reduceMul, Nat.reduceSub, Nat.reduceEqDiff, Nat.reduceLeDiff, and_self, true_and, x_lit, x_ofn, x_z0, x_z1, x_inbT, x_ltT, x_ltF, x_leT, x_leF, x_eqF, x_eqT, x_inb, x_lt, x_le, x_eq, x_cl, x_sub, nI_add, pk_mul, x_m1e, x_m1e', x_m1l, x_m1n, x_m1s, Nat.not_lt_zero, x_zb, x_b0, x_b1, decide_eq_false_iff_not, decide_eq_true_eq, Bool.false_eq_true, Bool.true_eq_false, keyI, resM]
      rfl
    | some j =>
      have h1 := hj j rfl
      have h2 := hk j rfl
      have e1 : (mvL V)[j]? = none := List.getElem?_eq_none h1
      simp (disch := omega) only [g_X11_moveBy, ↓e_X11_moveBy_87, ↓e_X11_moveBy_86, ↓e_X11_moveBy_78, ↓e_X11_moveBy_72, ↓e_X11_moveBy_66, ↓e_X11_moveBy_63, ↓e_X11_moveBy_50, ↓e_X11_moveBy_13, ↓e_X11_moveBy_4, ↓e_X11_moveBy_0, ↓h_X11_moveBy_4, ↓h_X11_moveBy_13, ↓it_s, ↓y_iload, ↓y_lload, ↓y_aload, ↓y_istore, ↓y_lstore, ↓y_astore, ↓y_iinc, ↓y_cI, ↓y_cL, ↓y_bin, ↓y_binL, ↓y_div, ↓y_divL, ↓y_lshl, ↓y_un, ↓y_i2l, ↓y_lneg, ↓y_l2i, ↓y_lcmp, ↓y_dupI, ↓y_dupR, ↓y_dup2, ↓y_pop, ↓y_goto, ↓y_eq0, ↓y_lt0, ↓y_le0, ↓y_eq, ↓y_lt, ↓y_le, ↓y_switch, ↓y_sw0, ↓y_sw1, ↓y_getI, ↓y_getL, ↓y_getR, ↓y_getT, ↓y_putI, ↓y_putZ, ↓y_putL, ↓y_putT, ↓y_iald, ↓y_bald, ↓y_lald, ↓y_aald, ↓y_iast, ↓y_bast, ↓y_last, ↓y_alen, ↓y_iret, ↓y_zret, ↓y_lret, ↓y_vret, ↓y_svI, ↓y_svL, ↓y_svV, ↓y_ivI, ↓y_ivL, ↓y_ivV, ↓y_max, ↓y_min, ↓y_absL, ↓y_cpI, ↓y_cpL, ↓x_n1I, ↓x_n1L, ↓x_n1R, ↓x_n0I, ↓x_n0L, ↓x_n0R, ↓x_s0, ↓x_s1i, ↓x_s1r, ↓x_s1n, ↓x_s2, ↓x_c0, ↓x_c2, ↓x_tk0, ↓x_tk1, ↓x_rcv, x_rI1, x_rL1, x_rV1, x_rIn, x_rLn, x_rVn, x_rIf, x_rLf, x_rVf, x_40, x_41, x_42, x_43, x_44, ↓reduceIte, if_true, if_false, ao_iadd, ao_isub, ao_imul, ao_iand, ao_ior, ao_ishl, ao_ishr, ao_iushr, ao_ladd, ao_lsub, ao_lmul, ao_land, ao_lor, ao_idiv, ao_irem, ao_ldiv, ao_lrem, ao_ineg, ao_i2b, ao_i2s, Nat.reduceAdd, Nat.reduceMul, Nat.reduceSub, Nat.reduceEqDiff, Nat.reduceLeDiff, and_self, true_and, x_lit, x_ofn, x_z0, x_z1, x_inbT, x_ltT, x_ltF, x_leT, x_leF, x_eqF, x_eqT, x_inb, x_lt, x_le, x_eq, x_cl, x_sub, nI_add, pk_mul, x_m1e, x_m1e', x_m1l, x_m1n, x_m1s, Nat.not_lt_zero, x_zb, x_b0, x_b1, decide_eq_false_iff_not, decide_eq_true_eq, Bool.false_eq_true, Bool.true_eq_false, keyI, resM, e1]
  | succ m ih =>
    intro f n d4 hm hf hn hj
    obtain ⟨n', rfl⟩ : ∃ k, n = k + 8 + 1 := ⟨n - 9, by omega⟩
    have hstep : am_it hd_X11_moveBy (n' + 8 + 1) 4 [some (.ref 123), some (.int (keyI key)), some (.int (nI (mvO V f).length)), some (.int (nI f)), d4] [] σ = am_it hd_X11_moveBy (n' + 8 + 1) 13 [some (.ref 123), some (.int (keyI key)), some (.int (nI (mvO V f).length)), some (.int (nI f)), some (.int (nI 0))] [] σ := by
      obtain ⟨N, eN⟩ : ∃ N, N = n' + 8 := ⟨_, rfl⟩
      rw [← eN]
      have e2 : ∀ lv st τ, am_it hd_X11_moveBy (N + 1) 13 lv st τ = dn_X11_moveBy_13 (am_it hd_X11_moveBy N) lv st τ := fun _ _ _ => rfl
      rw [e2]
      simp (disch := omega) only [↓e_X11_moveBy_4, ↓h_X11_moveBy_4, ↓it_s, ↓y_iload, ↓y_lload, ↓y_aload, ↓y_istore, ↓y_lstore, ↓y_astore, ↓y_iinc, ↓y_cI, ↓y_cL, ↓y_bin, ↓y_binL, ↓y_div, ↓y_divL, ↓y_lshl, ↓y_un, ↓y_i2l, ↓y_lneg, ↓y_l2i, ↓y_lcmp, ↓y_dupI, ↓y_dupR, ↓y_dup2, ↓y_pop, ↓y_goto, ↓y_eq0, ↓y_lt0, ↓y_le0, ↓y_eq, ↓y_lt, ↓y_le, ↓y_switch, ↓y_sw0, ↓y_sw1, ↓y_getI, ↓y_getL, ↓y_getR, ↓y_getT, ↓y_putI, ↓y_putZ, ↓y_putL, ↓y_putT, ↓y_iald, ↓y_bald, ↓y_lald, ↓y_aald, ↓y_iast, ↓y_bast, ↓y_last, ↓y_alen, ↓y_iret, ↓y_zret, ↓y_lret, ↓y_vret, ↓y_svI, ↓y_svL, ↓y_svV, ↓y_ivI, ↓y_ivL, ↓y_ivV, ↓y_max, ↓y_min, ↓y_absL, ↓y_cpI, ↓y_cpL, ↓x_n1I, ↓x_n1L, ↓x_n1R, ↓x_n0I, ↓x_n0L, ↓x_n0R, ↓x_s0, ↓x_s1i, ↓x_s1r, ↓x_s1n, ↓x_s2, ↓x_c0, ↓x_c2, ↓x_tk0, ↓x_tk1, ↓x_rcv, x_rI1, x_rL1, x_rV1, x_rIn, x_rLn, x_rVn, x_rIf, x_rLf, x_rVf, x_40, x_41, x_42, x_43, x_44, ↓reduceIte, if_true, if_false, ao_iadd, ao_isub, ao_imul, ao_iand, ao_ior, ao_ishl, ao_ishr, ao_iushr, ao_ladd, ao_lsub, ao_lmul, ao_land, ao_lor, ao_idiv, ao_irem, ao_ldiv, ao_lrem, ao_ineg, ao_i2b, ao_i2s, Nat.reduceAdd, Nat.reduceMul, Nat.reduceSub, Nat.reduceEqDiff, Nat.reduceLeDiff, and_self, true_and, x_lit, x_ofn, x_z0, x_z1, x_inbT, x_ltT, x_ltF, x_leT, x_leF, x_eqF, x_eqT, x_inb, x_lt, x_le, x_eq, x_cl, x_sub, nI_add, pk_mul, x_m1e, x_m1e', x_m1l, x_m1n, x_m1s, Nat.not_lt_zero, x_zb, x_b0, x_b1, decide_eq_false_iff_not, decide_eq_true_eq, Bool.false_eq_true, Bool.true_eq_false]
    rw [hstep]
    have hin := ML_in h wn wc (f := f) (by omega) hk 8 0 n' rfl (by omega) (by rw [mvI_0, List.append_nil]; exact hj)
    rw [mvI_0, List.append_nil] at hin
    rcases hin with ⟨j, c, a1, a2, a3⟩ | ⟨d4', a1, a2⟩
    · rw [a3]
      subst a1
      have hpre : mvO V (f + 1) <+: mvL V := by
        unfold mvL mvO
        have : List.range (f + 1) <+: List.range 7 := range_pre _ _ (by omega)
        obtain ⟨r, hr⟩ := this
        exact ⟨r.flatMap _, by rw [← hr, List.flatMap_append]⟩
      obtain ⟨r, hr⟩ := hpre
      have e1 : (mvL V)[j]? = some c := by
        rw [← hr, List.getElem?_append_left (List.getElem?_eq_some_iff.mp a2).1]; exact a2
      simp only [resM, e1]
    · rw [a1]
      exact ih (f + 1) n' d4' (by omega) (by omega) (by omega) a2
theorem M_moveBy {V : Vt} {σ : am_M} {key : Option Nat} (h : MC (σ.1 128) 0 V) (wn : WN V) (wc : WC V) (hk : ∀ j, key = some j → j < 2147483648) : S_X11_moveBy [.ref 123, .int (keyI key)] σ = some (some (.int (resM V key)), σ) :=
  ML_out h wn wc hk 7 0 (am_fuel + 1) none rfl (by omega) (by unfold am_fuel; omega) (fun _ _ => Nat.zero_le _)
