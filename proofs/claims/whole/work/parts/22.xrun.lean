/-! the class's run -/
def decI (j : Nat) : Int32 := match j with
  | 0 => -nI 1
  | k + 1 => nI k
theorem decI_sub {j : Nat} : nI j - nI 1 = decI j := by
  cases j with
  | zero => decide +kernel
  | succ k => rw [x_sub (by omega)]; rfl
theorem decI_dec (k : Nat) : nI k + -nI 1 = decI k := by
  rw [← decI_sub, Int32.sub_eq_add_neg]
theorem x_or (a b : Bool) : nI (b2 a) ||| nI (b2 b) = nI (b2 (a || b)) := by cases a <;> cases b <;> decide +kernel
def RX (σ : am_M) (t : Nat) (V T : Vt) : Prop := WC T ∧ (∀ p, p < 7 → σ.1 (t + 5) p = nI (vP T p).length ∧ vP T p <+: vP V p) ∧ ∀ s, s < 4 → σ.1 (t + 6) s = nI (vH T s)
theorem RX_stp {σ : am_M} {t p c : Nat} {V T : Vt} (h : RX σ t V T) (hp : p < 7) (hg : goH T p = true) (hc : (vP T p).getLast? = some c) : RX (am_uI (am_uI σ (t + 6) (c / 6) (nI (vH T (c / 6) + 1))) (t + 5) p (nI ((vP T p).length - 1))) t V (stp T p) := by
  obtain ⟨h1, h2, h3⟩ := h
  have hc24 : c < 24 := h1.1 p (by omega) c (List.mem_of_getLast? hc)
  refine ⟨WC_stp h1 hp hg, fun q hq => ?_, fun s hs => ?_⟩
  · rw [stp_P hc, uI_s, uI_n (by omega)]
    by_cases e : q = p
    · subst e
      rw [up_s, if_pos rfl, List.length_dropLast]
      exact ⟨rfl, (List.dropLast_prefix _).trans (h2 q hq).2⟩
    · rw [up_n e, if_neg e]; exact h2 q hq
  · rw [stp_H hc, uI_n (by omega), uI_s]
    by_cases e : s = c / 6
    · subst e; rw [up_s, if_pos rfl]
    · rw [up_n e, if_neg e]; exact h3 s hs
theorem only2_uI {a b : Nat} {σ : am_M} {k l : Nat} {v w : Int32} : only2 a b σ (am_uI (am_uI σ b k v) a l w) := ⟨rfl, fun j h1 h2 => by rw [uI_n h1, uI_n h2]⟩
theorem XRp_loop {t p : Nat} {V : Vt} (ht : isT t) (wc : WC V) (hp : p < 7) : ∀ (m n : Nat) (T : Vt) (σ : am_M) (b : Bool) (d4 d5 : Option Value), (vP T p).length = m → TP σ t V → RX σ t V T →
    ∃ (ps : List Nat) (T2 : Vt) (τ : am_M), am_it hd_X6_ripenPile (n + m + 1) 11 [some (.ref t), some (.int (nI p)), some (.int (nI (b2 b))), some (.int (decI m)), d4, d5] [] σ = some (some (.int (nI (b2 (b || !ps.isEmpty)))), τ) ∧ runL T ps = some T2 ∧ RX τ t V T2 ∧ only2 (t + 5) (t + 6) σ τ ∧ (ps = [] → goH T p = false) := by
  obtain ⟨k0, k1, k2, k3, k4, k5, k6, l1, l2, l3, l4, l5, l6⟩ := isT_k ht
  intro m
  induction m with
  | zero =>
    intro n T σ b d4 d5 hm hP hR
    have e0 : vP T p = [] := List.length_eq_zero_iff.mp hm
    refine ⟨[], T, σ, ?_, rfl, hR, only2_rf _ _ _, fun _ => by unfold goH; rw [e0]; rfl⟩
    simp (disch := omega) only [g_X6_ripenPile, ↓e_X6_ripenPile_87, ↓e_X6_ripenPile_61, ↓e_X6_ripenPile_59, ↓e_X6_ripenPile_11, ↓e_X6_ripenPile_0, ↓h_X6_ripenPile_11, ↓it_s, ↓y_iload, ↓y_lload, ↓y_aload, ↓y_istore, ↓y_lstore, ↓y_astore, ↓y_iinc, ↓y_cI, ↓y_cL, ↓y_bin, ↓y_binL, ↓y_div, ↓y_divL, ↓y_lshl, ↓y_un, ↓y_i2l, ↓y_lneg, ↓y_l2i, ↓y_lcmp, ↓y_dupI, ↓y_dupR, ↓y_dup2, ↓y_pop, ↓y_goto, ↓y_eq0, ↓y_lt0, ↓y_le0, ↓y_eq, ↓y_lt, ↓y_le, ↓y_switch, ↓y_sw0, ↓y_sw1, ↓y_getI, ↓y_getL, ↓y_getR, ↓y_getT, ↓y_putI, ↓y_putZ, ↓y_putL, ↓y_putT, ↓y_iald, ↓y_bald, ↓y_lald, ↓y_aald, ↓y_iast, ↓y_bast, ↓y_last, ↓y_alen, ↓y_iret, ↓y_zret, ↓y_lret, ↓y_vret, ↓y_svI, ↓y_svL, ↓y_svV, ↓y_ivI, ↓y_ivL, ↓y_ivV, ↓y_max, ↓y_min, ↓y_absL, ↓y_cpI, ↓y_cpL, ↓x_n1I, ↓x_n1L, ↓x_n1R, ↓x_n0I, ↓x_n0L, ↓x_n0R, ↓x_s0, ↓x_s1i, ↓x_s1r, ↓x_s1n, ↓x_s2, ↓x_c0, ↓x_c2, ↓x_tk0, ↓x_tk1, ↓x_rcv, x_rI1, x_rL1, x_rV1, x_rIn, x_rLn, x_rVn, x_rIf, x_rLf, x_rVf, x_40, x_41, x_42, x_43, x_44, ↓reduceIte, if_true, if_false, ao_iadd, ao_isub, ao_imul, ao_iand, ao_ior, ao_ishl, ao_ishr, ao_iushr, ao_ladd, ao_lsub, ao_lmul, ao_land, ao_lor, ao_idiv, ao_irem, ao_ldiv, ao_lrem, ao_ineg, ao_i2b, ao_i2s, Nat.reduceAdd, Nat.reduceMul, Nat.reduceSub, Nat.reduceEqDiff, Nat.reduceLeDiff, and_self, true_and, x_lit, x_ofn, x_z0, x_z1, x_inbT, x_ltT, x_ltF, x_leT, x_leF, x_eqF, x_eqT, x_inb, x_lt, x_le, x_eq, x_cl, x_sub, nI_add, pk_mul, x_m1e, x_m1e', x_m1l, x_m1n, x_m1s, Nat.not_lt_zero, x_zb, x_b0, x_b1, decide_eq_false_iff_not, decide_eq_true_eq, Bool.false_eq_true, Bool.true_eq_false, decI, List.isEmpty_nil, Bool.not_true, Bool.or_false]
  | succ m ih =>
    intro n T σ b d4 d5 hm hP hR
    have hR0 := hR
    obtain ⟨wT, hL, hS⟩ := hR
    have hl24 := wc.len (p := p) (by omega)
    obtain ⟨q1, q2⟩ := hL p hp
    have hle := q2.length_le
    obtain ⟨c, hc⟩ : ∃ c, (vP T p).getLast? = some c := by
      cases h : (vP T p).getLast? with
      | none => rw [List.getLast?_eq_none_iff.mp h] at hm; simp at hm
      | some c => exact ⟨c, rfl⟩
    have hc24 : c < 24 := wT.1 p (by omega) c (List.mem_of_getLast? hc)
    have hget : (vP V p)[m]? = some c := by
      rw [List.getLast?_eq_getElem?, hm] at hc
      obtain ⟨r, hr⟩ := q2
      rw [← hr, List.getElem?_append_left (by omega)]
      exact hc
    have hcard := X_cardAt (p := p) (k := m) ht hP wc hp (by omega)
    rw [cardI_some hget] at hcard
    have hs4 : c / 6 < 4 := by omega
    have hh := hS (c / 6) hs4
    have hh6 := wT.2.2.2.2 (c / 6)
    obtain ⟨N, eN⟩ : ∃ N, N = n + m + 1 := ⟨_, rfl⟩
    rw [show n + (m + 1) + 1 = N + 1 by omega]
    cases hg : goH T p with
    | false =>
      have hne : ¬ vH T (c / 6) = c % 6 := by
        unfold goH at hg
        rw [hc] at hg
        exact of_decide_eq_false hg
      refine ⟨[], T, σ, ?_, rfl, hR0, only2_rf _ _ _, fun _ => rfl⟩
      simp (disch := omega) only [g_X6_ripenPile, ↓e_X6_ripenPile_87, ↓e_X6_ripenPile_61, ↓e_X6_ripenPile_59, ↓e_X6_ripenPile_11, ↓e_X6_ripenPile_0, ↓h_X6_ripenPile_11, ↓it_s, ↓y_iload, ↓y_lload, ↓y_aload, ↓y_istore, ↓y_lstore, ↓y_astore, ↓y_iinc, ↓y_cI, ↓y_cL, ↓y_bin, ↓y_binL, ↓y_div, ↓y_divL, ↓y_lshl, ↓y_un, ↓y_i2l, ↓y_lneg, ↓y_l2i, ↓y_lcmp, ↓y_dupI, ↓y_dupR, ↓y_dup2, ↓y_pop, ↓y_goto, ↓y_eq0, ↓y_lt0, ↓y_le0, ↓y_eq, ↓y_lt, ↓y_le, ↓y_switch, ↓y_sw0, ↓y_sw1, ↓y_getI, ↓y_getL, ↓y_getR, ↓y_getT, ↓y_putI, ↓y_putZ, ↓y_putL, ↓y_putT, ↓y_iald, ↓y_bald, ↓y_lald, ↓y_aald, ↓y_iast, ↓y_bast, ↓y_last, ↓y_alen, ↓y_iret, ↓y_zret, ↓y_lret, ↓y_vret, ↓y_svI, ↓y_svL, ↓y_svV, ↓y_ivI, ↓y_ivL, ↓y_ivV, ↓y_max, ↓y_min, ↓y_absL, ↓y_cpI, ↓y_cpL, ↓x_n1I, ↓x_n1L, ↓x_n1R, ↓x_n0I, ↓x_n0L, ↓x_n0R, ↓x_s0, ↓x_s1i, ↓x_s1r, ↓x_s1n, ↓x_s2, ↓x_c0, ↓x_c2, ↓x_tk0, ↓x_tk1, ↓x_rcv, x_rI1, x_rL1, x_rV1, x_rIn, x_rLn, x_rVn, x_rIf, x_rLf, x_rVf, x_40, x_41, x_42, x_43, x_44, ↓reduceIte, if_true, if_false, ao_iadd, ao_isub, ao_imul, ao_iand, ao_ior, ao_ishl, ao_ishr, ao_iushr, ao_ladd, ao_lsub, ao_lmul, ao_land, ao_lor, ao_idiv, ao_irem, ao_ldiv, ao_lrem, ao_ineg, ao_i2b, ao_i2s, Nat.reduceAdd, Nat.reduceMul, Nat.reduceSub, Nat.reduceEqDiff, Nat.reduceLeDiff, and_self, true_and, x_lit, x_ofn, x_z0, x_z1, x_inbT, x_ltT, x_ltF, x_leT, x_leF, x_eqF, x_eqT, x_inb, x_lt, x_le, x_eq, x_cl, x_sub, nI_add, pk_mul, x_m1e, x_m1e', x_m1l, x_m1n, x_m1s, Nat.not_lt_zero, x_zb, x_b0, x_b1, decide_eq_false_iff_not, decide_eq_true_eq, Bool.false_eq_true, Bool.true_eq_false, decI, hcard, X_suitOf, X_rankOf, k0, k6, l6, hh, List.isEmpty_nil, Bool.not_true, Bool.or_false]
    | true =>
      obtain ⟨c', c1, c2, c3⟩ := goH_spec hg
      rw [hc] at c1
      cases c1
      have hR2 := RX_stp hR0 hp hg hc
      rw [hm, Nat.add_sub_cancel] at hR2
      have hlen2 : (vP (stp T p) p).length = m := by rw [stp_P hc, if_pos rfl, List.length_dropLast, hm]; rfl
      obtain ⟨ps, T2, τ, a1, a2, a3, a4, a5⟩ := ih n (stp T p) _ true (some (.int (nI c))) (some (.int (nI (c / 6)))) hlen2 (TP_fr hP (fun j h1 h2 => by rw [uI_n (by omega), uI_n (by omega)])) hR2
      rw [← eN] at a1
      refine ⟨p :: ps, T2, τ, ?_, runL_mk hp hg a2, a3, only2_tr only2_uI a4, fun e => by cases e⟩
      have e9 : (b || !(p :: ps).isEmpty) = (true || !ps.isEmpty) := by simp
      rw [e9, ← a1]
      obtain ⟨M, eM⟩ : ∃ M, M = N := ⟨_, rfl⟩
      rw [← eM]
      simp (disch := omega) only [g_X6_ripenPile, ↓e_X6_ripenPile_87, ↓e_X6_ripenPile_61, ↓e_X6_ripenPile_59, ↓e_X6_ripenPile_11, ↓e_X6_ripenPile_0, ↓h_X6_ripenPile_11, ↓it_s, ↓y_iload, ↓y_lload, ↓y_aload, ↓y_istore, ↓y_lstore, ↓y_astore, ↓y_iinc, ↓y_cI, ↓y_cL, ↓y_bin, ↓y_binL, ↓y_div, ↓y_divL, ↓y_lshl, ↓y_un, ↓y_i2l, ↓y_lneg, ↓y_l2i, ↓y_lcmp, ↓y_dupI, ↓y_dupR, ↓y_dup2, ↓y_pop, ↓y_goto, ↓y_eq0, ↓y_lt0, ↓y_le0, ↓y_eq, ↓y_lt, ↓y_le, ↓y_switch, ↓y_sw0, ↓y_sw1, ↓y_getI, ↓y_getL, ↓y_getR, ↓y_getT, ↓y_putI, ↓y_putZ, ↓y_putL, ↓y_putT, ↓y_iald, ↓y_bald, ↓y_lald, ↓y_aald, ↓y_iast, ↓y_bast, ↓y_last, ↓y_alen, ↓y_iret, ↓y_zret, ↓y_lret, ↓y_vret, ↓y_svI, ↓y_svL, ↓y_svV, ↓y_ivI, ↓y_ivL, ↓y_ivV, ↓y_max, ↓y_min, ↓y_absL, ↓y_cpI, ↓y_cpL, ↓x_n1I, ↓x_n1L, ↓x_n1R, ↓x_n0I, ↓x_n0L, ↓x_n0R, ↓x_s0, ↓x_s1i, ↓x_s1r, ↓x_s1n, ↓x_s2, ↓x_c0, ↓x_c2, ↓x_tk0, ↓x_tk1, ↓x_rcv, x_rI1, x_rL1, x_rV1, x_rIn, x_rLn, x_rVn, x_rIf, x_rLf, x_rVf, x_40, x_41, x_42, x_43, x_44, ↓reduceIte, if_true, if_false, ao_iadd, ao_isub, ao_imul, ao_iand, ao_ior, ao_ishl, ao_ishr, ao_iushr, ao_ladd, ao_lsub, ao_lmul, ao_land, ao_lor, ao_idiv, ao_irem, ao_ldiv, ao_lrem, ao_ineg, ao_i2b, ao_i2s, Nat.reduceAdd, Nat.reduceMul, Nat.reduceSub, Nat.reduceEqDiff, Nat.reduceLeDiff, and_self, true_and, x_lit, x_ofn, x_z0, x_z1, x_inbT, x_ltT, x_ltF, x_leT, x_leF, x_eqF, x_eqT, x_inb, x_lt, x_le, x_eq, x_cl, x_sub, nI_add, pk_mul, x_m1e, x_m1e', x_m1l, x_m1n, x_m1s, Nat.not_lt_zero, x_zb, x_b0, x_b1, decide_eq_false_iff_not, decide_eq_true_eq, Bool.false_eq_true, Bool.true_eq_false, hcard, X_suitOf, X_rankOf, k0, k5, k6, l5, l6, hh, decI_dec, b2_t, show decI (m + 1) = nI m from rfl]
theorem X_ripenPile {t p : Nat} {V T : Vt} {σ : am_M} (ht : isT t) (wc : WC V) (hp : p < 7) (hP : TP σ t V) (hR : RX σ t V T) : ∃ (ps : List Nat) (T2 : Vt) (τ : am_M), S_X6_ripenPile [.ref t, .int (nI p)] σ = some (some (.int (nI (b2 (!ps.isEmpty)))), τ) ∧ runL T ps = some T2 ∧ RX τ t V T2 ∧ only2 (t + 5) (t + 6) σ τ ∧ (ps = [] → goH T p = false) := by
  obtain ⟨k0, k1, k2, k3, k4, k5, k6, l1, l2, l3, l4, l5, l6⟩ := isT_k ht
  have hl24 := wc.len (p := p) (by omega)
  obtain ⟨q1, q2⟩ := hR.2.1 p hp
  have hle := q2.length_le
  obtain ⟨F, eF⟩ : ∃ F, am_fuel = F + (vP T p).length := ⟨am_fuel - (vP T p).length, by unfold am_fuel; omega⟩
  obtain ⟨ps, T2, τ, a1, a2, a3, a4, a5⟩ := XRp_loop ht wc hp (vP T p).length F T σ false none none rfl hP hR
  refine ⟨ps, T2, τ, ?_, a2, a3, a4, a5⟩
  rw [Bool.false_or] at a1
  rw [← a1, ← eF]
  have e2 : ∀ lv st τ, am_it hd_X6_ripenPile (am_fuel + 1) 11 lv st τ = dn_X6_ripenPile_11 (am_it hd_X6_ripenPile am_fuel) lv st τ := fun _ _ _ => rfl
  rw [e2]
  simp (disch := omega) only [g_X6_ripenPile, ↓e_X6_ripenPile_0, ↓it_s, ↓y_iload, ↓y_lload, ↓y_aload, ↓y_istore, ↓y_lstore, ↓y_astore, ↓y_iinc, ↓y_cI, ↓y_cL, ↓y_bin, ↓y_binL, ↓y_div, ↓y_divL, ↓y_lshl, ↓y_un, ↓y_i2l, ↓y_lneg, ↓y_l2i, ↓y_lcmp, ↓y_dupI, ↓y_dupR, ↓y_dup2, ↓y_pop, ↓y_goto, ↓y_eq0, ↓y_lt0, ↓y_le0, ↓y_eq, ↓y_lt, ↓y_le, ↓y_switch, ↓y_sw0, ↓y_sw1, ↓y_getI, ↓y_getL, ↓y_getR, ↓y_getT, ↓y_putI, ↓y_putZ, ↓y_putL, ↓y_putT, ↓y_iald, ↓y_bald, ↓y_lald, ↓y_aald, ↓y_iast, ↓y_bast, ↓y_last, ↓y_alen, ↓y_iret, ↓y_zret, ↓y_lret, ↓y_vret, ↓y_svI, ↓y_svL, ↓y_svV, ↓y_ivI, ↓y_ivL, ↓y_ivV, ↓y_max, ↓y_min, ↓y_absL, ↓y_cpI, ↓y_cpL, ↓x_n1I, ↓x_n1L, ↓x_n1R, ↓x_n0I, ↓x_n0L, ↓x_n0R, ↓x_s0, ↓x_s1i, ↓x_s1r, ↓x_s1n, ↓x_s2, ↓x_c0, ↓x_c2, ↓x_tk0, ↓x_tk1, ↓x_rcv, x_rI1, x_rL1, x_rV1, x_rIn, x_rLn, x_rVn, x_rIf, x_rLf, x_rVf, x_40, x_41, x_42, x_43, x_44, ↓reduceIte, if_true, if_false, ao_iadd, ao_isub, ao_imul, ao_iand, ao_ior, ao_ishl, ao_ishr, ao_iushr, ao_ladd, ao_lsub, ao_lmul, ao_land, ao_lor, ao_idiv, ao_irem, ao_ldiv, ao_lrem, ao_ineg, ao_i2b, ao_i2s, Nat.reduceAdd, Nat.reduceMul, Nat.reduceSub, Nat.reduceEqDiff, Nat.reduceLeDiff, and_self, true_and, x_lit, x_ofn, x_z0, x_z1, x_inbT, x_ltT, x_ltF, x_leT, x_leF, x_eqF, x_eqT, x_inb, x_lt, x_le, x_eq, x_cl, x_sub, nI_add, pk_mul, x_m1e, x_m1e', x_m1l, x_m1n, x_m1s, Nat.not_lt_zero, x_zb, x_b0, x_b1, decide_eq_false_iff_not, decide_eq_true_eq, Bool.false_eq_true, Bool.true_eq_false, k0, k5, l5, q1, decI_sub, b2_f]
  done
theorem XR_in {t : Nat} {V : Vt} (ht : isT t) (wc : WC V) : ∀ (m p n : Nat) (T : Vt) (σ : am_M) (b : Bool) (r : Nat), 7 - p = m → p ≤ 7 → r < 1000 → TP σ t V → RX σ t V T →
    ∃ (ps : List Nat) (T2 : Vt) (τ : am_M) (d3 : Option Value), am_it hd_X6_ripen (n + m + 1) 54 [some (.ref t), some (.int (nI (b2 b))), some (.int (nI r)), some (.int (nI p))] [] σ = am_it hd_X6_ripen n 40 [some (.ref t), some (.int (nI (b2 (b || !ps.isEmpty)))), some (.int (nI (r + 1))), d3] [] τ ∧ runL T ps = some T2 ∧ RX τ t V T2 ∧ only2 (t + 5) (t + 6) σ τ ∧ (ps = [] → ∀ q, p ≤ q → q < 7 → goH T q = false) := by
  obtain ⟨k0, k1, k2, k3, k4, k5, k6, l1, l2, l3, l4, l5, l6⟩ := isT_k ht
  intro m
  induction m with
  | zero =>
    intro p n T σ b r hm hp hr hP hR
    have e : p = 7 := by omega
    subst e
    refine ⟨[], T, σ, some (.int (nI 7)), ?_, rfl, hR, only2_rf _ _ _, fun _ q h1 h2 => by omega⟩
    simp (disch := omega) only [g_X6_ripen, ↓e_X6_ripen_80, ↓e_X6_ripen_74, ↓e_X6_ripen_54, ↓e_X6_ripen_40, ↓e_X6_ripen_0, ↓h_X6_ripen_40, ↓h_X6_ripen_54, ↓it_s, ↓y_iload, ↓y_lload, ↓y_aload, ↓y_istore, ↓y_lstore, ↓y_astore, ↓y_iinc, ↓y_cI, ↓y_cL, ↓y_bin, ↓y_binL, ↓y_div, ↓y_divL, ↓y_lshl, ↓y_un, ↓y_i2l, ↓y_lneg, ↓y_l2i, ↓y_lcmp, ↓y_dupI, ↓y_dupR, ↓y_dup2, ↓y_pop, ↓y_goto, ↓y_eq0, ↓y_lt0, ↓y_le0, ↓y_eq, ↓y_lt, ↓y_le, ↓y_switch, ↓y_sw0, ↓y_sw1, ↓y_getI, ↓y_getL, ↓y_getR, ↓y_getT, ↓y_putI, ↓y_putZ, ↓y_putL, ↓y_putT, ↓y_iald, ↓y_bald, ↓y_lald, ↓y_aald, ↓y_iast, ↓y_bast, ↓y_last, ↓y_alen, ↓y_iret, ↓y_zret, ↓y_lret, ↓y_vret, ↓y_svI, ↓y_svL, ↓y_svV, ↓y_ivI, ↓y_ivL, ↓y_ivV, ↓y_max, ↓y_min, ↓y_absL, ↓y_cpI, ↓y_cpL, ↓x_n1I, ↓x_n1L, ↓x_n1R, ↓x_n0I, ↓x_n0L, ↓x_n0R, ↓x_s0, ↓x_s1i, ↓x_s1r, ↓x_s1n, ↓x_s2, ↓x_c0, ↓x_c2, ↓x_tk0, ↓x_tk1, ↓x_rcv, x_rI1, x_rL1, x_rV1, x_rIn, x_rLn, x_rVn, x_rIf, x_rLf, x_rVf, x_40, x_41, x_42, x_43, x_44, ↓reduceIte, if_true, if_false, ao_iadd, ao_isub, ao_imul, ao_iand, ao_ior, ao_ishl, ao_ishr, ao_iushr, ao_ladd, ao_lsub, ao_lmul, ao_land, ao_lor, ao_idiv, ao_irem, ao_ldiv, ao_lrem, ao_ineg, ao_i2b, ao_i2s, Nat.reduceAdd, Nat.reduceMul, Nat.reduceSub, Nat.reduceEqDiff, Nat.reduceLeDiff, and_self, true_and, x_lit, x_ofn, x_z0, x_z1, x_inbT, x_ltT, x_ltF, x_leT, x_leF, x_eqF, x_eqT, x_inb, x_lt, x_le, x_eq, x_cl, x_sub, nI_add, pk_mul, x_m1e, x_m1e', x_m1l, x_m1n, x_m1s, Nat.not_lt_zero, x_zb, x_b0, x_b1, decide_eq_false_iff_not, decide_eq_true_eq, Bool.false_eq_true, Bool.true_eq_false, Nat.add_zero, List.isEmpty_nil, Bool.not_true, Bool.or_false]
  | succ m ih =>
    intro p n T σ b r hm hp hr hP hR
    obtain ⟨ps, T1, τ, a1, a2, a3, a4, a5⟩ := X_ripenPile (p := p) ht wc (by omega) hP hR
    obtain ⟨qs, T2, ρ, d3, b1, b2', b3, b4, b5⟩ := ih (p + 1) n T1 τ (b || !ps.isEmpty) r (by omega) (by omega) hr (TP_fr hP (fun j h1 h2 => a4.2 j (by omega) (by omega))) a3
    obtain ⟨N, eN⟩ : ∃ N, N = n + m + 1 := ⟨_, rfl⟩
    rw [show n + (m + 1) + 1 = N + 1 by omega]
    rw [← eN] at b1
    refine ⟨ps ++ qs, T2, ρ, d3, ?_, runL_app ps T T1 T2 qs a2 b2', b3, only2_tr a4 b4, fun e q h1 h2 => ?_⟩
    · have e9 : (b || !(ps ++ qs).isEmpty) = (b || !ps.isEmpty || !qs.isEmpty) := by cases ps <;> simp
      rw [e9, ← b1]
      obtain ⟨M, eM⟩ : ∃ M, M = N := ⟨_, rfl⟩
      rw [← eM]
      simp (disch := omega) only [g_X6_ripen, ↓e_X6_ripen_80, ↓e_X6_ripen_74, ↓e_X6_ripen_54, ↓e_X6_ripen_40, ↓e_X6_ripen_0, ↓h_X6_ripen_40, ↓h_X6_ripen_54, ↓it_s, ↓y_iload, ↓y_lload, ↓y_aload, ↓y_istore, ↓y_lstore, ↓y_astore, ↓y_iinc, ↓y_cI, ↓y_cL, ↓y_bin, ↓y_binL, ↓y_div, ↓y_divL, ↓y_lshl, ↓y_un, ↓y_i2l, ↓y_lneg, ↓y_l2i, ↓y_lcmp, ↓y_dupI, ↓y_dupR, ↓y_dup2, ↓y_pop, ↓y_goto, ↓y_eq0, ↓y_lt0, ↓y_le0, ↓y_eq, ↓y_lt, ↓y_le, ↓y_switch, ↓y_sw0, ↓y_sw1, ↓y_getI, ↓y_getL, ↓y_getR, ↓y_getT, ↓y_putI, ↓y_putZ, ↓y_putL, ↓y_putT, ↓y_iald, ↓y_bald, ↓y_lald, ↓y_aald, ↓y_iast, ↓y_bast, ↓y_last, ↓y_alen, ↓y_iret, ↓y_zret, ↓y_lret, ↓y_vret, ↓y_svI, ↓y_svL, ↓y_svV, ↓y_ivI, ↓y_ivL, ↓y_ivV, ↓y_max, ↓y_min, ↓y_absL, ↓y_cpI, ↓y_cpL, ↓x_n1I, ↓x_n1L, ↓x_n1R, ↓x_n0I, ↓x_n0L, ↓x_n0R, ↓x_s0, ↓x_s1i, ↓x_s1r, ↓x_s1n, ↓x_s2, ↓x_c0, ↓x_c2, ↓x_tk0, ↓x_tk1, ↓x_rcv, x_rI1, x_rL1, x_rV1, x_rIn, x_rLn, x_rVn, x_rIf, x_rLf, x_rVf, x_40, x_41, x_42, x_43, x_44, ↓reduceIte, if_true, if_false, ao_iadd, ao_isub, ao_imul, ao_iand, ao_ior, ao_ishl, ao_ishr, ao_iushr, ao_ladd, ao_lsub, ao_lmul, ao_land, ao_lor, ao_idiv, ao_irem, ao_ldiv, ao_lrem, ao_ineg, ao_i2b, ao_i2s, Nat.reduceAdd, Nat.reduceMul, Nat.reduceSub, Nat.reduceEqDiff, Nat.reduceLeDiff, and_self, true_and, x_lit, x_ofn, x_z0, x_z1, x_inbT, x_ltT, x_ltF, x_leT, x_leF, x_eqF, x_eqT, x_inb, x_lt, x_le, x_eq, x_cl, x_sub, nI_add, pk_mul, x_m1e, x_m1e', x_m1l, x_m1n, x_m1s, Nat.not_lt_zero, x_zb, x_b0, x_b1, decide_eq_false_iff_not, decide_eq_true_eq, Bool.false_eq_true, Bool.true_eq_false, a1, k0, x_or]
    · obtain ⟨e1, e2⟩ := List.append_eq_nil_iff.mp e
      subst e1; subst e2
      cases a2
      by_cases e3 : q = p
      · subst e3; exact a5 rfl
      · exact b5 rfl q (by omega) h2
theorem XR_st (t r : Nat) (hr : r ≤ 24) (σ : am_M) (d3 : Option Value) (N : Nat) : am_it hd_X6_ripen (N + 1) 40 [some (.ref t), some (.int (nI (b2 true))), some (.int (nI r)), d3] [] σ = am_it hd_X6_ripen (N + 1) 54 [some (.ref t), some (.int (nI (b2 false))), some (.int (nI r)), some (.int (nI 0))] [] σ := by
  have e2 : ∀ lv st τ, am_it hd_X6_ripen (N + 1) 54 lv st τ = dn_X6_ripen_54 (am_it hd_X6_ripen N) lv st τ := fun _ _ _ => rfl
  rw [e2]
  simp (disch := omega) only [↓e_X6_ripen_40, ↓h_X6_ripen_40, ↓it_s, ↓y_iload, ↓y_lload, ↓y_aload, ↓y_istore, ↓y_lstore, ↓y_astore, ↓y_iinc, ↓y_cI, ↓y_cL, ↓y_bin, ↓y_binL, ↓y_div, ↓y_divL, ↓y_lshl, ↓y_un, ↓y_i2l, ↓y_lneg, ↓y_l2i, ↓y_lcmp, ↓y_dupI, ↓y_dupR, ↓y_dup2, ↓y_pop, ↓y_goto, ↓y_eq0, ↓y_lt0, ↓y_le0, ↓y_eq, ↓y_lt, ↓y_le, ↓y_switch, ↓y_sw0, ↓y_sw1, ↓y_getI, ↓y_getL, ↓y_getR, ↓y_getT, ↓y_putI, ↓y_putZ, ↓y_putL, ↓y_putT, ↓y_iald, ↓y_bald, ↓y_lald, ↓y_aald, ↓y_iast, ↓y_bast, ↓y_last, ↓y_alen, ↓y_iret, ↓y_zret, ↓y_lret, ↓y_vret, ↓y_svI, ↓y_svL, ↓y_svV, ↓y_ivI, ↓y_ivL, ↓y_ivV, ↓y_max, ↓y_min, ↓y_absL, ↓y_cpI, ↓y_cpL, ↓x_n1I, ↓x_n1L, ↓x_n1R, ↓x_n0I, ↓x_n0L, ↓x_n0R, ↓x_s0, ↓x_s1i, ↓x_s1r, ↓x_s1n, ↓x_s2, ↓x_c0, ↓x_c2, ↓x_tk0, ↓x_tk1, ↓x_rcv, x_rI1, x_rL1, x_rV1, x_rIn, x_rLn, x_rVn, x_rIf, x_rLf, x_rVf, x_40, x_41, x_42, x_43, x_44, ↓reduceIte, if_true, if_false, ao_iadd, ao_isub, ao_imul, ao_iand, ao_ior, ao_ishl, ao_ishr, ao_iushr, ao_ladd, ao_lsub, ao_lmul, ao_land, ao_lor, ao_idiv, ao_irem, ao_ldiv, ao_lrem, ao_ineg, ao_i2b, ao_i2s, Nat.reduceAdd, Nat.reduceMul, Nat.reduceSub, Nat.reduceEqDiff, Nat.reduceLeDiff, and_self, true_and, x_lit, x_ofn, x_z0, x_z1, x_inbT, x_ltT, x_ltF, x_leT, x_leF, x_eqF, x_eqT, x_inb, x_lt, x_le, x_eq, x_cl, x_sub, nI_add, pk_mul, x_m1e, x_m1e', x_m1l, x_m1n, x_m1s, Nat.not_lt_zero, x_zb, x_b0, x_b1, decide_eq_false_iff_not, decide_eq_true_eq, Bool.false_eq_true, Bool.true_eq_false, b2_t, b2_f]
theorem XR_ex (t r : Nat) (σ : am_M) (d3 : Option Value) (N : Nat) : am_it hd_X6_ripen (N + 1) 40 [some (.ref t), some (.int (nI (b2 false))), some (.int (nI r)), d3] [] σ = some (none, σ) := by
  simp (disch := omega) only [g_X6_ripen, ↓e_X6_ripen_80, ↓e_X6_ripen_74, ↓e_X6_ripen_54, ↓e_X6_ripen_40, ↓e_X6_ripen_0, ↓h_X6_ripen_40, ↓h_X6_ripen_54, ↓it_s, ↓y_iload, ↓y_lload, ↓y_aload, ↓y_istore, ↓y_lstore, ↓y_astore, ↓y_iinc, ↓y_cI, ↓y_cL, ↓y_bin, ↓y_binL, ↓y_div, ↓y_divL, ↓y_lshl, ↓y_un, ↓y_i2l, ↓y_lneg, ↓y_l2i, ↓y_lcmp, ↓y_dupI, ↓y_dupR, ↓y_dup2, ↓y_pop, ↓y_goto, ↓y_eq0, ↓y_lt0, ↓y_le0, ↓y_eq, ↓y_lt, ↓y_le, ↓y_switch, ↓y_sw0, ↓y_sw1, ↓y_getI, ↓y_getL, ↓y_getR, ↓y_getT, ↓y_putI, ↓y_putZ, ↓y_putL, ↓y_putT, ↓y_iald, ↓y_bald, ↓y_lald, ↓y_aald, ↓y_iast, ↓y_bast, ↓y_last, ↓y_alen, ↓y_iret, ↓y_zret, ↓y_lret, ↓y_vret, ↓y_svI, ↓y_svL, ↓y_svV, ↓y_ivI, ↓y_ivL, ↓y_ivV, ↓y_max, ↓y_min, ↓y_absL, ↓y_cpI, ↓y_cpL, ↓x_n1I, ↓x_n1L, ↓x_n1R, ↓x_n0I, ↓x_n0L, ↓x_n0R, ↓x_s0, ↓x_s1i, ↓x_s1r, ↓x_s1n, ↓x_s2, ↓x_c0, ↓x_c2, ↓x_tk0, ↓x_tk1, ↓x_rcv, x_rI1, x_rL1, x_rV1, x_rIn, x_rLn, x_rVn, x_rIf, x_rLf, x_rVf, x_40, x_41, x_42, x_43, x_44, ↓reduceIte, if_true, if_false, ao_iadd, ao_isub, ao_imul, ao_iand, ao_ior, ao_ishl, ao_ishr, ao_iushr, ao_ladd, ao_lsub, ao_lmul, ao_land, ao_lor, ao_idiv, ao_irem, ao_ldiv, ao_lrem, ao_ineg, ao_i2b, ao_i2s, Nat.reduceAdd, Nat.reduceMul, Nat.reduceSub, Nat.reduceEqDiff, Nat.reduceLeDiff, and_self, true_and, x_lit, x_ofn, x_z0, x_z1, x_inbT, x_ltT, x_ltF, x_leT, x_leF, x_eqF, x_eqT, x_inb, x_lt, x_le, x_eq, x_cl, x_sub, nI_add, pk_mul, x_m1e, x_m1e', x_m1l, x_m1n, x_m1s, Nat.not_lt_zero, x_zb, x_b0, x_b1, decide_eq_false_iff_not, decide_eq_true_eq, Bool.false_eq_true, Bool.true_eq_false, b2_f]
theorem XR_out {t : Nat} {V : Vt} (ht : isT t) (wc : WC V) : ∀ (m n : Nat) (T : Vt) (σ : am_M) (r : Nat) (d3 : Option Value), tot T ≤ m → tot T + r ≤ 24 → 10 * m + 20 < n → TP σ t V → RX σ t V T →
    ∃ (ps : List Nat) (T2 : Vt) (τ : am_M), am_it hd_X6_ripen n 40 [some (.ref t), some (.int (nI (b2 true))), some (.int (nI r)), d3] [] σ = some (none, τ) ∧ runL T ps = some T2 ∧ NF T2 ∧ RX τ t V T2 ∧ only2 (t + 5) (t + 6) σ τ := by
  intro m
  induction m with
  | zero =>
    intro n T σ r d3 hm hr hn hP hR
    obtain ⟨n', rfl⟩ : ∃ q, n = q + 1 + 7 + 1 := ⟨n - 9, by omega⟩
    obtain ⟨ps, T2, τ, d, a1, a2, a3, a4, a5⟩ := XR_in ht wc 7 0 (n' + 1) T σ false r rfl (by omega) (by omega) hP hR
    have hps : ps = [] := by
      cases ps with
      | nil => rfl
      | cons q qs => have := runL_tot _ _ _ a2; simp at this; omega
    subst hps
    cases a2
    refine ⟨[], T, τ, ?_, rfl, fun p hp => a5 rfl p (by omega) hp, a3, a4⟩
    rw [XR_st t r (by omega), a1]
    exact XR_ex _ _ _ _ _
  | succ m ih =>
    intro n T σ r d3 hm hr hn hP hR
    obtain ⟨n', rfl⟩ : ∃ q, n = q + 1 + 7 + 1 := ⟨n - 9, by omega⟩
    obtain ⟨ps, T2, τ, d, a1, a2, a3, a4, a5⟩ := XR_in ht wc 7 0 (n' + 1) T σ false r rfl (by omega) (by omega) hP hR
    cases ps with
    | nil =>
      cases a2
      refine ⟨[], T, τ, ?_, rfl, fun p hp => a5 rfl p (by omega) hp, a3, a4⟩
      rw [XR_st t r (by omega), a1]
      exact XR_ex _ _ _ _ _
    | cons q qs =>
      have htot := runL_tot _ _ _ a2
      simp only [List.length_cons] at htot
      obtain ⟨us, T3, ρ, c1, c2, c3, c4, c5⟩ := ih (n' + 1) T2 τ (r + 1) d (by omega) (by omega) (by omega) (TP_fr hP (fun j h1 h2 => a4.2 j (by omega) (by omega))) a3
      refine ⟨(q :: qs) ++ us, T3, ρ, ?_, runL_app _ T T2 T3 us a2 c2, c3, c4, only2_tr a4 c5⟩
      rw [XR_st t r (by omega), a1, ← c1]
      rfl
theorem cp7 : am_cpOk (nI 0) (nI 0) (nI 7) 7 7 = true := by decide +kernel
theorem cp4 : am_cpOk (nI 0) (nI 0) (nI 4) 4 4 = true := by decide +kernel
theorem X_ripen {t : Nat} {V : Vt} {σ : am_M} (ht : isT t) (wc : WC V) (hP : TP σ t V) : ∃ (ps : List Nat) (T : Vt) (τ : am_M), S_X6_ripen [.ref t] σ = some (none, τ) ∧ runL V ps = some T ∧ NF T ∧ RX τ t V T ∧ only2 (t + 5) (t + 6) σ τ := by
  obtain ⟨k0, k1, k2, k3, k4, k5, k6, l1, l2, l3, l4, l5, l6⟩ := isT_k ht
  have hm : ∃ σ1, σ1 = am_uA (am_uA σ (t + 5) (va_cpy (σ.1 (t + 2)) (σ.1 (t + 5)) 0 0 7)) (t + 6) (va_cpy (σ.1 (t + 4)) (σ.1 (t + 6)) 0 0 4) := ⟨_, rfl⟩
  obtain ⟨σ1, e1⟩ := hm
  have ho : only2 (t + 5) (t + 6) σ σ1 := ⟨by rw [e1]; rfl, fun j h1 h2 => by rw [e1, uA_n h2, uA_n h1]⟩
  have hP1 : TP σ1 t V := TP_fr hP (fun j h1 h2 => ho.2 j (by omega) (by omega))
  have hR : RX σ1 t V V := by
    refine ⟨wc, fun p hp => ⟨?_, List.prefix_refl _⟩, fun s hs => ?_⟩
    · rw [e1, uA_n (by omega), uA_s, sb_cpy0 hp]; exact hP.1 p hp
    · rw [e1, uA_s, sb_cpy0 hs]; exact hP.2.2.2 s hs
  have htot := tot_le wc
  obtain ⟨ps, T, τ, a1, a2, a3, a4, a5⟩ := XR_out ht wc 24 (am_fuel + 1) V σ1 0 none (by omega) (by omega) (by unfold am_fuel; omega) hP1 hR
  refine ⟨ps, T, τ, ?_, a2, a3, a4, only2_tr ho a5⟩
  rw [← a1]
  have e2 : ∀ lv st τ, am_it hd_X6_ripen (am_fuel + 1) 40 lv st τ = dn_X6_ripen_40 (am_it hd_X6_ripen am_fuel) lv st τ := fun _ _ _ => rfl
  rw [e2, e1]
  simp (disch := omega) only [g_X6_ripen, ↓e_X6_ripen_0, ↓it_s, ↓y_iload, ↓y_lload, ↓y_aload, ↓y_istore, ↓y_lstore, ↓y_astore, ↓y_iinc, ↓y_cI, ↓y_cL, ↓y_bin, ↓y_binL, ↓y_div, ↓y_divL, ↓y_lshl, ↓y_un, ↓y_i2l, ↓y_lneg, ↓y_l2i, ↓y_lcmp, ↓y_dupI, ↓y_dupR, ↓y_dup2, ↓y_pop, ↓y_goto, ↓y_eq0, ↓y_lt0, ↓y_le0, ↓y_eq, ↓y_lt, ↓y_le, ↓y_switch, ↓y_sw0, ↓y_sw1, ↓y_getI, ↓y_getL, ↓y_getR, ↓y_getT, ↓y_putI, ↓y_putZ, ↓y_putL, ↓y_putT, ↓y_iald, ↓y_bald, ↓y_lald, ↓y_aald, ↓y_iast, ↓y_bast, ↓y_last, ↓y_alen, ↓y_iret, ↓y_zret, ↓y_lret, ↓y_vret, ↓y_svI, ↓y_svL, ↓y_svV, ↓y_ivI, ↓y_ivL, ↓y_ivV, ↓y_max, ↓y_min, ↓y_absL, ↓y_cpI, ↓y_cpL, ↓x_n1I, ↓x_n1L, ↓x_n1R, ↓x_n0I, ↓x_n0L, ↓x_n0R, ↓x_s0, ↓x_s1i, ↓x_s1r, ↓x_s1n, ↓x_s2, ↓x_c0, ↓x_c2, ↓x_tk0, ↓x_tk1, ↓x_rcv, x_rI1, x_rL1, x_rV1, x_rIn, x_rLn, x_rVn, x_rIf, x_rLf, x_rVf, x_40, x_41, x_42, x_43, x_44, ↓reduceIte, if_true, if_false, ao_iadd, ao_isub, ao_imul, ao_iand, ao_ior, ao_ishl, ao_ishr, ao_iushr, ao_ladd, ao_lsub, ao_lmul, ao_land, ao_lor, ao_idiv, ao_irem, ao_ldiv, ao_lrem, ao_ineg, ao_i2b, ao_i2s, Nat.reduceAdd, Nat.reduceMul, Nat.reduceSub, Nat.reduceEqDiff, Nat.reduceLeDiff, and_self, true_and, x_lit, x_ofn, x_z0, x_z1, x_inbT, x_ltT, x_ltF, x_leT, x_leF, x_eqF, x_eqT, x_inb, x_lt, x_le, x_eq, x_cl, x_sub, nI_add, pk_mul, x_m1e, x_m1e', x_m1l, x_m1n, x_m1s, Nat.not_lt_zero, x_zb, x_b0, x_b1, decide_eq_false_iff_not, decide_eq_true_eq, Bool.false_eq_true, Bool.true_eq_false, k0, k2, k4, k5, k6, l2, l4, l5, l6, cp7, cp4, Nat.le_refl, uA_n, b2_t]
theorem X_ranksUpTo {r : Nat} (hr : r ≤ 6) (σ : am_M) : S_X10_ranksUpTo [.int (nI r)] σ = some (some (.int (nI (r * (r + 1) / 2))), σ) := by
  have : r * (r + 1) ≤ 42 := by
    have := Nat.mul_le_mul hr (show r + 1 ≤ 7 by omega)
    omega
  simp (disch := omega) only [g_X10_ranksUpTo, ↓e_X10_ranksUpTo_0, ↓it_s, ↓y_iload, ↓y_lload, ↓y_aload, ↓y_istore, ↓y_lstore, ↓y_astore, ↓y_iinc, ↓y_cI, ↓y_cL, ↓y_bin, ↓y_binL, ↓y_div, ↓y_divL, ↓y_lshl, ↓y_un, ↓y_i2l, ↓y_lneg, ↓y_l2i, ↓y_lcmp, ↓y_dupI, ↓y_dupR, ↓y_dup2, ↓y_pop, ↓y_goto, ↓y_eq0, ↓y_lt0, ↓y_le0, ↓y_eq, ↓y_lt, ↓y_le, ↓y_switch, ↓y_sw0, ↓y_sw1, ↓y_getI, ↓y_getL, ↓y_getR, ↓y_getT, ↓y_putI, ↓y_putZ, ↓y_putL, ↓y_putT, ↓y_iald, ↓y_bald, ↓y_lald, ↓y_aald, ↓y_iast, ↓y_bast, ↓y_last, ↓y_alen, ↓y_iret, ↓y_zret, ↓y_lret, ↓y_vret, ↓y_svI, ↓y_svL, ↓y_svV, ↓y_ivI, ↓y_ivL, ↓y_ivV, ↓y_max, ↓y_min, ↓y_absL, ↓y_cpI, ↓y_cpL, ↓x_n1I, ↓x_n1L, ↓x_n1R, ↓x_n0I, ↓x_n0L, ↓x_n0R, ↓x_s0, ↓x_s1i, ↓x_s1r, ↓x_s1n, ↓x_s2, ↓x_c0, ↓x_c2, ↓x_tk0, ↓x_tk1, ↓x_rcv, x_rI1, x_rL1, x_rV1, x_rIn, x_rLn, x_rVn, x_rIf, x_rLf, x_rVf, x_40, x_41, x_42, x_43, x_44, ↓reduceIte, if_true, if_false, ao_iadd, ao_isub, ao_imul, ao_iand, ao_ior, ao_ishl, ao_ishr, ao_iushr, ao_ladd, ao_lsub, ao_lmul, ao_land, ao_lor, ao_idiv, ao_irem, ao_ldiv, ao_lrem, ao_ineg, ao_i2b, ao_i2s, Nat.reduceAdd, Nat.reduceMul, Nat.reduceSub, Nat.reduceEqDiff, Nat.reduceLeDiff, and_self, true_and, x_lit, x_ofn, x_z0, x_z1, x_inbT, x_ltT, x_ltF, x_leT, x_leF, x_eqF, x_eqT, x_inb, x_lt, x_le, x_eq, x_cl, x_sub, nI_add, pk_mul, x_m1e, x_m1e', x_m1l, x_m1n, x_m1s, Nat.not_lt_zero, x_zb, x_b0, x_b1, decide_eq_false_iff_not, decide_eq_true_eq, Bool.false_eq_true, Bool.true_eq_false, x_div]
theorem X_riseRanks {t s : Nat} {V T : Vt} {σ : am_M} (ht : isT t) (wc : WC V) (hP : TP σ t V) (hR : RX σ t V T) (hs : s < 4) (hle : vH V s ≤ vH T s) : S_X6_riseRanks [.ref t, .int (nI s)] σ = some (some (.int (nI (sumR (vH V s) (vH T s)))), σ) := by
  obtain ⟨k0, k1, k2, k3, k4, k5, k6, l1, l2, l3, l4, l5, l6⟩ := isT_k ht
  have h1 := hR.2.2 s hs
  have h2 := hP.2.2.2 s hs
  have h3 := hR.1.2.2.2.2 s
  have h4 := wc.2.2.2.2 s
  have h5 := tri_mono hle
  simp (disch := omega) only [g_X6_riseRanks, ↓e_X6_riseRanks_11, ↓e_X6_riseRanks_9, ↓e_X6_riseRanks_0, ↓it_s, ↓y_iload, ↓y_lload, ↓y_aload, ↓y_istore, ↓y_lstore, ↓y_astore, ↓y_iinc, ↓y_cI, ↓y_cL, ↓y_bin, ↓y_binL, ↓y_div, ↓y_divL, ↓y_lshl, ↓y_un, ↓y_i2l, ↓y_lneg, ↓y_l2i, ↓y_lcmp, ↓y_dupI, ↓y_dupR, ↓y_dup2, ↓y_pop, ↓y_goto, ↓y_eq0, ↓y_lt0, ↓y_le0, ↓y_eq, ↓y_lt, ↓y_le, ↓y_switch, ↓y_sw0, ↓y_sw1, ↓y_getI, ↓y_getL, ↓y_getR, ↓y_getT, ↓y_putI, ↓y_putZ, ↓y_putL, ↓y_putT, ↓y_iald, ↓y_bald, ↓y_lald, ↓y_aald, ↓y_iast, ↓y_bast, ↓y_last, ↓y_alen, ↓y_iret, ↓y_zret, ↓y_lret, ↓y_vret, ↓y_svI, ↓y_svL, ↓y_svV, ↓y_ivI, ↓y_ivL, ↓y_ivV, ↓y_max, ↓y_min, ↓y_absL, ↓y_cpI, ↓y_cpL, ↓x_n1I, ↓x_n1L, ↓x_n1R, ↓x_n0I, ↓x_n0L, ↓x_n0R, ↓x_s0, ↓x_s1i, ↓x_s1r, ↓x_s1n, ↓x_s2, ↓x_c0, ↓x_c2, ↓x_tk0, ↓x_tk1, ↓x_rcv, x_rI1, x_rL1, x_rV1, x_rIn, x_rLn, x_rVn, x_rIf, x_rLf, x_rVf, x_40, x_41, x_42, x_43, x_44, ↓reduceIte, if_true, if_false, ao_iadd, ao_isub, ao_imul, ao_iand, ao_ior, ao_ishl, ao_ishr, ao_iushr, ao_ladd, ao_lsub, ao_lmul, ao_land, ao_lor, ao_idiv, ao_irem, ao_ldiv, ao_lrem, ao_ineg, ao_i2b, ao_i2s, Nat.reduceAdd, Nat.reduceMul, Nat.reduceSub, Nat.reduceEqDiff, Nat.reduceLeDiff, and_self, true_and, x_lit, x_ofn, x_z0, x_z1, x_inbT, x_ltT, x_ltF, x_leT, x_leF, x_eqF, x_eqT, x_inb, x_lt, x_le, x_eq, x_cl, x_sub, nI_add, pk_mul, x_m1e, x_m1e', x_m1l, x_m1n, x_m1s, Nat.not_lt_zero, x_zb, x_b0, x_b1, decide_eq_false_iff_not, decide_eq_true_eq, Bool.false_eq_true, Bool.true_eq_false, k0, k4, k6, l4, l6, h1, h2, X_ranksUpTo h3, X_ranksUpTo h4]
  rfl
def hsum (V : Vt) : Nat := vH V 0 + vH V 1 + vH V 2 + vH V 3
theorem runL_hsum : ∀ (ps : List Nat) (V T : Vt), WC V → runL V ps = some T → hsum T = hsum V + ps.length ∧ ∀ s, vH V s ≤ vH T s
  | [], V, T, hw, h => by cases h; exact ⟨rfl, fun _ => Nat.le_refl _⟩
  | p :: ps, V, T, hw, h => by
    obtain ⟨a, b, c⟩ := runL_cons h
    obtain ⟨i1, i2⟩ := runL_hsum ps _ T (WC_stp hw a b) c
    obtain ⟨d, d1, d2, d3⟩ := goH_spec b
    have hd : d < 24 := hw.1 p (by omega) d (List.mem_of_getLast? d1)
    refine ⟨?_, fun s => Nat.le_trans ?_ (i2 s)⟩
    · rw [i1]
      unfold hsum
      rw [stp_H d1, stp_H d1, stp_H d1, stp_H d1]
      have : d / 6 = 0 ∨ d / 6 = 1 ∨ d / 6 = 2 ∨ d / 6 = 3 := by omega
      rcases this with e | e | e | e <;> rw [e] <;> simp <;> omega
    · rw [stp_H d1]
      split
      · rename_i e; subst e; omega
      · exact Nat.le_refl _
theorem XM_i {t s a : Nat} {V T : Vt} {σ : am_M} (ht : isT t) (wc : WC V) (hP : TP σ t V) (hR : RX σ t V T) (hs : s < 4) (ha : a < 1000) (hle : vH V s ≤ vH T s) (N : Nat) : am_it hd_X6_riseMany (N + 1) 4 [some (.ref t), some (.int (nI a)), some (.int (nI s))] [] σ = am_it hd_X6_riseMany N 4 [some (.ref t), some (.int (nI (a + (vH T s - vH V s)))), some (.int (nI (s + 1)))] [] σ := by
  obtain ⟨k0, k1, k2, k3, k4, k5, k6, l1, l2, l3, l4, l5, l6⟩ := isT_k ht
  have h1 := hR.2.2 s hs
  have h2 := hP.2.2.2 s hs
  have h3 := hR.1.2.2.2.2 s
  simp (disch := omega) only [g_X6_riseMany, ↓e_X6_riseMany_31, ↓e_X6_riseMany_4, ↓e_X6_riseMany_0, ↓h_X6_riseMany_4, ↓it_s, ↓y_iload, ↓y_lload, ↓y_aload, ↓y_istore, ↓y_lstore, ↓y_astore, ↓y_iinc, ↓y_cI, ↓y_cL, ↓y_bin, ↓y_binL, ↓y_div, ↓y_divL, ↓y_lshl, ↓y_un, ↓y_i2l, ↓y_lneg, ↓y_l2i, ↓y_lcmp, ↓y_dupI, ↓y_dupR, ↓y_dup2, ↓y_pop, ↓y_goto, ↓y_eq0, ↓y_lt0, ↓y_le0, ↓y_eq, ↓y_lt, ↓y_le, ↓y_switch, ↓y_sw0, ↓y_sw1, ↓y_getI, ↓y_getL, ↓y_getR, ↓y_getT, ↓y_putI, ↓y_putZ, ↓y_putL, ↓y_putT, ↓y_iald, ↓y_bald, ↓y_lald, ↓y_aald, ↓y_iast, ↓y_bast, ↓y_last, ↓y_alen, ↓y_iret, ↓y_zret, ↓y_lret, ↓y_vret, ↓y_svI, ↓y_svL, ↓y_svV, ↓y_ivI, ↓y_ivL, ↓y_ivV, ↓y_max, ↓y_min, ↓y_absL, ↓y_cpI, ↓y_cpL, ↓x_n1I, ↓x_n1L, ↓x_n1R, ↓x_n0I, ↓x_n0L, ↓x_n0R, ↓x_s0, ↓x_s1i, ↓x_s1r, ↓x_s1n, ↓x_s2, ↓x_c0, ↓x_c2, ↓x_tk0, ↓x_tk1, ↓x_rcv, x_rI1, x_rL1, x_rV1, x_rIn, x_rLn, x_rVn, x_rIf, x_rLf, x_rVf, x_40, x_41, x_42, x_43, x_44, ↓reduceIte, if_true, if_false, ao_iadd, ao_isub, ao_imul, ao_iand, ao_ior, ao_ishl, ao_ishr, ao_iushr, ao_ladd, ao_lsub, ao_lmul, ao_land, ao_lor, ao_idiv, ao_irem, ao_ldiv, ao_lrem, ao_ineg, ao_i2b, ao_i2s, Nat.reduceAdd, Nat.reduceMul, Nat.reduceSub, Nat.reduceEqDiff, Nat.reduceLeDiff, and_self, true_and, x_lit, x_ofn, x_z0, x_z1, x_inbT, x_ltT, x_ltF, x_leT, x_leF, x_eqF, x_eqT, x_inb, x_lt, x_le, x_eq, x_cl, x_sub, nI_add, pk_mul, x_m1e, x_m1e', x_m1l, x_m1n, x_m1s, Nat.not_lt_zero, x_zb, x_b0, x_b1, decide_eq_false_iff_not, decide_eq_true_eq, Bool.false_eq_true, Bool.true_eq_false, k0, k4, k6, l4, l6, h1, h2]
theorem X_riseMany {t : Nat} {V T : Vt} {σ : am_M} (ht : isT t) (wc : WC V) (hP : TP σ t V) (hR : RX σ t V T) (hle : ∀ s, vH V s ≤ vH T s) : S_X6_riseMany [.ref t] σ = some (some (.int (nI (hsum T - hsum V))), σ) := by
  have h0 := hR.1.2.2.2.2 0
  have h1 := hR.1.2.2.2.2 1
  have h2 := hR.1.2.2.2.2 2
  have h3 := hR.1.2.2.2.2 3
  have h1' : vH T (0 + 1) ≤ 6 := h1
  have h2' : vH T (0 + 1 + 1) ≤ 6 := h2
  obtain ⟨F, eF⟩ : ∃ F, am_fuel = F + 4 := ⟨am_fuel - 4, by unfold am_fuel; omega⟩
  have e0 : S_X6_riseMany [.ref t] σ = am_it hd_X6_riseMany (am_fuel + 1) 4 [some (.ref t), some (.int (nI 0)), some (.int (nI 0))] [] σ := rfl
  rw [e0, eF, show F + 4 + 1 = F + 1 + 1 + 1 + 1 + 1 by omega, XM_i ht wc hP hR (by omega) (by omega) (hle 0), XM_i ht wc hP hR (by omega) (by omega) (hle _), XM_i ht wc hP hR (by omega) (by omega) (hle _), XM_i ht wc hP hR (by omega) (by omega) (hle _)]
  have e1 : 0 + (vH T 0 - vH V 0) + (vH T (0 + 1) - vH V (0 + 1)) + (vH T (0 + 1 + 1) - vH V (0 + 1 + 1)) + (vH T (0 + 1 + 1 + 1) - vH V (0 + 1 + 1 + 1)) = hsum T - hsum V := by
    have a0 := hle 0
    have a1 := hle 1
    have a2 := hle 2
    have a3 := hle 3
    unfold hsum
    simp only [Nat.zero_add, Nat.reduceAdd]
    omega
  rw [e1]
  simp (disch := omega) only [g_X6_riseMany, ↓e_X6_riseMany_31, ↓e_X6_riseMany_4, ↓e_X6_riseMany_0, ↓h_X6_riseMany_4, ↓it_s, ↓y_iload, ↓y_lload, ↓y_aload, ↓y_istore, ↓y_lstore, ↓y_astore, ↓y_iinc, ↓y_cI, ↓y_cL, ↓y_bin, ↓y_binL, ↓y_div, ↓y_divL, ↓y_lshl, ↓y_un, ↓y_i2l, ↓y_lneg, ↓y_l2i, ↓y_lcmp, ↓y_dupI, ↓y_dupR, ↓y_dup2, ↓y_pop, ↓y_goto, ↓y_eq0, ↓y_lt0, ↓y_le0, ↓y_eq, ↓y_lt, ↓y_le, ↓y_switch, ↓y_sw0, ↓y_sw1, ↓y_getI, ↓y_getL, ↓y_getR, ↓y_getT, ↓y_putI, ↓y_putZ, ↓y_putL, ↓y_putT, ↓y_iald, ↓y_bald, ↓y_lald, ↓y_aald, ↓y_iast, ↓y_bast, ↓y_last, ↓y_alen, ↓y_iret, ↓y_zret, ↓y_lret, ↓y_vret, ↓y_svI, ↓y_svL, ↓y_svV, ↓y_ivI, ↓y_ivL, ↓y_ivV, ↓y_max, ↓y_min, ↓y_absL, ↓y_cpI, ↓y_cpL, ↓x_n1I, ↓x_n1L, ↓x_n1R, ↓x_n0I, ↓x_n0L, ↓x_n0R, ↓x_s0, ↓x_s1i, ↓x_s1r, ↓x_s1n, ↓x_s2, ↓x_c0, ↓x_c2, ↓x_tk0, ↓x_tk1, ↓x_rcv, x_rI1, x_rL1, x_rV1, x_rIn, x_rLn, x_rVn, x_rIf, x_rLf, x_rVf, x_40, x_41, x_42, x_43, x_44, ↓reduceIte, if_true, if_false, ao_iadd, ao_isub, ao_imul, ao_iand, ao_ior, ao_ishl, ao_ishr, ao_iushr, ao_ladd, ao_lsub, ao_lmul, ao_land, ao_lor, ao_idiv, ao_irem, ao_ldiv, ao_lrem, ao_ineg, ao_i2b, ao_i2s, Nat.reduceAdd, Nat.reduceMul, Nat.reduceSub, Nat.reduceEqDiff, Nat.reduceLeDiff, and_self, true_and, x_lit, x_ofn, x_z0, x_z1, x_inbT, x_ltT, x_ltF, x_leT, x_leF, x_eqF, x_eqT, x_inb, x_lt, x_le, x_eq, x_cl, x_sub, nI_add, pk_mul, x_m1e, x_m1e', x_m1l, x_m1n, x_m1s, Nat.not_lt_zero, x_zb, x_b0, x_b1, decide_eq_false_iff_not, decide_eq_true_eq, Bool.false_eq_true, Bool.true_eq_false]
/-! the class: cards come home, the fields are watered -/
/-- fields when the home piles of suits below s have risen to H, and that of s by j ranks -/
def hUp (V : Vt) (H : Nat → Nat) (s j : Nat) : Nat → Nat := fun r => if r < s then H r else if r = s then vH V s + j else vH V r
def wetPart (V : Vt) (H : Nat → Nat) (s j : Nat) : Vt := (V.1, V.2.1, V.2.2.1, wetUp V (hUp V H s j), V.2.2.2.2)
theorem wetPart_F (V : Vt) (H : Nat → Nat) (s j w f : Nat) : vF (wetPart V H s j) w f = wetUp V (hUp V H s j) w f := rfl
theorem wetPart_0 (V : Vt) (H : Nat → Nat) : wetPart V H 0 0 = V := by
  unfold wetPart
  have e : hUp V H 0 0 = vH V := by
    funext r
    unfold hUp
    by_cases h : r = 0
    · subst h; simp
    · simp [h]
  rw [e]
  have := ranV_self V
  unfold ranV at this
  exact this
theorem wetPart_nx (V : Vt) (H : Nat → Nat) (s : Nat) (hle : vH V s ≤ H s) : wetPart V H s (H s - vH V s) = wetPart V H (s + 1) 0 := by
  unfold wetPart
  have e : hUp V H s (H s - vH V s) = hUp V H (s + 1) 0 := by
    funext r
    unfold hUp
    by_cases h1 : r < s
    · rw [if_pos h1, if_pos (by omega)]
    · by_cases h2 : r = s
      · subst h2
        rw [if_neg h1, if_pos rfl, if_pos (by omega)]; omega
      · rw [if_neg h1, if_neg h2, if_neg (by omega)]
        by_cases h3 : r = s + 1
        · subst h3; rw [if_pos rfl]; rfl
        · rw [if_neg h3]
  rw [e]
theorem wetPart_st (V : Vt) (H : Nat → Nat) (s j : Nat) : wetAll (wetPart V H s j) s (vH V s + j + 1) = wetPart V H s (j + 1) := by
  have hF : ∀ w f, vF (wetAll (wetPart V H s j) s (vH V s + j + 1)) w f = vF (wetPart V H s (j + 1)) w f := by
    intro w f
    show (if f < vN V 5 ∧ vF (wetPart V H s j) 0 f = s then _ else vF (wetPart V H s j) w f) = _
    have e0 : vF (wetPart V H s j) 0 f = vF V 0 f := by
      rw [wetPart_F]
      unfold wetUp; split <;> rfl
    rw [e0]
    by_cases hf : f < vN V 5
    · by_cases hs : vF V 0 f = s
      · rw [if_pos ⟨hf, hs⟩]
        have g : ∀ i, hUp V H s i (vF V 0 f) - vH V (vF V 0 f) = i := by
          intro i
          unfold hUp
          simp only [hs, Nat.lt_irrefl, if_false, if_true]
          omega
        have q : ∀ i w', vF (wetPart V H s i) w' f = if w' = 2 then (wseq (vF V 2 f) (vF V 3 f) (vF V 4 f) (vH V s) i).1 else if w' = 4 then (wseq (vF V 2 f) (vF V 3 f) (vF V 4 f) (vH V s) i).2 else vF V w' f := by
          intro i w'
          rw [wetPart_F]
          unfold wetUp
          rw [if_pos hf, g i, hs]
        have e3 : wet1 (wetPart V H s j) f (vH V s + j + 1) = wseq (vF V 2 f) (vF V 3 f) (vF V 4 f) (vH V s) (j + 1) := by
          unfold wet1
          rw [q j 2, q j 3, q j 4]
          simp only [if_true, Nat.reduceEqDiff, if_false]
          conv => rhs; unfold wseq
        rw [e3, q (j + 1) w]
        by_cases w2 : w = 2
        · simp [w2]
        · by_cases w4 : w = 4
          · simp [w4]
          · simp only [w2, w4, if_false]
            rw [q j w, if_neg w2, if_neg w4]
      · rw [if_neg (fun z => hs z.2)]
        rw [wetPart_F, wetPart_F]
        unfold wetUp hUp
        simp only [hf, if_true, hs, if_false]
    · rw [if_neg (fun z => hf z.1)]
      rw [wetPart_F, wetPart_F]
      unfold wetUp
      rw [if_neg hf, if_neg hf]
  exact Prod.ext rfl (Prod.ext rfl (Prod.ext rfl (Prod.ext (funext fun w => funext fun f => hF w f) rfl)))
theorem wetPart_end (V T : Vt) (hd : WFd V) (hn : WN V) : wetUp V (hUp V (vH T) 4 0) = wetUp V (vH T) := by
  funext w f
  unfold wetUp hUp
  by_cases hf : f < vN V 5
  · have h0 := (hd f hf).1.1
    have := hn.2.1
    have h4 : vF V 0 f < 4 := by omega
    simp only [hf, if_true, h4]
  · rw [if_neg hf, if_neg hf]
theorem WFd_wetPart {V : Vt} {H : Nat → Nat} {s : Nat} (hd : WFd (wetPart V H s 0)) (h6 : vH V s ≤ 6) : ∀ j, vH V s + j ≤ 50 → WFd (wetPart V H s j)
  | 0, _ => hd
  | j + 1, h => by
    rw [← wetPart_st]
    exact WFd_wetAll (WFd_wetPart hd h6 j (by omega)) (by omega)
