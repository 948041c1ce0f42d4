/-! packs: sums over seeds -/
def wsum (f : Nat → Nat) : Nat → Nat
  | 0 => 0
  | n + 1 => wsum f n + f n
theorem wsum_le {f : Nat → Nat} {c : Nat} : ∀ n, (∀ i, i < n → f i ≤ c) → wsum f n ≤ c * n
  | 0, _ => Nat.zero_le _
  | n + 1, h => by
    have h1 := wsum_le n (fun i hi => h i (by omega))
    have h2 := h n (by omega)
    show wsum f n + f n ≤ c * (n + 1)
    rw [Nat.mul_succ]; omega
noncomputable abbrev rsP (V : Vt) (sd s i : Nat) : Nat := rise (packV V (packD V (sd + i))) s
theorem tri_le : ∀ b, b ≤ 6 → b * (b + 1) / 2 ≤ 21 := by decide
theorem sumR_21 {a b : Nat} (hb : b ≤ 6) : sumR a b ≤ 21 := by
  unfold sumR
  have := tri_le b hb
  omega
theorem X_sumUp {sd m : Nat} {σ : am_M} {V : Vt} (hN : TN σ 10 V) (hw : WG V) (hsd : sd + m ≤ 10000) (hm : m ≤ 50) : ∃ τ, S_X1_sumUp [.ref 53, .ref 10, .int (nI sd), .int (nI m)] σ = some (none, τ) ∧ τ.2 = σ.2 ∧ (∀ j, (j < 54 ∨ 63 ≤ j) → τ.1 j = σ.1 j) ∧ (∀ s, s < 4 → τ.1 62 s = nI (wsum (rsP V sd s) m)) ∧ ∀ i, i < m → ∀ s, s < 4 → rsP V sd s i ≤ 21 := by
  obtain ⟨g0, f1, f2⟩ := X_fill (h := 62) rfl (by decide) σ
  obtain ⟨σ0, e0⟩ : ∃ t, t = am_uA σ 62 g0 := ⟨_, rfl⟩
  rw [← e0] at f1
  obtain ⟨u, τ, ⟨h1, h2, h3, h4⟩, r1⟩ := rch_for (α := Unit) (hd := hd_X1_sumUp) (p := 11) (n := m) (C := 5) (fun i _ => [some (.ref 53), some (.ref 10), some (.int (nI sd)), some (.int (nI m)), some (.int (nI i)), if i = 0 then none else some (.int (nI 4))]) (fun i _ τ => τ.2 = σ.2 ∧ (∀ j, (j < 54 ∨ 63 ≤ j) → τ.1 j = σ.1 j) ∧ (∀ s, s < 4 → τ.1 62 s = nI (wsum (rsP V sd s) i)) ∧ ∀ i', i' < i → ∀ s, s < 4 → rsP V sd s i' ≤ 21) (fun i _ τ hi hh => by
    obtain ⟨q1, q2, q3, q4⟩ := hh
    have hN' : TN τ 10 V := TN_fr hN (q2 10 (by omega))
    obtain ⟨n6, n7, n9, n10, n11, n8⟩ := hN'
    obtain ⟨ρ, p1, p2, p3, p4, p5, p6⟩ := X_tryOut (seed := sd + i) isT10 (by omega) n6 n7 n11 hw.1 (by omega)
    obtain ⟨P, eP⟩ : ∃ P, P = packV V (packD V (sd + i)) := ⟨_, rfl⟩
    have hwp := WG_pack hw (sd + i)
    rw [← eP] at p2 p3 p4 hwp
    have hri : ∀ s, rsP V sd s i = rise P s := fun s => by rw [eP]
    have hr21 : ∀ s, rise P s ≤ 21 := fun s => sumR_21 (p3.1.2.2.2.2 s)
    obtain ⟨l5, el5⟩ : ∃ l5 : Option Value, l5 = if i = 0 then none else some (.int (nI 4)) := ⟨_, rfl⟩
    obtain ⟨u2, ξ, ⟨k1, k2, k3, k4⟩, r2⟩ := rch_for (α := Unit) (hd := hd_X1_sumUp) (p := 29) (n := 4) (C := 1) (fun s _ => [some (.ref 53), some (.ref 10), some (.int (nI sd)), some (.int (nI m)), some (.int (nI i)), some (.int (nI s))]) (fun s _ τ' => τ'.2 = ρ.2 ∧ (∀ j, j ≠ 62 → τ'.1 j = ρ.1 j) ∧ (∀ s', s' < s → τ'.1 62 s' = nI (wsum (rsP V sd s') (i + 1))) ∧ ∀ s', s ≤ s' → s' < 4 → τ'.1 62 s' = nI (wsum (rsP V sd s') i)) (fun s _ τ' hs hj => by
      obtain ⟨j1, j2, j3, j4⟩ := hj
      have hP : TP τ' 54 P := TP_fr p2 (fun j a b => j2 j (by omega))
      have hR : RX τ' 54 P (runT P) := ⟨p3.1, fun p hp => by rw [j2 59 (by omega)]; exact p3.2.1 p hp, fun s hs => by rw [j2 60 (by omega)]; exact p3.2.2 s hs⟩
      have z1 := X_wetsOf (s := s) hs hwp.2.1 hP hR p4
      have z2 := j4 s (Nat.le_refl _) hs
      have z3 : wsum (rsP V sd s) i + rise P s = wsum (rsP V sd s) (i + 1) := by rw [← hri s]; rfl
      refine ⟨(), am_uI τ' 62 s (nI (wsum (rsP V sd s) (i + 1))), ⟨j1, fun j a => by rw [uI_n a]; exact j2 j a, fun s' a => ?_, fun s' a b => ?_⟩, rch_1 fun B => ?_⟩
      · by_cases e : s' = s
        · subst e; rw [uI_s, up_s]
        · rw [uI_s, up_n e]; exact j3 s' (by omega)
      · rw [uI_s, up_n (by omega)]; exact j4 s' (by omega) b
      · simp (disch := omega) only [↓e_X1_sumUp_29, ↓h_X1_sumUp_29, ↓it_s, ↓y_iload, ↓y_lload, ↓y_aload, ↓y_istore, ↓y_lstore, ↓y_astore, ↓y_iinc, ↓y_cI, ↓y_cL, ↓y_bin, ↓y_binL, ↓y_div, ↓y_divL, ↓y_lshl, ↓y_un, ↓y_i2l, ↓y_lneg, ↓y_l2i, ↓y_lcmp, ↓y_dupI, ↓y_dupR, ↓y_dup2, ↓y_pop, ↓y_goto, ↓y_eq0, ↓y_lt0, ↓y_le0, ↓y_eq, ↓y_lt, ↓y_le, ↓y_switch, ↓y_sw0, ↓y_sw1, ↓y_getI, ↓y_getL, ↓y_getR, ↓y_getT, ↓y_putI, ↓y_putZ, ↓y_putL, ↓y_putT, ↓y_iald, ↓y_bald, ↓y_lald, ↓y_aald, ↓y_iast, ↓y_bast, ↓y_last, ↓y_alen, ↓y_iret, ↓y_zret, ↓y_lret, ↓y_vret, ↓y_svI, ↓y_svL, ↓y_svV, ↓y_ivI, ↓y_ivL, ↓y_ivV, ↓y_max, ↓y_min, ↓y_absL, ↓y_cpI, ↓y_cpL, ↓x_n1I, ↓x_n1L, ↓x_n1R, ↓x_n0I, ↓x_n0L, ↓x_n0R, ↓x_s0, ↓x_s1i, ↓x_s1r, ↓x_s1n, ↓x_s2, ↓x_c0, ↓x_c2, ↓x_tk0, ↓x_tk1, ↓x_rcv, x_rI1, x_rL1, x_rV1, x_rIn, x_rLn, x_rVn, x_rIf, x_rLf, x_rVf, x_40, x_41, x_42, x_43, x_44, ↓reduceIte, if_true, if_false, ao_iadd, ao_isub, ao_imul, ao_iand, ao_ior, ao_ishl, ao_ishr, ao_iushr, ao_ladd, ao_lsub, ao_lmul, ao_land, ao_lor, ao_idiv, ao_irem, ao_ldiv, ao_lrem, ao_ineg, ao_i2b, ao_i2s, Nat.reduceAdd, Nat.reduceMul, Nat.reduceSub, Nat.reduceEqDiff, Nat.reduceLeDiff, and_self, true_and, x_lit, x_ofn, x_z0, x_z1, x_inbT, x_ltT, x_ltF, x_leT, x_leF, x_eqF, x_eqT, x_inb, x_lt, x_le, x_eq, x_cl, x_sub, nI_add, pk_mul, x_m1e, x_m1e', x_m1l, x_m1n, x_m1s, Nat.not_lt_zero, x_zb, x_b0, x_b1, decide_eq_false_iff_not, decide_eq_true_eq, Bool.false_eq_true, Bool.true_eq_false, z1, z2, z3, kd_53, kd_62, ln_62]) 4 0 () ρ (by omega) ⟨rfl, fun _ _ => rfl, fun s' a => by omega, fun s' a b => by rw [p6 62 (by omega)]; exact q3 s' b⟩
    have r3 : rch hd_X1_sumUp 0 11 [some (.ref 53), some (.ref 10), some (.int (nI sd)), some (.int (nI m)), some (.int (nI i)), l5] τ 29 [some (.ref 53), some (.ref 10), some (.int (nI sd)), some (.int (nI m)), some (.int (nI i)), some (.int (nI 0))] ρ := rch_0 fun B => by
      simp (disch := omega) only [↓e_X1_sumUp_11, ↓h_X1_sumUp_11, ↓h_X1_sumUp_29, ↓it_s, ↓y_iload, ↓y_lload, ↓y_aload, ↓y_istore, ↓y_lstore, ↓y_astore, ↓y_iinc, ↓y_cI, ↓y_cL, ↓y_bin, ↓y_binL, ↓y_div, ↓y_divL, ↓y_lshl, ↓y_un, ↓y_i2l, ↓y_lneg, ↓y_l2i, ↓y_lcmp, ↓y_dupI, ↓y_dupR, ↓y_dup2, ↓y_pop, ↓y_goto, ↓y_eq0, ↓y_lt0, ↓y_le0, ↓y_eq, ↓y_lt, ↓y_le, ↓y_switch, ↓y_sw0, ↓y_sw1, ↓y_getI, ↓y_getL, ↓y_getR, ↓y_getT, ↓y_putI, ↓y_putZ, ↓y_putL, ↓y_putT, ↓y_iald, ↓y_bald, ↓y_lald, ↓y_aald, ↓y_iast, ↓y_bast, ↓y_last, ↓y_alen, ↓y_iret, ↓y_zret, ↓y_lret, ↓y_vret, ↓y_svI, ↓y_svL, ↓y_svV, ↓y_ivI, ↓y_ivL, ↓y_ivV, ↓y_max, ↓y_min, ↓y_absL, ↓y_cpI, ↓y_cpL, ↓x_n1I, ↓x_n1L, ↓x_n1R, ↓x_n0I, ↓x_n0L, ↓x_n0R, ↓x_s0, ↓x_s1i, ↓x_s1r, ↓x_s1n, ↓x_s2, ↓x_c0, ↓x_c2, ↓x_tk0, ↓x_tk1, ↓x_rcv, x_rI1, x_rL1, x_rV1, x_rIn, x_rLn, x_rVn, x_rIf, x_rLf, x_rVf, x_40, x_41, x_42, x_43, x_44, ↓reduceIte, if_true, if_false, ao_iadd, ao_isub, ao_imul, ao_iand, ao_ior, ao_ishl, ao_ishr, ao_iushr, ao_ladd, ao_lsub, ao_lmul, ao_land, ao_lor, ao_idiv, ao_irem, ao_ldiv, ao_lrem, ao_ineg, ao_i2b, ao_i2s, Nat.reduceAdd, Nat.reduceMul, Nat.reduceSub, Nat.reduceEqDiff, Nat.reduceLeDiff, and_self, true_and, x_lit, x_ofn, x_z0, x_z1, x_inbT, x_ltT, x_ltF, x_leT, x_leF, x_eqF, x_eqT, x_inb, x_lt, x_le, x_eq, x_cl, x_sub, nI_add, pk_mul, x_m1e, x_m1e', x_m1l, x_m1n, x_m1s, Nat.not_lt_zero, x_zb, x_b0, x_b1, decide_eq_false_iff_not, decide_eq_true_eq, Bool.false_eq_true, Bool.true_eq_false, p1, kd_53]
    have r4 : rch hd_X1_sumUp 1 29 [some (.ref 53), some (.ref 10), some (.int (nI sd)), some (.int (nI m)), some (.int (nI i)), some (.int (nI 4))] ξ 11 [some (.ref 53), some (.ref 10), some (.int (nI sd)), some (.int (nI m)), some (.int (nI (i + 1))), some (.int (nI 4))] ξ := rch_1 fun B => by
      simp (disch := omega) only [↓e_X1_sumUp_29, ↓e_X1_sumUp_57, ↓h_X1_sumUp_29, ↓it_s, ↓y_iload, ↓y_lload, ↓y_aload, ↓y_istore, ↓y_lstore, ↓y_astore, ↓y_iinc, ↓y_cI, ↓y_cL, ↓y_bin, ↓y_binL, ↓y_div, ↓y_divL, ↓y_lshl, ↓y_un, ↓y_i2l, ↓y_lneg, ↓y_l2i, ↓y_lcmp, ↓y_dupI, ↓y_dupR, ↓y_dup2, ↓y_pop, ↓y_goto, ↓y_eq0, ↓y_lt0, ↓y_le0, ↓y_eq, ↓y_lt, ↓y_le, ↓y_switch, ↓y_sw0, ↓y_sw1, ↓y_getI, ↓y_getL, ↓y_getR, ↓y_getT, ↓y_putI, ↓y_putZ, ↓y_putL, ↓y_putT, ↓y_iald, ↓y_bald, ↓y_lald, ↓y_aald, ↓y_iast, ↓y_bast, ↓y_last, ↓y_alen, ↓y_iret, ↓y_zret, ↓y_lret, ↓y_vret, ↓y_svI, ↓y_svL, ↓y_svV, ↓y_ivI, ↓y_ivL, ↓y_ivV, ↓y_max, ↓y_min, ↓y_absL, ↓y_cpI, ↓y_cpL, ↓x_n1I, ↓x_n1L, ↓x_n1R, ↓x_n0I, ↓x_n0L, ↓x_n0R, ↓x_s0, ↓x_s1i, ↓x_s1r, ↓x_s1n, ↓x_s2, ↓x_c0, ↓x_c2, ↓x_tk0, ↓x_tk1, ↓x_rcv, x_rI1, x_rL1, x_rV1, x_rIn, x_rLn, x_rVn, x_rIf, x_rLf, x_rVf, x_40, x_41, x_42, x_43, x_44, ↓reduceIte, if_true, if_false, ao_iadd, ao_isub, ao_imul, ao_iand, ao_ior, ao_ishl, ao_ishr, ao_iushr, ao_ladd, ao_lsub, ao_lmul, ao_land, ao_lor, ao_idiv, ao_irem, ao_ldiv, ao_lrem, ao_ineg, ao_i2b, ao_i2s, Nat.reduceAdd, Nat.reduceMul, Nat.reduceSub, Nat.reduceEqDiff, Nat.reduceLeDiff, and_self, true_and, x_lit, x_ofn, x_z0, x_z1, x_inbT, x_ltT, x_ltF, x_leT, x_leF, x_eqF, x_eqT, x_inb, x_lt, x_le, x_eq, x_cl, x_sub, nI_add, pk_mul, x_m1e, x_m1e', x_m1l, x_m1n, x_m1s, Nat.not_lt_zero, x_zb, x_b0, x_b1, decide_eq_false_iff_not, decide_eq_true_eq, Bool.false_eq_true, Bool.true_eq_false]
    refine ⟨(), ξ, ⟨by rw [k1, p5, q1], fun j a => by rw [k2 j (by omega), p6 j (by omega), q2 j a], fun s hs => k3 s hs, fun i' a s hs => ?_⟩, ?_⟩
    · by_cases e : i' = i
      · subst e; rw [hri]; exact hr21 s
      · exact q4 i' (by omega) s hs
    · rw [← el5, if_neg (show ¬ i + 1 = 0 by omega)]
      exact rch_mono (rch_tr r3 (rch_tr r2 r4)) (by omega)) m 0 () σ0 (by omega) ⟨by rw [e0]; rfl, fun j a => by rw [e0, uA_n (by omega)], fun s hs => by rw [e0, uA_s, f2 s hs]; rfl, fun i' a => by omega⟩
  obtain ⟨l5, el5⟩ : ∃ l5 : Option Value, l5 = if m = 0 then none else some (.int (nI 4)) := ⟨_, rfl⟩
  rw [← el5] at r1
  have r5 : fin hd_X1_sumUp 0 11 [some (.ref 53), some (.ref 10), some (.int (nI sd)), some (.int (nI m)), some (.int (nI m)), l5] τ (some (none, τ)) := fin_0 fun B => by
    simp (disch := omega) only [↓e_X1_sumUp_11, ↓e_X1_sumUp_63, ↓h_X1_sumUp_11, ↓it_s, ↓y_iload, ↓y_lload, ↓y_aload, ↓y_istore, ↓y_lstore, ↓y_astore, ↓y_iinc, ↓y_cI, ↓y_cL, ↓y_bin, ↓y_binL, ↓y_div, ↓y_divL, ↓y_lshl, ↓y_un, ↓y_i2l, ↓y_lneg, ↓y_l2i, ↓y_lcmp, ↓y_dupI, ↓y_dupR, ↓y_dup2, ↓y_pop, ↓y_goto, ↓y_eq0, ↓y_lt0, ↓y_le0, ↓y_eq, ↓y_lt, ↓y_le, ↓y_switch, ↓y_sw0, ↓y_sw1, ↓y_getI, ↓y_getL, ↓y_getR, ↓y_getT, ↓y_putI, ↓y_putZ, ↓y_putL, ↓y_putT, ↓y_iald, ↓y_bald, ↓y_lald, ↓y_aald, ↓y_iast, ↓y_bast, ↓y_last, ↓y_alen, ↓y_iret, ↓y_zret, ↓y_lret, ↓y_vret, ↓y_svI, ↓y_svL, ↓y_svV, ↓y_ivI, ↓y_ivL, ↓y_ivV, ↓y_max, ↓y_min, ↓y_absL, ↓y_cpI, ↓y_cpL, ↓x_n1I, ↓x_n1L, ↓x_n1R, ↓x_n0I, ↓x_n0L, ↓x_n0R, ↓x_s0, ↓x_s1i, ↓x_s1r, ↓x_s1n, ↓x_s2, ↓x_c0, ↓x_c2, ↓x_tk0, ↓x_tk1, ↓x_rcv, x_rI1, x_rL1, x_rV1, x_rIn, x_rLn, x_rVn, x_rIf, x_rLf, x_rVf, x_40, x_41, x_42, x_43, x_44, ↓reduceIte, if_true, if_false, ao_iadd, ao_isub, ao_imul, ao_iand, ao_ior, ao_ishl, ao_ishr, ao_iushr, ao_ladd, ao_lsub, ao_lmul, ao_land, ao_lor, ao_idiv, ao_irem, ao_ldiv, ao_lrem, ao_ineg, ao_i2b, ao_i2s, Nat.reduceAdd, Nat.reduceMul, Nat.reduceSub, Nat.reduceEqDiff, Nat.reduceLeDiff, and_self, true_and, x_lit, x_ofn, x_z0, x_z1, x_inbT, x_ltT, x_ltF, x_leT, x_leF, x_eqF, x_eqT, x_inb, x_lt, x_le, x_eq, x_cl, x_sub, nI_add, pk_mul, x_m1e, x_m1e', x_m1l, x_m1n, x_m1s, Nat.not_lt_zero, x_zb, x_b0, x_b1, decide_eq_false_iff_not, decide_eq_true_eq, Bool.false_eq_true, Bool.true_eq_false]
  have hf := fin_run (rch_fin r1 r5) (by unfold am_fuel; omega)
  refine ⟨τ, ?_, h1, h2, h3, h4⟩
  rw [← hf]
  simp (disch := omega) only [g_X1_sumUp, ↓e_X1_sumUp_0, ↓h_X1_sumUp_11, ↓it_s, ↓y_iload, ↓y_lload, ↓y_aload, ↓y_istore, ↓y_lstore, ↓y_astore, ↓y_iinc, ↓y_cI, ↓y_cL, ↓y_bin, ↓y_binL, ↓y_div, ↓y_divL, ↓y_lshl, ↓y_un, ↓y_i2l, ↓y_lneg, ↓y_l2i, ↓y_lcmp, ↓y_dupI, ↓y_dupR, ↓y_dup2, ↓y_pop, ↓y_goto, ↓y_eq0, ↓y_lt0, ↓y_le0, ↓y_eq, ↓y_lt, ↓y_le, ↓y_switch, ↓y_sw0, ↓y_sw1, ↓y_getI, ↓y_getL, ↓y_getR, ↓y_getT, ↓y_putI, ↓y_putZ, ↓y_putL, ↓y_putT, ↓y_iald, ↓y_bald, ↓y_lald, ↓y_aald, ↓y_iast, ↓y_bast, ↓y_last, ↓y_alen, ↓y_iret, ↓y_zret, ↓y_lret, ↓y_vret, ↓y_svI, ↓y_svL, ↓y_svV, ↓y_ivI, ↓y_ivL, ↓y_ivV, ↓y_max, ↓y_min, ↓y_absL, ↓y_cpI, ↓y_cpL, ↓x_n1I, ↓x_n1L, ↓x_n1R, ↓x_n0I, ↓x_n0L, ↓x_n0R, ↓x_s0, ↓x_s1i, ↓x_s1r, ↓x_s1n, ↓x_s2, ↓x_c0, ↓x_c2, ↓x_tk0, ↓x_tk1, ↓x_rcv, x_rI1, x_rL1, x_rV1, x_rIn, x_rLn, x_rVn, x_rIf, x_rLf, x_rVf, x_40, x_41, x_42, x_43, x_44, ↓reduceIte, if_true, if_false, ao_iadd, ao_isub, ao_imul, ao_iand, ao_ior, ao_ishl, ao_ishr, ao_iushr, ao_ladd, ao_lsub, ao_lmul, ao_land, ao_lor, ao_idiv, ao_irem, ao_ldiv, ao_lrem, ao_ineg, ao_i2b, ao_i2s, Nat.reduceAdd, Nat.reduceMul, Nat.reduceSub, Nat.reduceEqDiff, Nat.reduceLeDiff, and_self, true_and, x_lit, x_ofn, x_z0, x_z1, x_inbT, x_ltT, x_ltF, x_leT, x_leF, x_eqF, x_eqT, x_inb, x_lt, x_le, x_eq, x_cl, x_sub, nI_add, pk_mul, x_m1e, x_m1e', x_m1l, x_m1n, x_m1s, Nat.not_lt_zero, x_zb, x_b0, x_b1, decide_eq_false_iff_not, decide_eq_true_eq, Bool.false_eq_true, Bool.true_eq_false, f1, kd_53]
