/-! the class: tokens -/
/-- the class's reader over a text -/
def TX (σ : am_M) (t : Nat → Nat) (e : Nat) : Prop := σ.1 3 1 = nI 1 ∧ σ.1 3 2 = nI e ∧ e ≤ 900 ∧ (∀ j, t j < 256) ∧ (∀ j, j < 900 → σ.1 2 j = bI (t j)) ∧ ∀ i, i < 23 → σ.2 4 i = lN (keyR 27 (KWs.getD i []))
/-- nothing but the reader's own numbers has changed -/
def fR (σ τ : am_M) : Prop := (∀ j, j ≠ 3 → τ.1 j = σ.1 j ∧ τ.2 j = σ.2 j) ∧ ∀ i, (i < 3 ∨ 9 < i) → τ.1 3 i = σ.1 3 i
theorem fR_rf (σ : am_M) : fR σ σ := ⟨fun _ _ => ⟨rfl, rfl⟩, fun _ _ => rfl⟩
theorem fR_tr {a b c : am_M} (h1 : fR a b) (h2 : fR b c) : fR a c := ⟨fun j hj => ⟨(h2.1 j hj).1.trans (h1.1 j hj).1, (h2.1 j hj).2.trans (h1.1 j hj).2⟩, fun i hi => (h2.2 i hi).trans (h1.2 i hi)⟩
theorem fR_uI {a b : am_M} {k : Nat} {v : Int32} (h : fR a b) (hk : 3 ≤ k ∧ k ≤ 9) : fR a (am_uI b 3 k v) := ⟨fun j hj => ⟨(uI_n hj).trans (h.1 j hj).1, (h.1 j hj).2⟩, fun i hi => by rw [uI_s, up_n (by omega)]; exact h.2 i hi⟩
theorem fR_uL {a b : am_M} {k : Nat} {v : Int64} (h : fR a b) : fR a (am_uL b 3 k v) := ⟨fun j hj => ⟨(h.1 j hj).1, (uL_n hj).trans (h.1 j hj).2⟩, fun i hi => h.2 i hi⟩
theorem TX_fr {σ τ : am_M} {t : Nat → Nat} {e : Nat} (h : TX σ t e) (hf : fR σ τ) : TX τ t e := by
  obtain ⟨a1, a2, a3, a4, a5, a6⟩ := h
  exact ⟨by rw [hf.2 1 (by omega)]; exact a1, by rw [hf.2 2 (by omega)]; exact a2, a3, a4, fun j hj => by rw [(hf.1 2 (by omega)).1]; exact a5 j hj, fun i hi => by rw [(hf.1 4 (by omega)).2]; exact a6 i hi⟩
theorem X_byteHere {σ : am_M} {t : Nat → Nat} {e a : Nat} (h : TX σ t e) (ha : σ.1 3 3 = nI a) (hae : a < e) : S_X3_byteHere [.ref 3] σ = some (some (.int (bI (t a))), σ) := by
  obtain ⟨a1, a2, a3, a4, a5, a6⟩ := h
  have hb := a5 a (by omega)
  have k2 : (20 ≤ (22 : Nat) ∧ (22 : Nat) ≤ 24) = True := by simp
  simp (disch := omega) only [g_X3_byteHere, ↓e_X3_byteHere_0, ↓e_X3_byteHere_43, ↓it_s, ↓y_iload, ↓y_lload, ↓y_aload, ↓y_istore, ↓y_lstore, ↓y_astore, ↓y_iinc, ↓y_cI, ↓y_cL, ↓y_bin, ↓y_binL, ↓y_div, ↓y_divL, ↓y_lshl, ↓y_un, ↓y_i2l, ↓y_lneg, ↓y_l2i, ↓y_lcmp, ↓y_dupI, ↓y_dupR, ↓y_dup2, ↓y_pop, ↓y_goto, ↓y_eq0, ↓y_lt0, ↓y_le0, ↓y_eq, ↓y_lt, ↓y_le, ↓y_switch, ↓y_sw0, ↓y_sw1, ↓y_getI, ↓y_getL, ↓y_getR, ↓y_getT, ↓y_putI, ↓y_putZ, ↓y_putL, ↓y_putT, ↓y_iald, ↓y_bald, ↓y_lald, ↓y_aald, ↓y_iast, ↓y_bast, ↓y_last, ↓y_alen, ↓y_iret, ↓y_zret, ↓y_lret, ↓y_vret, ↓y_svI, ↓y_svL, ↓y_svV, ↓y_ivI, ↓y_ivL, ↓y_ivV, ↓y_max, ↓y_min, ↓y_absL, ↓y_cpI, ↓y_cpL, ↓x_n1I, ↓x_n1L, ↓x_n1R, ↓x_n0I, ↓x_n0L, ↓x_n0R, ↓x_s0, ↓x_s1i, ↓x_s1r, ↓x_s1n, ↓x_s2, ↓x_c0, ↓x_c2, ↓x_tk0, ↓x_tk1, ↓x_rcv, x_rI1, x_rL1, x_rV1, x_rIn, x_rLn, x_rVn, x_rIf, x_rLf, x_rVf, x_40, x_41, x_42, x_43, x_44, ↓reduceIte, if_true, if_false, ao_iadd, ao_isub, ao_imul, ao_iand, ao_ior, ao_ishl, ao_ishr, ao_iushr, ao_ladd, ao_lsub, ao_lmul, ao_land, ao_lor, ao_idiv, ao_irem, ao_ldiv, ao_lrem, ao_ineg, ao_i2b, ao_i2s, Nat.reduceAdd, Nat.reduceMul, Nat.reduceSub, Nat.reduceEqDiff, Nat.reduceLeDiff, and_self, true_and, x_lit, x_ofn, x_z0, x_z1, x_inbT, x_ltT, x_ltF, x_leT, x_leF, x_eqF, x_eqT, x_inb, x_lt, x_le, x_eq, x_cl, x_sub, nI_add, pk_mul, x_m1e, x_m1e', x_m1l, x_m1n, x_m1s, Nat.not_lt_zero, x_zb, x_b0, x_b1, decide_eq_false_iff_not, decide_eq_true_eq, Bool.false_eq_true, Bool.true_eq_false, a1, a2, ha, hb, kd_2, kd_3, ln_2, k2]
theorem X_byteEnd {σ : am_M} {t : Nat → Nat} {e a : Nat} (h : TX σ t e) (ha : σ.1 3 3 = nI a) (hae : ¬ a < e) (ha2 : a < 10000) : S_X3_byteHere [.ref 3] σ = some (some (.int (-nI 1)), σ) := by
  obtain ⟨a1, a2, a3, a4, a5, a6⟩ := h
  simp (disch := omega) only [g_X3_byteHere, ↓e_X3_byteHere_0, ↓e_X3_byteHere_42, ↓e_X3_byteHere_43, ↓it_s, ↓y_iload, ↓y_lload, ↓y_aload, ↓y_istore, ↓y_lstore, ↓y_astore, ↓y_iinc, ↓y_cI, ↓y_cL, ↓y_bin, ↓y_binL, ↓y_div, ↓y_divL, ↓y_lshl, ↓y_un, ↓y_i2l, ↓y_lneg, ↓y_l2i, ↓y_lcmp, ↓y_dupI, ↓y_dupR, ↓y_dup2, ↓y_pop, ↓y_goto, ↓y_eq0, ↓y_lt0, ↓y_le0, ↓y_eq, ↓y_lt, ↓y_le, ↓y_switch, ↓y_sw0, ↓y_sw1, ↓y_getI, ↓y_getL, ↓y_getR, ↓y_getT, ↓y_putI, ↓y_putZ, ↓y_putL, ↓y_putT, ↓y_iald, ↓y_bald, ↓y_lald, ↓y_aald, ↓y_iast, ↓y_bast, ↓y_last, ↓y_alen, ↓y_iret, ↓y_zret, ↓y_lret, ↓y_vret, ↓y_svI, ↓y_svL, ↓y_svV, ↓y_ivI, ↓y_ivL, ↓y_ivV, ↓y_max, ↓y_min, ↓y_absL, ↓y_cpI, ↓y_cpL, ↓x_n1I, ↓x_n1L, ↓x_n1R, ↓x_n0I, ↓x_n0L, ↓x_n0R, ↓x_s0, ↓x_s1i, ↓x_s1r, ↓x_s1n, ↓x_s2, ↓x_c0, ↓x_c2, ↓x_tk0, ↓x_tk1, ↓x_rcv, x_rI1, x_rL1, x_rV1, x_rIn, x_rLn, x_rVn, x_rIf, x_rLf, x_rVf, x_40, x_41, x_42, x_43, x_44, ↓reduceIte, if_true, if_false, ao_iadd, ao_isub, ao_imul, ao_iand, ao_ior, ao_ishl, ao_ishr, ao_iushr, ao_ladd, ao_lsub, ao_lmul, ao_land, ao_lor, ao_idiv, ao_irem, ao_ldiv, ao_lrem, ao_ineg, ao_i2b, ao_i2s, Nat.reduceAdd, Nat.reduceMul, Nat.reduceSub, Nat.reduceEqDiff, Nat.reduceLeDiff, and_self, true_and, x_lit, x_ofn, x_z0, x_z1, x_inbT, x_ltT, x_ltF, x_leT, x_leF, x_eqF, x_eqT, x_inb, x_lt, x_le, x_eq, x_cl, x_sub, nI_add, pk_mul, x_m1e, x_m1e', x_m1l, x_m1n, x_m1s, Nat.not_lt_zero, x_zb, x_b0, x_b1, decide_eq_false_iff_not, decide_eq_true_eq, Bool.false_eq_true, Bool.true_eq_false, a1, a2, ha, kd_2, kd_3]
/-- blanks -/
theorem X_blanks {t : Nat → Nat} {e : Nat} (d1 : Option Value) : ∀ (m a : Nat) (σ : am_M), e - a = m → a ≤ e → TX σ t e → σ.1 3 3 = nI a → ∃ τ, rch hd_X3_step m 0 [some (.ref 3), d1] σ 0 [some (.ref 3), d1] τ ∧ fR σ τ ∧ τ.2 = σ.2 ∧ τ.1 3 3 = nI (tp t e a) ∧ (∀ i, i ≠ 3 → τ.1 3 i = σ.1 3 i) := by
  intro m
  induction m with
  | zero =>
    intro a σ hm ha h h3
    have e1 : tp t e a = a := scan_no (fun z => by omega)
    exact ⟨σ, rch_rf _ _ _ _, fR_rf _, rfl, by rw [e1]; exact h3, fun _ _ => rfl⟩
  | succ m ih =>
    intro a σ hm ha h h3
    cases hb : isBl (t a) with
    | false =>
      have e1 : tp t e a = a := scan_no (fun z => hb)
      exact ⟨σ, rch_rf _ _ _ _, fR_rf _, rfl, by rw [e1]; exact h3, fun _ _ => rfl⟩
    | true =>
      have e1 : tp t e a = tp t e (a + 1) := scan_go (by omega) hb
      have hF : fR σ (am_uI σ 3 3 (nI (a + 1))) := fR_uI (fR_rf _) (by omega)
      obtain ⟨τ, r1, r2, r3, r4, r5⟩ := ih (a + 1) (am_uI σ 3 3 (nI (a + 1))) (by omega) (by omega) (TX_fr h hF) (by rw [uI_s, up_s])
      have x1 := X_byteHere h h3 (by omega)
      have x2 := X_isBlank (h.2.2.2.1 a) σ
      rw [hb] at x2
      have he := h.2.1
      have he9 := h.2.2.1
      refine ⟨τ, rch_mono (rch_tr (rch_1 fun B => ?_) r1) (by omega), fR_tr hF r2, r3, by rw [e1]; exact r4, fun i hi => by rw [r5 i hi, uI_s, up_n hi]⟩
      simp (disch := omega) only [↓e_X3_step_0, ↓h_X3_step_0, ↓it_s, ↓y_iload, ↓y_lload, ↓y_aload, ↓y_istore, ↓y_lstore, ↓y_astore, ↓y_iinc, ↓y_cI, ↓y_cL, ↓y_bin, ↓y_binL, ↓y_div, ↓y_divL, ↓y_lshl, ↓y_un, ↓y_i2l, ↓y_lneg, ↓y_l2i, ↓y_lcmp, ↓y_dupI, ↓y_dupR, ↓y_dup2, ↓y_pop, ↓y_goto, ↓y_eq0, ↓y_lt0, ↓y_le0, ↓y_eq, ↓y_lt, ↓y_le, ↓y_switch, ↓y_sw0, ↓y_sw1, ↓y_getI, ↓y_getL, ↓y_getR, ↓y_getT, ↓y_putI, ↓y_putZ, ↓y_putL, ↓y_putT, ↓y_iald, ↓y_bald, ↓y_lald, ↓y_aald, ↓y_iast, ↓y_bast, ↓y_last, ↓y_alen, ↓y_iret, ↓y_zret, ↓y_lret, ↓y_vret, ↓y_svI, ↓y_svL, ↓y_svV, ↓y_ivI, ↓y_ivL, ↓y_ivV, ↓y_max, ↓y_min, ↓y_absL, ↓y_cpI, ↓y_cpL, ↓x_n1I, ↓x_n1L, ↓x_n1R, ↓x_n0I, ↓x_n0L, ↓x_n0R, ↓x_s0, ↓x_s1i, ↓x_s1r, ↓x_s1n, ↓x_s2, ↓x_c0, ↓x_c2, ↓x_tk0, ↓x_tk1, ↓x_rcv, x_rI1, x_rL1, x_rV1, x_rIn, x_rLn, x_rVn, x_rIf, x_rLf, x_rVf, x_40, x_41, x_42, x_43, x_44, ↓reduceIte, if_true, if_false, ao_iadd, ao_isub, ao_imul, ao_iand, ao_ior, ao_ishl, ao_ishr, ao_iushr, ao_ladd, ao_lsub, ao_lmul, ao_land, ao_lor, ao_idiv, ao_irem, ao_ldiv, ao_lrem, ao_ineg, ao_i2b, ao_i2s, Nat.reduceAdd, Nat.reduceMul, Nat.reduceSub, Nat.reduceEqDiff, Nat.reduceLeDiff, and_self, true_and, x_lit, x_ofn, x_z0, x_z1, x_inbT, x_ltT, x_ltF, x_leT, x_leF, x_eqF, x_eqT, x_inb, x_lt, x_le, x_eq, x_cl, x_sub, nI_add, pk_mul, x_m1e, x_m1e', x_m1l, x_m1n, x_m1s, Nat.not_lt_zero, x_zb, x_b0, x_b1, decide_eq_false_iff_not, decide_eq_true_eq, Bool.false_eq_true, Bool.true_eq_false, h3, he, x1, x2, b2_t, kd_3]
theorem X_withLetter {x n : Nat} (hx : isLt x = true) (σ : am_M) : S_X3_withLetter [.long (lN n), .int (bI x)] σ = some (some (.long (lN (n * 27 + (x - 96)))), σ) := by
  have h := of_decide_eq_true hx
  have e1 : bI x = nI x := by unfold bI; rw [if_pos (by omega)]
  have e2 : nI x - nI 97 = nI (x - 97) := x_sub (by omega)
  have e3 : (27 : Int64) = lN 27 := by decide +kernel
  have e4 : (nI (x - 97 + 1)).toInt64 = lN (x - 96) := by rw [nI_l (by omega)]; congr 1; omega
  rw [e1]
  simp (disch := omega) only [g_X3_withLetter, ↓e_X3_withLetter_0, ↓it_s, ↓y_iload, ↓y_lload, ↓y_aload, ↓y_istore, ↓y_lstore, ↓y_astore, ↓y_iinc, ↓y_cI, ↓y_cL, ↓y_bin, ↓y_binL, ↓y_div, ↓y_divL, ↓y_lshl, ↓y_un, ↓y_i2l, ↓y_lneg, ↓y_l2i, ↓y_lcmp, ↓y_dupI, ↓y_dupR, ↓y_dup2, ↓y_pop, ↓y_goto, ↓y_eq0, ↓y_lt0, ↓y_le0, ↓y_eq, ↓y_lt, ↓y_le, ↓y_switch, ↓y_sw0, ↓y_sw1, ↓y_getI, ↓y_getL, ↓y_getR, ↓y_getT, ↓y_putI, ↓y_putZ, ↓y_putL, ↓y_putT, ↓y_iald, ↓y_bald, ↓y_lald, ↓y_aald, ↓y_iast, ↓y_bast, ↓y_last, ↓y_alen, ↓y_iret, ↓y_zret, ↓y_lret, ↓y_vret, ↓y_svI, ↓y_svL, ↓y_svV, ↓y_ivI, ↓y_ivL, ↓y_ivV, ↓y_max, ↓y_min, ↓y_absL, ↓y_cpI, ↓y_cpL, ↓x_n1I, ↓x_n1L, ↓x_n1R, ↓x_n0I, ↓x_n0L, ↓x_n0R, ↓x_s0, ↓x_s1i, ↓x_s1r, ↓x_s1n, ↓x_s2, ↓x_c0, ↓x_c2, ↓x_tk0, ↓x_tk1, ↓x_rcv, x_rI1, x_rL1, x_rV1, x_rIn, x_rLn, x_rVn, x_rIf, x_rLf, x_rVf, x_40, x_41, x_42, x_43, x_44, ↓reduceIte, if_true, if_false, ao_iadd, ao_isub, ao_imul, ao_iand, ao_ior, ao_ishl, ao_ishr, ao_iushr, ao_ladd, ao_lsub, ao_lmul, ao_land, ao_lor, ao_idiv, ao_irem, ao_ldiv, ao_lrem, ao_ineg, ao_i2b, ao_i2s, Nat.reduceAdd, Nat.reduceMul, Nat.reduceSub, Nat.reduceEqDiff, Nat.reduceLeDiff, and_self, true_and, x_lit, e2, e3, nI_add, e4, lN_mul, lN_add]
/-- the letters of a word -/
theorem X_letters {t : Nat → Nat} {e p : Nat} (d1 : Option Value) : ∀ (m a n : Nat) (σ : am_M), e - a = m → a ≤ e → a = p + n → TX σ t e → σ.1 3 3 = nI a → σ.2 3 7 = lN (keyR 27 (rl t p n)) → ∃ τ, rch hd_X3_readWord m 10 [some (.ref 3), d1] σ 10 [some (.ref 3), d1] τ ∧ fR σ τ ∧ τ.1 3 3 = nI (scan isLt t e a) ∧ (∀ i, i ≠ 3 → τ.1 3 i = σ.1 3 i) ∧ τ.2 3 7 = lN (keyR 27 (rl t p (scan isLt t e a - p))) := by
  intro m
  induction m with
  | zero =>
    intro a n σ hm ha hn h h3 h7
    have e1 : scan isLt t e a = a := scan_no (fun z => by omega)
    exact ⟨σ, rch_rf _ _ _ _, fR_rf _, by rw [e1]; exact h3, fun _ _ => rfl, by rw [e1, show a - p = n by omega]; exact h7⟩
  | succ m ih =>
    intro a n σ hm ha hn h h3 h7
    cases hb : isLt (t a) with
    | false =>
      have e1 : scan isLt t e a = a := scan_no (fun z => hb)
      exact ⟨σ, rch_rf _ _ _ _, fR_rf _, by rw [e1]; exact h3, fun _ _ => rfl, by rw [e1, show a - p = n by omega]; exact h7⟩
    | true =>
      have e1 : scan isLt t e a = scan isLt t e (a + 1) := scan_go (by omega) hb
      obtain ⟨σ1, es1⟩ : ∃ s, s = am_uL σ 3 7 (lN (keyR 27 (rl t p n) * 27 + (t a - 96))) := ⟨_, rfl⟩
      have hF1 : fR σ σ1 := by rw [es1]; exact fR_uL (fR_rf _)
      have hF : fR σ (am_uI σ1 3 3 (nI (a + 1))) := fR_uI hF1 (by omega)
      obtain ⟨τ, r1, r2, r4, r5, r6⟩ := ih (a + 1) (n + 1) (am_uI σ1 3 3 (nI (a + 1))) (by omega) (by omega) (by omega) (TX_fr h hF) (by rw [uI_s, up_s]) (by
        rw [uI_2, es1, uL_s, up_s]
        show _ = lN (keyR 27 (rl t p n) * 27 + (t (p + n) - 96))
        rw [hn])
      have x1 := X_byteHere h h3 (by omega)
      have x2 := X_isLetter (h.2.2.2.1 a) σ
      rw [hb] at x2
      have x3 := X_withLetter (n := keyR 27 (rl t p n)) hb σ
      have he := h.2.1
      have he9 := h.2.2.1
      have h31 : σ1.1 3 3 = nI a := by rw [es1]; exact h3
      refine ⟨τ, rch_mono (rch_tr (rch_1 fun B => ?_) r1) (by omega), fR_tr hF r2, by rw [e1]; exact r4, fun i hi => by rw [r5 i hi, uI_s, up_n hi, es1]; rfl, by rw [e1]; exact r6⟩
      have es1' := es1.symm
      simp (disch := omega) only [↓e_X3_readWord_10, ↓h_X3_readWord_10, ↓it_s, ↓y_iload, ↓y_lload, ↓y_aload, ↓y_istore, ↓y_lstore, ↓y_astore, ↓y_iinc, ↓y_cI, ↓y_cL, ↓y_bin, ↓y_binL, ↓y_div, ↓y_divL, ↓y_lshl, ↓y_un, ↓y_i2l, ↓y_lneg, ↓y_l2i, ↓y_lcmp, ↓y_dupI, ↓y_dupR, ↓y_dup2, ↓y_pop, ↓y_goto, ↓y_eq0, ↓y_lt0, ↓y_le0, ↓y_eq, ↓y_lt, ↓y_le, ↓y_switch, ↓y_sw0, ↓y_sw1, ↓y_getI, ↓y_getL, ↓y_getR, ↓y_getT, ↓y_putI, ↓y_putZ, ↓y_putL, ↓y_putT, ↓y_iald, ↓y_bald, ↓y_lald, ↓y_aald, ↓y_iast, ↓y_bast, ↓y_last, ↓y_alen, ↓y_iret, ↓y_zret, ↓y_lret, ↓y_vret, ↓y_svI, ↓y_svL, ↓y_svV, ↓y_ivI, ↓y_ivL, ↓y_ivV, ↓y_max, ↓y_min, ↓y_absL, ↓y_cpI, ↓y_cpL, ↓x_n1I, ↓x_n1L, ↓x_n1R, ↓x_n0I, ↓x_n0L, ↓x_n0R, ↓x_s0, ↓x_s1i, ↓x_s1r, ↓x_s1n, ↓x_s2, ↓x_c0, ↓x_c2, ↓x_tk0, ↓x_tk1, ↓x_rcv, x_rI1, x_rL1, x_rV1, x_rIn, x_rLn, x_rVn, x_rIf, x_rLf, x_rVf, x_40, x_41, x_42, x_43, x_44, ↓reduceIte, if_true, if_false, ao_iadd, ao_isub, ao_imul, ao_iand, ao_ior, ao_ishl, ao_ishr, ao_iushr, ao_ladd, ao_lsub, ao_lmul, ao_land, ao_lor, ao_idiv, ao_irem, ao_ldiv, ao_lrem, ao_ineg, ao_i2b, ao_i2s, Nat.reduceAdd, Nat.reduceMul, Nat.reduceSub, Nat.reduceEqDiff, Nat.reduceLeDiff, and_self, true_and, x_lit, x_ofn, x_z0, x_z1, x_inbT, x_ltT, x_ltF, x_leT, x_leF, x_eqF, x_eqT, x_inb, x_lt, x_le, x_eq, x_cl, x_sub, nI_add, pk_mul, x_m1e, x_m1e', x_m1l, x_m1n, x_m1s, Nat.not_lt_zero, x_zb, x_b0, x_b1, decide_eq_false_iff_not, decide_eq_true_eq, Bool.false_eq_true, Bool.true_eq_false, h3, he, h7, x1, x2, x3, b2_t, kd_3, es1', h31]
theorem optI_s {r : List Nat} {i : Nat} (h : KWs.getD i [] = r) : optI (kwR r (i + 1)) = nI i := by unfold kwR; rw [if_pos h]; rfl
theorem X_kwords {t : Nat → Nat} {e : Nat} {r : List Nat} (hok : okL r) (h8 : r.length ≤ 8) : ∀ (m i : Nat) (σ : am_M), i + m = 23 → TX σ t e → σ.1 3 8 = nI r.length → σ.2 3 7 = lN (keyR 27 r) → σ.1 3 9 = optI (kwR r i) → ∃ τ, rch hd_X3_readWord m 74 [some (.ref 3), some (.int (nI i))] σ 74 [some (.ref 3), some (.int (nI 23))] τ ∧ fR σ τ ∧ τ.2 = σ.2 ∧ (∀ i, i ≠ 9 → τ.1 3 i = σ.1 3 i) ∧ τ.1 3 9 = optI (kwi r) := by
  intro m
  induction m with
  | zero =>
    intro i σ hm h h8' h7 h9
    have e1 : i = 23 := by omega
    subst e1
    exact ⟨σ, rch_rf _ _ _ _, fR_rf _, rfl, fun _ _ => rfl, h9⟩
  | succ m ih =>
    intro i σ hm h h8' h7 h9
    have hw := h.2.2.2.2.2 i (by omega)
    have hkl := kw_len i (by omega)
    have hke := key_eq2 (b := 27) (by omega) (by omega) (kw_ok i (by omega)) hok (by omega) h8
    have hcz : ∀ x y : Int64, (lg_cmp x y = nI 0) = (x = y) := by
      intro x y
      rw [eq_iff_iff]
      unfold lg_cmp
      by_cases q1 : x > y
      · rw [if_pos q1]
        constructor
        · intro z; exact absurd z (by decide +kernel)
        · intro z; subst z; rw [gt_iff_lt, Int64.lt_iff_toInt_lt] at q1; omega
      · rw [if_neg q1]
        by_cases q2 : x = y
        · rw [if_pos q2]; exact ⟨fun _ => q2, fun _ => rfl⟩
        · rw [if_neg q2]; exact ⟨fun z => absurd z (by decide +kernel), fun z => absurd z q2⟩
    by_cases hq : KWs.getD i [] = r
    · have hF : fR σ (am_uI σ 3 9 (nI i)) := fR_uI (fR_rf _) (by omega)
      obtain ⟨τ, r1, r2, r3, r4, r5⟩ := ih (i + 1) (am_uI σ 3 9 (nI i)) (by omega) (TX_fr h hF) (by rw [uI_s, up_n (by omega)]; exact h8') h7 (by rw [uI_s, up_s, optI_s hq])
      refine ⟨τ, rch_mono (rch_tr (rch_1 fun B => ?_) r1) (by omega), fR_tr hF r2, r3, fun j hj => by rw [r4 j hj, uI_s, up_n hj], r5⟩
      rw [hq] at hw
      simp (disch := omega) only [↓e_X3_readWord_74, ↓e_X3_readWord_108, ↓h_X3_readWord_74, ↓it_s, ↓y_iload, ↓y_lload, ↓y_aload, ↓y_istore, ↓y_lstore, ↓y_astore, ↓y_iinc, ↓y_cI, ↓y_cL, ↓y_bin, ↓y_binL, ↓y_div, ↓y_divL, ↓y_lshl, ↓y_un, ↓y_i2l, ↓y_lneg, ↓y_l2i, ↓y_lcmp, ↓y_dupI, ↓y_dupR, ↓y_dup2, ↓y_pop, ↓y_goto, ↓y_eq0, ↓y_lt0, ↓y_le0, ↓y_eq, ↓y_lt, ↓y_le, ↓y_switch, ↓y_sw0, ↓y_sw1, ↓y_getI, ↓y_getL, ↓y_getR, ↓y_getT, ↓y_putI, ↓y_putZ, ↓y_putL, ↓y_putT, ↓y_iald, ↓y_bald, ↓y_lald, ↓y_aald, ↓y_iast, ↓y_bast, ↓y_last, ↓y_alen, ↓y_iret, ↓y_zret, ↓y_lret, ↓y_vret, ↓y_svI, ↓y_svL, ↓y_svV, ↓y_ivI, ↓y_ivL, ↓y_ivV, ↓y_max, ↓y_min, ↓y_absL, ↓y_cpI, ↓y_cpL, ↓x_n1I, ↓x_n1L, ↓x_n1R, ↓x_n0I, ↓x_n0L, ↓x_n0R, ↓x_s0, ↓x_s1i, ↓x_s1r, ↓x_s1n, ↓x_s2, ↓x_c0, ↓x_c2, ↓x_tk0, ↓x_tk1, ↓x_rcv, x_rI1, x_rL1, x_rV1, x_rIn, x_rLn, x_rVn, x_rIf, x_rLf, x_rVf, x_40, x_41, x_42, x_43, x_44, ↓reduceIte, if_true, if_false, ao_iadd, ao_isub, ao_imul, ao_iand, ao_ior, ao_ishl, ao_ishr, ao_iushr, ao_ladd, ao_lsub, ao_lmul, ao_land, ao_lor, ao_idiv, ao_irem, ao_ldiv, ao_lrem, ao_ineg, ao_i2b, ao_i2s, Nat.reduceAdd, Nat.reduceMul, Nat.reduceSub, Nat.reduceEqDiff, Nat.reduceLeDiff, and_self, true_and, x_lit, x_ofn, x_z0, x_z1, x_inbT, x_ltT, x_ltF, x_leT, x_leF, x_eqF, x_eqT, x_inb, x_lt, x_le, x_eq, x_cl, x_sub, nI_add, pk_mul, x_m1e, x_m1e', x_m1l, x_m1n, x_m1s, Nat.not_lt_zero, x_zb, x_b0, x_b1, decide_eq_false_iff_not, decide_eq_true_eq, Bool.false_eq_true, Bool.true_eq_false, h8', hw, h7, hcz, kd_3, kd_4, ln_4]
    · have e9 : kwR r (i + 1) = kwR r i := by show (if _ then _ else _) = _; rw [if_neg hq]
      obtain ⟨τ, r1, r2, r3, r4, r5⟩ := ih (i + 1) σ (by omega) h h8' h7 (by rw [e9]; exact h9)
      refine ⟨τ, rch_mono (rch_tr (rch_1 fun B => ?_) r1) (by omega), r2, r3, r4, r5⟩
      have hq2 : (lN (keyR 27 (KWs.getD i [])) = lN (keyR 27 r)) = False := by rw [hke]; exact eq_false hq
      simp (disch := omega) only [↓e_X3_readWord_74, ↓e_X3_readWord_108, ↓h_X3_readWord_74, ↓it_s, ↓y_iload, ↓y_lload, ↓y_aload, ↓y_istore, ↓y_lstore, ↓y_astore, ↓y_iinc, ↓y_cI, ↓y_cL, ↓y_bin, ↓y_binL, ↓y_div, ↓y_divL, ↓y_lshl, ↓y_un, ↓y_i2l, ↓y_lneg, ↓y_l2i, ↓y_lcmp, ↓y_dupI, ↓y_dupR, ↓y_dup2, ↓y_pop, ↓y_goto, ↓y_eq0, ↓y_lt0, ↓y_le0, ↓y_eq, ↓y_lt, ↓y_le, ↓y_switch, ↓y_sw0, ↓y_sw1, ↓y_getI, ↓y_getL, ↓y_getR, ↓y_getT, ↓y_putI, ↓y_putZ, ↓y_putL, ↓y_putT, ↓y_iald, ↓y_bald, ↓y_lald, ↓y_aald, ↓y_iast, ↓y_bast, ↓y_last, ↓y_alen, ↓y_iret, ↓y_zret, ↓y_lret, ↓y_vret, ↓y_svI, ↓y_svL, ↓y_svV, ↓y_ivI, ↓y_ivL, ↓y_ivV, ↓y_max, ↓y_min, ↓y_absL, ↓y_cpI, ↓y_cpL, ↓x_n1I, ↓x_n1L, ↓x_n1R, ↓x_n0I, ↓x_n0L, ↓x_n0R, ↓x_s0, ↓x_s1i, ↓x_s1r, ↓x_s1n, ↓x_s2, ↓x_c0, ↓x_c2, ↓x_tk0, ↓x_tk1, ↓x_rcv, x_rI1, x_rL1, x_rV1, x_rIn, x_rLn, x_rVn, x_rIf, x_rLf, x_rVf, x_40, x_41, x_42, x_43, x_44, ↓reduceIte, if_true, if_false, ao_iadd, ao_isub, ao_imul, ao_iand, ao_ior, ao_ishl, ao_ishr, ao_iushr, ao_ladd, ao_lsub, ao_lmul, ao_land, ao_lor, ao_idiv, ao_irem, ao_ldiv, ao_lrem, ao_ineg, ao_i2b, ao_i2s, Nat.reduceAdd, Nat.reduceMul, Nat.reduceSub, Nat.reduceEqDiff, Nat.reduceLeDiff, and_self, true_and, x_lit, x_ofn, x_z0, x_z1, x_inbT, x_ltT, x_ltF, x_leT, x_leF, x_eqF, x_eqT, x_inb, x_lt, x_le, x_eq, x_cl, x_sub, nI_add, pk_mul, x_m1e, x_m1e', x_m1l, x_m1n, x_m1s, Nat.not_lt_zero, x_zb, x_b0, x_b1, decide_eq_false_iff_not, decide_eq_true_eq, Bool.false_eq_true, Bool.true_eq_false, h8', hw, h7, hcz, hq2, kd_3, kd_4, ln_4]
theorem X_readWord {t : Nat → Nat} {e p : Nat} {σ : am_M} (h : TX σ t e) (hp : p < e) (h3 : σ.1 3 3 = nI p) (h5 : σ.1 3 5 = nI p) (h9 : σ.1 3 9 = -nI 1) : ∃ τ, S_X3_readWord [.ref 3] σ = some (none, τ) ∧ fR σ τ ∧ τ.1 3 3 = nI (scan isLt t e p) ∧ τ.1 3 4 = nI 1 ∧ τ.1 3 5 = nI p ∧ τ.1 3 8 = nI (scan isLt t e p - p) ∧ τ.1 3 9 = optI (kwi (rl t p (scan isLt t e p - p))) ∧ τ.2 3 7 = lN (keyR 27 (rl t p (scan isLt t e p - p))) := by
  have he9 := h.2.2.1
  obtain ⟨q, eq⟩ : ∃ q, q = scan isLt t e p := ⟨_, rfl⟩
  have hq := scan_le isLt t (e := e) (a := p) (by omega)
  rw [← eq] at hq ⊢
  obtain ⟨σ1, es1⟩ : ∃ s, s = am_uL (am_uI σ 3 4 (nI 1)) 3 7 (lN 0) := ⟨_, rfl⟩
  have hF1 : fR σ σ1 := by rw [es1]; exact fR_uL (fR_uI (fR_rf _) (by omega))
  have h1i : ∀ i, i ≠ 4 → σ1.1 3 i = σ.1 3 i := fun i hi => by rw [es1, uL_1, uI_s, up_n hi]
  obtain ⟨σ2, r1, r2, r4, r5, r6⟩ := X_letters (p := p) none (e - p) p 0 σ1 rfl (by omega) rfl (TX_fr h hF1) (by rw [h1i 3 (by omega)]; exact h3) (by rw [es1, uL_s, up_s]; rfl)
  rw [← eq] at r4 r6
  obtain ⟨r, er⟩ : ∃ r, r = rl t p (q - p) := ⟨_, rfl⟩
  have hrl : r.length = q - p := by rw [er, rl_len]
  have hok : okL r := by
    rw [er]
    refine rl_ok _ (fun j a b => scan_all (P := isLt) (e := e) a (by rw [← eq]; omega))
  rw [← er] at r6 ⊢
  have q5 : σ2.1 3 5 = nI p := by rw [r5 5 (by omega), h1i 5 (by omega)]; exact h5
  have q9 : σ2.1 3 9 = -nI 1 := by rw [r5 9 (by omega), h1i 9 (by omega)]; exact h9
  have q4 : σ2.1 3 4 = nI 1 := by rw [r5 4 (by omega), es1, uL_1, uI_s, up_s]
  have q2 : σ2.1 3 2 = nI e := by rw [r5 2 (by omega), h1i 2 (by omega)]; exact h.2.1
  have hT2 := TX_fr h (fR_tr hF1 r2)
  obtain ⟨σ3, es3⟩ : ∃ s, s = am_uI σ2 3 8 (nI (q - p)) := ⟨_, rfl⟩
  have hF3 : fR σ2 σ3 := by rw [es3]; exact fR_uI (fR_rf _) (by omega)
  have h3i : ∀ i, i ≠ 8 → σ3.1 3 i = σ2.1 3 i := fun i hi => by rw [es3, uI_s, up_n hi]
  -- behind the letters
  have hx : rch hd_X3_readWord 0 10 [some (.ref 3), none] σ2 74 [some (.ref 3), some (.int (nI 0))] σ3 := rch_0 fun B => by
    rw [es3]
    by_cases hqe : q < e
    · have x1 := X_byteHere hT2 r4 hqe
      have x2 := X_isLetter (h.2.2.2.1 q) σ2
      have hnl : isLt (t q) = false := by
        cases z : isLt (t q) with
        | false => rfl
        | true =>
          have hsc : ∀ m a, e - a = m → a ≤ e → isLt (t (scan isLt t e a)) = true → scan isLt t e a < e → False := by
            intro m
            induction m with
            | zero => intro a w1 w2 w3 w4; rw [scan_no (fun w => by omega)] at w4; omega
            | succ m ih =>
              intro a w1 w2 w3 w4
              cases w5 : isLt (t a) with
              | true =>
                have w6 := scan_go (P := isLt) (t := t) (e := e) (a := a) (by omega) w5
                rw [w6] at w3 w4
                exact ih (a + 1) (by omega) (by omega) w3 w4
              | false =>
                rw [scan_no (fun _ => w5), w5] at w3
                cases w3
          exact (hsc (e - p) p rfl (by omega) (by rw [← eq]; exact z) (by rw [← eq]; exact hqe)).elim
      rw [hnl] at x2
      simp (disch := omega) only [↓e_X3_readWord_10, ↓e_X3_readWord_59, ↓h_X3_readWord_10, ↓h_X3_readWord_74, ↓it_s, ↓y_iload, ↓y_lload, ↓y_aload, ↓y_istore, ↓y_lstore, ↓y_astore, ↓y_iinc, ↓y_cI, ↓y_cL, ↓y_bin, ↓y_binL, ↓y_div, ↓y_divL, ↓y_lshl, ↓y_un, ↓y_i2l, ↓y_lneg, ↓y_l2i, ↓y_lcmp, ↓y_dupI, ↓y_dupR, ↓y_dup2, ↓y_pop, ↓y_goto, ↓y_eq0, ↓y_lt0, ↓y_le0, ↓y_eq, ↓y_lt, ↓y_le, ↓y_switch, ↓y_sw0, ↓y_sw1, ↓y_getI, ↓y_getL, ↓y_getR, ↓y_getT, ↓y_putI, ↓y_putZ, ↓y_putL, ↓y_putT, ↓y_iald, ↓y_bald, ↓y_lald, ↓y_aald, ↓y_iast, ↓y_bast, ↓y_last, ↓y_alen, ↓y_iret, ↓y_zret, ↓y_lret, ↓y_vret, ↓y_svI, ↓y_svL, ↓y_svV, ↓y_ivI, ↓y_ivL, ↓y_ivV, ↓y_max, ↓y_min, ↓y_absL, ↓y_cpI, ↓y_cpL, ↓x_n1I, ↓x_n1L, ↓x_n1R, ↓x_n0I, ↓x_n0L, ↓x_n0R, ↓x_s0, ↓x_s1i, ↓x_s1r, ↓x_s1n, ↓x_s2, ↓x_c0, ↓x_c2, ↓x_tk0, ↓x_tk1, ↓x_rcv, x_rI1, x_rL1, x_rV1, x_rIn, x_rLn, x_rVn, x_rIf, x_rLf, x_rVf, x_40, x_41, x_42, x_43, x_44, ↓reduceIte, if_true, if_false, ao_iadd, ao_isub, ao_imul, ao_iand, ao_ior, ao_ishl, ao_ishr, ao_iushr, ao_ladd, ao_lsub, ao_lmul, ao_land, ao_lor, ao_idiv, ao_irem, ao_ldiv, ao_lrem, ao_ineg, ao_i2b, ao_i2s, Nat.reduceAdd, Nat.reduceMul, Nat.reduceSub, Nat.reduceEqDiff, Nat.reduceLeDiff, and_self, true_and, x_lit, x_ofn, x_z0, x_z1, x_inbT, x_ltT, x_ltF, x_leT, x_leF, x_eqF, x_eqT, x_inb, x_lt, x_le, x_eq, x_cl, x_sub, nI_add, pk_mul, x_m1e, x_m1e', x_m1l, x_m1n, x_m1s, Nat.not_lt_zero, x_zb, x_b0, x_b1, decide_eq_false_iff_not, decide_eq_true_eq, Bool.false_eq_true, Bool.true_eq_false, r4, q2, q5, x1, x2, b2_f, kd_3]
    · simp (disch := omega) only [↓e_X3_readWord_10, ↓e_X3_readWord_59, ↓h_X3_readWord_10, ↓h_X3_readWord_74, ↓it_s, ↓y_iload, ↓y_lload, ↓y_aload, ↓y_istore, ↓y_lstore, ↓y_astore, ↓y_iinc, ↓y_cI, ↓y_cL, ↓y_bin, ↓y_binL, ↓y_div, ↓y_divL, ↓y_lshl, ↓y_un, ↓y_i2l, ↓y_lneg, ↓y_l2i, ↓y_lcmp, ↓y_dupI, ↓y_dupR, ↓y_dup2, ↓y_pop, ↓y_goto, ↓y_eq0, ↓y_lt0, ↓y_le0, ↓y_eq, ↓y_lt, ↓y_le, ↓y_switch, ↓y_sw0, ↓y_sw1, ↓y_getI, ↓y_getL, ↓y_getR, ↓y_getT, ↓y_putI, ↓y_putZ, ↓y_putL, ↓y_putT, ↓y_iald, ↓y_bald, ↓y_lald, ↓y_aald, ↓y_iast, ↓y_bast, ↓y_last, ↓y_alen, ↓y_iret, ↓y_zret, ↓y_lret, ↓y_vret, ↓y_svI, ↓y_svL, ↓y_svV, ↓y_ivI, ↓y_ivL, ↓y_ivV, ↓y_max, ↓y_min, ↓y_absL, ↓y_cpI, ↓y_cpL, ↓x_n1I, ↓x_n1L, ↓x_n1R, ↓x_n0I, ↓x_n0L, ↓x_n0R, ↓x_s0, ↓x_s1i, ↓x_s1r, ↓x_s1n, ↓x_s2, ↓x_c0, ↓x_c2, ↓x_tk0, ↓x_tk1, ↓x_rcv, x_rI1, x_rL1, x_rV1, x_rIn, x_rLn, x_rVn, x_rIf, x_rLf, x_rVf, x_40, x_41, x_42, x_43, x_44, ↓reduceIte, if_true, if_false, ao_iadd, ao_isub, ao_imul, ao_iand, ao_ior, ao_ishl, ao_ishr, ao_iushr, ao_ladd, ao_lsub, ao_lmul, ao_land, ao_lor, ao_idiv, ao_irem, ao_ldiv, ao_lrem, ao_ineg, ao_i2b, ao_i2s, Nat.reduceAdd, Nat.reduceMul, Nat.reduceSub, Nat.reduceEqDiff, Nat.reduceLeDiff, and_self, true_and, x_lit, x_ofn, x_z0, x_z1, x_inbT, x_ltT, x_ltF, x_leT, x_leF, x_eqF, x_eqT, x_inb, x_lt, x_le, x_eq, x_cl, x_sub, nI_add, pk_mul, x_m1e, x_m1e', x_m1l, x_m1n, x_m1s, Nat.not_lt_zero, x_zb, x_b0, x_b1, decide_eq_false_iff_not, decide_eq_true_eq, Bool.false_eq_true, Bool.true_eq_false, r4, q2, q5, kd_3]
  have hent : ∀ res, hd_X3_readWord (am_it hd_X3_readWord am_fuel) 10 [some (.ref 3), none] [] σ1 = res → S_X3_readWord [.ref 3] σ = res := fun res hr => by
    have e0 : (0 : Int64) = lN 0 := rfl
    rw [← hr, es1]
    simp (disch := omega) only [g_X3_readWord, ↓e_X3_readWord_0, ↓h_X3_readWord_10, ↓it_s, ↓y_iload, ↓y_lload, ↓y_aload, ↓y_istore, ↓y_lstore, ↓y_astore, ↓y_iinc, ↓y_cI, ↓y_cL, ↓y_bin, ↓y_binL, ↓y_div, ↓y_divL, ↓y_lshl, ↓y_un, ↓y_i2l, ↓y_lneg, ↓y_l2i, ↓y_lcmp, ↓y_dupI, ↓y_dupR, ↓y_dup2, ↓y_pop, ↓y_goto, ↓y_eq0, ↓y_lt0, ↓y_le0, ↓y_eq, ↓y_lt, ↓y_le, ↓y_switch, ↓y_sw0, ↓y_sw1, ↓y_getI, ↓y_getL, ↓y_getR, ↓y_getT, ↓y_putI, ↓y_putZ, ↓y_putL, ↓y_putT, ↓y_iald, ↓y_bald, ↓y_lald, ↓y_aald, ↓y_iast, ↓y_bast, ↓y_last, ↓y_alen, ↓y_iret, ↓y_zret, ↓y_lret, ↓y_vret, ↓y_svI, ↓y_svL, ↓y_svV, ↓y_ivI, ↓y_ivL, ↓y_ivV, ↓y_max, ↓y_min, ↓y_absL, ↓y_cpI, ↓y_cpL, ↓x_n1I, ↓x_n1L, ↓x_n1R, ↓x_n0I, ↓x_n0L, ↓x_n0R, ↓x_s0, ↓x_s1i, ↓x_s1r, ↓x_s1n, ↓x_s2, ↓x_c0, ↓x_c2, ↓x_tk0, ↓x_tk1, ↓x_rcv, x_rI1, x_rL1, x_rV1, x_rIn, x_rLn, x_rVn, x_rIf, x_rLf, x_rVf, x_40, x_41, x_42, x_43, x_44, ↓reduceIte, if_true, if_false, ao_iadd, ao_isub, ao_imul, ao_iand, ao_ior, ao_ishl, ao_ishr, ao_iushr, ao_ladd, ao_lsub, ao_lmul, ao_land, ao_lor, ao_idiv, ao_irem, ao_ldiv, ao_lrem, ao_ineg, ao_i2b, ao_i2s, Nat.reduceAdd, Nat.reduceMul, Nat.reduceSub, Nat.reduceEqDiff, Nat.reduceLeDiff, and_self, true_and, x_lit, e0, kd_3]
  by_cases h8 : r.length ≤ 8
  · obtain ⟨σ4, u1, u2, u3, u4, u5⟩ := X_kwords (t := t) (e := e) hok h8 23 0 σ3 (by omega) (TX_fr hT2 hF3) (by rw [es3, uI_s, up_s, hrl]) (by rw [es3]; exact r6) (by rw [h3i 9 (by omega), q9]; rfl)
    refine ⟨σ4, hent _ (fin_run (rch_fin r1 (rch_fin hx (rch_fin u1 (fin_0 fun B => ?_)))) (by unfold am_fuel; omega)), fR_tr hF1 (fR_tr r2 (fR_tr hF3 u2)), ?_, ?_, ?_, ?_, u5, ?_⟩
    · simp (disch := omega) only [↓e_X3_readWord_74, ↓e_X3_readWord_114, ↓h_X3_readWord_74, ↓it_s, ↓y_iload, ↓y_lload, ↓y_aload, ↓y_istore, ↓y_lstore, ↓y_astore, ↓y_iinc, ↓y_cI, ↓y_cL, ↓y_bin, ↓y_binL, ↓y_div, ↓y_divL, ↓y_lshl, ↓y_un, ↓y_i2l, ↓y_lneg, ↓y_l2i, ↓y_lcmp, ↓y_dupI, ↓y_dupR, ↓y_dup2, ↓y_pop, ↓y_goto, ↓y_eq0, ↓y_lt0, ↓y_le0, ↓y_eq, ↓y_lt, ↓y_le, ↓y_switch, ↓y_sw0, ↓y_sw1, ↓y_getI, ↓y_getL, ↓y_getR, ↓y_getT, ↓y_putI, ↓y_putZ, ↓y_putL, ↓y_putT, ↓y_iald, ↓y_bald, ↓y_lald, ↓y_aald, ↓y_iast, ↓y_bast, ↓y_last, ↓y_alen, ↓y_iret, ↓y_zret, ↓y_lret, ↓y_vret, ↓y_svI, ↓y_svL, ↓y_svV, ↓y_ivI, ↓y_ivL, ↓y_ivV, ↓y_max, ↓y_min, ↓y_absL, ↓y_cpI, ↓y_cpL, ↓x_n1I, ↓x_n1L, ↓x_n1R, ↓x_n0I, ↓x_n0L, ↓x_n0R, ↓x_s0, ↓x_s1i, ↓x_s1r, ↓x_s1n, ↓x_s2, ↓x_c0, ↓x_c2, ↓x_tk0, ↓x_tk1, ↓x_rcv, x_rI1, x_rL1, x_rV1, x_rIn, x_rLn, x_rVn, x_rIf, x_rLf, x_rVf, x_40, x_41, x_42, x_43, x_44, ↓reduceIte, if_true, if_false, ao_iadd, ao_isub, ao_imul, ao_iand, ao_ior, ao_ishl, ao_ishr, ao_iushr, ao_ladd, ao_lsub, ao_lmul, ao_land, ao_lor, ao_idiv, ao_irem, ao_ldiv, ao_lrem, ao_ineg, ao_i2b, ao_i2s, Nat.reduceAdd, Nat.reduceMul, Nat.reduceSub, Nat.reduceEqDiff, Nat.reduceLeDiff, and_self, true_and, x_lit, x_ofn, x_z0, x_z1, x_inbT, x_ltT, x_ltF, x_leT, x_leF, x_eqF, x_eqT, x_inb, x_lt, x_le, x_eq, x_cl, x_sub, nI_add, pk_mul, x_m1e, x_m1e', x_m1l, x_m1n, x_m1s, Nat.not_lt_zero, x_zb, x_b0, x_b1, decide_eq_false_iff_not, decide_eq_true_eq, Bool.false_eq_true, Bool.true_eq_false]
    · rw [u4 3 (by omega), h3i 3 (by omega)]; exact r4
    · rw [u4 4 (by omega), h3i 4 (by omega)]; exact q4
    · rw [u4 5 (by omega), h3i 5 (by omega)]; exact q5
    · rw [u4 8 (by omega), es3, uI_s, up_s]
    · rw [u3, es3]; exact r6
  · have h88 : σ3.1 3 8 = nI (q - p) := by rw [es3, uI_s, up_s]
    refine ⟨σ3, hent _ (fin_run (rch_fin r1 (rch_fin hx (fin_0 fun B => ?_))) (by unfold am_fuel; omega)), fR_tr hF1 (fR_tr r2 hF3), ?_, ?_, ?_, h88, ?_, ?_⟩
    · simp (disch := omega) only [↓e_X3_readWord_74, ↓e_X3_readWord_114, ↓h_X3_readWord_74, ↓it_s, ↓y_iload, ↓y_lload, ↓y_aload, ↓y_istore, ↓y_lstore, ↓y_astore, ↓y_iinc, ↓y_cI, ↓y_cL, ↓y_bin, ↓y_binL, ↓y_div, ↓y_divL, ↓y_lshl, ↓y_un, ↓y_i2l, ↓y_lneg, ↓y_l2i, ↓y_lcmp, ↓y_dupI, ↓y_dupR, ↓y_dup2, ↓y_pop, ↓y_goto, ↓y_eq0, ↓y_lt0, ↓y_le0, ↓y_eq, ↓y_lt, ↓y_le, ↓y_switch, ↓y_sw0, ↓y_sw1, ↓y_getI, ↓y_getL, ↓y_getR, ↓y_getT, ↓y_putI, ↓y_putZ, ↓y_putL, ↓y_putT, ↓y_iald, ↓y_bald, ↓y_lald, ↓y_aald, ↓y_iast, ↓y_bast, ↓y_last, ↓y_alen, ↓y_iret, ↓y_zret, ↓y_lret, ↓y_vret, ↓y_svI, ↓y_svL, ↓y_svV, ↓y_ivI, ↓y_ivL, ↓y_ivV, ↓y_max, ↓y_min, ↓y_absL, ↓y_cpI, ↓y_cpL, ↓x_n1I, ↓x_n1L, ↓x_n1R, ↓x_n0I, ↓x_n0L, ↓x_n0R, ↓x_s0, ↓x_s1i, ↓x_s1r, ↓x_s1n, ↓x_s2, ↓x_c0, ↓x_c2, ↓x_tk0, ↓x_tk1, ↓x_rcv, x_rI1, x_rL1, x_rV1, x_rIn, x_rLn, x_rVn, x_rIf, x_rLf, x_rVf, x_40, x_41, x_42, x_43, x_44, ↓reduceIte, if_true, if_false, ao_iadd, ao_isub, ao_imul, ao_iand, ao_ior, ao_ishl, ao_ishr, ao_iushr, ao_ladd, ao_lsub, ao_lmul, ao_land, ao_lor, ao_idiv, ao_irem, ao_ldiv, ao_lrem, ao_ineg, ao_i2b, ao_i2s, Nat.reduceAdd, Nat.reduceMul, Nat.reduceSub, Nat.reduceEqDiff, Nat.reduceLeDiff, and_self, true_and, x_lit, x_ofn, x_z0, x_z1, x_inbT, x_ltT, x_ltF, x_leT, x_leF, x_eqF, x_eqT, x_inb, x_lt, x_le, x_eq, x_cl, x_sub, nI_add, pk_mul, x_m1e, x_m1e', x_m1l, x_m1n, x_m1s, Nat.not_lt_zero, x_zb, x_b0, x_b1, decide_eq_false_iff_not, decide_eq_true_eq, Bool.false_eq_true, Bool.true_eq_false, h88, kd_3]
    · rw [h3i 3 (by omega)]; exact r4
    · rw [h3i 4 (by omega)]; exact q4
    · rw [h3i 5 (by omega)]; exact q5
    · rw [kwi_long (by omega), h3i 9 (by omega)]; exact q9
    · rw [es3]; exact r6
