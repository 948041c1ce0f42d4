/-! the seasons' text: a step with all that is within it -/
def eR (σ : am_M) (d l l2 : Nat) : am_M := am_uI (am_uI (am_uI (am_uI (am_uI σ 7 1 (nI d)) 34 1 (nI (l2 + 1))) 35 (l2 * 6 + 0) (nI 21)) 35 (l2 * 6 + 5) (nI l)) 35 (l * 6 + 5) (nI l2)
theorem X_takeEnd {d l l2 g : Nat} {σ τ : am_M} (h7 : σ.1 7 1 = nI (d + 1)) (hd : d < 3) (h34 : σ.1 34 1 = nI l2) (hl2 : l2 < 60) (h8 : σ.1 8 d = nI l) (hl : l < 60) (hg : g ≤ 1) (hw : S_X3_wantSign [.ref 3, .int (nI 59)] (eR σ d l l2) = some (some (.int (nI g)), τ)) : S_X5_takeEnd [.ref 7, .ref 3, .ref 34] σ = some (some (.int (nI g)), τ) := by
  have al := X_addLine (wd := 21) (σ := am_uI σ 7 1 (nI d)) hl2 (by rw [uI_n (by omega)]; exact h34)
  obtain ⟨ρ, er⟩ : ∃ ρ, ρ = am_uI (am_uI (am_uI σ 7 1 (nI d)) 34 1 (nI (l2 + 1))) 35 (l2 * 6 + 0) (nI 21) := ⟨_, rfl⟩
  rw [← er] at al
  have r7 : ρ.1 7 1 = nI d := by rw [er, uI_n (by omega), uI_n (by omega), uI_s, up_s]
  have r8 : ρ.1 8 d = nI l := by rw [er, uI_n (by omega), uI_n (by omega), uI_n (by omega)]; exact h8
  have s1 := X_setPart (l := l2) (w := 5) (v := nI l) (σ := ρ) hl2 (by omega)
  obtain ⟨ξ, ex⟩ : ∃ ξ, ξ = am_uI ρ 35 (l2 * 6 + 5) (nI l) := ⟨_, rfl⟩
  rw [← ex] at s1
  have x7 : ξ.1 7 1 = nI d := by rw [ex, uI_n (by omega)]; exact r7
  have x8 : ξ.1 8 d = nI l := by rw [ex, uI_n (by omega)]; exact r8
  have s2 := X_setPart (l := l) (w := 5) (v := nI l2) (σ := ξ) hl (by omega)
  have ee : am_uI ξ 35 (l * 6 + 5) (nI l2) = eR σ d l l2 := by rw [ex, er]; rfl
  rw [ee] at s2
  have h721 : S_X5_takeEnd [.ref 7, .ref 3, .ref 34] σ = dn_X5_takeEnd_21 [some (.ref 7), some (.ref 3), some (.ref 34), none] [] σ := by
    have q1 : ¬ d + 1 ≤ 0 := by omega
    have q2 : d + 1 ≤ 3 := by omega
    simp (disch := omega) only [g_X5_takeEnd, ↓e_X5_takeEnd_0, ↓it_s, ↓y_iload, ↓y_lload, ↓y_aload, ↓y_istore, ↓y_lstore, ↓y_astore, ↓y_iinc, ↓y_cI, ↓y_cL, ↓y_bin, ↓y_binL, ↓y_div, ↓y_divL, ↓y_lshl, ↓y_un, ↓y_i2l, ↓y_lneg, ↓y_l2i, ↓y_lcmp, ↓y_dupI, ↓y_dupR, ↓y_dup2, ↓y_pop, ↓y_goto, ↓y_eq0, ↓y_lt0, ↓y_le0, ↓y_eq, ↓y_lt, ↓y_le, ↓y_switch, ↓y_sw0, ↓y_sw1, ↓y_getI, ↓y_getL, ↓y_getR, ↓y_getT, ↓y_putI, ↓y_putZ, ↓y_putL, ↓y_putT, ↓y_iald, ↓y_bald, ↓y_lald, ↓y_aald, ↓y_iast, ↓y_bast, ↓y_last, ↓y_alen, ↓y_iret, ↓y_zret, ↓y_lret, ↓y_vret, ↓y_svI, ↓y_svL, ↓y_svV, ↓y_ivI, ↓y_ivL, ↓y_ivV, ↓y_max, ↓y_min, ↓y_absL, ↓y_cpI, ↓y_cpL, ↓x_n1I, ↓x_n1L, ↓x_n1R, ↓x_n0I, ↓x_n0L, ↓x_n0R, ↓x_s0, ↓x_s1i, ↓x_s1r, ↓x_s1n, ↓x_s2, ↓x_c0, ↓x_c2, ↓x_tk0, ↓x_tk1, ↓x_rcv, x_rI1, x_rL1, x_rV1, x_rIn, x_rLn, x_rVn, x_rIf, x_rLf, x_rVf, x_40, x_41, x_42, x_43, x_44, ↓reduceIte, if_true, if_false, ao_iadd, ao_isub, ao_imul, ao_iand, ao_ior, ao_ishl, ao_ishr, ao_iushr, ao_ladd, ao_lsub, ao_lmul, ao_land, ao_lor, ao_idiv, ao_irem, ao_ldiv, ao_lrem, ao_ineg, ao_i2b, ao_i2s, Nat.reduceAdd, Nat.reduceMul, Nat.reduceSub, Nat.reduceEqDiff, Nat.reduceLeDiff, and_self, true_and, x_lit, x_ofn, x_z0, x_z1, x_inbT, x_ltT, x_ltF, x_leT, x_leF, x_eqF, x_eqT, x_inb, x_lt, x_le, x_eq, x_cl, x_sub, nI_add, pk_mul, x_m1e, x_m1e', x_m1l, x_m1n, x_m1s, Nat.not_lt_zero, x_zb, x_b0, x_b1, decide_eq_false_iff_not, decide_eq_true_eq, Bool.false_eq_true, Bool.true_eq_false, h7, q1, q2, kd_7]
  have hg2 : g = 0 ∨ g = 1 := by omega
  rw [h721]
  rcases hg2 with rfl | rfl <;> simp (disch := omega) only [↓e_X5_takeEnd_21, ↓it_s, ↓y_iload, ↓y_lload, ↓y_aload, ↓y_istore, ↓y_lstore, ↓y_astore, ↓y_iinc, ↓y_cI, ↓y_cL, ↓y_bin, ↓y_binL, ↓y_div, ↓y_divL, ↓y_lshl, ↓y_un, ↓y_i2l, ↓y_lneg, ↓y_l2i, ↓y_lcmp, ↓y_dupI, ↓y_dupR, ↓y_dup2, ↓y_pop, ↓y_goto, ↓y_eq0, ↓y_lt0, ↓y_le0, ↓y_eq, ↓y_lt, ↓y_le, ↓y_switch, ↓y_sw0, ↓y_sw1, ↓y_getI, ↓y_getL, ↓y_getR, ↓y_getT, ↓y_putI, ↓y_putZ, ↓y_putL, ↓y_putT, ↓y_iald, ↓y_bald, ↓y_lald, ↓y_aald, ↓y_iast, ↓y_bast, ↓y_last, ↓y_alen, ↓y_iret, ↓y_zret, ↓y_lret, ↓y_vret, ↓y_svI, ↓y_svL, ↓y_svV, ↓y_ivI, ↓y_ivL, ↓y_ivV, ↓y_max, ↓y_min, ↓y_absL, ↓y_cpI, ↓y_cpL, ↓x_n1I, ↓x_n1L, ↓x_n1R, ↓x_n0I, ↓x_n0L, ↓x_n0R, ↓x_s0, ↓x_s1i, ↓x_s1r, ↓x_s1n, ↓x_s2, ↓x_c0, ↓x_c2, ↓x_tk0, ↓x_tk1, ↓x_rcv, x_rI1, x_rL1, x_rV1, x_rIn, x_rLn, x_rVn, x_rIf, x_rLf, x_rVf, x_40, x_41, x_42, x_43, x_44, ↓reduceIte, if_true, if_false, ao_iadd, ao_isub, ao_imul, ao_iand, ao_ior, ao_ishl, ao_ishr, ao_iushr, ao_ladd, ao_lsub, ao_lmul, ao_land, ao_lor, ao_idiv, ao_irem, ao_ldiv, ao_lrem, ao_ineg, ao_i2b, ao_i2s, Nat.reduceAdd, Nat.reduceMul, Nat.reduceSub, Nat.reduceEqDiff, Nat.reduceLeDiff, and_self, true_and, x_lit, x_ofn, x_z0, x_z1, x_inbT, x_ltT, x_ltF, x_leT, x_leF, x_eqF, x_eqT, x_inb, x_lt, x_le, x_eq, x_cl, x_sub, nI_add, pk_mul, x_m1e, x_m1e', x_m1l, x_m1n, x_m1s, Nat.not_lt_zero, x_zb, x_b0, x_b1, decide_eq_false_iff_not, decide_eq_true_eq, Bool.false_eq_true, Bool.true_eq_false, h7, Nat.add_sub_cancel, al, r7, r8, s1, x7, x8, s2, hw, kd_3, kd_7, kd_8, kd_34, ln_8]
theorem eR_f (σ : am_M) (d l l2 : Nat) (hl : l < l2) : (eR σ d l l2).2 = σ.2 ∧ (∀ j, j ≠ 7 → j ≠ 34 → j ≠ 35 → (eR σ d l l2).1 j = σ.1 j) ∧ (eR σ d l l2).1 7 1 = nI d ∧ (eR σ d l l2).1 34 1 = nI (l2 + 1) ∧ (∀ i, i ≠ 1 → (eR σ d l l2).1 34 i = σ.1 34 i) ∧ (eR σ d l l2).1 35 (l2 * 6 + 0) = nI 21 ∧ (eR σ d l l2).1 35 (l2 * 6 + 5) = nI l ∧ (eR σ d l l2).1 35 (l * 6 + 5) = nI l2 ∧ ∀ i, i < l2 * 6 → i ≠ l * 6 + 5 → (eR σ d l l2).1 35 i = σ.1 35 i := by
  unfold eR
  refine ⟨rfl, fun j p q r => by rw [uI_n r, uI_n r, uI_n r, uI_n q, uI_n p], ?_, ?_, fun i hi => ?_, ?_, ?_, ?_, fun i hi hi2 => ?_⟩
  · rw [uI_n (by omega), uI_n (by omega), uI_n (by omega), uI_n (by omega), uI_s, up_s]
  · rw [uI_n (by omega), uI_n (by omega), uI_n (by omega), uI_s, up_s]
  · rw [uI_n (by omega), uI_n (by omega), uI_n (by omega), uI_s, up_n hi, uI_n (by omega)]
  · rw [uI_s, up_n (by omega), uI_s, up_n (by omega), uI_s, up_s]
  · rw [uI_s, up_n (by omega), uI_s, up_s]
  · rw [uI_s, up_s]
  · rw [uI_s, up_n (by omega), uI_s, up_n (by omega), uI_s, up_n (by omega), uI_n (by omega), uI_n (by omega)]
def BadI (C pt : Nat) (l5 : Option Value) (RM : Option am_R) (d l k : Nat) (σx σm : am_M) : Prop := ∃ τx τm q p, fin hd_X5_take C 17 (tk pt l5) σx (some (some (.int (nI 0)), τx)) ∧ RM = some (none, τm) ∧ 0 < q ∧ q < 100 ∧ τx.1 3 10 = nI q ∧ τx.1 3 11 = nI p ∧ τm.1 123 12 = nI q ∧ τm.1 123 13 = nI p ∧ fX2 d l σx τx ∧ fM2 k σm τm
def OkI (t : Nat → Nat) (e : Nat) (Ns Nf : List (List Nat)) (r pt : Nat) (l5 : Option Value) (RM : Option am_R) (d l k a : Nat) (σx σm : am_M) : Prop := ∃ τx τm b k' l' pt' l5', rch hd_X5_take (b - a) 17 (tk pt l5) σx 17 (tk pt' l5') τx ∧ pt' ≤ b ∧ RM = some (none, τm) ∧ SS t e τx τm Ns Nf k' l' d b ∧ a < b ∧ l < l' ∧ k < k' ∧ ItR (SubR Nf.length (τx.1 35) (fun j => τm.1 128 (1940 + j)) r) Nf.length (τx.1 35) (fun j => τm.1 128 (1940 + j)) l l' k k' ∧ fX2 d l σx τx ∧ fM2 k σm τm ∧ τx.1 3 10 = σx.1 3 10 ∧ τx.1 3 11 = σx.1 3 11
theorem bd_fM2 {k q p : Nat} {σ : am_M} : fM2 k σ (bdM σ q p) := fM2_g (gM_b (gM_rf k σ))
/-- a step at a depth, if all that may stand within it goes well -/
theorem T_one {t : Nat → Nat} {e : Nat} {Ns Nf : List (List Nat)} (he : e ≤ 300) {r d : Nat} {E : am_F} (hdr : d + r = 3)
    (ih : 0 < r → ∀ (k l a pt : Nat) (l5 : Option Value) (σx σm : am_M), SS t e σx σm Ns Nf k l (d + 1) a → pt ≤ a → ¬ twi t e a = some 21 → BadI (e - a + 1) pt l5 (E [.ref 123, .int (nI (d + 1))] σm) (d + 1) l k σx σm ∨ OkI t e Ns Nf (r - 1) pt l5 (E [.ref 123, .int (nI (d + 1))] σm) (d + 1) l k a σx σm)
    {k l a pt : Nat} {l5 : Option Value} {σx σm : am_M} (hS : SS t e σx σm Ns Nf k l d a) (hpt : pt ≤ a) (hend : tkd t e a = 0 → 0 < d) (h21 : twi t e a = some 21 → d = 0) :
    BadI (e - a + 1) pt l5 (F_X11_readStep E [.ref 123, .int (nI d)] σm) d l k σx σm ∨ OkI t e Ns Nf r pt l5 (F_X11_readStep E [.ref 123, .int (nI d)] σm) d l k a σx σm := by
  have hS0 := hS
  obtain ⟨⟨c1, c2, c3, c4, c5, c6⟩, ⟨d1, d2, d3, d4, d5, d6, d7⟩, hE⟩ := hS
  obtain ⟨s1, s2⟩ := X_step c1 c6 c4
  have ak := amk_12 t e a
  have hp3 : pt ≤ 300 := by omega
  by_cases q4 : tkd t e a = 4
  · obtain ⟨τ1, a1, a2, a3, a4⟩ := s2 q4
    have e1 : amk t e a = 1 := by unfold amk; rw [if_pos q4]
    have mn := M_stepNo (E := E) (d := d) c3 c6 c5 (by rw [tw_none (by omega)]; rfl)
    rw [e1] at mn
    refine Or.inl ⟨τ1, _, 1, tp t e a, fin_mono (fin_0 fun B => ?_) (Nat.zero_le _), mn, by omega, by omega, a2, a3, bdM_12 _ _ _, bdM_13 _ _ _, fX2_B a4, bd_fM2⟩
    simp (disch := omega) only [tk, ↓e_X5_take_17, ↓h_X5_take_17, ↓it_s, ↓y_iload, ↓y_lload, ↓y_aload, ↓y_istore, ↓y_lstore, ↓y_astore, ↓y_iinc, ↓y_cI, ↓y_cL, ↓y_bin, ↓y_binL, ↓y_div, ↓y_divL, ↓y_lshl, ↓y_un, ↓y_i2l, ↓y_lneg, ↓y_l2i, ↓y_lcmp, ↓y_dupI, ↓y_dupR, ↓y_dup2, ↓y_pop, ↓y_goto, ↓y_eq0, ↓y_lt0, ↓y_le0, ↓y_eq, ↓y_lt, ↓y_le, ↓y_switch, ↓y_sw0, ↓y_sw1, ↓y_getI, ↓y_getL, ↓y_getR, ↓y_getT, ↓y_putI, ↓y_putZ, ↓y_putL, ↓y_putT, ↓y_iald, ↓y_bald, ↓y_lald, ↓y_aald, ↓y_iast, ↓y_bast, ↓y_last, ↓y_alen, ↓y_iret, ↓y_zret, ↓y_lret, ↓y_vret, ↓y_svI, ↓y_svL, ↓y_svV, ↓y_ivI, ↓y_ivL, ↓y_ivV, ↓y_max, ↓y_min, ↓y_absL, ↓y_cpI, ↓y_cpL, ↓x_n1I, ↓x_n1L, ↓x_n1R, ↓x_n0I, ↓x_n0L, ↓x_n0R, ↓x_s0, ↓x_s1i, ↓x_s1r, ↓x_s1n, ↓x_s2, ↓x_c0, ↓x_c2, ↓x_tk0, ↓x_tk1, ↓x_rcv, x_rI1, x_rL1, x_rV1, x_rIn, x_rLn, x_rVn, x_rIf, x_rLf, x_rVf, x_40, x_41, x_42, x_43, x_44, ↓reduceIte, if_true, if_false, ao_iadd, ao_isub, ao_imul, ao_iand, ao_ior, ao_ishl, ao_ishr, ao_iushr, ao_ladd, ao_lsub, ao_lmul, ao_land, ao_lor, ao_idiv, ao_irem, ao_ldiv, ao_lrem, ao_ineg, ao_i2b, ao_i2s, Nat.reduceAdd, Nat.reduceMul, Nat.reduceSub, Nat.reduceEqDiff, Nat.reduceLeDiff, and_self, true_and, x_lit, x_ofn, x_z0, x_z1, x_inbT, x_ltT, x_ltF, x_leT, x_leF, x_eqF, x_eqT, x_inb, x_lt, x_le, x_eq, x_cl, x_sub, nI_add, pk_mul, x_m1e, x_m1e', x_m1l, x_m1n, x_m1s, Nat.not_lt_zero, x_zb, x_b0, x_b1, decide_eq_false_iff_not, decide_eq_true_eq, Bool.false_eq_true, Bool.true_eq_false, hp3, a1, kd_3]
  · obtain ⟨σ1, a1, a2, a3⟩ := s1 q4
    have e2 : amk t e a = 2 := by unfold amk; rw [if_neg q4]
    have ie := X_isEnd a2
    have bl := fun q => X_blame (k := q) (σ := σ1)
    have xf := fun q => XF_bl (k := q) a3 a2.2.1
    by_cases q0 : tkd t e a = 0
    · -- the text ends within a step
      have hd0 := hend q0
      rw [decide_eq_true q0] at ie
      have mn := M_stepNo (E := E) (d := d) c3 c6 c5 (by rw [tw_none (by omega)]; rfl)
      rw [e2] at mn
      have f7 : σ1.1 7 1 = nI d := by rw [(a3.1 7 (by omega)).1]; exact d6
      have b2l := bl 2
      have nd : ¬ d = 0 := by omega
      refine Or.inl ⟨_, _, 2, tp t e a, fin_mono (fin_0 fun B => ?_) (Nat.zero_le _), mn, by omega, by omega, (xf 2).1, (xf 2).2.1, bdM_12 _ _ _, bdM_13 _ _ _, fX2_B (xf 2).2.2, bd_fM2⟩
      simp (disch := omega) only [tk, ↓e_X5_take_17, ↓e_X5_take_34, ↓e_X5_take_60, ↓e_X5_take_61, ↓h_X5_take_17, ↓it_s, ↓y_iload, ↓y_lload, ↓y_aload, ↓y_istore, ↓y_lstore, ↓y_astore, ↓y_iinc, ↓y_cI, ↓y_cL, ↓y_bin, ↓y_binL, ↓y_div, ↓y_divL, ↓y_lshl, ↓y_un, ↓y_i2l, ↓y_lneg, ↓y_l2i, ↓y_lcmp, ↓y_dupI, ↓y_dupR, ↓y_dup2, ↓y_pop, ↓y_goto, ↓y_eq0, ↓y_lt0, ↓y_le0, ↓y_eq, ↓y_lt, ↓y_le, ↓y_switch, ↓y_sw0, ↓y_sw1, ↓y_getI, ↓y_getL, ↓y_getR, ↓y_getT, ↓y_putI, ↓y_putZ, ↓y_putL, ↓y_putT, ↓y_iald, ↓y_bald, ↓y_lald, ↓y_aald, ↓y_iast, ↓y_bast, ↓y_last, ↓y_alen, ↓y_iret, ↓y_zret, ↓y_lret, ↓y_vret, ↓y_svI, ↓y_svL, ↓y_svV, ↓y_ivI, ↓y_ivL, ↓y_ivV, ↓y_max, ↓y_min, ↓y_absL, ↓y_cpI, ↓y_cpL, ↓x_n1I, ↓x_n1L, ↓x_n1R, ↓x_n0I, ↓x_n0L, ↓x_n0R, ↓x_s0, ↓x_s1i, ↓x_s1r, ↓x_s1n, ↓x_s2, ↓x_c0, ↓x_c2, ↓x_tk0, ↓x_tk1, ↓x_rcv, x_rI1, x_rL1, x_rV1, x_rIn, x_rLn, x_rVn, x_rIf, x_rLf, x_rVf, x_40, x_41, x_42, x_43, x_44, ↓reduceIte, if_true, if_false, ao_iadd, ao_isub, ao_imul, ao_iand, ao_ior, ao_ishl, ao_ishr, ao_iushr, ao_ladd, ao_lsub, ao_lmul, ao_land, ao_lor, ao_idiv, ao_irem, ao_ldiv, ao_lrem, ao_ineg, ao_i2b, ao_i2s, Nat.reduceAdd, Nat.reduceMul, Nat.reduceSub, Nat.reduceEqDiff, Nat.reduceLeDiff, and_self, true_and, x_lit, x_ofn, x_z0, x_z1, x_inbT, x_ltT, x_ltF, x_leT, x_leF, x_eqF, x_eqT, x_inb, x_lt, x_le, x_eq, x_cl, x_sub, nI_add, pk_mul, x_m1e, x_m1e', x_m1l, x_m1n, x_m1s, Nat.not_lt_zero, x_zb, x_b0, x_b1, decide_eq_false_iff_not, decide_eq_true_eq, Bool.false_eq_true, Bool.true_eq_false, hp3, a1, ie, b2_t, f7, nd, b2l, kd_3, kd_7]
    · rw [decide_eq_false q0] at ie
      have ie' : S_X3_isEnd [.ref 3] σ1 = some (some (.int (nI 0)), σ1) := ie
      have h9 : σ1.1 3 9 = optI (twi t e a) := a2.2.2.2.1
      by_cases q21 : twi t e a = some 21
      · -- an end with nothing open
        have hd0 := h21 q21
        subst hd0
        rw [q21] at h9
        have mn := M_stepNo (E := E) (d := 0) c3 c6 c5 (by rw [q21]; rfl)
        rw [e2] at mn
        have f7 : σ1.1 7 1 = nI 0 := by rw [(a3.1 7 (by omega)).1]; exact d6
        have b2l := bl 2
        have te : S_X5_takeEnd [.ref 7, .ref 3, .ref 34] σ1 = some (some (.int (nI 0)), am_uI (am_uI σ1 3 10 (nI 2)) 3 11 (σ1.1 3 5)) := by
          simp (disch := omega) only [g_X5_takeEnd, ↓e_X5_takeEnd_0, ↓e_X5_takeEnd_15, ↓it_s, ↓y_iload, ↓y_lload, ↓y_aload, ↓y_istore, ↓y_lstore, ↓y_astore, ↓y_iinc, ↓y_cI, ↓y_cL, ↓y_bin, ↓y_binL, ↓y_div, ↓y_divL, ↓y_lshl, ↓y_un, ↓y_i2l, ↓y_lneg, ↓y_l2i, ↓y_lcmp, ↓y_dupI, ↓y_dupR, ↓y_dup2, ↓y_pop, ↓y_goto, ↓y_eq0, ↓y_lt0, ↓y_le0, ↓y_eq, ↓y_lt, ↓y_le, ↓y_switch, ↓y_sw0, ↓y_sw1, ↓y_getI, ↓y_getL, ↓y_getR, ↓y_getT, ↓y_putI, ↓y_putZ, ↓y_putL, ↓y_putT, ↓y_iald, ↓y_bald, ↓y_lald, ↓y_aald, ↓y_iast, ↓y_bast, ↓y_last, ↓y_alen, ↓y_iret, ↓y_zret, ↓y_lret, ↓y_vret, ↓y_svI, ↓y_svL, ↓y_svV, ↓y_ivI, ↓y_ivL, ↓y_ivV, ↓y_max, ↓y_min, ↓y_absL, ↓y_cpI, ↓y_cpL, ↓x_n1I, ↓x_n1L, ↓x_n1R, ↓x_n0I, ↓x_n0L, ↓x_n0R, ↓x_s0, ↓x_s1i, ↓x_s1r, ↓x_s1n, ↓x_s2, ↓x_c0, ↓x_c2, ↓x_tk0, ↓x_tk1, ↓x_rcv, x_rI1, x_rL1, x_rV1, x_rIn, x_rLn, x_rVn, x_rIf, x_rLf, x_rVf, x_40, x_41, x_42, x_43, x_44, ↓reduceIte, if_true, if_false, ao_iadd, ao_isub, ao_imul, ao_iand, ao_ior, ao_ishl, ao_ishr, ao_iushr, ao_ladd, ao_lsub, ao_lmul, ao_land, ao_lor, ao_idiv, ao_irem, ao_ldiv, ao_lrem, ao_ineg, ao_i2b, ao_i2s, Nat.reduceAdd, Nat.reduceMul, Nat.reduceSub, Nat.reduceEqDiff, Nat.reduceLeDiff, and_self, true_and, x_lit, x_ofn, x_z0, x_z1, x_inbT, x_ltT, x_ltF, x_leT, x_leF, x_eqF, x_eqT, x_inb, x_lt, x_le, x_eq, x_cl, x_sub, nI_add, pk_mul, x_m1e, x_m1e', x_m1l, x_m1n, x_m1s, Nat.not_lt_zero, x_zb, x_b0, x_b1, decide_eq_false_iff_not, decide_eq_true_eq, Bool.false_eq_true, Bool.true_eq_false, f7, b2l, kd_3, kd_7]
        refine Or.inl ⟨_, _, 2, tp t e a, fin_mono ((X_turnE hp3 a1 ie' h9).1 te) (Nat.zero_le _), mn, by omega, by omega, (xf 2).1, (xf 2).2.1, bdM_12 _ _ _, bdM_13 _ _ _, fX2_B (xf 2).2.2, bd_fM2⟩
      · have n21 : ¬ optI (twi t e a) = nI 21 := optI_ne tw_lt (by omega) q21
        have turn := fun τ => X_turn (pt := pt) (l5 := l5) (τ := τ) hp3 a1 ie' h9 n21
        have f34 : σ1.1 34 = σx.1 34 := (a3.1 34 (by omega)).1
        have f7 : σ1.1 7 1 = nI d := by rw [(a3.1 7 (by omega)).1]; exact d6
        have g2 : σ1.1 34 2 = nI k := by rw [f34]; exact d2
        rcases st_cases (t := t) (e := e) (a := a) with ⟨wd, kind, blk, htw, hst⟩ | ⟨hno, his⟩
        · have h9' : σ1.1 3 9 = nI wd := by rw [h9, htw]; rfl
          have hwd : wd < 23 := kwi_tw htw
          have isS : S_X5_isStep [.int (nI wd)] σ1 = some (some (.int (nI 1)), σ1) := by
            rcases hst with ⟨rfl, -, -⟩ | ⟨rfl, -, -⟩ | ⟨rfl, -, -⟩ | ⟨rfl, -, -⟩ | ⟨rfl, -, -⟩ | ⟨rfl, -, -⟩ | ⟨rfl, -, -⟩ | ⟨rfl, -, -⟩ <;> simp (disch := omega) only [g_X5_isStep, ↓e_X5_isStep_29, ↓e_X5_isStep_28, ↓e_X5_isStep_24, ↓e_X5_isStep_12, ↓e_X5_isStep_0, ↓it_s, ↓y_iload, ↓y_lload, ↓y_aload, ↓y_istore, ↓y_lstore, ↓y_astore, ↓y_iinc, ↓y_cI, ↓y_cL, ↓y_bin, ↓y_binL, ↓y_div, ↓y_divL, ↓y_lshl, ↓y_un, ↓y_i2l, ↓y_lneg, ↓y_l2i, ↓y_lcmp, ↓y_dupI, ↓y_dupR, ↓y_dup2, ↓y_pop, ↓y_goto, ↓y_eq0, ↓y_lt0, ↓y_le0, ↓y_eq, ↓y_lt, ↓y_le, ↓y_switch, ↓y_sw0, ↓y_sw1, ↓y_getI, ↓y_getL, ↓y_getR, ↓y_getT, ↓y_putI, ↓y_putZ, ↓y_putL, ↓y_putT, ↓y_iald, ↓y_bald, ↓y_lald, ↓y_aald, ↓y_iast, ↓y_bast, ↓y_last, ↓y_alen, ↓y_iret, ↓y_zret, ↓y_lret, ↓y_vret, ↓y_svI, ↓y_svL, ↓y_svV, ↓y_ivI, ↓y_ivL, ↓y_ivV, ↓y_max, ↓y_min, ↓y_absL, ↓y_cpI, ↓y_cpL, ↓x_n1I, ↓x_n1L, ↓x_n1R, ↓x_n0I, ↓x_n0L, ↓x_n0R, ↓x_s0, ↓x_s1i, ↓x_s1r, ↓x_s1n, ↓x_s2, ↓x_c0, ↓x_c2, ↓x_tk0, ↓x_tk1, ↓x_rcv, x_rI1, x_rL1, x_rV1, x_rIn, x_rLn, x_rVn, x_rIf, x_rLf, x_rVf, x_40, x_41, x_42, x_43, x_44, ↓reduceIte, if_true, if_false, ao_iadd, ao_isub, ao_imul, ao_iand, ao_ior, ao_ishl, ao_ishr, ao_iushr, ao_ladd, ao_lsub, ao_lmul, ao_land, ao_lor, ao_idiv, ao_irem, ao_ldiv, ao_lrem, ao_ineg, ao_i2b, ao_i2s, Nat.reduceAdd, Nat.reduceMul, Nat.reduceSub, Nat.reduceEqDiff, Nat.reduceLeDiff, and_self, true_and, x_lit, x_ofn, x_z0, x_z1, x_inbT, x_ltT, x_ltF, x_leT, x_leF, x_eqF, x_eqT, x_inb, x_lt, x_le, x_eq, x_cl, x_sub, nI_add, pk_mul, x_m1e, x_m1e', x_m1l, x_m1n, x_m1s, Nat.not_lt_zero, x_zb, x_b0, x_b1, decide_eq_false_iff_not, decide_eq_true_eq, Bool.false_eq_true, Bool.true_eq_false]
          by_cases qk : k < 30
          · by_cases qd : blk = true ∧ d = 3
            · -- too deep
              obtain ⟨rfl, rfl⟩ := qd
              have mn := M_stepDeep (E := E) hst c3 c6 c5 htw d3 qk
              have b7 := bl 7
              have hc : wd = 17 ∨ wd = 20 := by
                rcases hst with ⟨a, b, c⟩ | ⟨a, b, c⟩ | ⟨a, b, c⟩ | ⟨a, b, c⟩ | ⟨a, b, c⟩ | ⟨a, b, c⟩ | ⟨a, b, c⟩ | ⟨a, b, c⟩ <;> first | omega | cases c
              have ts : S_X5_takeStep [.ref 7, .ref 3, .ref 9, .ref 34] σ1 = some (some (.int (nI 0)), am_uI (am_uI σ1 3 10 (nI 7)) 3 11 (σ1.1 3 5)) := by
                rcases hc with rfl | rfl <;> simp (disch := omega) only [g_X5_takeStep, ↓e_X5_takeStep_0, ↓e_X5_takeStep_20, ↓e_X5_takeStep_36, ↓e_X5_takeStep_50, ↓e_X5_takeStep_55, ↓it_s, ↓y_iload, ↓y_lload, ↓y_aload, ↓y_istore, ↓y_lstore, ↓y_astore, ↓y_iinc, ↓y_cI, ↓y_cL, ↓y_bin, ↓y_binL, ↓y_div, ↓y_divL, ↓y_lshl, ↓y_un, ↓y_i2l, ↓y_lneg, ↓y_l2i, ↓y_lcmp, ↓y_dupI, ↓y_dupR, ↓y_dup2, ↓y_pop, ↓y_goto, ↓y_eq0, ↓y_lt0, ↓y_le0, ↓y_eq, ↓y_lt, ↓y_le, ↓y_switch, ↓y_sw0, ↓y_sw1, ↓y_getI, ↓y_getL, ↓y_getR, ↓y_getT, ↓y_putI, ↓y_putZ, ↓y_putL, ↓y_putT, ↓y_iald, ↓y_bald, ↓y_lald, ↓y_aald, ↓y_iast, ↓y_bast, ↓y_last, ↓y_alen, ↓y_iret, ↓y_zret, ↓y_lret, ↓y_vret, ↓y_svI, ↓y_svL, ↓y_svV, ↓y_ivI, ↓y_ivL, ↓y_ivV, ↓y_max, ↓y_min, ↓y_absL, ↓y_cpI, ↓y_cpL, ↓x_n1I, ↓x_n1L, ↓x_n1R, ↓x_n0I, ↓x_n0L, ↓x_n0R, ↓x_s0, ↓x_s1i, ↓x_s1r, ↓x_s1n, ↓x_s2, ↓x_c0, ↓x_c2, ↓x_tk0, ↓x_tk1, ↓x_rcv, x_rI1, x_rL1, x_rV1, x_rIn, x_rLn, x_rVn, x_rIf, x_rLf, x_rVf, x_40, x_41, x_42, x_43, x_44, ↓reduceIte, if_true, if_false, ao_iadd, ao_isub, ao_imul, ao_iand, ao_ior, ao_ishl, ao_ishr, ao_iushr, ao_ladd, ao_lsub, ao_lmul, ao_land, ao_lor, ao_idiv, ao_irem, ao_ldiv, ao_lrem, ao_ineg, ao_i2b, ao_i2s, Nat.reduceAdd, Nat.reduceMul, Nat.reduceSub, Nat.reduceEqDiff, Nat.reduceLeDiff, and_self, true_and, x_lit, x_ofn, x_z0, x_z1, x_inbT, x_ltT, x_ltF, x_leT, x_leF, x_eqF, x_eqT, x_inb, x_lt, x_le, x_eq, x_cl, x_sub, nI_add, pk_mul, x_m1e, x_m1e', x_m1l, x_m1n, x_m1s, Nat.not_lt_zero, x_zb, x_b0, x_b1, decide_eq_false_iff_not, decide_eq_true_eq, Bool.false_eq_true, Bool.true_eq_false, h9', isS, g2, qk, f7, b7, kd_3, kd_7, kd_34]
              exact Or.inl ⟨_, _, 7, tp t e a, fin_mono ((turn _).1 ts) (Nat.zero_le _), mn, by omega, by omega, (xf 7).1, (xf 7).2.1, bdM_12 _ _ _, bdM_13 _ _ _, fX2_B (xf 7).2.2, bd_fM2⟩
            · have hd3 : blk = true → d < 3 := fun z => by
                rcases Nat.lt_or_ge d 3 with z2 | z2
                · exact z2
                · exact absurd ⟨z, by omega⟩ qd
              rcases P_line (E := E) hS0 hst htw qk hd3 a2 a3 with ⟨τx, τm, q, p, r1, r2, r3⟩ | ⟨τx, τm, b, r1, r2, r3, r4, r5, r6, r7, r8, r9, r10⟩
              · exact Or.inl ⟨τx, τm, q, p, fin_mono ((turn _).1 r1) (Nat.zero_le _), r2, r3⟩
              · have rt := (turn _).2 r1
                cases blk with
                | false =>
                  -- a plain step
                  rw [if_neg (by simp)] at r3
                  obtain ⟨⟨g1, g2', g3, g4, g5, g6⟩, ⟨k1, k2, k3, k4, k5, k6, k7⟩, hE'⟩ := r3
                  obtain ⟨ω, eo⟩ : ∃ ω, ω = am_uI τm 128 (1940 + 9 * k + 8) (nI (k + 1)) := ⟨_, rfl⟩
                  have hm : F_X11_readStep E [.ref 123, .int (nI d)] σm = some (none, ω) := by
                    rw [r2, eo]
                    simp (disch := omega) only [↓e_X11_readStep_141, ↓e_X11_readStep_169, ↓e_X11_readStep_191, ↓h_X11_readStep_141, ↓it_s, ↓y_iload, ↓y_lload, ↓y_aload, ↓y_istore, ↓y_lstore, ↓y_astore, ↓y_iinc, ↓y_cI, ↓y_cL, ↓y_bin, ↓y_binL, ↓y_div, ↓y_divL, ↓y_lshl, ↓y_un, ↓y_i2l, ↓y_lneg, ↓y_l2i, ↓y_lcmp, ↓y_dupI, ↓y_dupR, ↓y_dup2, ↓y_pop, ↓y_goto, ↓y_eq0, ↓y_lt0, ↓y_le0, ↓y_eq, ↓y_lt, ↓y_le, ↓y_switch, ↓y_sw0, ↓y_sw1, ↓y_getI, ↓y_getL, ↓y_getR, ↓y_getT, ↓y_putI, ↓y_putZ, ↓y_putL, ↓y_putT, ↓y_iald, ↓y_bald, ↓y_lald, ↓y_aald, ↓y_iast, ↓y_bast, ↓y_last, ↓y_alen, ↓y_iret, ↓y_zret, ↓y_lret, ↓y_vret, ↓y_svI, ↓y_svL, ↓y_svV, ↓y_ivI, ↓y_ivL, ↓y_ivV, ↓y_max, ↓y_min, ↓y_absL, ↓y_cpI, ↓y_cpL, ↓x_n1I, ↓x_n1L, ↓x_n1R, ↓x_n0I, ↓x_n0L, ↓x_n0R, ↓x_s0, ↓x_s1i, ↓x_s1r, ↓x_s1n, ↓x_s2, ↓x_c0, ↓x_c2, ↓x_tk0, ↓x_tk1, ↓x_rcv, x_rI1, x_rL1, x_rV1, x_rIn, x_rLn, x_rVn, x_rIf, x_rLf, x_rVf, x_40, x_41, x_42, x_43, x_44, ↓reduceIte, if_true, if_false, ao_iadd, ao_isub, ao_imul, ao_iand, ao_ior, ao_ishl, ao_ishr, ao_iushr, ao_ladd, ao_lsub, ao_lmul, ao_land, ao_lor, ao_idiv, ao_irem, ao_ldiv, ao_lrem, ao_ineg, ao_i2b, ao_i2s, Nat.reduceAdd, Nat.reduceMul, Nat.reduceSub, Nat.reduceEqDiff, Nat.reduceLeDiff, and_self, true_and, x_lit, x_ofn, x_z0, x_z1, x_inbT, x_ltT, x_ltF, x_leT, x_leF, x_eqF, x_eqT, x_inb, x_lt, x_le, x_eq, x_cl, x_sub, nI_add, pk_mul, x_m1e, x_m1e', x_m1l, x_m1n, x_m1s, Nat.not_lt_zero, x_zb, x_b0, x_b1, decide_eq_false_iff_not, decide_eq_true_eq, Bool.false_eq_true, Bool.true_eq_false, b2_f, k3, kd_123, kd_128, ln_128]
                  have o128 : ∀ i, i ≠ 1940 + 9 * k + 8 → ω.1 128 i = τm.1 128 i := fun i hi => by rw [eo, uI_s, up_n hi]
                  have oo : ∀ j, j ≠ 128 → ω.1 j = τm.1 j := fun j hj => by rw [eo, uI_n hj]
                  have oL : ω.2 = τm.2 := by rw [eo]; rfl
                  have hSS : SS t e τx ω Ns Nf (k + 1) (l + 1) d b := ⟨⟨g1, by rw [eo]; exact TM_uo g2' (by omega) (by omega), by rw [eo]; exact TokM_uo g3 (by omega), g4, by rw [oo 123 (by omega)]; exact g5, g6⟩, ⟨k1, k2, by rw [oo 123 (by omega)]; exact k3, k4, k5, k6, k7⟩, EN_cg hE' rfl rfl rfl rfl (o128 1 (by omega)) (o128 5 (by omega)) (by rw [oL])⟩
                  have fm : fM2 k σm ω := fM2_tr r8 ⟨fun j p q => oo j q, fun j p => by rw [oL], fun i p q => by rw [oo 123 (by omega)], fun i p => by rw [oL], fun i p => o128 i (by omega)⟩ (Nat.le_refl _)
                  have hline : LineR Nf.length false (τx.1 35) (fun j => ω.1 128 (1940 + j)) l k := LineR_cg r5 (fun _ _ => rfl) (fun w hw => by show ω.1 128 (1940 + (9 * k + w)) = τm.1 128 (1940 + (9 * k + w)); exact o128 _ (by omega))
                  have h8 : (fun j => ω.1 128 (1940 + j)) (9 * k + 8) = nI (k + 1) := by show ω.1 128 (1940 + (9 * k + 8)) = _; rw [show 1940 + (9 * k + 8) = 1940 + 9 * k + 8 by omega, eo, uI_s, up_s]
                  exact Or.inr ⟨τx, ω, b, k + 1, l + 1, pt + 1, _, rch_mono rt (by omega), by omega, hm, hSS, r4, by omega, by omega, ⟨h8, Or.inl ⟨rfl, rfl, hline⟩⟩, r7, fm, r9, r10⟩
                | true =>
                  have hd := hd3 rfl
                  rw [if_pos rfl] at r3
                  have hr0 : 0 < r := by omega
                  have o8 := r6 rfl
                  have ihr := ih hr0
                  have hl60 : l < 60 := by omega
                  obtain ⟨G0, eG0⟩ : ∃ G, G = (tk (pt + 1) (some (.int (nI 1)))) := ⟨_, rfl⟩
                  -- all within
                  have IL : ∀ (N b1 k1 l1 pt1 n1 : Nat) (l51 : Option Value) (ξ ζ : am_M), e - b1 ≤ N → SS t e ξ ζ Ns Nf k1 l1 (d + 1) b1 → pt1 ≤ b1 → b ≤ b1 → SqR (SubR Nf.length (ξ.1 35) (fun j => ζ.1 128 (1940 + j)) (r - 1)) Nf.length (ξ.1 35) (fun j => ζ.1 128 (1940 + j)) n1 (l + 1) l1 (k + 1) k1 → fX2 (d + 1) (l + 1) τx ξ → fM2 (k + 1) τm ζ → ξ.1 3 10 = τx.1 3 10 → ξ.1 3 11 = τx.1 3 11 →
                      (∃ ξ' ζ' q p, fin hd_X5_take (e - b1 + 1) 17 (tk pt1 l51) ξ (some (some (.int (nI 0)), ξ')) ∧ fin (hd_X11_readStep E) (e - b1 + 1) 141 [some (.ref 123), some (.int (nI d)), some (.int (nI kind)), some (.int (nI (b2 true))), some (.int (nI (1940 + 9 * k)))] ζ (some (none, ζ')) ∧ 0 < q ∧ q < 100 ∧ ξ'.1 3 10 = nI q ∧ ξ'.1 3 11 = nI p ∧ ζ'.1 123 12 = nI q ∧ ζ'.1 123 13 = nI p ∧ fX2 d l τx ξ' ∧ fM2 k τm ζ') ∨
                      (∃ ξ' ζ' b2' k2 l2 pt2 n2 l52, rch hd_X5_take (b2' - b1) 17 (tk pt1 l51) ξ 17 (tk pt2 l52) ξ' ∧ rch (hd_X11_readStep E) (b2' - b1) 141 [some (.ref 123), some (.int (nI d)), some (.int (nI kind)), some (.int (nI (b2 true))), some (.int (nI (1940 + 9 * k)))] ζ 141 [some (.ref 123), some (.int (nI d)), some (.int (nI kind)), some (.int (nI (b2 true))), some (.int (nI (1940 + 9 * k)))] ζ' ∧ pt2 ≤ b2' ∧ b1 ≤ b2' ∧ SS t e ξ' ζ' Ns Nf k2 l2 (d + 1) b2' ∧ twi t e b2' = some 21 ∧ SqR (SubR Nf.length (ξ'.1 35) (fun j => ζ'.1 128 (1940 + j)) (r - 1)) Nf.length (ξ'.1 35) (fun j => ζ'.1 128 (1940 + j)) n2 (l + 1) l2 (k + 1) k2 ∧ fX2 (d + 1) (l + 1) τx ξ' ∧ fM2 (k + 1) τm ζ' ∧ ξ'.1 3 10 = τx.1 3 10 ∧ ξ'.1 3 11 = τx.1 3 11) := by
                    intro N
                    induction N using Nat.strongRecOn with
                    | _ N ihN =>
                      intro b1 k1 l1 pt1 n1 l51 ξ ζ hN hSi hp1 hbb hsq fx fm y10 y11
                      by_cases qe : twi t e b1 = some 21
                      · exact Or.inr ⟨ξ, ζ, b1, k1, l1, pt1, n1, l51, rch_rf _ _ _ _, rch_rf _ _ _ _, hp1, Nat.le_refl _, hSi, qe, hsq, fx, fm, y10, y11⟩
                      · have hSi0 := hSi
                        obtain ⟨⟨v1, v2, v3, v4, v5, v6⟩, -, -⟩ := hSi
                        have hsle := SqR_le (SubR_le (r - 1)) _ _ _ _ _ hsq
                        have ise := M_isEnd v6 v3
                        rw [decide_eq_false qe] at ise
                        rcases ihr k1 l1 b1 pt1 l51 ξ ζ hSi0 hp1 qe with ⟨ξ', ζ', q, p, z1, z2, z3, z4, z5, z6, z7, z8, z9, z10⟩ | ⟨ξ', ζ', b3, k3, l3, pt3, l53, z1, z2, z3, z4, z5, z6, z7, z8, z9, z10, z11, z12⟩
                        · obtain ⟨mb1, mb2⟩ : ∃ y, y = am_uI ζ' 128 (1940 + 9 * k + 8) (ζ'.1 123 28) := ⟨_, rfl⟩
                          have st1 : rch (hd_X11_readStep E) 1 141 [some (.ref 123), some (.int (nI d)), some (.int (nI kind)), some (.int (nI (b2 true))), some (.int (nI (1940 + 9 * k)))] ζ 141 [some (.ref 123), some (.int (nI d)), some (.int (nI kind)), some (.int (nI (b2 true))), some (.int (nI (1940 + 9 * k)))] ζ' := rch_1 fun B => by
                            simp (disch := omega) only [↓e_X11_readStep_141, ↓h_X11_readStep_141, ↓it_s, ↓y_iload, ↓y_lload, ↓y_aload, ↓y_istore, ↓y_lstore, ↓y_astore, ↓y_iinc, ↓y_cI, ↓y_cL, ↓y_bin, ↓y_binL, ↓y_div, ↓y_divL, ↓y_lshl, ↓y_un, ↓y_i2l, ↓y_lneg, ↓y_l2i, ↓y_lcmp, ↓y_dupI, ↓y_dupR, ↓y_dup2, ↓y_pop, ↓y_goto, ↓y_eq0, ↓y_lt0, ↓y_le0, ↓y_eq, ↓y_lt, ↓y_le, ↓y_switch, ↓y_sw0, ↓y_sw1, ↓y_getI, ↓y_getL, ↓y_getR, ↓y_getT, ↓y_putI, ↓y_putZ, ↓y_putL, ↓y_putT, ↓y_iald, ↓y_bald, ↓y_lald, ↓y_aald, ↓y_iast, ↓y_bast, ↓y_last, ↓y_alen, ↓y_iret, ↓y_zret, ↓y_lret, ↓y_vret, ↓y_svI, ↓y_svL, ↓y_svV, ↓y_ivI, ↓y_ivL, ↓y_ivV, ↓y_max, ↓y_min, ↓y_absL, ↓y_cpI, ↓y_cpL, ↓x_n1I, ↓x_n1L, ↓x_n1R, ↓x_n0I, ↓x_n0L, ↓x_n0R, ↓x_s0, ↓x_s1i, ↓x_s1r, ↓x_s1n, ↓x_s2, ↓x_c0, ↓x_c2, ↓x_tk0, ↓x_tk1, ↓x_rcv, x_rI1, x_rL1, x_rV1, x_rIn, x_rLn, x_rVn, x_rIf, x_rLf, x_rVf, x_40, x_41, x_42, x_43, x_44, ↓reduceIte, if_true, if_false, ao_iadd, ao_isub, ao_imul, ao_iand, ao_ior, ao_ishl, ao_ishr, ao_iushr, ao_ladd, ao_lsub, ao_lmul, ao_land, ao_lor, ao_idiv, ao_irem, ao_ldiv, ao_lrem, ao_ineg, ao_i2b, ao_i2s, Nat.reduceAdd, Nat.reduceMul, Nat.reduceSub, Nat.reduceEqDiff, Nat.reduceLeDiff, and_self, true_and, x_lit, x_ofn, x_z0, x_z1, x_inbT, x_ltT, x_ltF, x_leT, x_leF, x_eqF, x_eqT, x_inb, x_lt, x_le, x_eq, x_cl, x_sub, nI_add, pk_mul, x_m1e, x_m1e', x_m1l, x_m1n, x_m1s, Nat.not_lt_zero, x_zb, x_b0, x_b1, decide_eq_false_iff_not, decide_eq_true_eq, Bool.false_eq_true, Bool.true_eq_false, b2_t, b2_f, v5, ise, z2, kd_123]
                          have st2 : fin (hd_X11_readStep E) 0 141 [some (.ref 123), some (.int (nI d)), some (.int (nI kind)), some (.int (nI (b2 true))), some (.int (nI (1940 + 9 * k)))] ζ' (some (none, mb1)) := fin_0 fun B => by
                            rw [mb2]; exact M_141bad z7 z3 z4 (by omega)
                          exact Or.inl ⟨ξ', mb1, q, p, z1, fin_mono (rch_fin st1 st2) (by omega), z3, z4, z5, z6, by rw [mb2, uI_n (by omega)]; exact z7, by rw [mb2, uI_n (by omega)]; exact z8, fX2_tr (d := d) (l := l) ⟨fx.1, fx.2.1, fx.2.2.1, fx.2.2.2.1, fun i hi => fx.2.2.2.2.1 i (by omega), fun i hi => fx.2.2.2.2.2 i (by omega)⟩ z9 (by omega) (by omega), fM2_tr (k := k) ⟨fm.1, fm.2.1, fm.2.2.1, fm.2.2.2.1, fun i hi => fm.2.2.2.2 i (by omega)⟩ (fM2_tr (k := k) ⟨z10.1, z10.2.1, z10.2.2.1, z10.2.2.2.1, fun i hi => z10.2.2.2.2 i (by omega)⟩ (k' := k) ⟨fun j p q => by rw [mb2, uI_n q], fun j p => by rw [mb2]; rfl, fun i p q => by rw [mb2, uI_n (by omega)], fun i p => by rw [mb2]; rfl, fun i p => by rw [mb2, uI_s, up_n (by omega)]⟩ (Nat.le_refl _)) (Nat.le_refl _)⟩
                        · have st1 : rch (hd_X11_readStep E) 1 141 [some (.ref 123), some (.int (nI d)), some (.int (nI kind)), some (.int (nI (b2 true))), some (.int (nI (1940 + 9 * k)))] ζ 141 [some (.ref 123), some (.int (nI d)), some (.int (nI kind)), some (.int (nI (b2 true))), some (.int (nI (1940 + 9 * k)))] ζ' := rch_1 fun B => by
                            simp (disch := omega) only [↓e_X11_readStep_141, ↓h_X11_readStep_141, ↓it_s, ↓y_iload, ↓y_lload, ↓y_aload, ↓y_istore, ↓y_lstore, ↓y_astore, ↓y_iinc, ↓y_cI, ↓y_cL, ↓y_bin, ↓y_binL, ↓y_div, ↓y_divL, ↓y_lshl, ↓y_un, ↓y_i2l, ↓y_lneg, ↓y_l2i, ↓y_lcmp, ↓y_dupI, ↓y_dupR, ↓y_dup2, ↓y_pop, ↓y_goto, ↓y_eq0, ↓y_lt0, ↓y_le0, ↓y_eq, ↓y_lt, ↓y_le, ↓y_switch, ↓y_sw0, ↓y_sw1, ↓y_getI, ↓y_getL, ↓y_getR, ↓y_getT, ↓y_putI, ↓y_putZ, ↓y_putL, ↓y_putT, ↓y_iald, ↓y_bald, ↓y_lald, ↓y_aald, ↓y_iast, ↓y_bast, ↓y_last, ↓y_alen, ↓y_iret, ↓y_zret, ↓y_lret, ↓y_vret, ↓y_svI, ↓y_svL, ↓y_svV, ↓y_ivI, ↓y_ivL, ↓y_ivV, ↓y_max, ↓y_min, ↓y_absL, ↓y_cpI, ↓y_cpL, ↓x_n1I, ↓x_n1L, ↓x_n1R, ↓x_n0I, ↓x_n0L, ↓x_n0R, ↓x_s0, ↓x_s1i, ↓x_s1r, ↓x_s1n, ↓x_s2, ↓x_c0, ↓x_c2, ↓x_tk0, ↓x_tk1, ↓x_rcv, x_rI1, x_rL1, x_rV1, x_rIn, x_rLn, x_rVn, x_rIf, x_rLf, x_rVf, x_40, x_41, x_42, x_43, x_44, ↓reduceIte, if_true, if_false, ao_iadd, ao_isub, ao_imul, ao_iand, ao_ior, ao_ishl, ao_ishr, ao_iushr, ao_ladd, ao_lsub, ao_lmul, ao_land, ao_lor, ao_idiv, ao_irem, ao_ldiv, ao_lrem, ao_ineg, ao_i2b, ao_i2s, Nat.reduceAdd, Nat.reduceMul, Nat.reduceSub, Nat.reduceEqDiff, Nat.reduceLeDiff, and_self, true_and, x_lit, x_ofn, x_z0, x_z1, x_inbT, x_ltT, x_ltF, x_leT, x_leF, x_eqF, x_eqT, x_inb, x_lt, x_le, x_eq, x_cl, x_sub, nI_add, pk_mul, x_m1e, x_m1e', x_m1l, x_m1n, x_m1s, Nat.not_lt_zero, x_zb, x_b0, x_b1, decide_eq_false_iff_not, decide_eq_true_eq, Bool.false_eq_true, Bool.true_eq_false, b2_t, b2_f, v5, ise, z3, kd_123]
                          have hb3 := z4.1.2.2.2.2.2
                          have sq' : SqR (SubR Nf.length (ξ'.1 35) (fun j => ζ'.1 128 (1940 + j)) (r - 1)) Nf.length (ξ'.1 35) (fun j => ζ'.1 128 (1940 + j)) n1 (l + 1) l1 (k + 1) k1 := SqS_rg _ _ _ _ _ _ (fun i p q => z9.2.2.2.2.2 i q) (fun i p q => by show ζ'.1 128 (1940 + i) = ζ.1 128 (1940 + i); exact z10.2.2.2.2 _ (by omega)) hsq
                          have sq2 := SqR_app _ _ _ _ _ _ _ sq' z8
                          rcases ihN (e - b3) (by omega) b3 k3 l3 pt3 (n1 + 1) l53 ξ' ζ' (Nat.le_refl _) z4 z2 (by omega) sq2 (fX2_tr fx z9 (Nat.le_refl _) (by omega)) (fM2_tr fm z10 (by omega)) (by rw [z11, y10]) (by rw [z12, y11]) with ⟨ξ2, ζ2, q, p, w1, w2, w3⟩ | ⟨ξ2, ζ2, b4, k4, l4, pt4, n4, l54, w1, w2, w3, w4, w5⟩
                          · exact Or.inl ⟨ξ2, ζ2, q, p, fin_mono (rch_fin z1 w1) (by omega), fin_mono (rch_fin st1 w2) (by omega), w3⟩
                          · exact Or.inr ⟨ξ2, ζ2, b4, k4, l4, pt4, n4, l54, rch_mono (rch_tr z1 w1) (by omega), rch_mono (rch_tr st1 w2) (by omega), w3, by omega, w5⟩
                  have hb6 := r3.1.2.2.2.2.2
                  rcases IL (e - b) b (k + 1) (l + 1) (pt + 1) 0 _ τx τm (Nat.le_refl _) r3 (by omega) (Nat.le_refl _) ⟨rfl, rfl⟩ (fX2_rf _ _ _) (fM2_rf _ _) rfl rfl with ⟨ξ', ζ', q, p, z1, z2, z3, z4, z5, z6, z7, z8, z9, z10⟩ | ⟨ξ', ζ', bb, k2, l2, pt2, n2, l52, z1, z2, z3, z4, z5, z6, z7, z8, z9, z10, z11⟩
                  · exact Or.inl ⟨ξ', ζ', q, p, fin_mono (rch_fin rt z1) (by omega), r2.trans (fin_run z2 (by unfold am_fuel; omega)), z3, z4, z5, z6, z7, z8, fX2_tr r7 z9 (Nat.le_refl _) (Nat.le_refl _), fM2_tr r8 z10 (Nat.le_refl _)⟩
                  · -- the end of the block
                    obtain ⟨⟨v1, v2, v3, v4, v5, v6⟩, ⟨w1, w2, w3, w4, w5, w6, w7⟩, hE2⟩ := z5
                    have hsle := SqR_le (SubR_le (r - 1)) _ _ _ _ _ z7
                    have hk1 : tkd t e bb = 1 := by
                      apply Classical.byContradiction
                      intro zz
                      rw [tw_none zz] at z6
                      cases z6
                    obtain ⟨y1, -⟩ := X_step v1 v6 v4
                    obtain ⟨σe, f1, f2, f3⟩ := y1 (by omega)
                    have iee := X_isEnd f2
                    rw [decide_eq_false (show ¬ tkd t e bb = 0 by omega)] at iee
                    have iee' : S_X3_isEnd [.ref 3] σe = some (some (.int (nI 0)), σe) := iee
                    have e9 : σe.1 3 9 = nI 21 := by rw [f2.2.2.2.1, z6]; rfl
                    have e7 : σe.1 7 1 = nI (d + 1) := by rw [(f3.1 7 (by omega)).1]; exact w6
                    have e34 : σe.1 34 1 = nI l2 := by rw [(f3.1 34 (by omega)).1]; exact w1
                    have e8 : σe.1 8 d = nI l := by rw [(f3.1 8 (by omega)).1, z8.2.2.2.2.1 d (by omega)]; exact o8
                    have hl2 : l2 < 60 := by omega
                    have tte := fun τ => X_turnE (pt := pt2) (l5 := l52) (τ := τ) (show pt2 ≤ 300 by omega) f1 iee' e9
                    have tl := tq_le (t := t) v6
                    have tl2 := tp_le (t := t) v6
                    have hgt := tq_gt (t := t) v6 (by omega)
                    obtain ⟨R, eR'⟩ : ∃ R, R = eR σe d l l2 := ⟨_, rfl⟩
                    obtain ⟨R1, R2, R3, R4, R5, R6, R7, R8, R9⟩ := eR_f σe d l l2 (by omega)
                    rw [← eR'] at R1 R2 R3 R4 R5 R6 R7 R8 R9
                    have ro : ∀ j, j ≠ 3 → j ≠ 7 → j ≠ 34 → j ≠ 35 → R.1 j = ξ'.1 j := fun j p q s u => by rw [R2 j q s u, (f3.1 j p).1]
                    have rL : ∀ j, j ≠ 3 → R.2 j = ξ'.2 j := fun j p => by rw [R1, (f3.1 j p).2]
                    have r35 : ∀ i, i < l2 * 6 → i ≠ l * 6 + 5 → R.1 35 i = ξ'.1 35 i := fun i p q => by rw [R9 i p q, (f3.1 35 (by omega)).1]
                    have hXR : TX R t e := by
                      obtain ⟨i1, i2, i3, i4, i5, i6⟩ := TX_fr v1 f3
                      exact ⟨by rw [R2 3 (by omega) (by omega) (by omega)]; exact i1, by rw [R2 3 (by omega) (by omega) (by omega)]; exact i2, i3, i4, fun j hj => by rw [R2 2 (by omega) (by omega) (by omega)]; exact i5 j hj, fun i hi => by rw [R1]; exact i6 i hi⟩
                    have hR3 : R.1 3 3 = nI (tq t e bb) := by rw [R2 3 (by omega) (by omega) (by omega)]; exact f2.1
                    have fxR : fX2 d l ξ' R := ⟨rL, fun j p q s u v => ro j p q u v, fun i p => by rw [R2 3 (by omega) (by omega) (by omega), f3.2 i (by omega)], by rw [R5 3 (by omega), (f3.1 34 (by omega)).1], fun i p => by rw [ro 8 (by omega) (by omega) (by omega) (by omega)], fun i p => r35 i (by omega) (by omega)⟩
                    have fxS : fX2 d l σx R := fX2_tr r7 (fX2_tr (d := d) (l := l) ⟨z8.1, z8.2.1, z8.2.2.1, z8.2.2.2.1, fun i hi => z8.2.2.2.2.1 i (by omega), fun i hi => z8.2.2.2.2.2 i (by omega)⟩ fxR (Nat.le_refl _) (Nat.le_refl _)) (Nat.le_refl _) (Nat.le_refl _)
                    obtain ⟨u1, u2⟩ := X_wantSign (c := 59) hXR (show tq t e bb ≤ e by omega) hR3 (by omega)
                    -- the model
                    have isx := M_isEnd v6 v3
                    rw [decide_eq_true z6] at isx
                    obtain ⟨ζ1, m1, m2, m3⟩ := M_mustT v2 v6 v3 v5
                    have q12 : ζ1.1 123 12 = nI 0 := by rw [m3.2.1 12 (by omega)]; exact v5
                    have q28 : ζ1.1 123 28 = nI k2 := by rw [m3.2.1 28 (by omega)]; exact w3
                    have ms := M_isSign (c := 59) m2 (by omega) v2.2.2.1
                    have hTM1 : TM ζ1 t e := TM_fr v2 m3
                    have tl3 := tq_le (t := t) (e := e) (a := tq t e bb) (by omega)
                    have tl4 := tp_le (t := t) (e := e) (a := tq t e bb) (by omega)
                    have fmk : fM2 k τm ζ1 := fM2_tr (k := k) ⟨z9.1, z9.2.1, z9.2.2.1, z9.2.2.2.1, fun i hi => z9.2.2.2.2 i (by omega)⟩ (fM2_T (k := k) m3) (Nat.le_refl _)
                    have mfin : ∀ (y : Int32) (ζ2 : am_M), S_X11_isSign [.ref 123, .int (nI 59)] ζ1 = some (some (.int y), ζ1) → S_X11_must [.ref 123, .int y] ζ1 = some (none, ζ2) → ζ2.1 123 28 = nI k2 → F_X11_readStep E [.ref 123, .int (nI d)] σm = some (none, am_uI ζ2 128 (1940 + 9 * k + 8) (nI k2)) := fun y ζ2 hy1 hy2 hy3 => by
                      have ff : fin (hd_X11_readStep E) 0 141 [some (.ref 123), some (.int (nI d)), some (.int (nI kind)), some (.int (nI (b2 true))), some (.int (nI (1940 + 9 * k)))] ζ' (some (none, am_uI ζ2 128 (1940 + 9 * k + 8) (nI k2))) := fin_0 fun B => by
                        simp (disch := omega) only [↓e_X11_readStep_141, ↓e_X11_readStep_169, ↓e_X11_readStep_191, ↓h_X11_readStep_141, ↓it_s, ↓y_iload, ↓y_lload, ↓y_aload, ↓y_istore, ↓y_lstore, ↓y_astore, ↓y_iinc, ↓y_cI, ↓y_cL, ↓y_bin, ↓y_binL, ↓y_div, ↓y_divL, ↓y_lshl, ↓y_un, ↓y_i2l, ↓y_lneg, ↓y_l2i, ↓y_lcmp, ↓y_dupI, ↓y_dupR, ↓y_dup2, ↓y_pop, ↓y_goto, ↓y_eq0, ↓y_lt0, ↓y_le0, ↓y_eq, ↓y_lt, ↓y_le, ↓y_switch, ↓y_sw0, ↓y_sw1, ↓y_getI, ↓y_getL, ↓y_getR, ↓y_getT, ↓y_putI, ↓y_putZ, ↓y_putL, ↓y_putT, ↓y_iald, ↓y_bald, ↓y_lald, ↓y_aald, ↓y_iast, ↓y_bast, ↓y_last, ↓y_alen, ↓y_iret, ↓y_zret, ↓y_lret, ↓y_vret, ↓y_svI, ↓y_svL, ↓y_svV, ↓y_ivI, ↓y_ivL, ↓y_ivV, ↓y_max, ↓y_min, ↓y_absL, ↓y_cpI, ↓y_cpL, ↓x_n1I, ↓x_n1L, ↓x_n1R, ↓x_n0I, ↓x_n0L, ↓x_n0R, ↓x_s0, ↓x_s1i, ↓x_s1r, ↓x_s1n, ↓x_s2, ↓x_c0, ↓x_c2, ↓x_tk0, ↓x_tk1, ↓x_rcv, x_rI1, x_rL1, x_rV1, x_rIn, x_rLn, x_rVn, x_rIf, x_rLf, x_rVf, x_40, x_41, x_42, x_43, x_44, ↓reduceIte, if_true, if_false, ao_iadd, ao_isub, ao_imul, ao_iand, ao_ior, ao_ishl, ao_ishr, ao_iushr, ao_ladd, ao_lsub, ao_lmul, ao_land, ao_lor, ao_idiv, ao_irem, ao_ldiv, ao_lrem, ao_ineg, ao_i2b, ao_i2s, Nat.reduceAdd, Nat.reduceMul, Nat.reduceSub, Nat.reduceEqDiff, Nat.reduceLeDiff, and_self, true_and, x_lit, x_ofn, x_z0, x_z1, x_inbT, x_ltT, x_ltF, x_leT, x_leF, x_eqF, x_eqT, x_inb, x_lt, x_le, x_eq, x_cl, x_sub, nI_add, pk_mul, x_m1e, x_m1e', x_m1l, x_m1n, x_m1s, Nat.not_lt_zero, x_zb, x_b0, x_b1, decide_eq_false_iff_not, decide_eq_true_eq, Bool.false_eq_true, Bool.true_eq_false, b2_t, v5, isx, m1, hy1, hy2, hy3, kd_123, kd_128, ln_128]
                      exact r2.trans (fin_run (rch_fin z2 ff) (by unfold am_fuel; omega))
                    cases hsg : decide (tkd t e (tq t e bb) = 3 ∧ tnum t e (tq t e bb) = 59) with
                    | false =>
                      rw [hsg] at ms
                      obtain ⟨κ, g1, g2⟩ := u2 hsg
                      rw [eR'] at g1
                      have te := X_takeEnd (g := 0) e7 hd e34 hl2 e8 hl60 (by omega) g1
                      have mF := M_mustF m2 q12
                      have ak2 := amk_12 t e (tq t e bb)
                      have mm := mfin _ _ ms mF (by unfold bdM; rw [uI_s, up_n (by omega), uI_s, up_n (by omega)]; exact q28)
                      refine Or.inl ⟨κ, _, amk t e (tq t e bb), tp t e (tq t e bb), fin_mono (rch_fin rt (rch_fin z1 ((tte κ).1 te))) (by omega), mm, ak2.1, ak2.2, g2.1, g2.2.1, by rw [uI_n (by omega)]; exact bdM_12 _ _ _, by rw [uI_n (by omega)]; exact bdM_13 _ _ _, fX2_tr fxS (fX2_B g2.2.2) (Nat.le_refl _) (Nat.le_refl _), ?_⟩
                      have fb : fM2 k ζ1 (bdM ζ1 (amk t e (tq t e bb)) (tp t e (tq t e bb))) := bd_fM2
                      have fu : fM2 k σm (bdM ζ1 (amk t e (tq t e bb)) (tp t e (tq t e bb))) := fM2_tr r8 (fM2_tr fmk fb (Nat.le_refl _)) (Nat.le_refl _)
                      exact ⟨fun j p q => by rw [uI_n q]; exact fu.1 j p q, fu.2.1, fun i p q => by rw [uI_n (by omega)]; exact fu.2.2.1 i p q, fu.2.2.2.1, fun i p => by rw [uI_s, up_n (by omega)]; exact fu.2.2.2.2 i p⟩
                    | true =>
                      rw [hsg] at ms
                      obtain ⟨κ, g1, g2, g3⟩ := u1 hsg
                      have g1' := g1
                      rw [eR'] at g1'
                      have te := X_takeEnd (g := 1) e7 hd e34 hl2 e8 hl60 (by omega) g1'
                      obtain ⟨ζ2, mt1, mt2, mt3⟩ := M_mustT hTM1 (show tq t e bb ≤ e by omega) m2 q12
                      have t28 : ζ2.1 123 28 = nI k2 := by rw [mt3.2.1 28 (by omega)]; exact q28
                      have mm := mfin _ _ ms mt1 t28
                      obtain ⟨ω, eo⟩ : ∃ ω, ω = am_uI ζ2 128 (1940 + 9 * k + 8) (nI k2) := ⟨_, rfl⟩
                      rw [← eo] at mm
                      have hgt2 := tq_gt (t := t) (e := e) (a := tq t e bb) (by omega) (by have := (of_decide_eq_true hsg).1; omega)
                      have o128 : ∀ i, i ≠ 1940 + 9 * k + 8 → ω.1 128 i = ζ'.1 128 i := fun i hi => by rw [eo, uI_s, up_n hi, (mt3.1 128 (by omega)).1, (m3.1 128 (by omega)).1]
                      have oo : ∀ j, j ≠ 128 → ω.1 j = ζ2.1 j := fun j hj => by rw [eo, uI_n hj]
                      have oL : ω.2 = ζ2.2 := by rw [eo]; rfl
                      have k35 : κ.1 35 = R.1 35 := (g3.1 35 (by omega)).1
                      have kj : ∀ j, j ≠ 3 → κ.1 j = R.1 j ∧ κ.2 j = R.2 j := g3.1
                      have fu0 : fM2 k σm ζ2 := fM2_tr r8 (fM2_tr fmk (fM2_T mt3) (Nat.le_refl _)) (Nat.le_refl _)
                      have fu : fM2 k σm ω := ⟨fun j p q => by rw [oo j q]; exact fu0.1 j p q, fun j p => by rw [oL]; exact fu0.2.1 j p, fun i p q => by rw [oo 123 (by omega)]; exact fu0.2.2.1 i p q, fun i p => by rw [oL]; exact fu0.2.2.2.1 i p, fun i p => by rw [eo, uI_s, up_n (by omega)]; exact fu0.2.2.2.2 i p⟩
                      have hSS : SS t e κ ω Ns Nf k2 (l2 + 1) d (tq t e (tq t e bb)) := by
                        refine ⟨⟨TX_fr hXR g3, by rw [eo]; exact TM_uo (TM_fr hTM1 mt3) (by omega) (by omega), by rw [eo]; exact TokM_uo mt2 (by omega), g2.1, by rw [oo 123 (by omega), mt3.2.1 12 (by omega)]; exact q12, by omega⟩, ⟨by rw [(kj 34 (by omega)).1]; exact R4, by rw [(kj 34 (by omega)).1, R5 2 (by omega), (f3.1 34 (by omega)).1]; exact w2, by rw [oo 123 (by omega)]; exact t28, w4, by omega, by rw [(kj 7 (by omega)).1]; exact R3, by omega⟩, ?_⟩
                        refine EN_cg hE2 (by rw [(kj 10 (by omega)).1, ro 10 (by omega) (by omega) (by omega) (by omega)]) (by rw [(kj 9 (by omega)).1, ro 9 (by omega) (by omega) (by omega) (by omega)]) (by rw [(kj 19 (by omega)).2, rL 19 (by omega)]) (by rw [(kj 20 (by omega)).2, rL 20 (by omega)]) (o128 1 (by omega)) (o128 5 (by omega)) ?_
                        rw [oL, (mt3.1 131 (by omega)).2, (m3.1 131 (by omega)).2]
                      have hline : LineR Nf.length true (κ.1 35) (fun j => ω.1 128 (1940 + j)) l k := LineR_cg r5 (fun w hw => by rw [k35, r35 _ (by omega) (by omega), z8.2.2.2.2.2 _ (by omega)]) (fun w hw => by show ω.1 128 (1940 + (9 * k + w)) = τm.1 128 (1940 + (9 * k + w)); rw [o128 _ (by omega), z9.2.2.2.2 _ (by omega)])
                      have hsub : SubR Nf.length (κ.1 35) (fun j => ω.1 128 (1940 + j)) r (l + 1) l2 (k + 1) k2 := by
                        obtain ⟨r', rfl⟩ : ∃ r', r = r' + 1 := ⟨r - 1, by omega⟩
                        show DpR _ _ _ r' _ _ _ _
                        rw [DpR_S]
                        exact ⟨n2, SqS_rg _ _ _ _ _ _ (fun i p q => by rw [k35, r35 i q (by omega)]) (fun i p q => by show ω.1 128 (1940 + i) = ζ'.1 128 (1940 + i); exact o128 _ (by omega)) z7⟩
                      have h8 : (fun j => ω.1 128 (1940 + j)) (9 * k + 8) = nI k2 := by show ω.1 128 (1940 + (9 * k + 8)) = _; rw [show 1940 + (9 * k + 8) = 1940 + 9 * k + 8 by omega, eo, uI_s, up_s]
                      refine Or.inr ⟨κ, ω, tq t e (tq t e bb), k2, l2 + 1, pt2 + 1, _, rch_mono (rch_tr rt (rch_tr z1 ((tte κ).2 te))) (by omega), by omega, mm, hSS, by omega, by omega, by omega, ⟨h8, Or.inr ⟨l2, rfl, by omega, by rw [k35]; exact R8, by rw [k35]; exact R6, by rw [k35]; exact R7, hsub, hline⟩⟩, fX2_tr fxS (fX2_B (fB_R g3)) (Nat.le_refl _) (Nat.le_refl _), fu, ?_, ?_⟩
                      · rw [g3.2 10 (by omega), R2 3 (by omega) (by omega) (by omega), f3.2 10 (by omega), z10, r9]
                      · rw [g3.2 11 (by omega), R2 3 (by omega) (by omega) (by omega), f3.2 11 (by omega), z11, r10]
          · -- too many steps
            have ek : k = 30 := by omega
            subst ek
            have mn := M_stepMany (E := E) (d := d) hst c3 c6 c5 htw d3
            have b6 := bl 6
            have ts : S_X5_takeStep [.ref 7, .ref 3, .ref 9, .ref 34] σ1 = some (some (.int (nI 0)), am_uI (am_uI σ1 3 10 (nI 6)) 3 11 (σ1.1 3 5)) := by
              simp (disch := omega) only [g_X5_takeStep, ↓e_X5_takeStep_0, ↓e_X5_takeStep_20, ↓it_s, ↓y_iload, ↓y_lload, ↓y_aload, ↓y_istore, ↓y_lstore, ↓y_astore, ↓y_iinc, ↓y_cI, ↓y_cL, ↓y_bin, ↓y_binL, ↓y_div, ↓y_divL, ↓y_lshl, ↓y_un, ↓y_i2l, ↓y_lneg, ↓y_l2i, ↓y_lcmp, ↓y_dupI, ↓y_dupR, ↓y_dup2, ↓y_pop, ↓y_goto, ↓y_eq0, ↓y_lt0, ↓y_le0, ↓y_eq, ↓y_lt, ↓y_le, ↓y_switch, ↓y_sw0, ↓y_sw1, ↓y_getI, ↓y_getL, ↓y_getR, ↓y_getT, ↓y_putI, ↓y_putZ, ↓y_putL, ↓y_putT, ↓y_iald, ↓y_bald, ↓y_lald, ↓y_aald, ↓y_iast, ↓y_bast, ↓y_last, ↓y_alen, ↓y_iret, ↓y_zret, ↓y_lret, ↓y_vret, ↓y_svI, ↓y_svL, ↓y_svV, ↓y_ivI, ↓y_ivL, ↓y_ivV, ↓y_max, ↓y_min, ↓y_absL, ↓y_cpI, ↓y_cpL, ↓x_n1I, ↓x_n1L, ↓x_n1R, ↓x_n0I, ↓x_n0L, ↓x_n0R, ↓x_s0, ↓x_s1i, ↓x_s1r, ↓x_s1n, ↓x_s2, ↓x_c0, ↓x_c2, ↓x_tk0, ↓x_tk1, ↓x_rcv, x_rI1, x_rL1, x_rV1, x_rIn, x_rLn, x_rVn, x_rIf, x_rLf, x_rVf, x_40, x_41, x_42, x_43, x_44, ↓reduceIte, if_true, if_false, ao_iadd, ao_isub, ao_imul, ao_iand, ao_ior, ao_ishl, ao_ishr, ao_iushr, ao_ladd, ao_lsub, ao_lmul, ao_land, ao_lor, ao_idiv, ao_irem, ao_ldiv, ao_lrem, ao_ineg, ao_i2b, ao_i2s, Nat.reduceAdd, Nat.reduceMul, Nat.reduceSub, Nat.reduceEqDiff, Nat.reduceLeDiff, and_self, true_and, x_lit, x_ofn, x_z0, x_z1, x_inbT, x_ltT, x_ltF, x_leT, x_leF, x_eqF, x_eqT, x_inb, x_lt, x_le, x_eq, x_cl, x_sub, nI_add, pk_mul, x_m1e, x_m1e', x_m1l, x_m1n, x_m1s, Nat.not_lt_zero, x_zb, x_b0, x_b1, decide_eq_false_iff_not, decide_eq_true_eq, Bool.false_eq_true, Bool.true_eq_false, h9', isS, g2, b6, kd_3, kd_7, kd_34]
            exact Or.inl ⟨_, _, 6, tp t e a, fin_mono ((turn _).1 ts) (Nat.zero_le _), mn, by omega, by omega, (xf 6).1, (xf 6).2.1, bdM_12 _ _ _, bdM_13 _ _ _, fX2_B (xf 6).2.2, bd_fM2⟩
        · -- no step's word
          have mn := M_stepNo (E := E) (d := d) c3 c6 c5 hno
          rw [e2] at mn
          have b2l := bl 2
          have is0 := his σ1
          obtain ⟨x, ex⟩ : ∃ x, x = optI (twi t e a) := ⟨_, rfl⟩
          rw [← ex] at is0 h9
          have ts : S_X5_takeStep [.ref 7, .ref 3, .ref 9, .ref 34] σ1 = some (some (.int (nI 0)), am_uI (am_uI σ1 3 10 (nI 2)) 3 11 (σ1.1 3 5)) := by
            simp (disch := omega) only [g_X5_takeStep, ↓e_X5_takeStep_0, ↓it_s, ↓y_iload, ↓y_lload, ↓y_aload, ↓y_istore, ↓y_lstore, ↓y_astore, ↓y_iinc, ↓y_cI, ↓y_cL, ↓y_bin, ↓y_binL, ↓y_div, ↓y_divL, ↓y_lshl, ↓y_un, ↓y_i2l, ↓y_lneg, ↓y_l2i, ↓y_lcmp, ↓y_dupI, ↓y_dupR, ↓y_dup2, ↓y_pop, ↓y_goto, ↓y_eq0, ↓y_lt0, ↓y_le0, ↓y_eq, ↓y_lt, ↓y_le, ↓y_switch, ↓y_sw0, ↓y_sw1, ↓y_getI, ↓y_getL, ↓y_getR, ↓y_getT, ↓y_putI, ↓y_putZ, ↓y_putL, ↓y_putT, ↓y_iald, ↓y_bald, ↓y_lald, ↓y_aald, ↓y_iast, ↓y_bast, ↓y_last, ↓y_alen, ↓y_iret, ↓y_zret, ↓y_lret, ↓y_vret, ↓y_svI, ↓y_svL, ↓y_svV, ↓y_ivI, ↓y_ivL, ↓y_ivV, ↓y_max, ↓y_min, ↓y_absL, ↓y_cpI, ↓y_cpL, ↓x_n1I, ↓x_n1L, ↓x_n1R, ↓x_n0I, ↓x_n0L, ↓x_n0R, ↓x_s0, ↓x_s1i, ↓x_s1r, ↓x_s1n, ↓x_s2, ↓x_c0, ↓x_c2, ↓x_tk0, ↓x_tk1, ↓x_rcv, x_rI1, x_rL1, x_rV1, x_rIn, x_rLn, x_rVn, x_rIf, x_rLf, x_rVf, x_40, x_41, x_42, x_43, x_44, ↓reduceIte, if_true, if_false, ao_iadd, ao_isub, ao_imul, ao_iand, ao_ior, ao_ishl, ao_ishr, ao_iushr, ao_ladd, ao_lsub, ao_lmul, ao_land, ao_lor, ao_idiv, ao_irem, ao_ldiv, ao_lrem, ao_ineg, ao_i2b, ao_i2s, Nat.reduceAdd, Nat.reduceMul, Nat.reduceSub, Nat.reduceEqDiff, Nat.reduceLeDiff, and_self, true_and, x_lit, x_ofn, x_z0, x_z1, x_inbT, x_ltT, x_ltF, x_leT, x_leF, x_eqF, x_eqT, x_inb, x_lt, x_le, x_eq, x_cl, x_sub, nI_add, pk_mul, x_m1e, x_m1e', x_m1l, x_m1n, x_m1s, Nat.not_lt_zero, x_zb, x_b0, x_b1, decide_eq_false_iff_not, decide_eq_true_eq, Bool.false_eq_true, Bool.true_eq_false, h9, is0, b2l, kd_3, kd_7, kd_34]
          exact Or.inl ⟨_, _, 2, tp t e a, fin_mono ((turn _).1 ts) (Nat.zero_le _), mn, by omega, by omega, (xf 2).1, (xf 2).2.1, bdM_12 _ _ _, bdM_13 _ _ _, fX2_B (xf 2).2.2, bd_fM2⟩
theorem T_item {t : Nat → Nat} {e : Nat} {Ns Nf : List (List Nat)} (he : e ≤ 300) : ∀ (r d n : Nat), d + r = 3 → r < n → ∀ (k l a pt : Nat) (l5 : Option Value) (σx σm : am_M), SS t e σx σm Ns Nf k l d a → pt ≤ a → (tkd t e a = 0 → 0 < d) → (twi t e a = some 21 → d = 0) →
    BadI (e - a + 1) pt l5 (S_X11_readStep n [.ref 123, .int (nI d)] σm) d l k σx σm ∨ OkI t e Ns Nf r pt l5 (S_X11_readStep n [.ref 123, .int (nI d)] σm) d l k a σx σm := by
  intro r
  induction r with
  | zero =>
    intro d n hd hn k l a pt l5 σx σm hS hp h1 h2
    obtain ⟨m, rfl⟩ : ∃ m, n = m + 1 := ⟨n - 1, by omega⟩
    exact T_one (E := S_X11_readStep m) he hd (fun z => by omega) hS hp h1 h2
  | succ r ih =>
    intro d n hd hn k l a pt l5 σx σm hS hp h1 h2
    obtain ⟨m, rfl⟩ : ∃ m, n = m + 1 := ⟨n - 1, by omega⟩
    refine T_one (E := S_X11_readStep m) he hd (fun _ k l a pt l5 σx σm hS hp h => ?_) hS hp h1 h2
    exact ih (d + 1) m (by omega) (by omega) k l a pt l5 σx σm hS hp (fun _ => by omega) (fun z => absurd z h)
