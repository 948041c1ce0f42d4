/-! a suit is told -/
theorem uI_cm (σ : am_M) (h : Nat) {k l : Nat} (x y : Int32) (hkl : k ≠ l) : am_uI (am_uI σ h k x) h l y = am_uI (am_uI σ h l y) h k x := by
  simp only [uI_uA, uA_s, uA_uA]
  congr 1
  funext j
  by_cases e1 : j = l
  · subst e1; rw [up_s, up_n (fun z => hkl z.symm), up_s]
  · rw [up_n e1]
    by_cases e2 : j = k
    · subst e2; rw [up_s, up_s]
    · rw [up_n e2, up_n e2, up_n e1]
theorem X_addSuit {σ : am_M} {n : Nat} {w : Int64} (h7 : σ.1 27 7 = nI n) (hn : n < 4) : S_X8_addSuit [.ref 26, .long w] σ = some (none, am_uI (am_uL σ 36 n w) 27 7 (nI (n + 1))) := by
  have h7' : (am_uL σ 36 n w).1 27 7 = nI n := h7
  simp (disch := omega) only [g_X8_addSuit, ↓e_X8_addSuit_0, ↓e_X8_addSuit_37, ↓it_s, ↓y_iload, ↓y_lload, ↓y_aload, ↓y_istore, ↓y_lstore, ↓y_astore, ↓y_iinc, ↓y_cI, ↓y_cL, ↓y_bin, ↓y_binL, ↓y_div, ↓y_divL, ↓y_lshl, ↓y_un, ↓y_i2l, ↓y_lneg, ↓y_l2i, ↓y_lcmp, ↓y_dupI, ↓y_dupR, ↓y_dup2, ↓y_pop, ↓y_goto, ↓y_eq0, ↓y_lt0, ↓y_le0, ↓y_eq, ↓y_lt, ↓y_le, ↓y_switch, ↓y_sw0, ↓y_sw1, ↓y_getI, ↓y_getL, ↓y_getR, ↓y_getT, ↓y_putI, ↓y_putZ, ↓y_putL, ↓y_putT, ↓y_iald, ↓y_bald, ↓y_lald, ↓y_aald, ↓y_iast, ↓y_bast, ↓y_last, ↓y_alen, ↓y_iret, ↓y_zret, ↓y_lret, ↓y_vret, ↓y_svI, ↓y_svL, ↓y_svV, ↓y_ivI, ↓y_ivL, ↓y_ivV, ↓y_max, ↓y_min, ↓y_absL, ↓y_cpI, ↓y_cpL, ↓x_n1I, ↓x_n1L, ↓x_n1R, ↓x_n0I, ↓x_n0L, ↓x_n0R, ↓x_s0, ↓x_s1i, ↓x_s1r, ↓x_s1n, ↓x_s2, ↓x_c0, ↓x_c2, ↓x_tk0, ↓x_tk1, ↓x_rcv, x_rI1, x_rL1, x_rV1, x_rIn, x_rLn, x_rVn, x_rIf, x_rLf, x_rVf, x_40, x_41, x_42, x_43, x_44, ↓reduceIte, if_true, if_false, ao_iadd, ao_isub, ao_imul, ao_iand, ao_ior, ao_ishl, ao_ishr, ao_iushr, ao_ladd, ao_lsub, ao_lmul, ao_land, ao_lor, ao_idiv, ao_irem, ao_ldiv, ao_lrem, ao_ineg, ao_i2b, ao_i2s, Nat.reduceAdd, Nat.reduceMul, Nat.reduceSub, Nat.reduceEqDiff, Nat.reduceLeDiff, and_self, true_and, x_lit, x_ofn, x_z0, x_z1, x_inbT, x_ltT, x_ltF, x_leT, x_leF, x_eqF, x_eqT, x_inb, x_lt, x_le, x_eq, x_cl, x_sub, nI_add, pk_mul, x_m1e, x_m1e', x_m1l, x_m1n, x_m1s, Nat.not_lt_zero, x_zb, x_b0, x_b1, decide_eq_false_iff_not, decide_eq_true_eq, Bool.false_eq_true, Bool.true_eq_false, h7, h7', kd_26, kd_27, kd_36, ln_36]
theorem nm_app {Ns : List (List Nat)} {r : List Nat} {i : Nat} {s : List Nat} (h : (Ns ++ [r])[i]? = some s) : (i < Ns.length ∧ Ns[i]? = some s) ∨ (i = Ns.length ∧ s = r) := by
  by_cases hi : i < Ns.length
  · rw [List.getElem?_append_left hi] at h
    exact Or.inl ⟨hi, h⟩
  · rw [List.getElem?_append_right (by omega)] at h
    have := (List.getElem?_eq_some_iff.mp h).1
    simp at this
    have e0 : i - Ns.length = 0 := by omega
    rw [e0] at h
    exact Or.inr ⟨by omega, (Option.some.inj h).symm⟩
theorem PS_suit {t : Nat → Nat} {e : Nat} {σx σm : am_M} {V : Vt} {Ns Nf : List (List Nat)} {rT lT dT cT : Bool} {X a R : Nat} {r : List Nat} (h : PS t e σx σm V Ns Nf rT lT dT cT X a) (hn : Ns.length < 4) (hr : okL r) (hr8 : r.length ≤ 8) (hR : R < 16) :
    PS t e (am_uI (am_uI (am_uL σx 36 Ns.length (lN (keyR 27 r))) 27 7 (nI (Ns.length + 1))) 27 8 (nI R)) (am_uI (am_uI (am_uL σm 131 (40 + Ns.length) (lN (keyR 32 r))) 128 1775 (nI R)) 128 1769 (nI (Ns.length + 1))) (vuN (vuN V 1 (Ns.length + 1)) 7 R) (Ns ++ [r]) Nf rT lT dT cT X a := by
  obtain ⟨⟨a1, a2, a3⟩, ⟨b1, b2', b3, b4, b5, b6, b7, b8⟩, ⟨c1, c2, c3, c4, c5, c6, c7, c8⟩, d, ⟨e1, e2, e3, e4, e5⟩, ⟨f1, f2, f3, f4⟩⟩ := h
  obtain ⟨n, en⟩ : ∃ n, n = Ns.length := ⟨_, rfl⟩
  rw [← en] at hn b1 ⊢
  have hV0 : VG (am_uL σx 36 n (lN (keyR 27 r))) 26 V := VG_fr a1 (fun j p q => rfl)
  have hV1 := VG_num (w := 1) (x := n + 1) hV0 (by omega)
  have hV2 := VG_num (w := 7) (x := R) hV1 (by omega)
  have q1 : fwN 1 = 7 := rfl
  have q7 : fwN 7 = 8 := rfl
  rw [q1, q7] at hV2
  have hM0 : MC ((am_uL σm 131 (40 + n) (lN (keyR 32 r))).1 128) 1768 V := a3
  have hM1 := MC_uN (k := 1) (x := n + 1) hM0 (by omega) (by omega)
  have hM2 := MC_uN (k := 7) (x := R) hM1 (by omega) (by omega)
  obtain ⟨w0, w1, w2, w3, w4, w5, w6, w7⟩ := a2.1
  have hm6 : ∀ i, (am_uI (am_uI (am_uL σm 131 (40 + n) (lN (keyR 32 r))) 128 1775 (nI R)) 128 1769 (nI (n + 1))).1 123 i = σm.1 123 i := fun i => by rw [uI_n (by omega), uI_n (by omega)]; rfl
  have hx6 : ∀ i, (am_uI (am_uI (am_uL σx 36 n (lN (keyR 27 r))) 27 7 (nI (n + 1))) 27 8 (nI R)).1 6 i = σx.1 6 i := fun i => by rw [uI_n (by omega), uI_n (by omega)]; rfl
  refine ⟨⟨hV2, ⟨⟨w0, by show n + 1 ≤ 4; omega, w2, w3, w4, w5, w6, hR⟩, WC_uN (WC_uN a2.2.1 (by omega)) (by omega), ?_⟩, ?_⟩, ⟨?_, ?_, ?_, b4, ?_, ?_, ?_, ?_⟩, ⟨by rw [hx6]; exact c1, by rw [hx6]; exact c2, by rw [hx6]; exact c3, by rw [hx6]; exact c4, by rw [hx6]; exact c5, by rw [hm6]; exact c6, by rw [hm6]; exact c7, by rw [hm6]; exact c8⟩, d, ⟨?_, ?_, ?_, e4, by rw [hm6]; exact e5⟩, ⟨?_, ?_, ?_, ?_⟩⟩
  · intro f hf
    have := a2.2.2 f hf
    exact ⟨⟨by show vF V 0 f < n + 1; omega, this.1.2⟩, this.2⟩
  · rw [uI_cm _ _ _ _ (by omega), uI_s, uI_s]
    exact hM2
  · rw [List.length_append, ← en]; rfl
  · rw [vuN_n (by omega), vuN_n (by omega)]; exact b2'
  · intro s hs
    rcases List.mem_append.mp hs with z | z
    · exact b3 s z
    · have : s = r := by simpa using z
      subst this; exact ⟨hr, hr8⟩
  · intro i s hs
    rw [uI_2, uI_2, uL_s]
    rcases nm_app hs with ⟨z1, z2⟩ | ⟨z1, z2⟩
    · rw [up_n (by omega)]; exact b5 i s z2
    · rw [z1, z2, ← en, up_s]
  · intro i s hs
    rw [uI_2, uI_2, uL_n (by omega)]; exact b6 i s hs
  · intro i s hs
    rw [uI_2, uI_2, uL_s]
    rcases nm_app hs with ⟨z1, z2⟩ | ⟨z1, z2⟩
    · rw [up_n (by omega)]; exact b7 i s z2
    · rw [z1, z2, ← en, up_s]
  · intro i s hs
    rw [uI_2, uI_2, uL_s, up_n (by omega)]; exact b8 i s hs
  · obtain ⟨x1, x2, x3, x4, x5, x6⟩ := e1
    refine TX_uI (TX_uI ⟨x1, x2, x3, x4, x5, fun i hi => ?_⟩ (by omega) (by omega)) (by omega) (by omega)
    rw [uL_n (by omega)]; exact x6 i hi
  · exact TM_uo (TM_uo e2 (by omega) (by omega)) (by omega) (by omega)
  · exact TokM_uo (TokM_uo (TokM_uL e3 (by omega)) (by omega)) (by omega)
  · rw [uI_s, up_n (by omega), uI_s, up_n (by omega)]; exact f1
  · rw [uI_n (by omega), uI_n (by omega)]; exact f2
  · rw [uI_s, up_n (by omega), uI_s, up_n (by omega)]; exact f3
  · refine ⟨by rw [vuN_n (by omega), vuN_n (by omega)]; exact f4.1, fun f p q => ?_⟩
    rw [vuN_n (by omega), vuN_n (by omega)] at p
    rw [uI_s, up_n (by omega), uI_s, up_n (by omega)]
    exact f4.2 f p q
theorem M_part1 {t : Nat → Nat} {e a : Nat} {σ τ : am_M} (hae : a ≤ e) (h : TokM t e a σ) (hw : twi t e a = some 1) (hr : S_X11_readSuit [.ref 123] σ = some (none, τ)) : S_X11_readPart [.ref 123] σ = some (none, τ) := by
  have w0 := M_isRanks hae h
  have w3 := M_isLaw hae h
  have w4 := M_isRedeals hae h
  have w1 := M_isSuit hae h
  rw [hw] at w0 w3 w4 w1
  simp (disch := omega) only [g_X11_readPart, ↓e_X11_readPart_0, ↓e_X11_readPart_19, ↓e_X11_readPart_37, ↓e_X11_readPart_56, ↓e_X11_readPart_116, ↓it_s, ↓y_iload, ↓y_lload, ↓y_aload, ↓y_istore, ↓y_lstore, ↓y_astore, ↓y_iinc, ↓y_cI, ↓y_cL, ↓y_bin, ↓y_binL, ↓y_div, ↓y_divL, ↓y_lshl, ↓y_un, ↓y_i2l, ↓y_lneg, ↓y_l2i, ↓y_lcmp, ↓y_dupI, ↓y_dupR, ↓y_dup2, ↓y_pop, ↓y_goto, ↓y_eq0, ↓y_lt0, ↓y_le0, ↓y_eq, ↓y_lt, ↓y_le, ↓y_switch, ↓y_sw0, ↓y_sw1, ↓y_getI, ↓y_getL, ↓y_getR, ↓y_getT, ↓y_putI, ↓y_putZ, ↓y_putL, ↓y_putT, ↓y_iald, ↓y_bald, ↓y_lald, ↓y_aald, ↓y_iast, ↓y_bast, ↓y_last, ↓y_alen, ↓y_iret, ↓y_zret, ↓y_lret, ↓y_vret, ↓y_svI, ↓y_svL, ↓y_svV, ↓y_ivI, ↓y_ivL, ↓y_ivV, ↓y_max, ↓y_min, ↓y_absL, ↓y_cpI, ↓y_cpL, ↓x_n1I, ↓x_n1L, ↓x_n1R, ↓x_n0I, ↓x_n0L, ↓x_n0R, ↓x_s0, ↓x_s1i, ↓x_s1r, ↓x_s1n, ↓x_s2, ↓x_c0, ↓x_c2, ↓x_tk0, ↓x_tk1, ↓x_rcv, x_rI1, x_rL1, x_rV1, x_rIn, x_rLn, x_rVn, x_rIf, x_rLf, x_rVf, x_40, x_41, x_42, x_43, x_44, ↓reduceIte, if_true, if_false, ao_iadd, ao_isub, ao_imul, ao_iand, ao_ior, ao_ishl, ao_ishr, ao_iushr, ao_ladd, ao_lsub, ao_lmul, ao_land, ao_lor, ao_idiv, ao_irem, ao_ldiv, ao_lrem, ao_ineg, ao_i2b, ao_i2s, Nat.reduceAdd, Nat.reduceMul, Nat.reduceSub, Nat.reduceEqDiff, Nat.reduceLeDiff, and_self, true_and, x_lit, x_ofn, x_z0, x_z1, x_inbT, x_ltT, x_ltF, x_leT, x_leF, x_eqF, x_eqT, x_inb, x_lt, x_le, x_eq, x_cl, x_sub, nI_add, pk_mul, x_m1e, x_m1e', x_m1l, x_m1n, x_m1s, Nat.not_lt_zero, x_zb, x_b0, x_b1, decide_eq_false_iff_not, decide_eq_true_eq, Bool.false_eq_true, Bool.true_eq_false, dsome, w0, w3, w4, w1, Nat.reduceEqDiff, decide_true, decide_false, b2_t, b2_f, hr, kd_123]
theorem M_suitBad {σ τ : am_M} {k : Nat} (hr : S_X11_readNew [.ref 123, .int (nI 0), .int (nI 4)] σ = some (some (.int (nI 0)), τ)) (h12 : τ.1 123 12 = nI k) (hk : 0 < k) (hk2 : k < 100) : S_X11_readSuit [.ref 123] σ = some (none, τ) := by
  simp (disch := omega) only [g_X11_readSuit, ↓e_X11_readSuit_0, ↓e_X11_readSuit_39, ↓e_X11_readSuit_58, ↓it_s, ↓y_iload, ↓y_lload, ↓y_aload, ↓y_istore, ↓y_lstore, ↓y_astore, ↓y_iinc, ↓y_cI, ↓y_cL, ↓y_bin, ↓y_binL, ↓y_div, ↓y_divL, ↓y_lshl, ↓y_un, ↓y_i2l, ↓y_lneg, ↓y_l2i, ↓y_lcmp, ↓y_dupI, ↓y_dupR, ↓y_dup2, ↓y_pop, ↓y_goto, ↓y_eq0, ↓y_lt0, ↓y_le0, ↓y_eq, ↓y_lt, ↓y_le, ↓y_switch, ↓y_sw0, ↓y_sw1, ↓y_getI, ↓y_getL, ↓y_getR, ↓y_getT, ↓y_putI, ↓y_putZ, ↓y_putL, ↓y_putT, ↓y_iald, ↓y_bald, ↓y_lald, ↓y_aald, ↓y_iast, ↓y_bast, ↓y_last, ↓y_alen, ↓y_iret, ↓y_zret, ↓y_lret, ↓y_vret, ↓y_svI, ↓y_svL, ↓y_svV, ↓y_ivI, ↓y_ivL, ↓y_ivV, ↓y_max, ↓y_min, ↓y_absL, ↓y_cpI, ↓y_cpL, ↓x_n1I, ↓x_n1L, ↓x_n1R, ↓x_n0I, ↓x_n0L, ↓x_n0R, ↓x_s0, ↓x_s1i, ↓x_s1r, ↓x_s1n, ↓x_s2, ↓x_c0, ↓x_c2, ↓x_tk0, ↓x_tk1, ↓x_rcv, x_rI1, x_rL1, x_rV1, x_rIn, x_rLn, x_rVn, x_rIf, x_rLf, x_rVf, x_40, x_41, x_42, x_43, x_44, ↓reduceIte, if_true, if_false, ao_iadd, ao_isub, ao_imul, ao_iand, ao_ior, ao_ishl, ao_ishr, ao_iushr, ao_ladd, ao_lsub, ao_lmul, ao_land, ao_lor, ao_idiv, ao_irem, ao_ldiv, ao_lrem, ao_ineg, ao_i2b, ao_i2s, Nat.reduceAdd, Nat.reduceMul, Nat.reduceSub, Nat.reduceEqDiff, Nat.reduceLeDiff, and_self, true_and, x_lit, x_ofn, x_z0, x_z1, x_inbT, x_ltT, x_ltF, x_leT, x_leF, x_eqF, x_eqT, x_inb, x_lt, x_le, x_eq, x_cl, x_sub, nI_add, pk_mul, x_m1e, x_m1e', x_m1l, x_m1n, x_m1s, Nat.not_lt_zero, x_zb, x_b0, x_b1, decide_eq_false_iff_not, decide_eq_true_eq, Bool.false_eq_true, Bool.true_eq_false, hr, h12, kd_123]
theorem tb16 : ∀ m, m < 16 → ∀ b, b < 4 → nI m ||| (nI 1 <<< (nI b &&& nI 31)) = nI (m ||| 2 ^ b) := by decide +kernel
theorem or16 : ∀ m, m < 16 → ∀ b, b < 4 → m ||| 2 ^ b < 16 := by decide
theorem P_suit {t : Nat → Nat} {e : Nat} {σx σm : am_M} {V : Vt} {Ns Nf : List (List Nat)} {rT lT dT cT : Bool} {X a : Nat} (h : PS t e σx σm V Ns Nf rT lT dT cT X a) (hx : TokX t e a σx) (hw : twi t e a = some 1) : POut t e σx σm (S_X9_takeSuit [.ref 6, .ref 3, .ref 26] σx) (bodyM σm) a := by
  have hP := h
  obtain ⟨⟨a1, a2, a3⟩, ⟨b1, b2', b3, b4, b5, b6, b7, b8⟩, ⟨c1, c2, c3, c4, c5, c6, c7, c8⟩, d, ⟨e1, e2, e3, e4, e5⟩, ⟨f1, f2, f3, f4⟩⟩ := h
  have h5 := hx.2.1
  have hk1 := tw_kd hw
  have hbe := (tq_le (t := t) e4).2
  have hgt := tq_gt e4 (show tkd t e a ≠ 0 by omega)
  have l1 : Ns.length ≤ 4 := by rw [b1]; exact a2.1.2.1
  have l5 : Nf.length ≤ 6 := by rw [b2']; exact a2.1.2.2.2.2.2.1
  have x7 : σx.1 27 7 = nI Ns.length := by rw [b1]; exact a1.1.2.1
  have x4 : σx.1 26 4 = nI Nf.length := by rw [b2']; exact a1.2.2.1
  have m1 : σm.1 128 1769 = nI Ns.length := by rw [b1]; exact a3.1 1 (by omega)
  have m5 : σm.1 128 1773 = nI Nf.length := by rw [b2']; exact a3.1 5 (by omega)
  obtain ⟨o1, o2, o3, o4⟩ := M_readNew (s := 0) (k := Ns.length) e2 e4 e3 e5 (by omega) m1 m5 l1 l5 b3 b4 b7 b8 (by rw [if_pos rfl])
  rw [if_pos rfl] at o1 o2 o3 o4
  obtain ⟨w1', w2', w3'⟩ := X_wantNewName (b := tq t e a) e1 hbe hx.1 x7 x4 l1 l5 b3 b4 b5 b6
  by_cases hn : Ns.length = 4
  · have hm := body_bad (M_part1 e4 e3 hw (M_suitBad (o1 hn) (bdM_12 _ _ _) (by omega) (by omega))) (bdM_12 _ _ _) (by omega) (by omega)
    have hbl := X_blame (k := 6) (σ := σx)
    rw [hn] at x7
    refine PO_bad (k := 6) (p := tp t e a) ?_ hm (by omega) (XF_bl (fR_rf _) h5) (fPm_rf _)
    simp (disch := omega) only [g_X9_takeSuit, ↓e_X9_takeSuit_0, ↓it_s, ↓y_iload, ↓y_lload, ↓y_aload, ↓y_istore, ↓y_lstore, ↓y_astore, ↓y_iinc, ↓y_cI, ↓y_cL, ↓y_bin, ↓y_binL, ↓y_div, ↓y_divL, ↓y_lshl, ↓y_un, ↓y_i2l, ↓y_lneg, ↓y_l2i, ↓y_lcmp, ↓y_dupI, ↓y_dupR, ↓y_dup2, ↓y_pop, ↓y_goto, ↓y_eq0, ↓y_lt0, ↓y_le0, ↓y_eq, ↓y_lt, ↓y_le, ↓y_switch, ↓y_sw0, ↓y_sw1, ↓y_getI, ↓y_getL, ↓y_getR, ↓y_getT, ↓y_putI, ↓y_putZ, ↓y_putL, ↓y_putT, ↓y_iald, ↓y_bald, ↓y_lald, ↓y_aald, ↓y_iast, ↓y_bast, ↓y_last, ↓y_alen, ↓y_iret, ↓y_zret, ↓y_lret, ↓y_vret, ↓y_svI, ↓y_svL, ↓y_svV, ↓y_ivI, ↓y_ivL, ↓y_ivV, ↓y_max, ↓y_min, ↓y_absL, ↓y_cpI, ↓y_cpL, ↓x_n1I, ↓x_n1L, ↓x_n1R, ↓x_n0I, ↓x_n0L, ↓x_n0R, ↓x_s0, ↓x_s1i, ↓x_s1r, ↓x_s1n, ↓x_s2, ↓x_c0, ↓x_c2, ↓x_tk0, ↓x_tk1, ↓x_rcv, x_rI1, x_rL1, x_rV1, x_rIn, x_rLn, x_rVn, x_rIf, x_rLf, x_rVf, x_40, x_41, x_42, x_43, x_44, ↓reduceIte, if_true, if_false, ao_iadd, ao_isub, ao_imul, ao_iand, ao_ior, ao_ishl, ao_ishr, ao_iushr, ao_ladd, ao_lsub, ao_lmul, ao_land, ao_lor, ao_idiv, ao_irem, ao_ldiv, ao_lrem, ao_ineg, ao_i2b, ao_i2s, Nat.reduceAdd, Nat.reduceMul, Nat.reduceSub, Nat.reduceEqDiff, Nat.reduceLeDiff, and_self, true_and, x_lit, x_ofn, x_z0, x_z1, x_inbT, x_ltT, x_ltF, x_leT, x_leF, x_eqF, x_eqT, x_inb, x_lt, x_le, x_eq, x_cl, x_sub, nI_add, pk_mul, x_m1e, x_m1e', x_m1l, x_m1n, x_m1s, Nat.not_lt_zero, x_zb, x_b0, x_b1, decide_eq_false_iff_not, decide_eq_true_eq, Bool.false_eq_true, Bool.true_eq_false, x7, hbl, kd_3, kd_6, kd_26, kd_27]
  have hn4 : Ns.length < 4 := by omega
  have hent : S_X9_takeSuit [.ref 6, .ref 3, .ref 26] σx = dn_X9_takeSuit_18 [some (.ref 6), some (.ref 3), some (.ref 26), none] [] σx := by
    simp (disch := omega) only [g_X9_takeSuit, ↓e_X9_takeSuit_0, ↓it_s, ↓y_iload, ↓y_lload, ↓y_aload, ↓y_istore, ↓y_lstore, ↓y_astore, ↓y_iinc, ↓y_cI, ↓y_cL, ↓y_bin, ↓y_binL, ↓y_div, ↓y_divL, ↓y_lshl, ↓y_un, ↓y_i2l, ↓y_lneg, ↓y_l2i, ↓y_lcmp, ↓y_dupI, ↓y_dupR, ↓y_dup2, ↓y_pop, ↓y_goto, ↓y_eq0, ↓y_lt0, ↓y_le0, ↓y_eq, ↓y_lt, ↓y_le, ↓y_switch, ↓y_sw0, ↓y_sw1, ↓y_getI, ↓y_getL, ↓y_getR, ↓y_getT, ↓y_putI, ↓y_putZ, ↓y_putL, ↓y_putT, ↓y_iald, ↓y_bald, ↓y_lald, ↓y_aald, ↓y_iast, ↓y_bast, ↓y_last, ↓y_alen, ↓y_iret, ↓y_zret, ↓y_lret, ↓y_vret, ↓y_svI, ↓y_svL, ↓y_svV, ↓y_ivI, ↓y_ivL, ↓y_ivV, ↓y_max, ↓y_min, ↓y_absL, ↓y_cpI, ↓y_cpL, ↓x_n1I, ↓x_n1L, ↓x_n1R, ↓x_n0I, ↓x_n0L, ↓x_n0R, ↓x_s0, ↓x_s1i, ↓x_s1r, ↓x_s1n, ↓x_s2, ↓x_c0, ↓x_c2, ↓x_tk0, ↓x_tk1, ↓x_rcv, x_rI1, x_rL1, x_rV1, x_rIn, x_rLn, x_rVn, x_rIf, x_rLf, x_rVf, x_40, x_41, x_42, x_43, x_44, ↓reduceIte, if_true, if_false, ao_iadd, ao_isub, ao_imul, ao_iand, ao_ior, ao_ishl, ao_ishr, ao_iushr, ao_ladd, ao_lsub, ao_lmul, ao_land, ao_lor, ao_idiv, ao_irem, ao_ldiv, ao_lrem, ao_ineg, ao_i2b, ao_i2s, Nat.reduceAdd, Nat.reduceMul, Nat.reduceSub, Nat.reduceEqDiff, Nat.reduceLeDiff, and_self, true_and, x_lit, x_ofn, x_z0, x_z1, x_inbT, x_ltT, x_ltF, x_leT, x_leF, x_eqF, x_eqT, x_inb, x_lt, x_le, x_eq, x_cl, x_sub, nI_add, pk_mul, x_m1e, x_m1e', x_m1l, x_m1n, x_m1s, Nat.not_lt_zero, x_zb, x_b0, x_b1, decide_eq_false_iff_not, decide_eq_true_eq, Bool.false_eq_true, Bool.true_eq_false, x7, kd_3, kd_6, kd_26, kd_27]
  cases hnm : isNm t e (tq t e a) with
  | false =>
    obtain ⟨τm, y1, y2, _⟩ := o2 hn4 hnm
    obtain ⟨τx, x1, x2⟩ := w1' hnm
    have hm := body_bad (M_part1 e4 e3 hw (M_suitBad y1 (bdM_12 _ _ _) (amk_12 t e _).1 (amk_12 t e _).2)) (bdM_12 _ _ _) (amk_12 t e _).1 (amk_12 t e _).2
    refine PO_bad ?_ hm (amk_12 t e _) x2 (fPm_T y2)
    rw [hent]
    simp (disch := omega) only [↓e_X9_takeSuit_18, ↓it_s, ↓y_iload, ↓y_lload, ↓y_aload, ↓y_istore, ↓y_lstore, ↓y_astore, ↓y_iinc, ↓y_cI, ↓y_cL, ↓y_bin, ↓y_binL, ↓y_div, ↓y_divL, ↓y_lshl, ↓y_un, ↓y_i2l, ↓y_lneg, ↓y_l2i, ↓y_lcmp, ↓y_dupI, ↓y_dupR, ↓y_dup2, ↓y_pop, ↓y_goto, ↓y_eq0, ↓y_lt0, ↓y_le0, ↓y_eq, ↓y_lt, ↓y_le, ↓y_switch, ↓y_sw0, ↓y_sw1, ↓y_getI, ↓y_getL, ↓y_getR, ↓y_getT, ↓y_putI, ↓y_putZ, ↓y_putL, ↓y_putT, ↓y_iald, ↓y_bald, ↓y_lald, ↓y_aald, ↓y_iast, ↓y_bast, ↓y_last, ↓y_alen, ↓y_iret, ↓y_zret, ↓y_lret, ↓y_vret, ↓y_svI, ↓y_svL, ↓y_svV, ↓y_ivI, ↓y_ivL, ↓y_ivV, ↓y_max, ↓y_min, ↓y_absL, ↓y_cpI, ↓y_cpL, ↓x_n1I, ↓x_n1L, ↓x_n1R, ↓x_n0I, ↓x_n0L, ↓x_n0R, ↓x_s0, ↓x_s1i, ↓x_s1r, ↓x_s1n, ↓x_s2, ↓x_c0, ↓x_c2, ↓x_tk0, ↓x_tk1, ↓x_rcv, x_rI1, x_rL1, x_rV1, x_rIn, x_rLn, x_rVn, x_rIf, x_rLf, x_rVf, x_40, x_41, x_42, x_43, x_44, ↓reduceIte, if_true, if_false, ao_iadd, ao_isub, ao_imul, ao_iand, ao_ior, ao_ishl, ao_ishr, ao_iushr, ao_ladd, ao_lsub, ao_lmul, ao_land, ao_lor, ao_idiv, ao_irem, ao_ldiv, ao_lrem, ao_ineg, ao_i2b, ao_i2s, Nat.reduceAdd, Nat.reduceMul, Nat.reduceSub, Nat.reduceEqDiff, Nat.reduceLeDiff, and_self, true_and, x_lit, x_ofn, x_z0, x_z1, x_inbT, x_ltT, x_ltF, x_leT, x_leF, x_eqF, x_eqT, x_inb, x_lt, x_le, x_eq, x_cl, x_sub, nI_add, pk_mul, x_m1e, x_m1e', x_m1l, x_m1n, x_m1s, Nat.not_lt_zero, x_zb, x_b0, x_b1, decide_eq_false_iff_not, decide_eq_true_eq, Bool.false_eq_true, Bool.true_eq_false, x1, kd_3, kd_6]
  | true =>
    cases htk : tkn Ns Nf (twd t e (tq t e a)) with
    | true =>
      obtain ⟨τm, y1, y2, _⟩ := o3 hn4 hnm htk
      obtain ⟨τx, x1, x2⟩ := w2' hnm htk
      have hm := body_bad (M_part1 e4 e3 hw (M_suitBad y1 (bdM_12 _ _ _) (by omega) (by omega))) (bdM_12 _ _ _) (by omega) (by omega)
      refine PO_bad ?_ hm (by omega) x2 (fPm_T y2)
      rw [hent]
      simp (disch := omega) only [↓e_X9_takeSuit_18, ↓it_s, ↓y_iload, ↓y_lload, ↓y_aload, ↓y_istore, ↓y_lstore, ↓y_astore, ↓y_iinc, ↓y_cI, ↓y_cL, ↓y_bin, ↓y_binL, ↓y_div, ↓y_divL, ↓y_lshl, ↓y_un, ↓y_i2l, ↓y_lneg, ↓y_l2i, ↓y_lcmp, ↓y_dupI, ↓y_dupR, ↓y_dup2, ↓y_pop, ↓y_goto, ↓y_eq0, ↓y_lt0, ↓y_le0, ↓y_eq, ↓y_lt, ↓y_le, ↓y_switch, ↓y_sw0, ↓y_sw1, ↓y_getI, ↓y_getL, ↓y_getR, ↓y_getT, ↓y_putI, ↓y_putZ, ↓y_putL, ↓y_putT, ↓y_iald, ↓y_bald, ↓y_lald, ↓y_aald, ↓y_iast, ↓y_bast, ↓y_last, ↓y_alen, ↓y_iret, ↓y_zret, ↓y_lret, ↓y_vret, ↓y_svI, ↓y_svL, ↓y_svV, ↓y_ivI, ↓y_ivL, ↓y_ivV, ↓y_max, ↓y_min, ↓y_absL, ↓y_cpI, ↓y_cpL, ↓x_n1I, ↓x_n1L, ↓x_n1R, ↓x_n0I, ↓x_n0L, ↓x_n0R, ↓x_s0, ↓x_s1i, ↓x_s1r, ↓x_s1n, ↓x_s2, ↓x_c0, ↓x_c2, ↓x_tk0, ↓x_tk1, ↓x_rcv, x_rI1, x_rL1, x_rV1, x_rIn, x_rLn, x_rVn, x_rIf, x_rLf, x_rVf, x_40, x_41, x_42, x_43, x_44, ↓reduceIte, if_true, if_false, ao_iadd, ao_isub, ao_imul, ao_iand, ao_ior, ao_ishl, ao_ishr, ao_iushr, ao_ladd, ao_lsub, ao_lmul, ao_land, ao_lor, ao_idiv, ao_irem, ao_ldiv, ao_lrem, ao_ineg, ao_i2b, ao_i2s, Nat.reduceAdd, Nat.reduceMul, Nat.reduceSub, Nat.reduceEqDiff, Nat.reduceLeDiff, and_self, true_and, x_lit, x_ofn, x_z0, x_z1, x_inbT, x_ltT, x_ltF, x_leT, x_leF, x_eqF, x_eqT, x_inb, x_lt, x_le, x_eq, x_cl, x_sub, nI_add, pk_mul, x_m1e, x_m1e', x_m1l, x_m1n, x_m1s, Nat.not_lt_zero, x_zb, x_b0, x_b1, decide_eq_false_iff_not, decide_eq_true_eq, Bool.false_eq_true, Bool.true_eq_false, x1, kd_3, kd_6]
    | false =>
      obtain ⟨τm, y1, y2, y3⟩ := o4 hn4 hnm htk
      obtain ⟨τx, x1, x2, x3⟩ := w3' hnm htk
      obtain ⟨b, eb⟩ : ∃ b, b = tq t e a := ⟨_, rfl⟩
      rw [← eb] at hbe hgt hnm htk y2 y3 x2
      obtain ⟨n, en⟩ : ∃ n, n = Ns.length := ⟨_, rfl⟩
      rw [← en] at hn4 x7 m1 y1 y3
      have e40 : 40 + 4 * 0 + n = 40 + n := by omega
      rw [e40] at y3
      obtain ⟨z1, z2, z3, z4⟩ := isNm_ok hbe hnm
      have hce := (tq_le (t := t) hbe).2
      have hgt2 := tq_gt hbe (show tkd t e b ≠ 0 by omega)
      have h7 := (x2.2.2.2.2.2 z1).2
      have x7' : τx.1 27 7 = nI n := by rw [(x3.1 27 (by omega)).1]; exact x7
      have hadd := X_addSuit (w := lN (keyR 27 (twd t e b))) x7' hn4
      obtain ⟨ρ1, er1⟩ : ∃ s, s = am_uI (am_uL τx 36 n (lN (keyR 27 (twd t e b)))) 27 7 (nI (n + 1)) := ⟨_, rfl⟩
      rw [← er1] at hadd
      have hT1 : TX ρ1 t e := by
        obtain ⟨q1, q2, q3, q4, q5, q6⟩ := TX_fr e1 x3
        rw [er1]
        refine TX_uI ⟨q1, q2, q3, q4, q5, fun i hi => ?_⟩ (by omega) (by omega)
        rw [uL_n (by omega)]; exact q6 i hi
      have h31 : ρ1.1 3 3 = nI (tq t e b) := by rw [er1, uI_n (by omega)]; exact x2.1
      obtain ⟨s1, s0⟩ := X_step hT1 hce h31
      obtain ⟨c, ec⟩ : ∃ c, c = tq t e b := ⟨_, rfl⟩
      rw [← ec] at hce hgt2 y2 h31 s1 s0
      have hcl : S_X9_takeSuit [.ref 6, .ref 3, .ref 26] σx = dn_X9_takeSuit_29 [some (.ref 6), some (.ref 3), some (.ref 26), none] [] τx := by
        rw [hent]
        simp (disch := omega) only [↓e_X9_takeSuit_18, ↓it_s, ↓y_iload, ↓y_lload, ↓y_aload, ↓y_istore, ↓y_lstore, ↓y_astore, ↓y_iinc, ↓y_cI, ↓y_cL, ↓y_bin, ↓y_binL, ↓y_div, ↓y_divL, ↓y_lshl, ↓y_un, ↓y_i2l, ↓y_lneg, ↓y_l2i, ↓y_lcmp, ↓y_dupI, ↓y_dupR, ↓y_dup2, ↓y_pop, ↓y_goto, ↓y_eq0, ↓y_lt0, ↓y_le0, ↓y_eq, ↓y_lt, ↓y_le, ↓y_switch, ↓y_sw0, ↓y_sw1, ↓y_getI, ↓y_getL, ↓y_getR, ↓y_getT, ↓y_putI, ↓y_putZ, ↓y_putL, ↓y_putT, ↓y_iald, ↓y_bald, ↓y_lald, ↓y_aald, ↓y_iast, ↓y_bast, ↓y_last, ↓y_alen, ↓y_iret, ↓y_zret, ↓y_lret, ↓y_vret, ↓y_svI, ↓y_svL, ↓y_svV, ↓y_ivI, ↓y_ivL, ↓y_ivV, ↓y_max, ↓y_min, ↓y_absL, ↓y_cpI, ↓y_cpL, ↓x_n1I, ↓x_n1L, ↓x_n1R, ↓x_n0I, ↓x_n0L, ↓x_n0R, ↓x_s0, ↓x_s1i, ↓x_s1r, ↓x_s1n, ↓x_s2, ↓x_c0, ↓x_c2, ↓x_tk0, ↓x_tk1, ↓x_rcv, x_rI1, x_rL1, x_rV1, x_rIn, x_rLn, x_rVn, x_rIf, x_rLf, x_rVf, x_40, x_41, x_42, x_43, x_44, ↓reduceIte, if_true, if_false, ao_iadd, ao_isub, ao_imul, ao_iand, ao_ior, ao_ishl, ao_ishr, ao_iushr, ao_ladd, ao_lsub, ao_lmul, ao_land, ao_lor, ao_idiv, ao_irem, ao_ldiv, ao_lrem, ao_ineg, ao_i2b, ao_i2s, Nat.reduceAdd, Nat.reduceMul, Nat.reduceSub, Nat.reduceEqDiff, Nat.reduceLeDiff, and_self, true_and, x_lit, x_ofn, x_z0, x_z1, x_inbT, x_ltT, x_ltF, x_leT, x_leF, x_eqF, x_eqT, x_inb, x_lt, x_le, x_eq, x_cl, x_sub, nI_add, pk_mul, x_m1e, x_m1e', x_m1l, x_m1n, x_m1s, Nat.not_lt_zero, x_zb, x_b0, x_b1, decide_eq_false_iff_not, decide_eq_true_eq, Bool.false_eq_true, Bool.true_eq_false, x1, kd_3, kd_6]
      have hk2 : TokM t e c τm := y2
      have h12τ : τm.1 123 12 = nI 0 := by rw [y3.2.1 12 (by omega)]; exact e5
      have m1τ : τm.1 128 1769 = nI n := by rw [(y3.1 128 (by omega)).1]; exact m1
      have m7τ : τm.1 128 1775 = nI (vN V 7) := by rw [(y3.1 128 (by omega)).1]; exact a3.1 7 (by omega)
      have hTm : TM τm t e := TM_fr (show TM (am_uL σm 131 (40 + n) (lN (keyR 32 (twd t e b)))) t e from e2) y3
      have wr := M_isRed hce hk2
      have hxf1 : fPx σx ρ1 := by rw [er1]; exact fPx_uI (fPx_uL (fPx_R x3) (by omega)) (by omega)
      have hmf1 : fPm σm τm := fPm_tr (fPm_uw (k := 40 + n) (v := lN (keyR 32 (twd t e b))) (fPm_rf σm) (by omega)) (fPm_T y3)
      obtain ⟨w0, w1, w2, w3, w4, w5, w6, w7⟩ := a2.1
      by_cases hred : twi t e c = some 2
      · -- red
        have hkc := tw_kd hred
        rw [hred] at wr
        obtain ⟨ρ2, u1, u2, u3⟩ := s1 (by omega)
        obtain ⟨τm2, v1, v2, v3⟩ := M_advance hTm (tq_le hce).2 hk2.2.1
        have hde := (tq_le (t := t) hce).2
        have hgt3 := tq_gt hce (show tkd t e c ≠ 0 by omega)
        have h122 : τm2.1 123 12 = nI 0 := by rw [v3.2.1 12 (by omega)]; exact h12τ
        have m12 : τm2.1 128 1769 = nI n := by rw [(v3.1 128 (by omega)).1]; exact m1τ
        have m72 : τm2.1 128 1775 = nI (vN V 7) := by rw [(v3.1 128 (by omega)).1]; exact m7τ
        have hor := tb16 (vN V 7) w7 n hn4
        have hor2 := or16 (vN V 7) w7 n hn4
        have hsu : S_X11_readSuit [.ref 123] σm = some (none, am_uI (am_uI τm2 128 1775 (nI (vN V 7 ||| 2 ^ n))) 128 1769 (nI (n + 1))) := by
          have m12' : (am_uI τm2 128 1775 (nI (vN V 7 ||| 2 ^ n))).1 128 1769 = nI n := by rw [uI_s, up_n (by omega)]; exact m12
          have h122' : (am_uI τm2 128 1775 (nI (vN V 7 ||| 2 ^ n))).1 123 12 = nI 0 := by rw [uI_n (by omega)]; exact h122
          simp (disch := omega) only [g_X11_readSuit, ↓e_X11_readSuit_0, ↓e_X11_readSuit_39, ↓e_X11_readSuit_58, ↓it_s, ↓y_iload, ↓y_lload, ↓y_aload, ↓y_istore, ↓y_lstore, ↓y_astore, ↓y_iinc, ↓y_cI, ↓y_cL, ↓y_bin, ↓y_binL, ↓y_div, ↓y_divL, ↓y_lshl, ↓y_un, ↓y_i2l, ↓y_lneg, ↓y_l2i, ↓y_lcmp, ↓y_dupI, ↓y_dupR, ↓y_dup2, ↓y_pop, ↓y_goto, ↓y_eq0, ↓y_lt0, ↓y_le0, ↓y_eq, ↓y_lt, ↓y_le, ↓y_switch, ↓y_sw0, ↓y_sw1, ↓y_getI, ↓y_getL, ↓y_getR, ↓y_getT, ↓y_putI, ↓y_putZ, ↓y_putL, ↓y_putT, ↓y_iald, ↓y_bald, ↓y_lald, ↓y_aald, ↓y_iast, ↓y_bast, ↓y_last, ↓y_alen, ↓y_iret, ↓y_zret, ↓y_lret, ↓y_vret, ↓y_svI, ↓y_svL, ↓y_svV, ↓y_ivI, ↓y_ivL, ↓y_ivV, ↓y_max, ↓y_min, ↓y_absL, ↓y_cpI, ↓y_cpL, ↓x_n1I, ↓x_n1L, ↓x_n1R, ↓x_n0I, ↓x_n0L, ↓x_n0R, ↓x_s0, ↓x_s1i, ↓x_s1r, ↓x_s1n, ↓x_s2, ↓x_c0, ↓x_c2, ↓x_tk0, ↓x_tk1, ↓x_rcv, x_rI1, x_rL1, x_rV1, x_rIn, x_rLn, x_rVn, x_rIf, x_rLf, x_rVf, x_40, x_41, x_42, x_43, x_44, ↓reduceIte, if_true, if_false, ao_iadd, ao_isub, ao_imul, ao_iand, ao_ior, ao_ishl, ao_ishr, ao_iushr, ao_ladd, ao_lsub, ao_lmul, ao_land, ao_lor, ao_idiv, ao_irem, ao_ldiv, ao_lrem, ao_ineg, ao_i2b, ao_i2s, Nat.reduceAdd, Nat.reduceMul, Nat.reduceSub, Nat.reduceEqDiff, Nat.reduceLeDiff, and_self, true_and, x_lit, x_ofn, x_z0, x_z1, x_inbT, x_ltT, x_ltF, x_leT, x_leF, x_eqF, x_eqT, x_inb, x_lt, x_le, x_eq, x_cl, x_sub, nI_add, pk_mul, x_m1e, x_m1e', x_m1l, x_m1n, x_m1s, Nat.not_lt_zero, x_zb, x_b0, x_b1, decide_eq_false_iff_not, decide_eq_true_eq, Bool.false_eq_true, Bool.true_eq_false, y1, h12τ, wr, dsome, Nat.reduceEqDiff, decide_true, b2_t, v1, m72, hor, h122', m12', kd_123, kd_128, ln_128]
        -- both sides with the new suit
        have hPs := PS_suit (R := vN V 7 ||| 2 ^ n) (r := twd t e b) hP (by omega) z2 z3 hor2
        rw [← en] at hPs
        have hfx : fR (am_uI (am_uI (am_uL σx 36 n (lN (keyR 27 (twd t e b)))) 27 7 (nI (n + 1))) 27 8 (nI (vN V 7 ||| 2 ^ n))) (am_uI ρ2 27 8 (nI (vN V 7 ||| 2 ^ n))) := by
          refine fR_lift (fR_tr ?_ u3) (by omega)
          rw [er1]
          refine fR_lift ?_ (by omega)
          refine ⟨fun j hj => ⟨(x3.1 j hj).1, ?_⟩, x3.2⟩
          by_cases q : j = 36
          · subst q; rw [uL_s, uL_s, (x3.1 36 hj).2]
          · rw [uL_n q, uL_n q]; exact (x3.1 j hj).2
        have hfm : fT (am_uI (am_uI (am_uL σm 131 (40 + n) (lN (keyR 32 (twd t e b)))) 128 1775 (nI (vN V 7 ||| 2 ^ n))) 128 1769 (nI (n + 1))) (am_uI (am_uI τm2 128 1775 (nI (vN V 7 ||| 2 ^ n))) 128 1769 (nI (n + 1))) := fT_lift (fT_lift (fT_tr y3 v3) (by omega)) (by omega)
        have hP3 := PS_tok hPs hfx hfm (TokM_uo (TokM_uo v2 (by omega)) (by omega)) hde
        have hrp := M_part1 e4 e3 hw hsu
        obtain ⟨g1, g0⟩ := body_sg hrp (PS_a hP3).2.1 hde (PS_a hP3).2.2.1 (PS_a hP3).2.2.2.2
        have h33 : (am_uI ρ2 27 8 (nI (vN V 7 ||| 2 ^ n))).1 3 3 = nI (tq t e c) := by rw [uI_n (by omega)]; exact u2.1
        obtain ⟨t1, t0⟩ := X_wantSign (c := 59) (PS_a hP3).1 hde h33 (by omega)
        have hxf2 : fPx σx (am_uI ρ2 27 8 (nI (vN V 7 ||| 2 ^ n))) := fPx_uI (fPx_tr hxf1 (fPx_R u3)) (by omega)
        have hmf2 : fPm σm (am_uI (am_uI τm2 128 1775 (nI (vN V 7 ||| 2 ^ n))) 128 1769 (nI (n + 1))) := fPm_uc (fPm_uc (fPm_tr hmf1 (fPm_T v3)) (by omega)) (by omega)
        have h9 := u2.2.2.2.1
        rw [hred] at h9
        have h9' : ρ2.1 3 9 = nI 2 := h9
        have hr8 : ρ2.1 27 8 = nI (vN V 7) := by rw [(u3.1 27 (by omega)).1, er1, uI_s, up_n (by omega)]; show τx.1 27 8 = _; rw [(x3.1 27 (by omega)).1]; exact a1.1.2.2.2.2.2
        cases hs : decide (tkd t e (tq t e c) = 3 ∧ tnum t e (tq t e c) = 59) with
        | false =>
          obtain ⟨ρx, r1, r2, r3, r4⟩ := t0 hs
          refine Or.inl ⟨ρx, _, amk t e (tq t e c), tp t e (tq t e c), ?_, g0 hs, (amk_12 t e _).1, (amk_12 t e _).2, r2, r3, bdM_12 _ _ _, bdM_13 _ _ _, fPx_tr hxf2 (fPx_B r4), fPm_bd hmf2⟩
          rw [hcl]
          simp (disch := omega) only [↓e_X9_takeSuit_29, ↓e_X9_takeSuit_54, ↓it_s, ↓y_iload, ↓y_lload, ↓y_aload, ↓y_istore, ↓y_lstore, ↓y_astore, ↓y_iinc, ↓y_cI, ↓y_cL, ↓y_bin, ↓y_binL, ↓y_div, ↓y_divL, ↓y_lshl, ↓y_un, ↓y_i2l, ↓y_lneg, ↓y_l2i, ↓y_lcmp, ↓y_dupI, ↓y_dupR, ↓y_dup2, ↓y_pop, ↓y_goto, ↓y_eq0, ↓y_lt0, ↓y_le0, ↓y_eq, ↓y_lt, ↓y_le, ↓y_switch, ↓y_sw0, ↓y_sw1, ↓y_getI, ↓y_getL, ↓y_getR, ↓y_getT, ↓y_putI, ↓y_putZ, ↓y_putL, ↓y_putT, ↓y_iald, ↓y_bald, ↓y_lald, ↓y_aald, ↓y_iast, ↓y_bast, ↓y_last, ↓y_alen, ↓y_iret, ↓y_zret, ↓y_lret, ↓y_vret, ↓y_svI, ↓y_svL, ↓y_svV, ↓y_ivI, ↓y_ivL, ↓y_ivV, ↓y_max, ↓y_min, ↓y_absL, ↓y_cpI, ↓y_cpL, ↓x_n1I, ↓x_n1L, ↓x_n1R, ↓x_n0I, ↓x_n0L, ↓x_n0R, ↓x_s0, ↓x_s1i, ↓x_s1r, ↓x_s1n, ↓x_s2, ↓x_c0, ↓x_c2, ↓x_tk0, ↓x_tk1, ↓x_rcv, x_rI1, x_rL1, x_rV1, x_rIn, x_rLn, x_rVn, x_rIf, x_rLf, x_rVf, x_40, x_41, x_42, x_43, x_44, ↓reduceIte, if_true, if_false, ao_iadd, ao_isub, ao_imul, ao_iand, ao_ior, ao_ishl, ao_ishr, ao_iushr, ao_ladd, ao_lsub, ao_lmul, ao_land, ao_lor, ao_idiv, ao_irem, ao_ldiv, ao_lrem, ao_ineg, ao_i2b, ao_i2s, Nat.reduceAdd, Nat.reduceMul, Nat.reduceSub, Nat.reduceEqDiff, Nat.reduceLeDiff, and_self, true_and, x_lit, x_ofn, x_z0, x_z1, x_inbT, x_ltT, x_ltF, x_leT, x_leF, x_eqF, x_eqT, x_inb, x_lt, x_le, x_eq, x_cl, x_sub, nI_add, pk_mul, x_m1e, x_m1e', x_m1l, x_m1n, x_m1s, Nat.not_lt_zero, x_zb, x_b0, x_b1, decide_eq_false_iff_not, decide_eq_true_eq, Bool.false_eq_true, Bool.true_eq_false, x7', h7, hadd, u1, h9', hr8, hor, r1, kd_3, kd_6, kd_26, kd_27]
        | true =>
          obtain ⟨ρx, r1, r2, r3⟩ := t1 hs
          obtain ⟨ρm, v4, v5, v6⟩ := g1 hs
          have hfe := (tq_le (t := t) hde).2
          have hgt4 := tq_gt hde (show tkd t e (tq t e c) ≠ 0 by have := (of_decide_eq_true hs).1; omega)
          refine Or.inr ⟨ρx, ρm, _, _, Nf, rT, lT, dT, cT, X, tq t e (tq t e c), ?_, v4, PS_tok hP3 r3 v6 v5 hfe, r2.1, by omega, ?_, ?_, fPx_tr hxf2 (fPx_R r3), fPm_tr hmf2 (fPm_T v6)⟩
          · rw [hcl]
            simp (disch := omega) only [↓e_X9_takeSuit_29, ↓e_X9_takeSuit_54, ↓it_s, ↓y_iload, ↓y_lload, ↓y_aload, ↓y_istore, ↓y_lstore, ↓y_astore, ↓y_iinc, ↓y_cI, ↓y_cL, ↓y_bin, ↓y_binL, ↓y_div, ↓y_divL, ↓y_lshl, ↓y_un, ↓y_i2l, ↓y_lneg, ↓y_l2i, ↓y_lcmp, ↓y_dupI, ↓y_dupR, ↓y_dup2, ↓y_pop, ↓y_goto, ↓y_eq0, ↓y_lt0, ↓y_le0, ↓y_eq, ↓y_lt, ↓y_le, ↓y_switch, ↓y_sw0, ↓y_sw1, ↓y_getI, ↓y_getL, ↓y_getR, ↓y_getT, ↓y_putI, ↓y_putZ, ↓y_putL, ↓y_putT, ↓y_iald, ↓y_bald, ↓y_lald, ↓y_aald, ↓y_iast, ↓y_bast, ↓y_last, ↓y_alen, ↓y_iret, ↓y_zret, ↓y_lret, ↓y_vret, ↓y_svI, ↓y_svL, ↓y_svV, ↓y_ivI, ↓y_ivL, ↓y_ivV, ↓y_max, ↓y_min, ↓y_absL, ↓y_cpI, ↓y_cpL, ↓x_n1I, ↓x_n1L, ↓x_n1R, ↓x_n0I, ↓x_n0L, ↓x_n0R, ↓x_s0, ↓x_s1i, ↓x_s1r, ↓x_s1n, ↓x_s2, ↓x_c0, ↓x_c2, ↓x_tk0, ↓x_tk1, ↓x_rcv, x_rI1, x_rL1, x_rV1, x_rIn, x_rLn, x_rVn, x_rIf, x_rLf, x_rVf, x_40, x_41, x_42, x_43, x_44, ↓reduceIte, if_true, if_false, ao_iadd, ao_isub, ao_imul, ao_iand, ao_ior, ao_ishl, ao_ishr, ao_iushr, ao_ladd, ao_lsub, ao_lmul, ao_land, ao_lor, ao_idiv, ao_irem, ao_ldiv, ao_lrem, ao_ineg, ao_i2b, ao_i2s, Nat.reduceAdd, Nat.reduceMul, Nat.reduceSub, Nat.reduceEqDiff, Nat.reduceLeDiff, and_self, true_and, x_lit, x_ofn, x_z0, x_z1, x_inbT, x_ltT, x_ltF, x_leT, x_leF, x_eqF, x_eqT, x_inb, x_lt, x_le, x_eq, x_cl, x_sub, nI_add, pk_mul, x_m1e, x_m1e', x_m1l, x_m1n, x_m1s, Nat.not_lt_zero, x_zb, x_b0, x_b1, decide_eq_false_iff_not, decide_eq_true_eq, Bool.false_eq_true, Bool.true_eq_false, x7', h7, hadd, u1, h9', hr8, hor, r1, kd_3, kd_6, kd_26, kd_27]
          · rw [r3.2 10 (by omega), uI_n (by omega), u3.2 10 (by omega), er1, uI_n (by omega)]; show τx.1 3 10 = _; rw [x3.2 10 (by omega)]
          · rw [r3.2 11 (by omega), uI_n (by omega), u3.2 11 (by omega), er1, uI_n (by omega)]; show τx.1 3 11 = _; rw [x3.2 11 (by omega)]
      · -- not red
        have hdr : decide (twi t e c = some 2) = false := decide_eq_false hred
        rw [hdr] at wr
        have hsu : S_X11_readSuit [.ref 123] σm = some (none, am_uI τm 128 1769 (nI (n + 1))) := by
          simp (disch := omega) only [g_X11_readSuit, ↓e_X11_readSuit_0, ↓e_X11_readSuit_39, ↓e_X11_readSuit_58, ↓it_s, ↓y_iload, ↓y_lload, ↓y_aload, ↓y_istore, ↓y_lstore, ↓y_astore, ↓y_iinc, ↓y_cI, ↓y_cL, ↓y_bin, ↓y_binL, ↓y_div, ↓y_divL, ↓y_lshl, ↓y_un, ↓y_i2l, ↓y_lneg, ↓y_l2i, ↓y_lcmp, ↓y_dupI, ↓y_dupR, ↓y_dup2, ↓y_pop, ↓y_goto, ↓y_eq0, ↓y_lt0, ↓y_le0, ↓y_eq, ↓y_lt, ↓y_le, ↓y_switch, ↓y_sw0, ↓y_sw1, ↓y_getI, ↓y_getL, ↓y_getR, ↓y_getT, ↓y_putI, ↓y_putZ, ↓y_putL, ↓y_putT, ↓y_iald, ↓y_bald, ↓y_lald, ↓y_aald, ↓y_iast, ↓y_bast, ↓y_last, ↓y_alen, ↓y_iret, ↓y_zret, ↓y_lret, ↓y_vret, ↓y_svI, ↓y_svL, ↓y_svV, ↓y_ivI, ↓y_ivL, ↓y_ivV, ↓y_max, ↓y_min, ↓y_absL, ↓y_cpI, ↓y_cpL, ↓x_n1I, ↓x_n1L, ↓x_n1R, ↓x_n0I, ↓x_n0L, ↓x_n0R, ↓x_s0, ↓x_s1i, ↓x_s1r, ↓x_s1n, ↓x_s2, ↓x_c0, ↓x_c2, ↓x_tk0, ↓x_tk1, ↓x_rcv, x_rI1, x_rL1, x_rV1, x_rIn, x_rLn, x_rVn, x_rIf, x_rLf, x_rVf, x_40, x_41, x_42, x_43, x_44, ↓reduceIte, if_true, if_false, ao_iadd, ao_isub, ao_imul, ao_iand, ao_ior, ao_ishl, ao_ishr, ao_iushr, ao_ladd, ao_lsub, ao_lmul, ao_land, ao_lor, ao_idiv, ao_irem, ao_ldiv, ao_lrem, ao_ineg, ao_i2b, ao_i2s, Nat.reduceAdd, Nat.reduceMul, Nat.reduceSub, Nat.reduceEqDiff, Nat.reduceLeDiff, and_self, true_and, x_lit, x_ofn, x_z0, x_z1, x_inbT, x_ltT, x_ltF, x_leT, x_leF, x_eqF, x_eqT, x_inb, x_lt, x_le, x_eq, x_cl, x_sub, nI_add, pk_mul, x_m1e, x_m1e', x_m1l, x_m1n, x_m1s, Nat.not_lt_zero, x_zb, x_b0, x_b1, decide_eq_false_iff_not, decide_eq_true_eq, Bool.false_eq_true, Bool.true_eq_false, y1, h12τ, wr, b2_f, m1τ, kd_123, kd_128, ln_128]
        have hPs := PS_suit (R := vN V 7) (r := twd t e b) hP (by omega) z2 z3 w7
        rw [← en] at hPs
        have hid1 : am_uI (am_uI (am_uL σx 36 n (lN (keyR 27 (twd t e b)))) 27 7 (nI (n + 1))) 27 8 (nI (vN V 7)) = am_uI (am_uL σx 36 n (lN (keyR 27 (twd t e b)))) 27 7 (nI (n + 1)) := uI_id (by rw [uI_s, up_n (by omega)]; exact a1.1.2.2.2.2.2)
        have hid2 : am_uI (am_uL σm 131 (40 + n) (lN (keyR 32 (twd t e b)))) 128 1775 (nI (vN V 7)) = am_uL σm 131 (40 + n) (lN (keyR 32 (twd t e b))) := uI_id (a3.1 7 (by omega))
        rw [hid1, hid2] at hPs
        have hfx : fR (am_uI (am_uL σx 36 n (lN (keyR 27 (twd t e b)))) 27 7 (nI (n + 1))) ρ1 := by
          rw [er1]
          refine fR_lift ?_ (by omega)
          refine ⟨fun j hj => ⟨(x3.1 j hj).1, ?_⟩, x3.2⟩
          by_cases q : j = 36
          · subst q; rw [uL_s, uL_s, (x3.1 36 hj).2]
          · rw [uL_n q, uL_n q]; exact (x3.1 j hj).2
        have hP3 := PS_tok hPs hfx (fT_lift y3 (by omega)) (TokM_uo hk2 (by omega)) hce
        have hrp := M_part1 e4 e3 hw hsu
        obtain ⟨g1, g0⟩ := body_sg hrp (PS_a hP3).2.1 hce (PS_a hP3).2.2.1 (PS_a hP3).2.2.2.2
        have hmf2 : fPm σm (am_uI τm 128 1769 (nI (n + 1))) := fPm_uc hmf1 (by omega)
        by_cases hk4 : tkd t e c = 4
        · obtain ⟨ρx, r1, r2, r3, r4⟩ := s0 hk4
          have hak : amk t e c = 1 := by unfold amk; rw [if_pos hk4]
          have hs : decide (tkd t e c = 3 ∧ tnum t e c = 59) = false := decide_eq_false (fun z => by omega)
          have g0' := g0 hs
          rw [hak] at g0'
          refine Or.inl ⟨ρx, _, 1, tp t e c, ?_, g0', by omega, by omega, r2, r3, bdM_12 _ _ _, bdM_13 _ _ _, fPx_tr hxf1 (fPx_B r4), fPm_bd hmf2⟩
          rw [hcl]
          simp (disch := omega) only [↓e_X9_takeSuit_29, ↓it_s, ↓y_iload, ↓y_lload, ↓y_aload, ↓y_istore, ↓y_lstore, ↓y_astore, ↓y_iinc, ↓y_cI, ↓y_cL, ↓y_bin, ↓y_binL, ↓y_div, ↓y_divL, ↓y_lshl, ↓y_un, ↓y_i2l, ↓y_lneg, ↓y_l2i, ↓y_lcmp, ↓y_dupI, ↓y_dupR, ↓y_dup2, ↓y_pop, ↓y_goto, ↓y_eq0, ↓y_lt0, ↓y_le0, ↓y_eq, ↓y_lt, ↓y_le, ↓y_switch, ↓y_sw0, ↓y_sw1, ↓y_getI, ↓y_getL, ↓y_getR, ↓y_getT, ↓y_putI, ↓y_putZ, ↓y_putL, ↓y_putT, ↓y_iald, ↓y_bald, ↓y_lald, ↓y_aald, ↓y_iast, ↓y_bast, ↓y_last, ↓y_alen, ↓y_iret, ↓y_zret, ↓y_lret, ↓y_vret, ↓y_svI, ↓y_svL, ↓y_svV, ↓y_ivI, ↓y_ivL, ↓y_ivV, ↓y_max, ↓y_min, ↓y_absL, ↓y_cpI, ↓y_cpL, ↓x_n1I, ↓x_n1L, ↓x_n1R, ↓x_n0I, ↓x_n0L, ↓x_n0R, ↓x_s0, ↓x_s1i, ↓x_s1r, ↓x_s1n, ↓x_s2, ↓x_c0, ↓x_c2, ↓x_tk0, ↓x_tk1, ↓x_rcv, x_rI1, x_rL1, x_rV1, x_rIn, x_rLn, x_rVn, x_rIf, x_rLf, x_rVf, x_40, x_41, x_42, x_43, x_44, ↓reduceIte, if_true, if_false, ao_iadd, ao_isub, ao_imul, ao_iand, ao_ior, ao_ishl, ao_ishr, ao_iushr, ao_ladd, ao_lsub, ao_lmul, ao_land, ao_lor, ao_idiv, ao_irem, ao_ldiv, ao_lrem, ao_ineg, ao_i2b, ao_i2s, Nat.reduceAdd, Nat.reduceMul, Nat.reduceSub, Nat.reduceEqDiff, Nat.reduceLeDiff, and_self, true_and, x_lit, x_ofn, x_z0, x_z1, x_inbT, x_ltT, x_ltF, x_leT, x_leF, x_eqF, x_eqT, x_inb, x_lt, x_le, x_eq, x_cl, x_sub, nI_add, pk_mul, x_m1e, x_m1e', x_m1l, x_m1n, x_m1s, Nat.not_lt_zero, x_zb, x_b0, x_b1, decide_eq_false_iff_not, decide_eq_true_eq, Bool.false_eq_true, Bool.true_eq_false, x7', h7, hadd, r1, kd_3, kd_6, kd_26, kd_27]
        · obtain ⟨ρ2, u1, u2, u3⟩ := s1 hk4
          have ws := X_isSign (c := 59) u2 (by omega) e1.2.2.2.1
          have h9 := u2.2.2.2.1
          have h84 : dn_X9_takeSuit_29 [some (.ref 6), some (.ref 3), some (.ref 26), none] [] τx = dn_X9_takeSuit_84 [some (.ref 6), some (.ref 3), some (.ref 26), some (.int (nI n))] [] ρ2 := by
            cases ho : twi t e c with
            | none =>
              rw [ho] at h9
              have h9' : ρ2.1 3 9 = -nI 1 := h9
              simp (disch := omega) only [↓e_X9_takeSuit_29, ↓e_X9_takeSuit_54, ↓it_s, ↓y_iload, ↓y_lload, ↓y_aload, ↓y_istore, ↓y_lstore, ↓y_astore, ↓y_iinc, ↓y_cI, ↓y_cL, ↓y_bin, ↓y_binL, ↓y_div, ↓y_divL, ↓y_lshl, ↓y_un, ↓y_i2l, ↓y_lneg, ↓y_l2i, ↓y_lcmp, ↓y_dupI, ↓y_dupR, ↓y_dup2, ↓y_pop, ↓y_goto, ↓y_eq0, ↓y_lt0, ↓y_le0, ↓y_eq, ↓y_lt, ↓y_le, ↓y_switch, ↓y_sw0, ↓y_sw1, ↓y_getI, ↓y_getL, ↓y_getR, ↓y_getT, ↓y_putI, ↓y_putZ, ↓y_putL, ↓y_putT, ↓y_iald, ↓y_bald, ↓y_lald, ↓y_aald, ↓y_iast, ↓y_bast, ↓y_last, ↓y_alen, ↓y_iret, ↓y_zret, ↓y_lret, ↓y_vret, ↓y_svI, ↓y_svL, ↓y_svV, ↓y_ivI, ↓y_ivL, ↓y_ivV, ↓y_max, ↓y_min, ↓y_absL, ↓y_cpI, ↓y_cpL, ↓x_n1I, ↓x_n1L, ↓x_n1R, ↓x_n0I, ↓x_n0L, ↓x_n0R, ↓x_s0, ↓x_s1i, ↓x_s1r, ↓x_s1n, ↓x_s2, ↓x_c0, ↓x_c2, ↓x_tk0, ↓x_tk1, ↓x_rcv, x_rI1, x_rL1, x_rV1, x_rIn, x_rLn, x_rVn, x_rIf, x_rLf, x_rVf, x_40, x_41, x_42, x_43, x_44, ↓reduceIte, if_true, if_false, ao_iadd, ao_isub, ao_imul, ao_iand, ao_ior, ao_ishl, ao_ishr, ao_iushr, ao_ladd, ao_lsub, ao_lmul, ao_land, ao_lor, ao_idiv, ao_irem, ao_ldiv, ao_lrem, ao_ineg, ao_i2b, ao_i2s, Nat.reduceAdd, Nat.reduceMul, Nat.reduceSub, Nat.reduceEqDiff, Nat.reduceLeDiff, and_self, true_and, x_lit, x_ofn, x_z0, x_z1, x_inbT, x_ltT, x_ltF, x_leT, x_leF, x_eqF, x_eqT, x_inb, x_lt, x_le, x_eq, x_cl, x_sub, nI_add, pk_mul, x_m1e, x_m1e', x_m1l, x_m1n, x_m1s, Nat.not_lt_zero, x_zb, x_b0, x_b1, decide_eq_false_iff_not, decide_eq_true_eq, Bool.false_eq_true, Bool.true_eq_false, x7', h7, hadd, u1, h9', kd_3, kd_6, kd_26, kd_27]
            | some j =>
              rw [ho] at h9
              have h9' : ρ2.1 3 9 = nI j := h9
              have hj := kwi_tw ho
              have hj2 : ¬ j = 2 := fun q => hred (by rw [ho, q])
              simp (disch := omega) only [↓e_X9_takeSuit_29, ↓e_X9_takeSuit_54, ↓it_s, ↓y_iload, ↓y_lload, ↓y_aload, ↓y_istore, ↓y_lstore, ↓y_astore, ↓y_iinc, ↓y_cI, ↓y_cL, ↓y_bin, ↓y_binL, ↓y_div, ↓y_divL, ↓y_lshl, ↓y_un, ↓y_i2l, ↓y_lneg, ↓y_l2i, ↓y_lcmp, ↓y_dupI, ↓y_dupR, ↓y_dup2, ↓y_pop, ↓y_goto, ↓y_eq0, ↓y_lt0, ↓y_le0, ↓y_eq, ↓y_lt, ↓y_le, ↓y_switch, ↓y_sw0, ↓y_sw1, ↓y_getI, ↓y_getL, ↓y_getR, ↓y_getT, ↓y_putI, ↓y_putZ, ↓y_putL, ↓y_putT, ↓y_iald, ↓y_bald, ↓y_lald, ↓y_aald, ↓y_iast, ↓y_bast, ↓y_last, ↓y_alen, ↓y_iret, ↓y_zret, ↓y_lret, ↓y_vret, ↓y_svI, ↓y_svL, ↓y_svV, ↓y_ivI, ↓y_ivL, ↓y_ivV, ↓y_max, ↓y_min, ↓y_absL, ↓y_cpI, ↓y_cpL, ↓x_n1I, ↓x_n1L, ↓x_n1R, ↓x_n0I, ↓x_n0L, ↓x_n0R, ↓x_s0, ↓x_s1i, ↓x_s1r, ↓x_s1n, ↓x_s2, ↓x_c0, ↓x_c2, ↓x_tk0, ↓x_tk1, ↓x_rcv, x_rI1, x_rL1, x_rV1, x_rIn, x_rLn, x_rVn, x_rIf, x_rLf, x_rVf, x_40, x_41, x_42, x_43, x_44, ↓reduceIte, if_true, if_false, ao_iadd, ao_isub, ao_imul, ao_iand, ao_ior, ao_ishl, ao_ishr, ao_iushr, ao_ladd, ao_lsub, ao_lmul, ao_land, ao_lor, ao_idiv, ao_irem, ao_ldiv, ao_lrem, ao_ineg, ao_i2b, ao_i2s, Nat.reduceAdd, Nat.reduceMul, Nat.reduceSub, Nat.reduceEqDiff, Nat.reduceLeDiff, and_self, true_and, x_lit, x_ofn, x_z0, x_z1, x_inbT, x_ltT, x_ltF, x_leT, x_leF, x_eqF, x_eqT, x_inb, x_lt, x_le, x_eq, x_cl, x_sub, nI_add, pk_mul, x_m1e, x_m1e', x_m1l, x_m1n, x_m1s, Nat.not_lt_zero, x_zb, x_b0, x_b1, decide_eq_false_iff_not, decide_eq_true_eq, Bool.false_eq_true, Bool.true_eq_false, x7', h7, hadd, u1, h9', kd_3, kd_6, kd_26, kd_27]
          cases hs : decide (tkd t e c = 3 ∧ tnum t e c = 59) with
          | false =>
            rw [hs] at ws
            have hak : amk t e c = 2 := by unfold amk; rw [if_neg hk4]
            have hbl := X_blame (k := 2) (σ := ρ2)
            obtain ⟨q1, q2, q3⟩ := XF_bl (k := 2) (p := tp t e c) u3 u2.2.1
            have g0' := g0 hs
            rw [hak] at g0'
            refine Or.inl ⟨_, _, 2, tp t e c, ?_, g0', by omega, by omega, q1, q2, bdM_12 _ _ _, bdM_13 _ _ _, fPx_tr hxf1 (fPx_B q3), fPm_bd hmf2⟩
            rw [hcl, h84]
            simp (disch := omega) only [↓e_X9_takeSuit_84, ↓e_X9_takeSuit_105, ↓e_X9_takeSuit_106, ↓it_s, ↓y_iload, ↓y_lload, ↓y_aload, ↓y_istore, ↓y_lstore, ↓y_astore, ↓y_iinc, ↓y_cI, ↓y_cL, ↓y_bin, ↓y_binL, ↓y_div, ↓y_divL, ↓y_lshl, ↓y_un, ↓y_i2l, ↓y_lneg, ↓y_l2i, ↓y_lcmp, ↓y_dupI, ↓y_dupR, ↓y_dup2, ↓y_pop, ↓y_goto, ↓y_eq0, ↓y_lt0, ↓y_le0, ↓y_eq, ↓y_lt, ↓y_le, ↓y_switch, ↓y_sw0, ↓y_sw1, ↓y_getI, ↓y_getL, ↓y_getR, ↓y_getT, ↓y_putI, ↓y_putZ, ↓y_putL, ↓y_putT, ↓y_iald, ↓y_bald, ↓y_lald, ↓y_aald, ↓y_iast, ↓y_bast, ↓y_last, ↓y_alen, ↓y_iret, ↓y_zret, ↓y_lret, ↓y_vret, ↓y_svI, ↓y_svL, ↓y_svV, ↓y_ivI, ↓y_ivL, ↓y_ivV, ↓y_max, ↓y_min, ↓y_absL, ↓y_cpI, ↓y_cpL, ↓x_n1I, ↓x_n1L, ↓x_n1R, ↓x_n0I, ↓x_n0L, ↓x_n0R, ↓x_s0, ↓x_s1i, ↓x_s1r, ↓x_s1n, ↓x_s2, ↓x_c0, ↓x_c2, ↓x_tk0, ↓x_tk1, ↓x_rcv, x_rI1, x_rL1, x_rV1, x_rIn, x_rLn, x_rVn, x_rIf, x_rLf, x_rVf, x_40, x_41, x_42, x_43, x_44, ↓reduceIte, if_true, if_false, ao_iadd, ao_isub, ao_imul, ao_iand, ao_ior, ao_ishl, ao_ishr, ao_iushr, ao_ladd, ao_lsub, ao_lmul, ao_land, ao_lor, ao_idiv, ao_irem, ao_ldiv, ao_lrem, ao_ineg, ao_i2b, ao_i2s, Nat.reduceAdd, Nat.reduceMul, Nat.reduceSub, Nat.reduceEqDiff, Nat.reduceLeDiff, and_self, true_and, x_lit, x_ofn, x_z0, x_z1, x_inbT, x_ltT, x_ltF, x_leT, x_leF, x_eqF, x_eqT, x_inb, x_lt, x_le, x_eq, x_cl, x_sub, nI_add, pk_mul, x_m1e, x_m1e', x_m1l, x_m1n, x_m1s, Nat.not_lt_zero, x_zb, x_b0, x_b1, decide_eq_false_iff_not, decide_eq_true_eq, Bool.false_eq_true, Bool.true_eq_false, ws, b2_f, hbl, kd_3, kd_6]
          | true =>
            rw [hs] at ws
            obtain ⟨ρm, v4, v5, v6⟩ := g1 hs
            have hfe := (tq_le (t := t) hce).2
            have hgt4 := tq_gt hce (show tkd t e c ≠ 0 by have := (of_decide_eq_true hs).1; omega)
            refine Or.inr ⟨ρ2, ρm, _, _, Nf, rT, lT, dT, cT, X, tq t e c, ?_, v4, PS_tok hP3 u3 v6 v5 hfe, u2.1, by omega, ?_, ?_, fPx_tr hxf1 (fPx_R u3), fPm_tr hmf2 (fPm_T v6)⟩
            · rw [hcl, h84]
              simp (disch := omega) only [↓e_X9_takeSuit_84, ↓e_X9_takeSuit_101, ↓e_X9_takeSuit_106, ↓it_s, ↓y_iload, ↓y_lload, ↓y_aload, ↓y_istore, ↓y_lstore, ↓y_astore, ↓y_iinc, ↓y_cI, ↓y_cL, ↓y_bin, ↓y_binL, ↓y_div, ↓y_divL, ↓y_lshl, ↓y_un, ↓y_i2l, ↓y_lneg, ↓y_l2i, ↓y_lcmp, ↓y_dupI, ↓y_dupR, ↓y_dup2, ↓y_pop, ↓y_goto, ↓y_eq0, ↓y_lt0, ↓y_le0, ↓y_eq, ↓y_lt, ↓y_le, ↓y_switch, ↓y_sw0, ↓y_sw1, ↓y_getI, ↓y_getL, ↓y_getR, ↓y_getT, ↓y_putI, ↓y_putZ, ↓y_putL, ↓y_putT, ↓y_iald, ↓y_bald, ↓y_lald, ↓y_aald, ↓y_iast, ↓y_bast, ↓y_last, ↓y_alen, ↓y_iret, ↓y_zret, ↓y_lret, ↓y_vret, ↓y_svI, ↓y_svL, ↓y_svV, ↓y_ivI, ↓y_ivL, ↓y_ivV, ↓y_max, ↓y_min, ↓y_absL, ↓y_cpI, ↓y_cpL, ↓x_n1I, ↓x_n1L, ↓x_n1R, ↓x_n0I, ↓x_n0L, ↓x_n0R, ↓x_s0, ↓x_s1i, ↓x_s1r, ↓x_s1n, ↓x_s2, ↓x_c0, ↓x_c2, ↓x_tk0, ↓x_tk1, ↓x_rcv, x_rI1, x_rL1, x_rV1, x_rIn, x_rLn, x_rVn, x_rIf, x_rLf, x_rVf, x_40, x_41, x_42, x_43, x_44, ↓reduceIte, if_true, if_false, ao_iadd, ao_isub, ao_imul, ao_iand, ao_ior, ao_ishl, ao_ishr, ao_iushr, ao_ladd, ao_lsub, ao_lmul, ao_land, ao_lor, ao_idiv, ao_irem, ao_ldiv, ao_lrem, ao_ineg, ao_i2b, ao_i2s, Nat.reduceAdd, Nat.reduceMul, Nat.reduceSub, Nat.reduceEqDiff, Nat.reduceLeDiff, and_self, true_and, x_lit, x_ofn, x_z0, x_z1, x_inbT, x_ltT, x_ltF, x_leT, x_leF, x_eqF, x_eqT, x_inb, x_lt, x_le, x_eq, x_cl, x_sub, nI_add, pk_mul, x_m1e, x_m1e', x_m1l, x_m1n, x_m1s, Nat.not_lt_zero, x_zb, x_b0, x_b1, decide_eq_false_iff_not, decide_eq_true_eq, Bool.false_eq_true, Bool.true_eq_false, ws, b2_t, kd_3, kd_6]
            · rw [u3.2 10 (by omega), er1, uI_n (by omega)]; show τx.1 3 10 = _; rw [x3.2 10 (by omega)]
            · rw [u3.2 11 (by omega), er1, uI_n (by omega)]; show τx.1 3 11 = _; rw [x3.2 11 (by omega)]
