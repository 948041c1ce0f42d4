/-! parts of a valley's text: ranks, law, redeals -/
theorem vuN_n {V : Vt} {k x j : Nat} (h : j ≠ k) : vN (vuN V k x) j = vN V j := up_n h
theorem vuN_s (V : Vt) (k x : Nat) : vN (vuN V k x) k = x := by
  show va_up V.1 k x k = x
  exact up_s _ _ _
def fwN (w : Nat) : Nat := if w = 0 then 6 else if w = 2 then 9 else if w = 3 then 10 else if w = 1 then 7 else if w = 4 then 11 else 8
theorem TN_num {σ : am_M} {t w x : Nat} {V : Vt} (h : TN σ t V) (hw : w = 0 ∨ w = 2 ∨ w = 3 ∨ w = 1 ∨ w = 4 ∨ w = 7) : TN (am_uI σ t (fwN w) (nI x)) t (vuN V w x) := by
  obtain ⟨h1, h2, h3, h4, h5, h6⟩ := h
  unfold TN
  rw [uI_s]
  rcases hw with rfl | rfl | rfl | rfl | rfl | rfl <;> simp [fwN, va_up, vuN, vN, h1, h2, h3, h4, h5, h6] <;> simp_all
theorem VG_num {σ : am_M} {v w x : Nat} {V : Vt} (h : VG σ v V) (hw : w = 0 ∨ w = 2 ∨ w = 3 ∨ w = 1 ∨ w = 4 ∨ w = 7) : VG (am_uI σ (v + 1) (fwN w) (nI x)) v (vuN V w x) := by
  have hfw : 6 ≤ fwN w := by rcases hw with rfl | rfl | rfl | rfl | rfl | rfl <;> simp [fwN]
  refine ⟨TN_num h.1 hw, ?_, ?_⟩
  · obtain ⟨h1, h2, ⟨sf, h3, h4, h5, h6⟩, h7⟩ := h.2.1
    refine ⟨fun p hp => ?_, fun p hp => ?_, ⟨sf, ?_, ?_, h5, ?_⟩, fun s hs => ?_⟩
    · rw [uI_n (by omega)]; exact h1 p hp
    · rw [uI_n (by omega)]; exact h2 p hp
    · rw [uI_s, up_n (by omega)]; exact h3
    · rw [uI_s, up_n (by omega)]; exact h4
    · rw [uI_n (by omega)]; exact h6
    · rw [uI_n (by omega)]; exact h7 s hs
  · have h3 := VF_fr (τ := am_uI σ (v + 1) (fwN w) (nI x)) h.2.2 (uI_n (by omega)) (fun j p q => uI_n (by omega))
    unfold VF at *
    rw [vuN_n (by omega), vuN_n (by omega)]
    exact h3
theorem PS_num {t : Nat → Nat} {e : Nat} {σx σm : am_M} {V : Vt} {Ns Nf : List (List Nat)} {rT lT dT cT : Bool} {X a w x : Nat} (h : PS t e σx σm V Ns Nf rT lT dT cT X a) (hw : w = 0 ∨ w = 2 ∨ w = 3 ∨ w = 4) (hb : WG (vuN V w x)) : PS t e (am_uI σx 27 (fwN w) (nI x)) (am_uI σm 128 (1768 + w) (nI x)) (vuN V w x) Ns Nf rT lT dT cT X a := by
  obtain ⟨⟨a1, a2, a3⟩, ⟨b1, b2', b3, b4, b5, b6, b7, b8⟩, ⟨c1, c2, c3, c4, c5, c6, c7, c8⟩, d, ⟨e1, e2, e3, e4, e5⟩, ⟨f1, f2, f3, f4⟩⟩ := h
  have hfw : 6 ≤ fwN w := by rcases hw with rfl | rfl | rfl | rfl <;> simp [fwN]
  have hV := VG_num (w := w) (x := x) a1 (by omega)
  have hM := MC_uN (k := w) (x := x) a3 (by omega) (by omega)
  rw [Nat.add_comm w 1768] at hM
  have hm6 : ∀ i, (am_uI σm 128 (1768 + w) (nI x)).1 123 i = σm.1 123 i := fun i => by rw [uI_n (by omega)]
  have hx6 : ∀ i, (am_uI σx 27 (fwN w) (nI x)).1 6 i = σx.1 6 i := fun i => by rw [uI_n (by omega)]
  refine ⟨⟨hV, hb, by rw [uI_s]; exact hM⟩, ⟨by rw [vuN_n (by omega)]; exact b1, by rw [vuN_n (by omega)]; exact b2', b3, b4, b5, b6, b7, b8⟩, ⟨by rw [hx6]; exact c1, by rw [hx6]; exact c2, by rw [hx6]; exact c3, by rw [hx6]; exact c4, by rw [hx6]; exact c5, by rw [hm6]; exact c6, by rw [hm6]; exact c7, by rw [hm6]; exact c8⟩, d, ⟨?_, TM_uo e2 (by omega) (by omega), TokM_uo e3 (by omega), e4, by rw [hm6]; exact e5⟩, ⟨by rw [uI_s, up_n (by omega)]; exact f1, by rw [uI_n (by omega)]; exact f2, by rw [uI_s, up_n (by omega)]; exact f3, by rw [vuN_n (by omega)]; exact f4.1, fun f p q => by rw [vuN_n (by omega)] at p; rw [uI_s, up_n (by omega)]; exact f4.2 f p q⟩⟩
  obtain ⟨x1, x2, x3, x4, x5, x6⟩ := e1
  exact ⟨by rw [uI_n (by omega)]; exact x1, by rw [uI_n (by omega)]; exact x2, x3, x4, fun j hj => by rw [uI_n (by omega)]; exact x5 j hj, x6⟩
theorem PS_a {t : Nat → Nat} {e : Nat} {σx σm : am_M} {V : Vt} {Ns Nf : List (List Nat)} {rT lT dT cT : Bool} {X a : Nat} (h : PS t e σx σm V Ns Nf rT lT dT cT X a) : TX σx t e ∧ TM σm t e ∧ TokM t e a σm ∧ a ≤ e ∧ σm.1 123 12 = nI 0 := h.2.2.2.2.1
theorem M_part0 {t : Nat → Nat} {e a : Nat} {σ τ : am_M} (hae : a ≤ e) (h : TokM t e a σ) (hw : twi t e a = some 0) (hr : S_X11_readOnce [.ref 123, .int (nI 0), .int (nI 0), .int (nI 1), .int (nI 6)] σ = some (none, τ)) : S_X11_readPart [.ref 123] σ = some (none, τ) := by
  have w0 := M_isRanks hae h
  rw [hw] at w0
  simp (disch := omega) only [g_X11_readPart, ↓e_X11_readPart_0, ↓e_X11_readPart_116, ↓it_s, ↓y_iload, ↓y_lload, ↓y_aload, ↓y_istore, ↓y_lstore, ↓y_astore, ↓y_iinc, ↓y_cI, ↓y_cL, ↓y_bin, ↓y_binL, ↓y_div, ↓y_divL, ↓y_lshl, ↓y_un, ↓y_i2l, ↓y_lneg, ↓y_l2i, ↓y_lcmp, ↓y_dupI, ↓y_dupR, ↓y_dup2, ↓y_pop, ↓y_goto, ↓y_eq0, ↓y_lt0, ↓y_le0, ↓y_eq, ↓y_lt, ↓y_le, ↓y_switch, ↓y_sw0, ↓y_sw1, ↓y_getI, ↓y_getL, ↓y_getR, ↓y_getT, ↓y_putI, ↓y_putZ, ↓y_putL, ↓y_putT, ↓y_iald, ↓y_bald, ↓y_lald, ↓y_aald, ↓y_iast, ↓y_bast, ↓y_last, ↓y_alen, ↓y_iret, ↓y_zret, ↓y_lret, ↓y_vret, ↓y_svI, ↓y_svL, ↓y_svV, ↓y_ivI, ↓y_ivL, ↓y_ivV, ↓y_max, ↓y_min, ↓y_absL, ↓y_cpI, ↓y_cpL, ↓x_n1I, ↓x_n1L, ↓x_n1R, ↓x_n0I, ↓x_n0L, ↓x_n0R, ↓x_s0, ↓x_s1i, ↓x_s1r, ↓x_s1n, ↓x_s2, ↓x_c0, ↓x_c2, ↓x_tk0, ↓x_tk1, ↓x_rcv, x_rI1, x_rL1, x_rV1, x_rIn, x_rLn, x_rVn, x_rIf, x_rLf, x_rVf, x_40, x_41, x_42, x_43, x_44, ↓reduceIte, if_true, if_false, ao_iadd, ao_isub, ao_imul, ao_iand, ao_ior, ao_ishl, ao_ishr, ao_iushr, ao_ladd, ao_lsub, ao_lmul, ao_land, ao_lor, ao_idiv, ao_irem, ao_ldiv, ao_lrem, ao_ineg, ao_i2b, ao_i2s, Nat.reduceAdd, Nat.reduceMul, Nat.reduceSub, Nat.reduceEqDiff, Nat.reduceLeDiff, and_self, true_and, x_lit, x_ofn, x_z0, x_z1, x_inbT, x_ltT, x_ltF, x_leT, x_leF, x_eqF, x_eqT, x_inb, x_lt, x_le, x_eq, x_cl, x_sub, nI_add, pk_mul, x_m1e, x_m1e', x_m1l, x_m1n, x_m1s, Nat.not_lt_zero, x_zb, x_b0, x_b1, decide_eq_false_iff_not, decide_eq_true_eq, Bool.false_eq_true, Bool.true_eq_false, dsome, w0, Nat.reduceEqDiff, decide_true, b2_t, hr, kd_123]
theorem M_part3 {t : Nat → Nat} {e a : Nat} {σ τ : am_M} (hae : a ≤ e) (h : TokM t e a σ) (hw : twi t e a = some 3) (hr : S_X11_readOnce [.ref 123, .int (nI 1), .int (nI 2), .int (nI 0), .int (nI 2)] σ = some (none, τ)) : S_X11_readPart [.ref 123] σ = some (none, τ) := by
  have w0 := M_isRanks hae h
  have w3 := M_isLaw hae h
  rw [hw] at w0 w3
  simp (disch := omega) only [g_X11_readPart, ↓e_X11_readPart_0, ↓e_X11_readPart_19, ↓e_X11_readPart_116, ↓it_s, ↓y_iload, ↓y_lload, ↓y_aload, ↓y_istore, ↓y_lstore, ↓y_astore, ↓y_iinc, ↓y_cI, ↓y_cL, ↓y_bin, ↓y_binL, ↓y_div, ↓y_divL, ↓y_lshl, ↓y_un, ↓y_i2l, ↓y_lneg, ↓y_l2i, ↓y_lcmp, ↓y_dupI, ↓y_dupR, ↓y_dup2, ↓y_pop, ↓y_goto, ↓y_eq0, ↓y_lt0, ↓y_le0, ↓y_eq, ↓y_lt, ↓y_le, ↓y_switch, ↓y_sw0, ↓y_sw1, ↓y_getI, ↓y_getL, ↓y_getR, ↓y_getT, ↓y_putI, ↓y_putZ, ↓y_putL, ↓y_putT, ↓y_iald, ↓y_bald, ↓y_lald, ↓y_aald, ↓y_iast, ↓y_bast, ↓y_last, ↓y_alen, ↓y_iret, ↓y_zret, ↓y_lret, ↓y_vret, ↓y_svI, ↓y_svL, ↓y_svV, ↓y_ivI, ↓y_ivL, ↓y_ivV, ↓y_max, ↓y_min, ↓y_absL, ↓y_cpI, ↓y_cpL, ↓x_n1I, ↓x_n1L, ↓x_n1R, ↓x_n0I, ↓x_n0L, ↓x_n0R, ↓x_s0, ↓x_s1i, ↓x_s1r, ↓x_s1n, ↓x_s2, ↓x_c0, ↓x_c2, ↓x_tk0, ↓x_tk1, ↓x_rcv, x_rI1, x_rL1, x_rV1, x_rIn, x_rLn, x_rVn, x_rIf, x_rLf, x_rVf, x_40, x_41, x_42, x_43, x_44, ↓reduceIte, if_true, if_false, ao_iadd, ao_isub, ao_imul, ao_iand, ao_ior, ao_ishl, ao_ishr, ao_iushr, ao_ladd, ao_lsub, ao_lmul, ao_land, ao_lor, ao_idiv, ao_irem, ao_ldiv, ao_lrem, ao_ineg, ao_i2b, ao_i2s, Nat.reduceAdd, Nat.reduceMul, Nat.reduceSub, Nat.reduceEqDiff, Nat.reduceLeDiff, and_self, true_and, x_lit, x_ofn, x_z0, x_z1, x_inbT, x_ltT, x_ltF, x_leT, x_leF, x_eqF, x_eqT, x_inb, x_lt, x_le, x_eq, x_cl, x_sub, nI_add, pk_mul, x_m1e, x_m1e', x_m1l, x_m1n, x_m1s, Nat.not_lt_zero, x_zb, x_b0, x_b1, decide_eq_false_iff_not, decide_eq_true_eq, Bool.false_eq_true, Bool.true_eq_false, dsome, w0, w3, Nat.reduceEqDiff, decide_true, decide_false, b2_t, b2_f, hr, kd_123]
theorem M_part4 {t : Nat → Nat} {e a : Nat} {σ τ : am_M} (hae : a ≤ e) (h : TokM t e a σ) (hw : twi t e a = some 4) (hr : S_X11_readOnce [.ref 123, .int (nI 2), .int (nI 3), .int (nI 0), .int (nI 9)] σ = some (none, τ)) : S_X11_readPart [.ref 123] σ = some (none, τ) := by
  have w0 := M_isRanks hae h
  have w3 := M_isLaw hae h
  have w4 := M_isRedeals hae h
  rw [hw] at w0 w3 w4
  simp (disch := omega) only [g_X11_readPart, ↓e_X11_readPart_0, ↓e_X11_readPart_19, ↓e_X11_readPart_37, ↓e_X11_readPart_116, ↓it_s, ↓y_iload, ↓y_lload, ↓y_aload, ↓y_istore, ↓y_lstore, ↓y_astore, ↓y_iinc, ↓y_cI, ↓y_cL, ↓y_bin, ↓y_binL, ↓y_div, ↓y_divL, ↓y_lshl, ↓y_un, ↓y_i2l, ↓y_lneg, ↓y_l2i, ↓y_lcmp, ↓y_dupI, ↓y_dupR, ↓y_dup2, ↓y_pop, ↓y_goto, ↓y_eq0, ↓y_lt0, ↓y_le0, ↓y_eq, ↓y_lt, ↓y_le, ↓y_switch, ↓y_sw0, ↓y_sw1, ↓y_getI, ↓y_getL, ↓y_getR, ↓y_getT, ↓y_putI, ↓y_putZ, ↓y_putL, ↓y_putT, ↓y_iald, ↓y_bald, ↓y_lald, ↓y_aald, ↓y_iast, ↓y_bast, ↓y_last, ↓y_alen, ↓y_iret, ↓y_zret, ↓y_lret, ↓y_vret, ↓y_svI, ↓y_svL, ↓y_svV, ↓y_ivI, ↓y_ivL, ↓y_ivV, ↓y_max, ↓y_min, ↓y_absL, ↓y_cpI, ↓y_cpL, ↓x_n1I, ↓x_n1L, ↓x_n1R, ↓x_n0I, ↓x_n0L, ↓x_n0R, ↓x_s0, ↓x_s1i, ↓x_s1r, ↓x_s1n, ↓x_s2, ↓x_c0, ↓x_c2, ↓x_tk0, ↓x_tk1, ↓x_rcv, x_rI1, x_rL1, x_rV1, x_rIn, x_rLn, x_rVn, x_rIf, x_rLf, x_rVf, x_40, x_41, x_42, x_43, x_44, ↓reduceIte, if_true, if_false, ao_iadd, ao_isub, ao_imul, ao_iand, ao_ior, ao_ishl, ao_ishr, ao_iushr, ao_ladd, ao_lsub, ao_lmul, ao_land, ao_lor, ao_idiv, ao_irem, ao_ldiv, ao_lrem, ao_ineg, ao_i2b, ao_i2s, Nat.reduceAdd, Nat.reduceMul, Nat.reduceSub, Nat.reduceEqDiff, Nat.reduceLeDiff, and_self, true_and, x_lit, x_ofn, x_z0, x_z1, x_inbT, x_ltT, x_ltF, x_leT, x_leF, x_eqF, x_eqT, x_inb, x_lt, x_le, x_eq, x_cl, x_sub, nI_add, pk_mul, x_m1e, x_m1e', x_m1l, x_m1n, x_m1s, Nat.not_lt_zero, x_zb, x_b0, x_b1, decide_eq_false_iff_not, decide_eq_true_eq, Bool.false_eq_true, Bool.true_eq_false, dsome, w0, w3, w4, Nat.reduceEqDiff, decide_true, decide_false, b2_t, b2_f, hr, kd_123]
theorem tw_kd {t : Nat → Nat} {e a i : Nat} (h : twi t e a = some i) : tkd t e a = 1 := by
  unfold twi at h
  split at h
  · assumption
  · cases h
theorem TX_uI {t : Nat → Nat} {e j k : Nat} {v : Int32} {σ : am_M} (h : TX σ t e) (hj : j ≠ 3) (hj2 : j ≠ 2) : TX (am_uI σ j k v) t e := by
  obtain ⟨x1, x2, x3, x4, x5, x6⟩ := h
  exact ⟨by rw [uI_n (fun z => hj z.symm)]; exact x1, by rw [uI_n (fun z => hj z.symm)]; exact x2, x3, x4, fun i hi => by rw [uI_n (fun z => hj2 z.symm)]; exact x5 i hi, x6⟩
theorem bt8 : ∀ r l d : Bool, (b2 r + 2 * b2 l + 4 * b2 d < 8) ∧ (b2 r + 2 * b2 l + 4 * b2 d).testBit 0 = r ∧ (b2 r + 2 * b2 l + 4 * b2 d).testBit 1 = l ∧ (b2 r + 2 * b2 l + 4 * b2 d).testBit 2 = d ∧ (b2 r + 2 * b2 l + 4 * b2 d) ||| 2 ^ 0 = b2 true + 2 * b2 l + 4 * b2 d ∧ (b2 r + 2 * b2 l + 4 * b2 d) ||| 2 ^ 1 = b2 r + 2 * b2 true + 4 * b2 d ∧ (b2 r + 2 * b2 l + 4 * b2 d) ||| 2 ^ 2 = b2 r + 2 * b2 l + 4 * b2 true := by decide
theorem PS_flag {t : Nat → Nat} {e : Nat} {σx σm : am_M} {V : Vt} {Ns Nf : List (List Nat)} {rT lT dT cT rT' lT' dT' : Bool} {X a k m : Nat} (h : PS t e σx σm V Ns Nf rT lT dT cT X a) (hk : (k = 0 ∧ rT' = true ∧ lT' = lT ∧ dT' = dT) ∨ (k = 1 ∧ rT' = rT ∧ lT' = true ∧ dT' = dT) ∨ (k = 2 ∧ rT' = rT ∧ lT' = lT ∧ dT' = true)) (hm : m = b2 rT' + 2 * b2 lT' + 4 * b2 dT') : PS t e (am_uI σx 6 k (nI 1)) (am_uI σm 123 25 (nI m)) V Ns Nf rT' lT' dT' cT X a := by
  obtain ⟨⟨a1, a2, a3⟩, ⟨b1, b2', b3, b4, b5, b6, b7, b8⟩, ⟨c1, c2, c3, c4, c5, c6, c7, c8⟩, d, ⟨e1, e2, e3, e4, e5⟩, ⟨f1, f2, f3, f4⟩⟩ := h
  refine ⟨⟨VG_fr a1 (fun j p q => uI_n (by omega)), a2, by rw [uI_n (by omega)]; exact a3⟩, ⟨b1, b2', b3, b4, b5, b6, b7, b8⟩, ?_, d, ⟨TX_uI e1 (by omega) (by omega), TM_uI e2 (by omega), TokM_uI e3 (by omega), e4, by rw [uI_s, up_n (by omega)]; exact e5⟩, ⟨by rw [uI_n (by omega)]; exact f1, by rw [uI_n (by omega)]; exact f2, by rw [uI_n (by omega)]; exact f3, f4.1, fun f p q => by rw [uI_n (by omega)]; exact f4.2 f p q⟩⟩
  rcases hk with ⟨rfl, rfl, rfl, rfl⟩ | ⟨rfl, rfl, rfl, rfl⟩ | ⟨rfl, rfl, rfl, rfl⟩
  · exact ⟨by rw [uI_s, up_s]; rfl, by rw [uI_s, up_n (by omega)]; exact c2, by rw [uI_s, up_n (by omega)]; exact c3, by rw [uI_s, up_n (by omega)]; exact c4, by rw [uI_s, up_n (by omega)]; exact c5, by rw [uI_s, up_s, hm], by rw [uI_s, up_n (by omega)]; exact c7, by rw [uI_s, up_n (by omega)]; exact c8⟩
  · exact ⟨by rw [uI_s, up_n (by omega)]; exact c1, by rw [uI_s, up_s]; rfl, by rw [uI_s, up_n (by omega)]; exact c3, by rw [uI_s, up_n (by omega)]; exact c4, by rw [uI_s, up_n (by omega)]; exact c5, by rw [uI_s, up_s, hm], by rw [uI_s, up_n (by omega)]; exact c7, by rw [uI_s, up_n (by omega)]; exact c8⟩
  · exact ⟨by rw [uI_s, up_n (by omega)]; exact c1, by rw [uI_s, up_n (by omega)]; exact c2, by rw [uI_s, up_s]; rfl, by rw [uI_s, up_n (by omega)]; exact c4, by rw [uI_s, up_n (by omega)]; exact c5, by rw [uI_s, up_s, hm], by rw [uI_s, up_n (by omega)]; exact c7, by rw [uI_s, up_n (by omega)]; exact c8⟩
theorem P_ranks {t : Nat → Nat} {e : Nat} {σx σm : am_M} {V : Vt} {Ns Nf : List (List Nat)} {rT lT dT cT : Bool} {X a : Nat} (h : PS t e σx σm V Ns Nf rT lT dT cT X a) (hx : TokX t e a σx) (hw : twi t e a = some 0) : POut t e σx σm (S_X9_takeRanks [.ref 6, .ref 3, .ref 27] σx) (bodyM σm) a := by
  have hP := h
  obtain ⟨⟨a1, a2, a3⟩, ⟨b1, b2', b3, b4, b5, b6, b7, b8⟩, ⟨c1, c2, c3, c4, c5, c6, c7, c8⟩, d, ⟨e1, e2, e3, e4, e5⟩, ⟨f1, f2, f3, f4⟩⟩ := h
  have h5 := hx.2.1
  have hk1 := tw_kd hw
  obtain ⟨t0, t1, t2, t3, t4, t5, t6⟩ := bt8 rT lT dT
  obtain ⟨o1, o2, o3, o4⟩ := M_readOnce (b := 0) (w := 0) (lo := 1) (hi := 6) e2 e4 e3 e5 c6 t0 (by omega) c8 (by omega) (by omega) (by omega)
  have hbe := (tq_le (t := t) e4).2
  have hgt := tq_gt e4 (show tkd t e a ≠ 0 by omega)
  by_cases z1 : (0 = 0 ∧ cT = true)
  · obtain ⟨-, q2⟩ := z1
    rw [q2] at c4
    have hm := body_bad (M_part0 e4 e3 hw (o1 ⟨rfl, q2⟩)) (bdM_12 _ _ _) (amk_12 t e a).1 (amk_12 t e a).2
    have hbl := X_blame (k := 2) (σ := σx)
    have hak : amk t e a = 2 := by unfold amk; rw [if_neg (by omega)]
    refine PO_bad (k := amk t e a) (p := tp t e a) ?_ hm (amk_12 t e a) (by rw [hak]; exact XF_bl (fR_rf _) h5) (fPm_rf _)
    simp (disch := omega) only [g_X9_takeRanks, ↓e_X9_takeRanks_0, ↓it_s, ↓y_iload, ↓y_lload, ↓y_aload, ↓y_istore, ↓y_lstore, ↓y_astore, ↓y_iinc, ↓y_cI, ↓y_cL, ↓y_bin, ↓y_binL, ↓y_div, ↓y_divL, ↓y_lshl, ↓y_un, ↓y_i2l, ↓y_lneg, ↓y_l2i, ↓y_lcmp, ↓y_dupI, ↓y_dupR, ↓y_dup2, ↓y_pop, ↓y_goto, ↓y_eq0, ↓y_lt0, ↓y_le0, ↓y_eq, ↓y_lt, ↓y_le, ↓y_switch, ↓y_sw0, ↓y_sw1, ↓y_getI, ↓y_getL, ↓y_getR, ↓y_getT, ↓y_putI, ↓y_putZ, ↓y_putL, ↓y_putT, ↓y_iald, ↓y_bald, ↓y_lald, ↓y_aald, ↓y_iast, ↓y_bast, ↓y_last, ↓y_alen, ↓y_iret, ↓y_zret, ↓y_lret, ↓y_vret, ↓y_svI, ↓y_svL, ↓y_svV, ↓y_ivI, ↓y_ivL, ↓y_ivV, ↓y_max, ↓y_min, ↓y_absL, ↓y_cpI, ↓y_cpL, ↓x_n1I, ↓x_n1L, ↓x_n1R, ↓x_n0I, ↓x_n0L, ↓x_n0R, ↓x_s0, ↓x_s1i, ↓x_s1r, ↓x_s1n, ↓x_s2, ↓x_c0, ↓x_c2, ↓x_tk0, ↓x_tk1, ↓x_rcv, x_rI1, x_rL1, x_rV1, x_rIn, x_rLn, x_rVn, x_rIf, x_rLf, x_rVf, x_40, x_41, x_42, x_43, x_44, ↓reduceIte, if_true, if_false, ao_iadd, ao_isub, ao_imul, ao_iand, ao_ior, ao_ishl, ao_ishr, ao_iushr, ao_ladd, ao_lsub, ao_lmul, ao_land, ao_lor, ao_idiv, ao_irem, ao_ldiv, ao_lrem, ao_ineg, ao_i2b, ao_i2s, Nat.reduceAdd, Nat.reduceMul, Nat.reduceSub, Nat.reduceEqDiff, Nat.reduceLeDiff, and_self, true_and, x_lit, x_ofn, x_z0, x_z1, x_inbT, x_ltT, x_ltF, x_leT, x_leF, x_eqF, x_eqT, x_inb, x_lt, x_le, x_eq, x_cl, x_sub, nI_add, pk_mul, x_m1e, x_m1e', x_m1l, x_m1n, x_m1s, Nat.not_lt_zero, x_zb, x_b0, x_b1, decide_eq_false_iff_not, decide_eq_true_eq, Bool.false_eq_true, Bool.true_eq_false, c4, b2_t, hbl, kd_3, kd_6]
  have qc : cT = false := by
    cases cT with
    | false => rfl
    | true => exact absurd ⟨rfl, rfl⟩ z1
  rw [qc] at c4
  cases hf : rT with
  | true =>
    rw [hf] at c1
    have hm := body_bad (M_part0 e4 e3 hw (o2 z1 (by rw [t1]; exact hf))) (bdM_12 _ _ _) (by omega) (by omega)
    have hbl := X_blame (k := 5) (σ := σx)
    refine PO_bad (k := 5) (p := tp t e a) ?_ hm (by omega) (XF_bl (fR_rf _) h5) (fPm_rf _)
    simp (disch := omega) only [g_X9_takeRanks, ↓e_X9_takeRanks_0, ↓e_X9_takeRanks_13, ↓it_s, ↓y_iload, ↓y_lload, ↓y_aload, ↓y_istore, ↓y_lstore, ↓y_astore, ↓y_iinc, ↓y_cI, ↓y_cL, ↓y_bin, ↓y_binL, ↓y_div, ↓y_divL, ↓y_lshl, ↓y_un, ↓y_i2l, ↓y_lneg, ↓y_l2i, ↓y_lcmp, ↓y_dupI, ↓y_dupR, ↓y_dup2, ↓y_pop, ↓y_goto, ↓y_eq0, ↓y_lt0, ↓y_le0, ↓y_eq, ↓y_lt, ↓y_le, ↓y_switch, ↓y_sw0, ↓y_sw1, ↓y_getI, ↓y_getL, ↓y_getR, ↓y_getT, ↓y_putI, ↓y_putZ, ↓y_putL, ↓y_putT, ↓y_iald, ↓y_bald, ↓y_lald, ↓y_aald, ↓y_iast, ↓y_bast, ↓y_last, ↓y_alen, ↓y_iret, ↓y_zret, ↓y_lret, ↓y_vret, ↓y_svI, ↓y_svL, ↓y_svV, ↓y_ivI, ↓y_ivL, ↓y_ivV, ↓y_max, ↓y_min, ↓y_absL, ↓y_cpI, ↓y_cpL, ↓x_n1I, ↓x_n1L, ↓x_n1R, ↓x_n0I, ↓x_n0L, ↓x_n0R, ↓x_s0, ↓x_s1i, ↓x_s1r, ↓x_s1n, ↓x_s2, ↓x_c0, ↓x_c2, ↓x_tk0, ↓x_tk1, ↓x_rcv, x_rI1, x_rL1, x_rV1, x_rIn, x_rLn, x_rVn, x_rIf, x_rLf, x_rVf, x_40, x_41, x_42, x_43, x_44, ↓reduceIte, if_true, if_false, ao_iadd, ao_isub, ao_imul, ao_iand, ao_ior, ao_ishl, ao_ishr, ao_iushr, ao_ladd, ao_lsub, ao_lmul, ao_land, ao_lor, ao_idiv, ao_irem, ao_ldiv, ao_lrem, ao_ineg, ao_i2b, ao_i2s, Nat.reduceAdd, Nat.reduceMul, Nat.reduceSub, Nat.reduceEqDiff, Nat.reduceLeDiff, and_self, true_and, x_lit, x_ofn, x_z0, x_z1, x_inbT, x_ltT, x_ltF, x_leT, x_leF, x_eqF, x_eqT, x_inb, x_lt, x_le, x_eq, x_cl, x_sub, nI_add, pk_mul, x_m1e, x_m1e', x_m1l, x_m1n, x_m1s, Nat.not_lt_zero, x_zb, x_b0, x_b1, decide_eq_false_iff_not, decide_eq_true_eq, Bool.false_eq_true, Bool.true_eq_false, c4, c1, b2_t, b2_f, hbl, kd_3, kd_6]
  | false =>
    rw [hf] at c1
    have hent : S_X9_takeRanks [.ref 6, .ref 3, .ref 27] σx = dn_X9_takeRanks_26 [some (.ref 6), some (.ref 3), some (.ref 27)] [] σx := by
      simp (disch := omega) only [g_X9_takeRanks, ↓e_X9_takeRanks_0, ↓e_X9_takeRanks_13, ↓it_s, ↓y_iload, ↓y_lload, ↓y_aload, ↓y_istore, ↓y_lstore, ↓y_astore, ↓y_iinc, ↓y_cI, ↓y_cL, ↓y_bin, ↓y_binL, ↓y_div, ↓y_divL, ↓y_lshl, ↓y_un, ↓y_i2l, ↓y_lneg, ↓y_l2i, ↓y_lcmp, ↓y_dupI, ↓y_dupR, ↓y_dup2, ↓y_pop, ↓y_goto, ↓y_eq0, ↓y_lt0, ↓y_le0, ↓y_eq, ↓y_lt, ↓y_le, ↓y_switch, ↓y_sw0, ↓y_sw1, ↓y_getI, ↓y_getL, ↓y_getR, ↓y_getT, ↓y_putI, ↓y_putZ, ↓y_putL, ↓y_putT, ↓y_iald, ↓y_bald, ↓y_lald, ↓y_aald, ↓y_iast, ↓y_bast, ↓y_last, ↓y_alen, ↓y_iret, ↓y_zret, ↓y_lret, ↓y_vret, ↓y_svI, ↓y_svL, ↓y_svV, ↓y_ivI, ↓y_ivL, ↓y_ivV, ↓y_max, ↓y_min, ↓y_absL, ↓y_cpI, ↓y_cpL, ↓x_n1I, ↓x_n1L, ↓x_n1R, ↓x_n0I, ↓x_n0L, ↓x_n0R, ↓x_s0, ↓x_s1i, ↓x_s1r, ↓x_s1n, ↓x_s2, ↓x_c0, ↓x_c2, ↓x_tk0, ↓x_tk1, ↓x_rcv, x_rI1, x_rL1, x_rV1, x_rIn, x_rLn, x_rVn, x_rIf, x_rLf, x_rVf, x_40, x_41, x_42, x_43, x_44, ↓reduceIte, if_true, if_false, ao_iadd, ao_isub, ao_imul, ao_iand, ao_ior, ao_ishl, ao_ishr, ao_iushr, ao_ladd, ao_lsub, ao_lmul, ao_land, ao_lor, ao_idiv, ao_irem, ao_ldiv, ao_lrem, ao_ineg, ao_i2b, ao_i2s, Nat.reduceAdd, Nat.reduceMul, Nat.reduceSub, Nat.reduceEqDiff, Nat.reduceLeDiff, and_self, true_and, x_lit, x_ofn, x_z0, x_z1, x_inbT, x_ltT, x_ltF, x_leT, x_leF, x_eqF, x_eqT, x_inb, x_lt, x_le, x_eq, x_cl, x_sub, nI_add, pk_mul, x_m1e, x_m1e', x_m1l, x_m1n, x_m1s, Nat.not_lt_zero, x_zb, x_b0, x_b1, decide_eq_false_iff_not, decide_eq_true_eq, Bool.false_eq_true, Bool.true_eq_false, c4, c1, b2_f, kd_3, kd_6]
    obtain ⟨σx1, es1⟩ : ∃ s, s = am_uI σx 6 0 (nI 1) := ⟨_, rfl⟩
    have es1' := es1.symm
    have hPf : PS t e σx1 (am_uI σm 123 25 (nI (b2 true + 2 * b2 lT + 4 * b2 dT))) V Ns Nf true lT dT cT X a := by
      rw [es1]
      exact PS_flag hP (by simp) rfl
    have h31 : σx1.1 3 3 = nI (tq t e a) := by rw [es1, uI_n (by omega)]; exact hx.1
    obtain ⟨n1, n0⟩ := X_wantNumber (lo := 1) (hi := 6) (PS_a hPf).1 hbe h31 (by omega) (by omega)
    have hxf : fPx σx σx1 := by rw [es1]; exact fPx_uI (fPx_rf _) (by omega)
    cases hn : isNo t e 1 6 (tq t e a) with
    | false =>
      obtain ⟨τm, y1, y2, y3, y4⟩ := o3 z1 (by rw [t1]; exact hf) hn
      obtain ⟨τx, x1, x2, x3, x4⟩ := n0 hn
      have hm := body_bad (M_part0 e4 e3 hw y1) y2 (noK_12 t e _).1 (noK_12 t e _).2
      refine Or.inl ⟨τx, τm, noK t e (tq t e a), tp t e (tq t e a), ?_, hm, (noK_12 t e _).1, (noK_12 t e _).2, x2, x3, y2, y3, fPx_tr hxf (fPx_B x4), y4⟩
      rw [hent]
      simp (disch := omega) only [↓e_X9_takeRanks_26, ↓it_s, ↓y_iload, ↓y_lload, ↓y_aload, ↓y_istore, ↓y_lstore, ↓y_astore, ↓y_iinc, ↓y_cI, ↓y_cL, ↓y_bin, ↓y_binL, ↓y_div, ↓y_divL, ↓y_lshl, ↓y_un, ↓y_i2l, ↓y_lneg, ↓y_l2i, ↓y_lcmp, ↓y_dupI, ↓y_dupR, ↓y_dup2, ↓y_pop, ↓y_goto, ↓y_eq0, ↓y_lt0, ↓y_le0, ↓y_eq, ↓y_lt, ↓y_le, ↓y_switch, ↓y_sw0, ↓y_sw1, ↓y_getI, ↓y_getL, ↓y_getR, ↓y_getT, ↓y_putI, ↓y_putZ, ↓y_putL, ↓y_putT, ↓y_iald, ↓y_bald, ↓y_lald, ↓y_aald, ↓y_iast, ↓y_bast, ↓y_last, ↓y_alen, ↓y_iret, ↓y_zret, ↓y_lret, ↓y_vret, ↓y_svI, ↓y_svL, ↓y_svV, ↓y_ivI, ↓y_ivL, ↓y_ivV, ↓y_max, ↓y_min, ↓y_absL, ↓y_cpI, ↓y_cpL, ↓x_n1I, ↓x_n1L, ↓x_n1R, ↓x_n0I, ↓x_n0L, ↓x_n0R, ↓x_s0, ↓x_s1i, ↓x_s1r, ↓x_s1n, ↓x_s2, ↓x_c0, ↓x_c2, ↓x_tk0, ↓x_tk1, ↓x_rcv, x_rI1, x_rL1, x_rV1, x_rIn, x_rLn, x_rVn, x_rIf, x_rLf, x_rVf, x_40, x_41, x_42, x_43, x_44, ↓reduceIte, if_true, if_false, ao_iadd, ao_isub, ao_imul, ao_iand, ao_ior, ao_ishl, ao_ishr, ao_iushr, ao_ladd, ao_lsub, ao_lmul, ao_land, ao_lor, ao_idiv, ao_irem, ao_ldiv, ao_lrem, ao_ineg, ao_i2b, ao_i2s, Nat.reduceAdd, Nat.reduceMul, Nat.reduceSub, Nat.reduceEqDiff, Nat.reduceLeDiff, and_self, true_and, x_lit, x_ofn, x_z0, x_z1, x_inbT, x_ltT, x_ltF, x_leT, x_leF, x_eqF, x_eqT, x_inb, x_lt, x_le, x_eq, x_cl, x_sub, nI_add, pk_mul, x_m1e, x_m1e', x_m1l, x_m1n, x_m1s, Nat.not_lt_zero, x_zb, x_b0, x_b1, decide_eq_false_iff_not, decide_eq_true_eq, Bool.false_eq_true, Bool.true_eq_false, es1', x1, kd_3, kd_6]
    | true =>
      obtain ⟨m1, n2, n3⟩ := of_decide_eq_true hn
      obtain ⟨τm, y1, y2, y3⟩ := o4 z1 (by rw [t1]; exact hf) hn
      obtain ⟨τx, x1, x2, x3⟩ := n1 hn
      rw [t4] at y3
      have hce := (tq_le (t := t) hbe).2
      have hgt2 := tq_gt hbe (show tkd t e (tq t e a) ≠ 0 by omega)
      have hP2 := PS_tok hPf x3 y3 y2 hce
      have h6 := x2.2.2.2.2.1 (Or.inl m1)
      obtain ⟨w0, w1, w2, w3, w4, w5, w6, w7⟩ := a2.1
      have hP3 := PS_num (w := 0) (x := tnum t e (tq t e a)) hP2 (by omega) ⟨⟨⟨n2, n3⟩, w1, w2, w3, w4, w5, w6, w7⟩, WC_uN a2.2.1 (by omega), a2.2.2⟩
      have efw : fwN 0 = 6 := rfl
      rw [efw] at hP3
      have hrp := M_part0 e4 e3 hw y1
      obtain ⟨g1, g0⟩ := body_sg hrp (PS_a hP3).2.1 hce (PS_a hP3).2.2.1 (PS_a hP3).2.2.2.2
      have h33 : (am_uI τx 27 6 (nI (tnum t e (tq t e a)))).1 3 3 = nI (tq t e (tq t e a)) := by rw [uI_n (by omega)]; exact x2.1
      obtain ⟨s1, s0⟩ := X_wantSign (c := 59) (PS_a hP3).1 hce h33 (by omega)
      have hxf2 : fPx σx (am_uI τx 27 6 (nI (tnum t e (tq t e a)))) := fPx_uI (fPx_tr hxf (fPx_R x3)) (by omega)
      have hmf2 : fPm σm (am_uI τm 128 (1768 + 0) (nI (tnum t e (tq t e a)))) := fPm_uc (fPm_tr (fPm_uI (fPm_rf σm) (by omega)) (fPm_T y3)) (by omega)
      cases hs : decide (tkd t e (tq t e (tq t e a)) = 3 ∧ tnum t e (tq t e (tq t e a)) = 59) with
      | false =>
        obtain ⟨ρx, u1, u2, u3, u4⟩ := s0 hs
        refine Or.inl ⟨ρx, _, amk t e (tq t e (tq t e a)), tp t e (tq t e (tq t e a)), ?_, g0 hs, (amk_12 t e _).1, (amk_12 t e _).2, u2, u3, bdM_12 _ _ _, bdM_13 _ _ _, fPx_tr hxf2 (fPx_B u4), fPm_bd hmf2⟩
        rw [hent]
        simp (disch := omega) only [↓e_X9_takeRanks_26, ↓e_X9_takeRanks_43, ↓it_s, ↓y_iload, ↓y_lload, ↓y_aload, ↓y_istore, ↓y_lstore, ↓y_astore, ↓y_iinc, ↓y_cI, ↓y_cL, ↓y_bin, ↓y_binL, ↓y_div, ↓y_divL, ↓y_lshl, ↓y_un, ↓y_i2l, ↓y_lneg, ↓y_l2i, ↓y_lcmp, ↓y_dupI, ↓y_dupR, ↓y_dup2, ↓y_pop, ↓y_goto, ↓y_eq0, ↓y_lt0, ↓y_le0, ↓y_eq, ↓y_lt, ↓y_le, ↓y_switch, ↓y_sw0, ↓y_sw1, ↓y_getI, ↓y_getL, ↓y_getR, ↓y_getT, ↓y_putI, ↓y_putZ, ↓y_putL, ↓y_putT, ↓y_iald, ↓y_bald, ↓y_lald, ↓y_aald, ↓y_iast, ↓y_bast, ↓y_last, ↓y_alen, ↓y_iret, ↓y_zret, ↓y_lret, ↓y_vret, ↓y_svI, ↓y_svL, ↓y_svV, ↓y_ivI, ↓y_ivL, ↓y_ivV, ↓y_max, ↓y_min, ↓y_absL, ↓y_cpI, ↓y_cpL, ↓x_n1I, ↓x_n1L, ↓x_n1R, ↓x_n0I, ↓x_n0L, ↓x_n0R, ↓x_s0, ↓x_s1i, ↓x_s1r, ↓x_s1n, ↓x_s2, ↓x_c0, ↓x_c2, ↓x_tk0, ↓x_tk1, ↓x_rcv, x_rI1, x_rL1, x_rV1, x_rIn, x_rLn, x_rVn, x_rIf, x_rLf, x_rVf, x_40, x_41, x_42, x_43, x_44, ↓reduceIte, if_true, if_false, ao_iadd, ao_isub, ao_imul, ao_iand, ao_ior, ao_ishl, ao_ishr, ao_iushr, ao_ladd, ao_lsub, ao_lmul, ao_land, ao_lor, ao_idiv, ao_irem, ao_ldiv, ao_lrem, ao_ineg, ao_i2b, ao_i2s, Nat.reduceAdd, Nat.reduceMul, Nat.reduceSub, Nat.reduceEqDiff, Nat.reduceLeDiff, and_self, true_and, x_lit, x_ofn, x_z0, x_z1, x_inbT, x_ltT, x_ltF, x_leT, x_leF, x_eqF, x_eqT, x_inb, x_lt, x_le, x_eq, x_cl, x_sub, nI_add, pk_mul, x_m1e, x_m1e', x_m1l, x_m1n, x_m1s, Nat.not_lt_zero, x_zb, x_b0, x_b1, decide_eq_false_iff_not, decide_eq_true_eq, Bool.false_eq_true, Bool.true_eq_false, es1', x1, h6, u1, kd_3, kd_6, kd_27]
      | true =>
        obtain ⟨ρx, u1, u2, u3⟩ := s1 hs
        obtain ⟨ρm, v1, v2, v3⟩ := g1 hs
        have hde := (tq_le (t := t) hce).2
        have hgt3 := tq_gt hce (show tkd t e (tq t e (tq t e a)) ≠ 0 by have := (of_decide_eq_true hs).1; omega)
        refine Or.inr ⟨ρx, ρm, _, Ns, Nf, true, lT, dT, cT, X, tq t e (tq t e (tq t e a)), ?_, v1, PS_tok hP3 u3 v3 v2 hde, u2.1, by omega, ?_, ?_, fPx_tr hxf2 (fPx_R u3), fPm_tr hmf2 (fPm_T v3)⟩
        · rw [hent]
          simp (disch := omega) only [↓e_X9_takeRanks_26, ↓e_X9_takeRanks_43, ↓it_s, ↓y_iload, ↓y_lload, ↓y_aload, ↓y_istore, ↓y_lstore, ↓y_astore, ↓y_iinc, ↓y_cI, ↓y_cL, ↓y_bin, ↓y_binL, ↓y_div, ↓y_divL, ↓y_lshl, ↓y_un, ↓y_i2l, ↓y_lneg, ↓y_l2i, ↓y_lcmp, ↓y_dupI, ↓y_dupR, ↓y_dup2, ↓y_pop, ↓y_goto, ↓y_eq0, ↓y_lt0, ↓y_le0, ↓y_eq, ↓y_lt, ↓y_le, ↓y_switch, ↓y_sw0, ↓y_sw1, ↓y_getI, ↓y_getL, ↓y_getR, ↓y_getT, ↓y_putI, ↓y_putZ, ↓y_putL, ↓y_putT, ↓y_iald, ↓y_bald, ↓y_lald, ↓y_aald, ↓y_iast, ↓y_bast, ↓y_last, ↓y_alen, ↓y_iret, ↓y_zret, ↓y_lret, ↓y_vret, ↓y_svI, ↓y_svL, ↓y_svV, ↓y_ivI, ↓y_ivL, ↓y_ivV, ↓y_max, ↓y_min, ↓y_absL, ↓y_cpI, ↓y_cpL, ↓x_n1I, ↓x_n1L, ↓x_n1R, ↓x_n0I, ↓x_n0L, ↓x_n0R, ↓x_s0, ↓x_s1i, ↓x_s1r, ↓x_s1n, ↓x_s2, ↓x_c0, ↓x_c2, ↓x_tk0, ↓x_tk1, ↓x_rcv, x_rI1, x_rL1, x_rV1, x_rIn, x_rLn, x_rVn, x_rIf, x_rLf, x_rVf, x_40, x_41, x_42, x_43, x_44, ↓reduceIte, if_true, if_false, ao_iadd, ao_isub, ao_imul, ao_iand, ao_ior, ao_ishl, ao_ishr, ao_iushr, ao_ladd, ao_lsub, ao_lmul, ao_land, ao_lor, ao_idiv, ao_irem, ao_ldiv, ao_lrem, ao_ineg, ao_i2b, ao_i2s, Nat.reduceAdd, Nat.reduceMul, Nat.reduceSub, Nat.reduceEqDiff, Nat.reduceLeDiff, and_self, true_and, x_lit, x_ofn, x_z0, x_z1, x_inbT, x_ltT, x_ltF, x_leT, x_leF, x_eqF, x_eqT, x_inb, x_lt, x_le, x_eq, x_cl, x_sub, nI_add, pk_mul, x_m1e, x_m1e', x_m1l, x_m1n, x_m1s, Nat.not_lt_zero, x_zb, x_b0, x_b1, decide_eq_false_iff_not, decide_eq_true_eq, Bool.false_eq_true, Bool.true_eq_false, es1', x1, h6, u1, kd_3, kd_6, kd_27]
        · rw [u3.2 10 (by omega), uI_n (by omega), x3.2 10 (by omega), es1, uI_n (by omega)]
        · rw [u3.2 11 (by omega), uI_n (by omega), x3.2 11 (by omega), es1, uI_n (by omega)]
theorem P_law {t : Nat → Nat} {e : Nat} {σx σm : am_M} {V : Vt} {Ns Nf : List (List Nat)} {rT lT dT cT : Bool} {X a : Nat} (h : PS t e σx σm V Ns Nf rT lT dT cT X a) (hx : TokX t e a σx) (hw : twi t e a = some 3) : POut t e σx σm (S_X9_takeLaw [.ref 6, .ref 3, .ref 27] σx) (bodyM σm) a := by
  have hP := h
  obtain ⟨⟨a1, a2, a3⟩, ⟨b1, b2', b3, b4, b5, b6, b7, b8⟩, ⟨c1, c2, c3, c4, c5, c6, c7, c8⟩, d, ⟨e1, e2, e3, e4, e5⟩, ⟨f1, f2, f3, f4⟩⟩ := h
  have h5 := hx.2.1
  have hk1 := tw_kd hw
  obtain ⟨t0, t1, t2, t3, t4, t5, t6⟩ := bt8 rT lT dT
  obtain ⟨o1, o2, o3, o4⟩ := M_readOnce (b := 1) (w := 2) (lo := 0) (hi := 2) e2 e4 e3 e5 c6 t0 (by omega) c8 (by omega) (by omega) (by omega)
  have hbe := (tq_le (t := t) e4).2
  have hgt := tq_gt e4 (show tkd t e a ≠ 0 by omega)
  have z1 : ¬ ((1 : Nat) = 0 ∧ cT = true) := fun z => by omega
  cases hf : lT with
  | true =>
    rw [hf] at c2
    have hm := body_bad (M_part3 e4 e3 hw (o2 z1 (by rw [t2]; exact hf))) (bdM_12 _ _ _) (by omega) (by omega)
    have hbl := X_blame (k := 5) (σ := σx)
    refine PO_bad (k := 5) (p := tp t e a) ?_ hm (by omega) (XF_bl (fR_rf _) h5) (fPm_rf _)
    simp (disch := omega) only [g_X9_takeLaw, ↓e_X9_takeLaw_0, ↓it_s, ↓y_iload, ↓y_lload, ↓y_aload, ↓y_istore, ↓y_lstore, ↓y_astore, ↓y_iinc, ↓y_cI, ↓y_cL, ↓y_bin, ↓y_binL, ↓y_div, ↓y_divL, ↓y_lshl, ↓y_un, ↓y_i2l, ↓y_lneg, ↓y_l2i, ↓y_lcmp, ↓y_dupI, ↓y_dupR, ↓y_dup2, ↓y_pop, ↓y_goto, ↓y_eq0, ↓y_lt0, ↓y_le0, ↓y_eq, ↓y_lt, ↓y_le, ↓y_switch, ↓y_sw0, ↓y_sw1, ↓y_getI, ↓y_getL, ↓y_getR, ↓y_getT, ↓y_putI, ↓y_putZ, ↓y_putL, ↓y_putT, ↓y_iald, ↓y_bald, ↓y_lald, ↓y_aald, ↓y_iast, ↓y_bast, ↓y_last, ↓y_alen, ↓y_iret, ↓y_zret, ↓y_lret, ↓y_vret, ↓y_svI, ↓y_svL, ↓y_svV, ↓y_ivI, ↓y_ivL, ↓y_ivV, ↓y_max, ↓y_min, ↓y_absL, ↓y_cpI, ↓y_cpL, ↓x_n1I, ↓x_n1L, ↓x_n1R, ↓x_n0I, ↓x_n0L, ↓x_n0R, ↓x_s0, ↓x_s1i, ↓x_s1r, ↓x_s1n, ↓x_s2, ↓x_c0, ↓x_c2, ↓x_tk0, ↓x_tk1, ↓x_rcv, x_rI1, x_rL1, x_rV1, x_rIn, x_rLn, x_rVn, x_rIf, x_rLf, x_rVf, x_40, x_41, x_42, x_43, x_44, ↓reduceIte, if_true, if_false, ao_iadd, ao_isub, ao_imul, ao_iand, ao_ior, ao_ishl, ao_ishr, ao_iushr, ao_ladd, ao_lsub, ao_lmul, ao_land, ao_lor, ao_idiv, ao_irem, ao_ldiv, ao_lrem, ao_ineg, ao_i2b, ao_i2s, Nat.reduceAdd, Nat.reduceMul, Nat.reduceSub, Nat.reduceEqDiff, Nat.reduceLeDiff, and_self, true_and, x_lit, x_ofn, x_z0, x_z1, x_inbT, x_ltT, x_ltF, x_leT, x_leF, x_eqF, x_eqT, x_inb, x_lt, x_le, x_eq, x_cl, x_sub, nI_add, pk_mul, x_m1e, x_m1e', x_m1l, x_m1n, x_m1s, Nat.not_lt_zero, x_zb, x_b0, x_b1, decide_eq_false_iff_not, decide_eq_true_eq, Bool.false_eq_true, Bool.true_eq_false, c2, b2_t, b2_f, hbl, kd_3, kd_6]
  | false =>
    rw [hf] at c2
    have hent : S_X9_takeLaw [.ref 6, .ref 3, .ref 27] σx = dn_X9_takeLaw_13 [some (.ref 6), some (.ref 3), some (.ref 27)] [] σx := by
      simp (disch := omega) only [g_X9_takeLaw, ↓e_X9_takeLaw_0, ↓it_s, ↓y_iload, ↓y_lload, ↓y_aload, ↓y_istore, ↓y_lstore, ↓y_astore, ↓y_iinc, ↓y_cI, ↓y_cL, ↓y_bin, ↓y_binL, ↓y_div, ↓y_divL, ↓y_lshl, ↓y_un, ↓y_i2l, ↓y_lneg, ↓y_l2i, ↓y_lcmp, ↓y_dupI, ↓y_dupR, ↓y_dup2, ↓y_pop, ↓y_goto, ↓y_eq0, ↓y_lt0, ↓y_le0, ↓y_eq, ↓y_lt, ↓y_le, ↓y_switch, ↓y_sw0, ↓y_sw1, ↓y_getI, ↓y_getL, ↓y_getR, ↓y_getT, ↓y_putI, ↓y_putZ, ↓y_putL, ↓y_putT, ↓y_iald, ↓y_bald, ↓y_lald, ↓y_aald, ↓y_iast, ↓y_bast, ↓y_last, ↓y_alen, ↓y_iret, ↓y_zret, ↓y_lret, ↓y_vret, ↓y_svI, ↓y_svL, ↓y_svV, ↓y_ivI, ↓y_ivL, ↓y_ivV, ↓y_max, ↓y_min, ↓y_absL, ↓y_cpI, ↓y_cpL, ↓x_n1I, ↓x_n1L, ↓x_n1R, ↓x_n0I, ↓x_n0L, ↓x_n0R, ↓x_s0, ↓x_s1i, ↓x_s1r, ↓x_s1n, ↓x_s2, ↓x_c0, ↓x_c2, ↓x_tk0, ↓x_tk1, ↓x_rcv, x_rI1, x_rL1, x_rV1, x_rIn, x_rLn, x_rVn, x_rIf, x_rLf, x_rVf, x_40, x_41, x_42, x_43, x_44, ↓reduceIte, if_true, if_false, ao_iadd, ao_isub, ao_imul, ao_iand, ao_ior, ao_ishl, ao_ishr, ao_iushr, ao_ladd, ao_lsub, ao_lmul, ao_land, ao_lor, ao_idiv, ao_irem, ao_ldiv, ao_lrem, ao_ineg, ao_i2b, ao_i2s, Nat.reduceAdd, Nat.reduceMul, Nat.reduceSub, Nat.reduceEqDiff, Nat.reduceLeDiff, and_self, true_and, x_lit, x_ofn, x_z0, x_z1, x_inbT, x_ltT, x_ltF, x_leT, x_leF, x_eqF, x_eqT, x_inb, x_lt, x_le, x_eq, x_cl, x_sub, nI_add, pk_mul, x_m1e, x_m1e', x_m1l, x_m1n, x_m1s, Nat.not_lt_zero, x_zb, x_b0, x_b1, decide_eq_false_iff_not, decide_eq_true_eq, Bool.false_eq_true, Bool.true_eq_false, c2, b2_f, kd_3, kd_6]
    obtain ⟨σx1, es1⟩ : ∃ s, s = am_uI σx 6 1 (nI 1) := ⟨_, rfl⟩
    have es1' := es1.symm
    have hPf : PS t e σx1 (am_uI σm 123 25 (nI (b2 rT + 2 * b2 true + 4 * b2 dT))) V Ns Nf rT true dT cT X a := by
      rw [es1]
      exact PS_flag hP (by simp) rfl
    have h31 : σx1.1 3 3 = nI (tq t e a) := by rw [es1, uI_n (by omega)]; exact hx.1
    obtain ⟨n1, n0⟩ := X_wantNumber (lo := 0) (hi := 2) (PS_a hPf).1 hbe h31 (by omega) (by omega)
    have hxf : fPx σx σx1 := by rw [es1]; exact fPx_uI (fPx_rf _) (by omega)
    cases hn : isNo t e 0 2 (tq t e a) with
    | false =>
      obtain ⟨τm, y1, y2, y3, y4⟩ := o3 z1 (by rw [t2]; exact hf) hn
      obtain ⟨τx, x1, x2, x3, x4⟩ := n0 hn
      have hm := body_bad (M_part3 e4 e3 hw y1) y2 (noK_12 t e _).1 (noK_12 t e _).2
      refine Or.inl ⟨τx, τm, noK t e (tq t e a), tp t e (tq t e a), ?_, hm, (noK_12 t e _).1, (noK_12 t e _).2, x2, x3, y2, y3, fPx_tr hxf (fPx_B x4), y4⟩
      rw [hent]
      simp (disch := omega) only [↓e_X9_takeLaw_13, ↓it_s, ↓y_iload, ↓y_lload, ↓y_aload, ↓y_istore, ↓y_lstore, ↓y_astore, ↓y_iinc, ↓y_cI, ↓y_cL, ↓y_bin, ↓y_binL, ↓y_div, ↓y_divL, ↓y_lshl, ↓y_un, ↓y_i2l, ↓y_lneg, ↓y_l2i, ↓y_lcmp, ↓y_dupI, ↓y_dupR, ↓y_dup2, ↓y_pop, ↓y_goto, ↓y_eq0, ↓y_lt0, ↓y_le0, ↓y_eq, ↓y_lt, ↓y_le, ↓y_switch, ↓y_sw0, ↓y_sw1, ↓y_getI, ↓y_getL, ↓y_getR, ↓y_getT, ↓y_putI, ↓y_putZ, ↓y_putL, ↓y_putT, ↓y_iald, ↓y_bald, ↓y_lald, ↓y_aald, ↓y_iast, ↓y_bast, ↓y_last, ↓y_alen, ↓y_iret, ↓y_zret, ↓y_lret, ↓y_vret, ↓y_svI, ↓y_svL, ↓y_svV, ↓y_ivI, ↓y_ivL, ↓y_ivV, ↓y_max, ↓y_min, ↓y_absL, ↓y_cpI, ↓y_cpL, ↓x_n1I, ↓x_n1L, ↓x_n1R, ↓x_n0I, ↓x_n0L, ↓x_n0R, ↓x_s0, ↓x_s1i, ↓x_s1r, ↓x_s1n, ↓x_s2, ↓x_c0, ↓x_c2, ↓x_tk0, ↓x_tk1, ↓x_rcv, x_rI1, x_rL1, x_rV1, x_rIn, x_rLn, x_rVn, x_rIf, x_rLf, x_rVf, x_40, x_41, x_42, x_43, x_44, ↓reduceIte, if_true, if_false, ao_iadd, ao_isub, ao_imul, ao_iand, ao_ior, ao_ishl, ao_ishr, ao_iushr, ao_ladd, ao_lsub, ao_lmul, ao_land, ao_lor, ao_idiv, ao_irem, ao_ldiv, ao_lrem, ao_ineg, ao_i2b, ao_i2s, Nat.reduceAdd, Nat.reduceMul, Nat.reduceSub, Nat.reduceEqDiff, Nat.reduceLeDiff, and_self, true_and, x_lit, x_ofn, x_z0, x_z1, x_inbT, x_ltT, x_ltF, x_leT, x_leF, x_eqF, x_eqT, x_inb, x_lt, x_le, x_eq, x_cl, x_sub, nI_add, pk_mul, x_m1e, x_m1e', x_m1l, x_m1n, x_m1s, Nat.not_lt_zero, x_zb, x_b0, x_b1, decide_eq_false_iff_not, decide_eq_true_eq, Bool.false_eq_true, Bool.true_eq_false, es1', x1, kd_3, kd_6]
    | true =>
      obtain ⟨m1, n2, n3⟩ := of_decide_eq_true hn
      obtain ⟨τm, y1, y2, y3⟩ := o4 z1 (by rw [t2]; exact hf) hn
      obtain ⟨τx, x1, x2, x3⟩ := n1 hn
      rw [t5] at y3
      have hce := (tq_le (t := t) hbe).2
      have hgt2 := tq_gt hbe (show tkd t e (tq t e a) ≠ 0 by omega)
      have hP2 := PS_tok hPf x3 y3 y2 hce
      have h6 := x2.2.2.2.2.1 (Or.inl m1)
      obtain ⟨w0, w1, w2, w3, w4, w5, w6, w7⟩ := a2.1
      have hP3 := PS_num (w := 2) (x := tnum t e (tq t e a)) hP2 (by omega) ⟨⟨w0, w1, n3, w3, w4, w5, w6, w7⟩, WC_uN a2.2.1 (by omega), a2.2.2⟩
      have efw : fwN 2 = 9 := rfl
      rw [efw] at hP3
      have hrp := M_part3 e4 e3 hw y1
      obtain ⟨g1, g0⟩ := body_sg hrp (PS_a hP3).2.1 hce (PS_a hP3).2.2.1 (PS_a hP3).2.2.2.2
      have h33 : (am_uI τx 27 9 (nI (tnum t e (tq t e a)))).1 3 3 = nI (tq t e (tq t e a)) := by rw [uI_n (by omega)]; exact x2.1
      obtain ⟨s1, s0⟩ := X_wantSign (c := 59) (PS_a hP3).1 hce h33 (by omega)
      have hxf2 : fPx σx (am_uI τx 27 9 (nI (tnum t e (tq t e a)))) := fPx_uI (fPx_tr hxf (fPx_R x3)) (by omega)
      have hmf2 : fPm σm (am_uI τm 128 (1768 + 2) (nI (tnum t e (tq t e a)))) := fPm_uc (fPm_tr (fPm_uI (fPm_rf σm) (by omega)) (fPm_T y3)) (by omega)
      cases hs : decide (tkd t e (tq t e (tq t e a)) = 3 ∧ tnum t e (tq t e (tq t e a)) = 59) with
      | false =>
        obtain ⟨ρx, u1, u2, u3, u4⟩ := s0 hs
        refine Or.inl ⟨ρx, _, amk t e (tq t e (tq t e a)), tp t e (tq t e (tq t e a)), ?_, g0 hs, (amk_12 t e _).1, (amk_12 t e _).2, u2, u3, bdM_12 _ _ _, bdM_13 _ _ _, fPx_tr hxf2 (fPx_B u4), fPm_bd hmf2⟩
        rw [hent]
        simp (disch := omega) only [↓e_X9_takeLaw_13, ↓e_X9_takeLaw_29, ↓it_s, ↓y_iload, ↓y_lload, ↓y_aload, ↓y_istore, ↓y_lstore, ↓y_astore, ↓y_iinc, ↓y_cI, ↓y_cL, ↓y_bin, ↓y_binL, ↓y_div, ↓y_divL, ↓y_lshl, ↓y_un, ↓y_i2l, ↓y_lneg, ↓y_l2i, ↓y_lcmp, ↓y_dupI, ↓y_dupR, ↓y_dup2, ↓y_pop, ↓y_goto, ↓y_eq0, ↓y_lt0, ↓y_le0, ↓y_eq, ↓y_lt, ↓y_le, ↓y_switch, ↓y_sw0, ↓y_sw1, ↓y_getI, ↓y_getL, ↓y_getR, ↓y_getT, ↓y_putI, ↓y_putZ, ↓y_putL, ↓y_putT, ↓y_iald, ↓y_bald, ↓y_lald, ↓y_aald, ↓y_iast, ↓y_bast, ↓y_last, ↓y_alen, ↓y_iret, ↓y_zret, ↓y_lret, ↓y_vret, ↓y_svI, ↓y_svL, ↓y_svV, ↓y_ivI, ↓y_ivL, ↓y_ivV, ↓y_max, ↓y_min, ↓y_absL, ↓y_cpI, ↓y_cpL, ↓x_n1I, ↓x_n1L, ↓x_n1R, ↓x_n0I, ↓x_n0L, ↓x_n0R, ↓x_s0, ↓x_s1i, ↓x_s1r, ↓x_s1n, ↓x_s2, ↓x_c0, ↓x_c2, ↓x_tk0, ↓x_tk1, ↓x_rcv, x_rI1, x_rL1, x_rV1, x_rIn, x_rLn, x_rVn, x_rIf, x_rLf, x_rVf, x_40, x_41, x_42, x_43, x_44, ↓reduceIte, if_true, if_false, ao_iadd, ao_isub, ao_imul, ao_iand, ao_ior, ao_ishl, ao_ishr, ao_iushr, ao_ladd, ao_lsub, ao_lmul, ao_land, ao_lor, ao_idiv, ao_irem, ao_ldiv, ao_lrem, ao_ineg, ao_i2b, ao_i2s, Nat.reduceAdd, Nat.reduceMul, Nat.reduceSub, Nat.reduceEqDiff, Nat.reduceLeDiff, and_self, true_and, x_lit, x_ofn, x_z0, x_z1, x_inbT, x_ltT, x_ltF, x_leT, x_leF, x_eqF, x_eqT, x_inb, x_lt, x_le, x_eq, x_cl, x_sub, nI_add, pk_mul, x_m1e, x_m1e', x_m1l, x_m1n, x_m1s, Nat.not_lt_zero, x_zb, x_b0, x_b1, decide_eq_false_iff_not, decide_eq_true_eq, Bool.false_eq_true, Bool.true_eq_false, es1', x1, h6, u1, kd_3, kd_6, kd_27]
      | true =>
        obtain ⟨ρx, u1, u2, u3⟩ := s1 hs
        obtain ⟨ρm, v1, v2, v3⟩ := g1 hs
        have hde := (tq_le (t := t) hce).2
        have hgt3 := tq_gt hce (show tkd t e (tq t e (tq t e a)) ≠ 0 by have := (of_decide_eq_true hs).1; omega)
        refine Or.inr ⟨ρx, ρm, _, Ns, Nf, rT, true, dT, cT, X, tq t e (tq t e (tq t e a)), ?_, v1, PS_tok hP3 u3 v3 v2 hde, u2.1, by omega, ?_, ?_, fPx_tr hxf2 (fPx_R u3), fPm_tr hmf2 (fPm_T v3)⟩
        · rw [hent]
          simp (disch := omega) only [↓e_X9_takeLaw_13, ↓e_X9_takeLaw_29, ↓it_s, ↓y_iload, ↓y_lload, ↓y_aload, ↓y_istore, ↓y_lstore, ↓y_astore, ↓y_iinc, ↓y_cI, ↓y_cL, ↓y_bin, ↓y_binL, ↓y_div, ↓y_divL, ↓y_lshl, ↓y_un, ↓y_i2l, ↓y_lneg, ↓y_l2i, ↓y_lcmp, ↓y_dupI, ↓y_dupR, ↓y_dup2, ↓y_pop, ↓y_goto, ↓y_eq0, ↓y_lt0, ↓y_le0, ↓y_eq, ↓y_lt, ↓y_le, ↓y_switch, ↓y_sw0, ↓y_sw1, ↓y_getI, ↓y_getL, ↓y_getR, ↓y_getT, ↓y_putI, ↓y_putZ, ↓y_putL, ↓y_putT, ↓y_iald, ↓y_bald, ↓y_lald, ↓y_aald, ↓y_iast, ↓y_bast, ↓y_last, ↓y_alen, ↓y_iret, ↓y_zret, ↓y_lret, ↓y_vret, ↓y_svI, ↓y_svL, ↓y_svV, ↓y_ivI, ↓y_ivL, ↓y_ivV, ↓y_max, ↓y_min, ↓y_absL, ↓y_cpI, ↓y_cpL, ↓x_n1I, ↓x_n1L, ↓x_n1R, ↓x_n0I, ↓x_n0L, ↓x_n0R, ↓x_s0, ↓x_s1i, ↓x_s1r, ↓x_s1n, ↓x_s2, ↓x_c0, ↓x_c2, ↓x_tk0, ↓x_tk1, ↓x_rcv, x_rI1, x_rL1, x_rV1, x_rIn, x_rLn, x_rVn, x_rIf, x_rLf, x_rVf, x_40, x_41, x_42, x_43, x_44, ↓reduceIte, if_true, if_false, ao_iadd, ao_isub, ao_imul, ao_iand, ao_ior, ao_ishl, ao_ishr, ao_iushr, ao_ladd, ao_lsub, ao_lmul, ao_land, ao_lor, ao_idiv, ao_irem, ao_ldiv, ao_lrem, ao_ineg, ao_i2b, ao_i2s, Nat.reduceAdd, Nat.reduceMul, Nat.reduceSub, Nat.reduceEqDiff, Nat.reduceLeDiff, and_self, true_and, x_lit, x_ofn, x_z0, x_z1, x_inbT, x_ltT, x_ltF, x_leT, x_leF, x_eqF, x_eqT, x_inb, x_lt, x_le, x_eq, x_cl, x_sub, nI_add, pk_mul, x_m1e, x_m1e', x_m1l, x_m1n, x_m1s, Nat.not_lt_zero, x_zb, x_b0, x_b1, decide_eq_false_iff_not, decide_eq_true_eq, Bool.false_eq_true, Bool.true_eq_false, es1', x1, h6, u1, kd_3, kd_6, kd_27]
        · rw [u3.2 10 (by omega), uI_n (by omega), x3.2 10 (by omega), es1, uI_n (by omega)]
        · rw [u3.2 11 (by omega), uI_n (by omega), x3.2 11 (by omega), es1, uI_n (by omega)]
theorem P_redeals {t : Nat → Nat} {e : Nat} {σx σm : am_M} {V : Vt} {Ns Nf : List (List Nat)} {rT lT dT cT : Bool} {X a : Nat} (h : PS t e σx σm V Ns Nf rT lT dT cT X a) (hx : TokX t e a σx) (hw : twi t e a = some 4) : POut t e σx σm (S_X9_takeRedeals [.ref 6, .ref 3, .ref 27] σx) (bodyM σm) a := by
  have hP := h
  obtain ⟨⟨a1, a2, a3⟩, ⟨b1, b2', b3, b4, b5, b6, b7, b8⟩, ⟨c1, c2, c3, c4, c5, c6, c7, c8⟩, d, ⟨e1, e2, e3, e4, e5⟩, ⟨f1, f2, f3, f4⟩⟩ := h
  have h5 := hx.2.1
  have hk1 := tw_kd hw
  obtain ⟨t0, t1, t2, t3, t4, t5, t6⟩ := bt8 rT lT dT
  obtain ⟨o1, o2, o3, o4⟩ := M_readOnce (b := 2) (w := 3) (lo := 0) (hi := 9) e2 e4 e3 e5 c6 t0 (by omega) c8 (by omega) (by omega) (by omega)
  have hbe := (tq_le (t := t) e4).2
  have hgt := tq_gt e4 (show tkd t e a ≠ 0 by omega)
  have z1 : ¬ ((2 : Nat) = 0 ∧ cT = true) := fun z => by omega
  cases hf : dT with
  | true =>
    rw [hf] at c3
    have hm := body_bad (M_part4 e4 e3 hw (o2 z1 (by rw [t3]; exact hf))) (bdM_12 _ _ _) (by omega) (by omega)
    have hbl := X_blame (k := 5) (σ := σx)
    refine PO_bad (k := 5) (p := tp t e a) ?_ hm (by omega) (XF_bl (fR_rf _) h5) (fPm_rf _)
    simp (disch := omega) only [g_X9_takeRedeals, ↓e_X9_takeRedeals_0, ↓it_s, ↓y_iload, ↓y_lload, ↓y_aload, ↓y_istore, ↓y_lstore, ↓y_astore, ↓y_iinc, ↓y_cI, ↓y_cL, ↓y_bin, ↓y_binL, ↓y_div, ↓y_divL, ↓y_lshl, ↓y_un, ↓y_i2l, ↓y_lneg, ↓y_l2i, ↓y_lcmp, ↓y_dupI, ↓y_dupR, ↓y_dup2, ↓y_pop, ↓y_goto, ↓y_eq0, ↓y_lt0, ↓y_le0, ↓y_eq, ↓y_lt, ↓y_le, ↓y_switch, ↓y_sw0, ↓y_sw1, ↓y_getI, ↓y_getL, ↓y_getR, ↓y_getT, ↓y_putI, ↓y_putZ, ↓y_putL, ↓y_putT, ↓y_iald, ↓y_bald, ↓y_lald, ↓y_aald, ↓y_iast, ↓y_bast, ↓y_last, ↓y_alen, ↓y_iret, ↓y_zret, ↓y_lret, ↓y_vret, ↓y_svI, ↓y_svL, ↓y_svV, ↓y_ivI, ↓y_ivL, ↓y_ivV, ↓y_max, ↓y_min, ↓y_absL, ↓y_cpI, ↓y_cpL, ↓x_n1I, ↓x_n1L, ↓x_n1R, ↓x_n0I, ↓x_n0L, ↓x_n0R, ↓x_s0, ↓x_s1i, ↓x_s1r, ↓x_s1n, ↓x_s2, ↓x_c0, ↓x_c2, ↓x_tk0, ↓x_tk1, ↓x_rcv, x_rI1, x_rL1, x_rV1, x_rIn, x_rLn, x_rVn, x_rIf, x_rLf, x_rVf, x_40, x_41, x_42, x_43, x_44, ↓reduceIte, if_true, if_false, ao_iadd, ao_isub, ao_imul, ao_iand, ao_ior, ao_ishl, ao_ishr, ao_iushr, ao_ladd, ao_lsub, ao_lmul, ao_land, ao_lor, ao_idiv, ao_irem, ao_ldiv, ao_lrem, ao_ineg, ao_i2b, ao_i2s, Nat.reduceAdd, Nat.reduceMul, Nat.reduceSub, Nat.reduceEqDiff, Nat.reduceLeDiff, and_self, true_and, x_lit, x_ofn, x_z0, x_z1, x_inbT, x_ltT, x_ltF, x_leT, x_leF, x_eqF, x_eqT, x_inb, x_lt, x_le, x_eq, x_cl, x_sub, nI_add, pk_mul, x_m1e, x_m1e', x_m1l, x_m1n, x_m1s, Nat.not_lt_zero, x_zb, x_b0, x_b1, decide_eq_false_iff_not, decide_eq_true_eq, Bool.false_eq_true, Bool.true_eq_false, c3, b2_t, b2_f, hbl, kd_3, kd_6]
  | false =>
    rw [hf] at c3
    have hent : S_X9_takeRedeals [.ref 6, .ref 3, .ref 27] σx = dn_X9_takeRedeals_13 [some (.ref 6), some (.ref 3), some (.ref 27)] [] σx := by
      simp (disch := omega) only [g_X9_takeRedeals, ↓e_X9_takeRedeals_0, ↓it_s, ↓y_iload, ↓y_lload, ↓y_aload, ↓y_istore, ↓y_lstore, ↓y_astore, ↓y_iinc, ↓y_cI, ↓y_cL, ↓y_bin, ↓y_binL, ↓y_div, ↓y_divL, ↓y_lshl, ↓y_un, ↓y_i2l, ↓y_lneg, ↓y_l2i, ↓y_lcmp, ↓y_dupI, ↓y_dupR, ↓y_dup2, ↓y_pop, ↓y_goto, ↓y_eq0, ↓y_lt0, ↓y_le0, ↓y_eq, ↓y_lt, ↓y_le, ↓y_switch, ↓y_sw0, ↓y_sw1, ↓y_getI, ↓y_getL, ↓y_getR, ↓y_getT, ↓y_putI, ↓y_putZ, ↓y_putL, ↓y_putT, ↓y_iald, ↓y_bald, ↓y_lald, ↓y_aald, ↓y_iast, ↓y_bast, ↓y_last, ↓y_alen, ↓y_iret, ↓y_zret, ↓y_lret, ↓y_vret, ↓y_svI, ↓y_svL, ↓y_svV, ↓y_ivI, ↓y_ivL, ↓y_ivV, ↓y_max, ↓y_min, ↓y_absL, ↓y_cpI, ↓y_cpL, ↓x_n1I, ↓x_n1L, ↓x_n1R, ↓x_n0I, ↓x_n0L, ↓x_n0R, ↓x_s0, ↓x_s1i, ↓x_s1r, ↓x_s1n, ↓x_s2, ↓x_c0, ↓x_c2, ↓x_tk0, ↓x_tk1, ↓x_rcv, x_rI1, x_rL1, x_rV1, x_rIn, x_rLn, x_rVn, x_rIf, x_rLf, x_rVf, x_40, x_41, x_42, x_43, x_44, ↓reduceIte, if_true, if_false, ao_iadd, ao_isub, ao_imul, ao_iand, ao_ior, ao_ishl, ao_ishr, ao_iushr, ao_ladd, ao_lsub, ao_lmul, ao_land, ao_lor, ao_idiv, ao_irem, ao_ldiv, ao_lrem, ao_ineg, ao_i2b, ao_i2s, Nat.reduceAdd, Nat.reduceMul, Nat.reduceSub, Nat.reduceEqDiff, Nat.reduceLeDiff, and_self, true_and, x_lit, x_ofn, x_z0, x_z1, x_inbT, x_ltT, x_ltF, x_leT, x_leF, x_eqF, x_eqT, x_inb, x_lt, x_le, x_eq, x_cl, x_sub, nI_add, pk_mul, x_m1e, x_m1e', x_m1l, x_m1n, x_m1s, Nat.not_lt_zero, x_zb, x_b0, x_b1, decide_eq_false_iff_not, decide_eq_true_eq, Bool.false_eq_true, Bool.true_eq_false, c3, b2_f, kd_3, kd_6]
    obtain ⟨σx1, es1⟩ : ∃ s, s = am_uI σx 6 2 (nI 1) := ⟨_, rfl⟩
    have es1' := es1.symm
    have hPf : PS t e σx1 (am_uI σm 123 25 (nI (b2 rT + 2 * b2 lT + 4 * b2 true))) V Ns Nf rT lT true cT X a := by
      rw [es1]
      exact PS_flag hP (by simp) rfl
    have h31 : σx1.1 3 3 = nI (tq t e a) := by rw [es1, uI_n (by omega)]; exact hx.1
    obtain ⟨n1, n0⟩ := X_wantNumber (lo := 0) (hi := 9) (PS_a hPf).1 hbe h31 (by omega) (by omega)
    have hxf : fPx σx σx1 := by rw [es1]; exact fPx_uI (fPx_rf _) (by omega)
    cases hn : isNo t e 0 9 (tq t e a) with
    | false =>
      obtain ⟨τm, y1, y2, y3, y4⟩ := o3 z1 (by rw [t3]; exact hf) hn
      obtain ⟨τx, x1, x2, x3, x4⟩ := n0 hn
      have hm := body_bad (M_part4 e4 e3 hw y1) y2 (noK_12 t e _).1 (noK_12 t e _).2
      refine Or.inl ⟨τx, τm, noK t e (tq t e a), tp t e (tq t e a), ?_, hm, (noK_12 t e _).1, (noK_12 t e _).2, x2, x3, y2, y3, fPx_tr hxf (fPx_B x4), y4⟩
      rw [hent]
      simp (disch := omega) only [↓e_X9_takeRedeals_13, ↓it_s, ↓y_iload, ↓y_lload, ↓y_aload, ↓y_istore, ↓y_lstore, ↓y_astore, ↓y_iinc, ↓y_cI, ↓y_cL, ↓y_bin, ↓y_binL, ↓y_div, ↓y_divL, ↓y_lshl, ↓y_un, ↓y_i2l, ↓y_lneg, ↓y_l2i, ↓y_lcmp, ↓y_dupI, ↓y_dupR, ↓y_dup2, ↓y_pop, ↓y_goto, ↓y_eq0, ↓y_lt0, ↓y_le0, ↓y_eq, ↓y_lt, ↓y_le, ↓y_switch, ↓y_sw0, ↓y_sw1, ↓y_getI, ↓y_getL, ↓y_getR, ↓y_getT, ↓y_putI, ↓y_putZ, ↓y_putL, ↓y_putT, ↓y_iald, ↓y_bald, ↓y_lald, ↓y_aald, ↓y_iast, ↓y_bast, ↓y_last, ↓y_alen, ↓y_iret, ↓y_zret, ↓y_lret, ↓y_vret, ↓y_svI, ↓y_svL, ↓y_svV, ↓y_ivI, ↓y_ivL, ↓y_ivV, ↓y_max, ↓y_min, ↓y_absL, ↓y_cpI, ↓y_cpL, ↓x_n1I, ↓x_n1L, ↓x_n1R, ↓x_n0I, ↓x_n0L, ↓x_n0R, ↓x_s0, ↓x_s1i, ↓x_s1r, ↓x_s1n, ↓x_s2, ↓x_c0, ↓x_c2, ↓x_tk0, ↓x_tk1, ↓x_rcv, x_rI1, x_rL1, x_rV1, x_rIn, x_rLn, x_rVn, x_rIf, x_rLf, x_rVf, x_40, x_41, x_42, x_43, x_44, ↓reduceIte, if_true, if_false, ao_iadd, ao_isub, ao_imul, ao_iand, ao_ior, ao_ishl, ao_ishr, ao_iushr, ao_ladd, ao_lsub, ao_lmul, ao_land, ao_lor, ao_idiv, ao_irem, ao_ldiv, ao_lrem, ao_ineg, ao_i2b, ao_i2s, Nat.reduceAdd, Nat.reduceMul, Nat.reduceSub, Nat.reduceEqDiff, Nat.reduceLeDiff, and_self, true_and, x_lit, x_ofn, x_z0, x_z1, x_inbT, x_ltT, x_ltF, x_leT, x_leF, x_eqF, x_eqT, x_inb, x_lt, x_le, x_eq, x_cl, x_sub, nI_add, pk_mul, x_m1e, x_m1e', x_m1l, x_m1n, x_m1s, Nat.not_lt_zero, x_zb, x_b0, x_b1, decide_eq_false_iff_not, decide_eq_true_eq, Bool.false_eq_true, Bool.true_eq_false, es1', x1, kd_3, kd_6]
    | true =>
      obtain ⟨m1, n2, n3⟩ := of_decide_eq_true hn
      obtain ⟨τm, y1, y2, y3⟩ := o4 z1 (by rw [t3]; exact hf) hn
      obtain ⟨τx, x1, x2, x3⟩ := n1 hn
      rw [t6] at y3
      have hce := (tq_le (t := t) hbe).2
      have hgt2 := tq_gt hbe (show tkd t e (tq t e a) ≠ 0 by omega)
      have hP2 := PS_tok hPf x3 y3 y2 hce
      have h6 := x2.2.2.2.2.1 (Or.inl m1)
      obtain ⟨w0, w1, w2, w3, w4, w5, w6, w7⟩ := a2.1
      have hP3 := PS_num (w := 3) (x := tnum t e (tq t e a)) hP2 (by omega) ⟨⟨w0, w1, w2, n3, w4, w5, w6, w7⟩, WC_uN a2.2.1 (by omega), a2.2.2⟩
      have efw : fwN 3 = 10 := rfl
      rw [efw] at hP3
      have hrp := M_part4 e4 e3 hw y1
      obtain ⟨g1, g0⟩ := body_sg hrp (PS_a hP3).2.1 hce (PS_a hP3).2.2.1 (PS_a hP3).2.2.2.2
      have h33 : (am_uI τx 27 10 (nI (tnum t e (tq t e a)))).1 3 3 = nI (tq t e (tq t e a)) := by rw [uI_n (by omega)]; exact x2.1
      obtain ⟨s1, s0⟩ := X_wantSign (c := 59) (PS_a hP3).1 hce h33 (by omega)
      have hxf2 : fPx σx (am_uI τx 27 10 (nI (tnum t e (tq t e a)))) := fPx_uI (fPx_tr hxf (fPx_R x3)) (by omega)
      have hmf2 : fPm σm (am_uI τm 128 (1768 + 3) (nI (tnum t e (tq t e a)))) := fPm_uc (fPm_tr (fPm_uI (fPm_rf σm) (by omega)) (fPm_T y3)) (by omega)
      cases hs : decide (tkd t e (tq t e (tq t e a)) = 3 ∧ tnum t e (tq t e (tq t e a)) = 59) with
      | false =>
        obtain ⟨ρx, u1, u2, u3, u4⟩ := s0 hs
        refine Or.inl ⟨ρx, _, amk t e (tq t e (tq t e a)), tp t e (tq t e (tq t e a)), ?_, g0 hs, (amk_12 t e _).1, (amk_12 t e _).2, u2, u3, bdM_12 _ _ _, bdM_13 _ _ _, fPx_tr hxf2 (fPx_B u4), fPm_bd hmf2⟩
        rw [hent]
        simp (disch := omega) only [↓e_X9_takeRedeals_13, ↓e_X9_takeRedeals_30, ↓it_s, ↓y_iload, ↓y_lload, ↓y_aload, ↓y_istore, ↓y_lstore, ↓y_astore, ↓y_iinc, ↓y_cI, ↓y_cL, ↓y_bin, ↓y_binL, ↓y_div, ↓y_divL, ↓y_lshl, ↓y_un, ↓y_i2l, ↓y_lneg, ↓y_l2i, ↓y_lcmp, ↓y_dupI, ↓y_dupR, ↓y_dup2, ↓y_pop, ↓y_goto, ↓y_eq0, ↓y_lt0, ↓y_le0, ↓y_eq, ↓y_lt, ↓y_le, ↓y_switch, ↓y_sw0, ↓y_sw1, ↓y_getI, ↓y_getL, ↓y_getR, ↓y_getT, ↓y_putI, ↓y_putZ, ↓y_putL, ↓y_putT, ↓y_iald, ↓y_bald, ↓y_lald, ↓y_aald, ↓y_iast, ↓y_bast, ↓y_last, ↓y_alen, ↓y_iret, ↓y_zret, ↓y_lret, ↓y_vret, ↓y_svI, ↓y_svL, ↓y_svV, ↓y_ivI, ↓y_ivL, ↓y_ivV, ↓y_max, ↓y_min, ↓y_absL, ↓y_cpI, ↓y_cpL, ↓x_n1I, ↓x_n1L, ↓x_n1R, ↓x_n0I, ↓x_n0L, ↓x_n0R, ↓x_s0, ↓x_s1i, ↓x_s1r, ↓x_s1n, ↓x_s2, ↓x_c0, ↓x_c2, ↓x_tk0, ↓x_tk1, ↓x_rcv, x_rI1, x_rL1, x_rV1, x_rIn, x_rLn, x_rVn, x_rIf, x_rLf, x_rVf, x_40, x_41, x_42, x_43, x_44, ↓reduceIte, if_true, if_false, ao_iadd, ao_isub, ao_imul, ao_iand, ao_ior, ao_ishl, ao_ishr, ao_iushr, ao_ladd, ao_lsub, ao_lmul, ao_land, ao_lor, ao_idiv, ao_irem, ao_ldiv, ao_lrem, ao_ineg, ao_i2b, ao_i2s, Nat.reduceAdd, Nat.reduceMul, Nat.reduceSub, Nat.reduceEqDiff, Nat.reduceLeDiff, and_self, true_and, x_lit, x_ofn, x_z0, x_z1, x_inbT, x_ltT, x_ltF, x_leT, x_leF, x_eqF, x_eqT, x_inb, x_lt, x_le, x_eq, x_cl, x_sub, nI_add, pk_mul, x_m1e, x_m1e', x_m1l, x_m1n, x_m1s, Nat.not_lt_zero, x_zb, x_b0, x_b1, decide_eq_false_iff_not, decide_eq_true_eq, Bool.false_eq_true, Bool.true_eq_false, es1', x1, h6, u1, kd_3, kd_6, kd_27]
      | true =>
        obtain ⟨ρx, u1, u2, u3⟩ := s1 hs
        obtain ⟨ρm, v1, v2, v3⟩ := g1 hs
        have hde := (tq_le (t := t) hce).2
        have hgt3 := tq_gt hce (show tkd t e (tq t e (tq t e a)) ≠ 0 by have := (of_decide_eq_true hs).1; omega)
        refine Or.inr ⟨ρx, ρm, _, Ns, Nf, rT, lT, true, cT, X, tq t e (tq t e (tq t e a)), ?_, v1, PS_tok hP3 u3 v3 v2 hde, u2.1, by omega, ?_, ?_, fPx_tr hxf2 (fPx_R u3), fPm_tr hmf2 (fPm_T v3)⟩
        · rw [hent]
          simp (disch := omega) only [↓e_X9_takeRedeals_13, ↓e_X9_takeRedeals_30, ↓it_s, ↓y_iload, ↓y_lload, ↓y_aload, ↓y_istore, ↓y_lstore, ↓y_astore, ↓y_iinc, ↓y_cI, ↓y_cL, ↓y_bin, ↓y_binL, ↓y_div, ↓y_divL, ↓y_lshl, ↓y_un, ↓y_i2l, ↓y_lneg, ↓y_l2i, ↓y_lcmp, ↓y_dupI, ↓y_dupR, ↓y_dup2, ↓y_pop, ↓y_goto, ↓y_eq0, ↓y_lt0, ↓y_le0, ↓y_eq, ↓y_lt, ↓y_le, ↓y_switch, ↓y_sw0, ↓y_sw1, ↓y_getI, ↓y_getL, ↓y_getR, ↓y_getT, ↓y_putI, ↓y_putZ, ↓y_putL, ↓y_putT, ↓y_iald, ↓y_bald, ↓y_lald, ↓y_aald, ↓y_iast, ↓y_bast, ↓y_last, ↓y_alen, ↓y_iret, ↓y_zret, ↓y_lret, ↓y_vret, ↓y_svI, ↓y_svL, ↓y_svV, ↓y_ivI, ↓y_ivL, ↓y_ivV, ↓y_max, ↓y_min, ↓y_absL, ↓y_cpI, ↓y_cpL, ↓x_n1I, ↓x_n1L, ↓x_n1R, ↓x_n0I, ↓x_n0L, ↓x_n0R, ↓x_s0, ↓x_s1i, ↓x_s1r, ↓x_s1n, ↓x_s2, ↓x_c0, ↓x_c2, ↓x_tk0, ↓x_tk1, ↓x_rcv, x_rI1, x_rL1, x_rV1, x_rIn, x_rLn, x_rVn, x_rIf, x_rLf, x_rVf, x_40, x_41, x_42, x_43, x_44, ↓reduceIte, if_true, if_false, ao_iadd, ao_isub, ao_imul, ao_iand, ao_ior, ao_ishl, ao_ishr, ao_iushr, ao_ladd, ao_lsub, ao_lmul, ao_land, ao_lor, ao_idiv, ao_irem, ao_ldiv, ao_lrem, ao_ineg, ao_i2b, ao_i2s, Nat.reduceAdd, Nat.reduceMul, Nat.reduceSub, Nat.reduceEqDiff, Nat.reduceLeDiff, and_self, true_and, x_lit, x_ofn, x_z0, x_z1, x_inbT, x_ltT, x_ltF, x_leT, x_leF, x_eqF, x_eqT, x_inb, x_lt, x_le, x_eq, x_cl, x_sub, nI_add, pk_mul, x_m1e, x_m1e', x_m1l, x_m1n, x_m1s, Nat.not_lt_zero, x_zb, x_b0, x_b1, decide_eq_false_iff_not, decide_eq_true_eq, Bool.false_eq_true, Bool.true_eq_false, es1', x1, h6, u1, kd_3, kd_6, kd_27]
        · rw [u3.2 10 (by omega), uI_n (by omega), x3.2 10 (by omega), es1, uI_n (by omega)]
        · rw [u3.2 11 (by omega), uI_n (by omega), x3.2 11 (by omega), es1, uI_n (by omega)]
