/-! a card is told, both sides -/
/-- the model's memory, with the pile's length told that it tells at the end -/
def ptM (q n : Nat) (σ : am_M) : am_M := if q = 7 then am_uI σ 128 1776 (nI n) else am_uI (am_uI σ 128 (1782 + q) (nI n)) 128 1772 (nI (q + 1))
theorem ptM_o {q n j : Nat} {σ : am_M} (hj : j ≠ 128) : (ptM q n σ).1 j = σ.1 j := by
  unfold ptM; split
  · rw [uI_n hj]
  · rw [uI_n hj, uI_n hj]
theorem ptM_2 (q n : Nat) (σ : am_M) : (ptM q n σ).2 = σ.2 := by
  unfold ptM; split <;> rfl
theorem ptM_c {q n i : Nat} {σ : am_M} (h1 : i ≠ 1772) (h2 : i ≠ 1776) (h3 : i < 1782 ∨ 1787 < i) (hq : q < 6 ∨ q = 7) : (ptM q n σ).1 128 i = σ.1 128 i := by
  unfold ptM; split
  · rw [uI_s, up_n h2]
  · rw [uI_s, up_n h1, uI_s, up_n (by omega)]
theorem ptM_tok {t : Nat → Nat} {e a q n : Nat} {σ : am_M} : TokM t e a (ptM q n σ) ↔ TokM t e a σ := by
  unfold TokM
  rw [ptM_o (by omega), ptM_2]
theorem ptM_tm {t : Nat → Nat} {e q n : Nat} {σ : am_M} : TM (ptM q n σ) t e ↔ TM σ t e := by
  unfold TM
  rw [ptM_o (by omega), ptM_o (by omega)]
theorem M_has24 {X c : Nat} (hX : X < 16777216) (hc : c < 24) (σ : am_M) : S_X11_has [.int (nI X), .int (nI c)] σ = some (some (.int (nI (b2 (X.testBit c)))), σ) := by
  have h := msk_bit hX hc
  simp (disch := omega) only [g_X11_has, ↓e_X11_has_14, ↓e_X11_has_13, ↓e_X11_has_0, ↓it_s, ↓y_iload, ↓y_lload, ↓y_aload, ↓y_istore, ↓y_lstore, ↓y_astore, ↓y_iinc, ↓y_cI, ↓y_cL, ↓y_bin, ↓y_binL, ↓y_div, ↓y_divL, ↓y_lshl, ↓y_un, ↓y_i2l, ↓y_lneg, ↓y_l2i, ↓y_lcmp, ↓y_dupI, ↓y_dupR, ↓y_dup2, ↓y_pop, ↓y_goto, ↓y_eq0, ↓y_lt0, ↓y_le0, ↓y_eq, ↓y_lt, ↓y_le, ↓y_switch, ↓y_sw0, ↓y_sw1, ↓y_getI, ↓y_getL, ↓y_getR, ↓y_getT, ↓y_putI, ↓y_putZ, ↓y_putL, ↓y_putT, ↓y_iald, ↓y_bald, ↓y_lald, ↓y_aald, ↓y_iast, ↓y_bast, ↓y_last, ↓y_alen, ↓y_iret, ↓y_zret, ↓y_lret, ↓y_vret, ↓y_svI, ↓y_svL, ↓y_svV, ↓y_ivI, ↓y_ivL, ↓y_ivV, ↓y_max, ↓y_min, ↓y_absL, ↓y_cpI, ↓y_cpL, ↓x_n1I, ↓x_n1L, ↓x_n1R, ↓x_n0I, ↓x_n0L, ↓x_n0R, ↓x_s0, ↓x_s1i, ↓x_s1r, ↓x_s1n, ↓x_s2, ↓x_c0, ↓x_c2, ↓x_tk0, ↓x_tk1, ↓x_rcv, x_rI1, x_rL1, x_rV1, x_rIn, x_rLn, x_rVn, x_rIf, x_rLf, x_rVf, x_40, x_41, x_42, x_43, x_44, ↓reduceIte, if_true, if_false, ao_iadd, ao_isub, ao_imul, ao_iand, ao_ior, ao_ishl, ao_ishr, ao_iushr, ao_ladd, ao_lsub, ao_lmul, ao_land, ao_lor, ao_idiv, ao_irem, ao_ldiv, ao_lrem, ao_ineg, ao_i2b, ao_i2s, Nat.reduceAdd, Nat.reduceMul, Nat.reduceSub, Nat.reduceEqDiff, Nat.reduceLeDiff, and_self, true_and, x_lit, x_ofn, x_z0, x_z1, x_inbT, x_ltT, x_ltF, x_leT, x_leF, x_eqF, x_eqT, x_inb, x_lt, x_le, x_eq, x_cl, x_sub, nI_add, pk_mul, x_m1e, x_m1e', x_m1l, x_m1n, x_m1s, Nat.not_lt_zero, x_zb, x_b0, x_b1, decide_eq_false_iff_not, decide_eq_true_eq, Bool.false_eq_true, Bool.true_eq_false, h, x_b1]
  cases X.testBit c <;> simp [b2]
theorem pt_push {q n c : Nat} {V : Vt} {σ μ : am_M} (hq : q < 6 ∨ q = 7) (hn : n = (vP V q).length) (hn2 : q < 6 → n < 12) (hn3 : n < 24) (wc : WC V) (h : MC ((ptM q n σ).1 128) 1768 V) (hm : μ.1 128 = va_up (σ.1 128) (mBeg q + 1768 + n) (nI c)) : MC ((ptM q (n + 1) μ).1 128) 1768 (vuP V q (vP V q ++ [c])) := by
  have hp := MC_pile h (p := q) (by omega)
  have hL : mLen q = if q = 7 then 8 else 14 + q := by
    unfold mLen
    rcases hq with z | z
    · rw [if_pos z, if_neg (by omega)]
    · subst z; rfl
  have hB : mBeg q = if q = 7 then 92 else 20 + 12 * q := by
    unfold mBeg
    rcases hq with z | z
    · rw [if_pos z, if_neg (by omega)]
    · subst z; rfl
  have hg : ∀ j, j ≠ mLen q + 1768 → j ≠ mBeg q + 1768 + n → (ptM q (n + 1) μ).1 128 j = (ptM q n σ).1 128 j := fun j p1 p2 => by
    unfold ptM
    by_cases z : q = 7
    · rw [if_pos z, if_pos z] at *
      rw [uI_s, up_n (by omega), uI_s, up_n (by omega), hm, up_n p2]
    · rw [if_neg z] at *
      rw [if_neg z]
      by_cases w : j = 1772
      · subst w; rw [uI_s, up_s, uI_s, up_s]
      · rw [uI_s, up_n w, uI_s, up_n (by omega), uI_s, up_n w, uI_s, up_n (by omega), hm, up_n p2]
  refine MC_uP h wc (by omega) ?_ ?_ ?_
  · intro j p1 p2
    refine hg j p1 ?_
    rcases hq with z | z
    · rw [if_pos z] at p2
      have := hn2 z
      omega
    · rw [if_neg (by omega)] at p2
      omega
  · rw [List.length_append, ← hn, hL]
    unfold ptM
    by_cases z : q = 7
    · rw [if_pos z, if_pos z, uI_s, up_s]; rfl
    · rw [if_neg z, if_neg z, uI_s, up_n (by omega), uI_s, show 14 + q + 1768 = 1782 + q by omega, up_s]; rfl
  · intro k d hk
    by_cases w : k < n
    · rw [List.getElem?_append_left (by omega)] at hk
      rw [hg _ (by rw [hL, hB]; split <;> omega) (by omega)]
      exact hp.2 k d hk
    · have hl := (List.getElem?_eq_some_iff.mp hk).1
      rw [List.length_append, ← hn] at hl
      have hl' : k < n + 1 := hl
      have e0 : k = n := by omega
      subst e0
      rw [List.getElem?_append_right (by omega), ← hn, Nat.sub_self] at hk
      have : c = d := Option.some.inj hk
      subst this
      unfold ptM
      by_cases z : q = 7
      · rw [if_pos z, uI_s, up_n (by rw [hB, if_pos z]; omega), hm, up_s]
      · rw [if_neg z, uI_s, up_n (by rw [hB, if_neg z]; omega), uI_s, up_n (by rw [hB, if_neg z]; omega), hm, up_s]
def COut (t : Nat → Nat) (e q i : Nat) (σx σm : am_M) (V : Vt) (Ns Nf : List (List Nat)) (rT lT dT cT : Bool) (X a : Nat) (rx : Option am_R) (rm : (Nat → am_K) → Option am_R) (bs mx : Nat) : Prop :=
  (∃ τx τm k p, rx = some (some (.int (nI 0)), τx) ∧ (∀ B, rm B = some (some (.int (nI 0)), τm)) ∧ 0 < k ∧ k < 100 ∧ τx.1 3 10 = nI k ∧ τx.1 3 11 = nI p ∧ τm.1 123 12 = nI k ∧ τm.1 123 13 = nI p ∧ fPx σx τx ∧ fPm σm τm) ∨
  (∃ τx τm c b y4 y5 y6, rx = some (some (.int (nI 1)), τx) ∧ (∀ B : Nat → am_K, rm B = B 7 [some (.ref 123), some (.int (nI bs)), some (.int (nI mx)), some (.int (nI (i + 1))), y4, y5, y6] [] τm) ∧ PS t e τx (ptM q ((vP V q).length + 1) τm) (vuP V q (vP V q ++ [c])) Ns Nf rT lT dT cT (X ||| 2 ^ c) b ∧ τx.1 3 3 = nI b ∧ a < b ∧ τx.1 3 10 = σx.1 3 10 ∧ τx.1 3 11 = σx.1 3 11 ∧ fPx σx τx ∧ fPm σm τm ∧ τm.1 128 1772 = σm.1 128 1772)
theorem P_card {t : Nat → Nat} {e q i bs mx : Nat} {σx σm : am_M} {V : Vt} {Ns Nf : List (List Nat)} {rT lT dT cT : Bool} {X a : Nat} {y4 y5 y6 : Option Value} (hq : (q < 6 ∧ q < vN V 4 ∧ (vP V q).length = i ∧ mx = 12) ∨ (q = 7 ∧ i ≤ (vP V q).length ∧ mx = 25)) (hbs : bs + i = mBeg q + 1768 + (vP V q).length) (h : PS t e σx (ptM q (vP V q).length σm) V Ns Nf rT lT dT cT X a) (hx : TokX t e a σx) (hk1 : tkd t e a = 1) :
    COut t e q i σx σm V Ns Nf rT lT dT cT X a (S_X9_takeCard [.ref 6, .ref 3, .ref 26, .int (nI (if q = 7 then 8 else q))] σx) (fun B => dn_X11_readCards_7 B [some (.ref 123), some (.int (nI bs)), some (.int (nI mx)), some (.int (nI i)), y4, y5, y6] [] σm) bs mx := by
  have hP := h
  obtain ⟨⟨a1, a2, a3⟩, ⟨b1, b2', b3, b4, b5, b6, b7, b8⟩, ⟨c1, c2, c3, c4, c5, c6, c7, c8⟩, d, ⟨e1, e2, e3, e4, e5⟩, ⟨f1, f2, f3, f4⟩⟩ := h
  rw [ptM_tok] at e3
  rw [ptM_tm] at e2
  rw [ptM_o (by omega)] at e5 c6 c7 c8
  have hq67 : q < 6 ∨ q = 7 := by omega
  have hn24 := a2.2.1.len (p := q) (by omega)
  have h5 := hx.2.1
  have h14 := e3.2.2.1
  have h15 := e3.1
  rw [hk1] at h14
  have hbe := (tq_le (t := t) e4).2
  have hgt := tq_gt e4 (show tkd t e a ≠ 0 by omega)
  have l1 : Ns.length ≤ 4 := by rw [b1]; exact a2.1.2.1
  have x7 : σx.1 27 7 = nI Ns.length := by rw [b1]; exact a1.1.2.1
  have x6 : σx.1 27 6 = nI (vN V 0) := a1.1.1
  have m1 : σm.1 128 1769 = nI Ns.length := by
    have := a3.1 1 (by omega)
    rw [ptM_c (by omega) (by omega) (by omega) hq67] at this
    rw [b1]; exact this
  have m0 : σm.1 128 1768 = nI (vN V 0) := by
    have := a3.1 0 (by omega)
    rw [ptM_c (by omega) (by omega) (by omega) hq67] at this
    exact this
  have hv0 := a2.1.1
  have b7' : NmM σm (10 * 4 + 4 * 0) Ns := fun i r w => by
    have := b7 i r w
    rw [ptM_2] at this; exact this
  obtain ⟨t1, t2, t3⟩ := M_told (b := 4) (Ns := Ns) 0 e2 e4 e3 e5 (by omega) (by omega) m1 (by rw [if_pos rfl]; exact l1) b7' b3
  have wn := X_isName e1.2.2.1 e4 hx
  -- once it is bad, the model ends so
  have hbad : ∀ (μ : am_M) (k p : Nat) (z4 : Option Value) (s : Int32), μ.1 123 12 = nI k → 0 < k → k < 100 → μ.1 123 15 = nI p → μ.1 128 1768 = nI (vN V 0) → ∀ B, dn_X11_readCards_52 B [some (.ref 123), some (.int (nI bs)), some (.int (nI mx)), some (.int (nI i)), some (.int s), y5, y6] [] μ = some (some (.int (nI 0)), μ) := fun μ k p z4 s g1 g2 g3 g4 g5 B => by
    have hmu := M_mustB (x := nI 1) g1 g2 g3
    have hco := M_countB (x := nI 1) (y := nI (vN V 0)) g1 g2 g3
    simp (disch := omega) only [↓e_X11_readCards_52, ↓e_X11_readCards_112, ↓it_s, ↓y_iload, ↓y_lload, ↓y_aload, ↓y_istore, ↓y_lstore, ↓y_astore, ↓y_iinc, ↓y_cI, ↓y_cL, ↓y_bin, ↓y_binL, ↓y_div, ↓y_divL, ↓y_lshl, ↓y_un, ↓y_i2l, ↓y_lneg, ↓y_l2i, ↓y_lcmp, ↓y_dupI, ↓y_dupR, ↓y_dup2, ↓y_pop, ↓y_goto, ↓y_eq0, ↓y_lt0, ↓y_le0, ↓y_eq, ↓y_lt, ↓y_le, ↓y_switch, ↓y_sw0, ↓y_sw1, ↓y_getI, ↓y_getL, ↓y_getR, ↓y_getT, ↓y_putI, ↓y_putZ, ↓y_putL, ↓y_putT, ↓y_iald, ↓y_bald, ↓y_lald, ↓y_aald, ↓y_iast, ↓y_bast, ↓y_last, ↓y_alen, ↓y_iret, ↓y_zret, ↓y_lret, ↓y_vret, ↓y_svI, ↓y_svL, ↓y_svV, ↓y_ivI, ↓y_ivL, ↓y_ivV, ↓y_max, ↓y_min, ↓y_absL, ↓y_cpI, ↓y_cpL, ↓x_n1I, ↓x_n1L, ↓x_n1R, ↓x_n0I, ↓x_n0L, ↓x_n0R, ↓x_s0, ↓x_s1i, ↓x_s1r, ↓x_s1n, ↓x_s2, ↓x_c0, ↓x_c2, ↓x_tk0, ↓x_tk1, ↓x_rcv, x_rI1, x_rL1, x_rV1, x_rIn, x_rLn, x_rVn, x_rIf, x_rLf, x_rVf, x_40, x_41, x_42, x_43, x_44, ↓reduceIte, if_true, if_false, ao_iadd, ao_isub, ao_imul, ao_iand, ao_ior, ao_ishl, ao_ishr, ao_iushr, ao_ladd, ao_lsub, ao_lmul, ao_land, ao_lor, ao_idiv, ao_irem, ao_ldiv, ao_lrem, ao_ineg, ao_i2b, ao_i2s, Nat.reduceAdd, Nat.reduceMul, Nat.reduceSub, Nat.reduceEqDiff, Nat.reduceLeDiff, and_self, true_and, x_lit, x_ofn, x_z0, x_z1, x_inbT, x_ltT, x_ltF, x_leT, x_leF, x_eqF, x_eqT, x_inb, x_lt, x_le, x_eq, x_cl, x_sub, nI_add, pk_mul, x_m1e, x_m1e', x_m1l, x_m1n, x_m1s, Nat.not_lt_zero, x_zb, x_b0, x_b1, decide_eq_false_iff_not, decide_eq_true_eq, Bool.false_eq_true, Bool.true_eq_false, hmu, hco, g1, g4, g5, kd_123, kd_128, ln_128]
  have hak : amk t e a = 2 := by unfold amk; rw [if_neg (by omega)]
  cases hnm : isNm t e a with
  | false =>
    rw [hnm] at wn
    have hto := t1 hnm
    rw [hak] at hto
    have hbl := X_blame (k := 2) (σ := σx)
    obtain ⟨q1, q2, q3⟩ := XF_bl (k := 2) (p := tp t e a) (fR_rf σx) h5
    have hb12 := bdM_12 σm 2 (tp t e a)
    have hB := hbad (bdM σm 2 (tp t e a)) 2 (tp t e a) none (nI 0) hb12 (by omega) (by omega) (TokM_bd e3).1 m0
    refine Or.inl ⟨_, bdM σm 2 (tp t e a), 2, tp t e a, ?_, fun B => ?_, by omega, by omega, q1, q2, bdM_12 _ _ _, bdM_13 _ _ _, fPx_B q3, fPm_bd (fPm_rf _)⟩
    · simp (disch := omega) only [g_X9_takeCard, ↓e_X9_takeCard_0, ↓it_s, ↓y_iload, ↓y_lload, ↓y_aload, ↓y_istore, ↓y_lstore, ↓y_astore, ↓y_iinc, ↓y_cI, ↓y_cL, ↓y_bin, ↓y_binL, ↓y_div, ↓y_divL, ↓y_lshl, ↓y_un, ↓y_i2l, ↓y_lneg, ↓y_l2i, ↓y_lcmp, ↓y_dupI, ↓y_dupR, ↓y_dup2, ↓y_pop, ↓y_goto, ↓y_eq0, ↓y_lt0, ↓y_le0, ↓y_eq, ↓y_lt, ↓y_le, ↓y_switch, ↓y_sw0, ↓y_sw1, ↓y_getI, ↓y_getL, ↓y_getR, ↓y_getT, ↓y_putI, ↓y_putZ, ↓y_putL, ↓y_putT, ↓y_iald, ↓y_bald, ↓y_lald, ↓y_aald, ↓y_iast, ↓y_bast, ↓y_last, ↓y_alen, ↓y_iret, ↓y_zret, ↓y_lret, ↓y_vret, ↓y_svI, ↓y_svL, ↓y_svV, ↓y_ivI, ↓y_ivL, ↓y_ivV, ↓y_max, ↓y_min, ↓y_absL, ↓y_cpI, ↓y_cpL, ↓x_n1I, ↓x_n1L, ↓x_n1R, ↓x_n0I, ↓x_n0L, ↓x_n0R, ↓x_s0, ↓x_s1i, ↓x_s1r, ↓x_s1n, ↓x_s2, ↓x_c0, ↓x_c2, ↓x_tk0, ↓x_tk1, ↓x_rcv, x_rI1, x_rL1, x_rV1, x_rIn, x_rLn, x_rVn, x_rIf, x_rLf, x_rVf, x_40, x_41, x_42, x_43, x_44, ↓reduceIte, if_true, if_false, ao_iadd, ao_isub, ao_imul, ao_iand, ao_ior, ao_ishl, ao_ishr, ao_iushr, ao_ladd, ao_lsub, ao_lmul, ao_land, ao_lor, ao_idiv, ao_irem, ao_ldiv, ao_lrem, ao_ineg, ao_i2b, ao_i2s, Nat.reduceAdd, Nat.reduceMul, Nat.reduceSub, Nat.reduceEqDiff, Nat.reduceLeDiff, and_self, true_and, x_lit, x_ofn, x_z0, x_z1, x_inbT, x_ltT, x_ltF, x_leT, x_leF, x_eqF, x_eqT, x_inb, x_lt, x_le, x_eq, x_cl, x_sub, nI_add, pk_mul, x_m1e, x_m1e', x_m1l, x_m1n, x_m1s, Nat.not_lt_zero, x_zb, x_b0, x_b1, decide_eq_false_iff_not, decide_eq_true_eq, Bool.false_eq_true, Bool.true_eq_false, wn, b2_f, hbl, kd_3, kd_6]
    · simp (disch := omega) only [↓e_X11_readCards_7, ↓it_s, ↓y_iload, ↓y_lload, ↓y_aload, ↓y_istore, ↓y_lstore, ↓y_astore, ↓y_iinc, ↓y_cI, ↓y_cL, ↓y_bin, ↓y_binL, ↓y_div, ↓y_divL, ↓y_lshl, ↓y_un, ↓y_i2l, ↓y_lneg, ↓y_l2i, ↓y_lcmp, ↓y_dupI, ↓y_dupR, ↓y_dup2, ↓y_pop, ↓y_goto, ↓y_eq0, ↓y_lt0, ↓y_le0, ↓y_eq, ↓y_lt, ↓y_le, ↓y_switch, ↓y_sw0, ↓y_sw1, ↓y_getI, ↓y_getL, ↓y_getR, ↓y_getT, ↓y_putI, ↓y_putZ, ↓y_putL, ↓y_putT, ↓y_iald, ↓y_bald, ↓y_lald, ↓y_aald, ↓y_iast, ↓y_bast, ↓y_last, ↓y_alen, ↓y_iret, ↓y_zret, ↓y_lret, ↓y_vret, ↓y_svI, ↓y_svL, ↓y_svV, ↓y_ivI, ↓y_ivL, ↓y_ivV, ↓y_max, ↓y_min, ↓y_absL, ↓y_cpI, ↓y_cpL, ↓x_n1I, ↓x_n1L, ↓x_n1R, ↓x_n0I, ↓x_n0L, ↓x_n0R, ↓x_s0, ↓x_s1i, ↓x_s1r, ↓x_s1n, ↓x_s2, ↓x_c0, ↓x_c2, ↓x_tk0, ↓x_tk1, ↓x_rcv, x_rI1, x_rL1, x_rV1, x_rIn, x_rLn, x_rVn, x_rIf, x_rLf, x_rVf, x_40, x_41, x_42, x_43, x_44, ↓reduceIte, if_true, if_false, ao_iadd, ao_isub, ao_imul, ao_iand, ao_ior, ao_ishl, ao_ishr, ao_iushr, ao_ladd, ao_lsub, ao_lmul, ao_land, ao_lor, ao_idiv, ao_irem, ao_ldiv, ao_lrem, ao_ineg, ao_i2b, ao_i2s, Nat.reduceAdd, Nat.reduceMul, Nat.reduceSub, Nat.reduceEqDiff, Nat.reduceLeDiff, and_self, true_and, x_lit, x_ofn, x_z0, x_z1, x_inbT, x_ltT, x_ltF, x_leT, x_leF, x_eqF, x_eqT, x_inb, x_lt, x_le, x_eq, x_cl, x_sub, nI_add, pk_mul, x_m1e, x_m1e', x_m1l, x_m1n, x_m1s, Nat.not_lt_zero, x_zb, x_b0, x_b1, decide_eq_false_iff_not, decide_eq_true_eq, Bool.false_eq_true, Bool.true_eq_false, e5, h14, hto, hb12, hB, kd_123]
  | true =>
    rw [hnm] at wn
    obtain ⟨z1, z2, z3, z4⟩ := isNm_ok e4 hnm
    have h7 := (hx.2.2.2.2.2 z1).2
    have ysu := X_suitNamed (v := 26) (σ := σx) (Ns := Ns) (r := twd t e a) (Or.inr rfl) x7 l1 b5 b3 z2 z3
    cases hsn : nmI Ns (twd t e a) with
    | none =>
      rw [hsn] at ysu
      have ysu' : S_X8_suitNamed [.ref 26, .long (lN (keyR 27 (twd t e a)))] σx = some (some (.int (-nI 1)), σx) := ysu
      have hto := t2 hnm hsn
      have hbl := X_blame (k := 3) (σ := σx)
      obtain ⟨q1, q2, q3⟩ := XF_bl (k := 3) (p := tp t e a) (fR_rf σx) h5
      have hb12 := bdM_12 σm 3 (tp t e a)
      have hB := hbad (bdM σm 3 (tp t e a)) 3 (tp t e a) none (nI 0) hb12 (by omega) (by omega) (TokM_bd e3).1 m0
      refine Or.inl ⟨_, bdM σm 3 (tp t e a), 3, tp t e a, ?_, fun B => ?_, by omega, by omega, q1, q2, bdM_12 _ _ _, bdM_13 _ _ _, fPx_B q3, fPm_bd (fPm_rf _)⟩
      · simp (disch := omega) only [g_X9_takeCard, ↓e_X9_takeCard_0, ↓e_X9_takeCard_13, ↓it_s, ↓y_iload, ↓y_lload, ↓y_aload, ↓y_istore, ↓y_lstore, ↓y_astore, ↓y_iinc, ↓y_cI, ↓y_cL, ↓y_bin, ↓y_binL, ↓y_div, ↓y_divL, ↓y_lshl, ↓y_un, ↓y_i2l, ↓y_lneg, ↓y_l2i, ↓y_lcmp, ↓y_dupI, ↓y_dupR, ↓y_dup2, ↓y_pop, ↓y_goto, ↓y_eq0, ↓y_lt0, ↓y_le0, ↓y_eq, ↓y_lt, ↓y_le, ↓y_switch, ↓y_sw0, ↓y_sw1, ↓y_getI, ↓y_getL, ↓y_getR, ↓y_getT, ↓y_putI, ↓y_putZ, ↓y_putL, ↓y_putT, ↓y_iald, ↓y_bald, ↓y_lald, ↓y_aald, ↓y_iast, ↓y_bast, ↓y_last, ↓y_alen, ↓y_iret, ↓y_zret, ↓y_lret, ↓y_vret, ↓y_svI, ↓y_svL, ↓y_svV, ↓y_ivI, ↓y_ivL, ↓y_ivV, ↓y_max, ↓y_min, ↓y_absL, ↓y_cpI, ↓y_cpL, ↓x_n1I, ↓x_n1L, ↓x_n1R, ↓x_n0I, ↓x_n0L, ↓x_n0R, ↓x_s0, ↓x_s1i, ↓x_s1r, ↓x_s1n, ↓x_s2, ↓x_c0, ↓x_c2, ↓x_tk0, ↓x_tk1, ↓x_rcv, x_rI1, x_rL1, x_rV1, x_rIn, x_rLn, x_rVn, x_rIf, x_rLf, x_rVf, x_40, x_41, x_42, x_43, x_44, ↓reduceIte, if_true, if_false, ao_iadd, ao_isub, ao_imul, ao_iand, ao_ior, ao_ishl, ao_ishr, ao_iushr, ao_ladd, ao_lsub, ao_lmul, ao_land, ao_lor, ao_idiv, ao_irem, ao_ldiv, ao_lrem, ao_ineg, ao_i2b, ao_i2s, Nat.reduceAdd, Nat.reduceMul, Nat.reduceSub, Nat.reduceEqDiff, Nat.reduceLeDiff, and_self, true_and, x_lit, x_ofn, x_z0, x_z1, x_inbT, x_ltT, x_ltF, x_leT, x_leF, x_eqF, x_eqT, x_inb, x_lt, x_le, x_eq, x_cl, x_sub, nI_add, pk_mul, x_m1e, x_m1e', x_m1l, x_m1n, x_m1s, Nat.not_lt_zero, x_zb, x_b0, x_b1, decide_eq_false_iff_not, decide_eq_true_eq, Bool.false_eq_true, Bool.true_eq_false, wn, b2_t, h7, ysu', hbl, kd_3, kd_6, kd_26]
      · simp (disch := omega) only [↓e_X11_readCards_7, ↓it_s, ↓y_iload, ↓y_lload, ↓y_aload, ↓y_istore, ↓y_lstore, ↓y_astore, ↓y_iinc, ↓y_cI, ↓y_cL, ↓y_bin, ↓y_binL, ↓y_div, ↓y_divL, ↓y_lshl, ↓y_un, ↓y_i2l, ↓y_lneg, ↓y_l2i, ↓y_lcmp, ↓y_dupI, ↓y_dupR, ↓y_dup2, ↓y_pop, ↓y_goto, ↓y_eq0, ↓y_lt0, ↓y_le0, ↓y_eq, ↓y_lt, ↓y_le, ↓y_switch, ↓y_sw0, ↓y_sw1, ↓y_getI, ↓y_getL, ↓y_getR, ↓y_getT, ↓y_putI, ↓y_putZ, ↓y_putL, ↓y_putT, ↓y_iald, ↓y_bald, ↓y_lald, ↓y_aald, ↓y_iast, ↓y_bast, ↓y_last, ↓y_alen, ↓y_iret, ↓y_zret, ↓y_lret, ↓y_vret, ↓y_svI, ↓y_svL, ↓y_svV, ↓y_ivI, ↓y_ivL, ↓y_ivV, ↓y_max, ↓y_min, ↓y_absL, ↓y_cpI, ↓y_cpL, ↓x_n1I, ↓x_n1L, ↓x_n1R, ↓x_n0I, ↓x_n0L, ↓x_n0R, ↓x_s0, ↓x_s1i, ↓x_s1r, ↓x_s1n, ↓x_s2, ↓x_c0, ↓x_c2, ↓x_tk0, ↓x_tk1, ↓x_rcv, x_rI1, x_rL1, x_rV1, x_rIn, x_rLn, x_rVn, x_rIf, x_rLf, x_rVf, x_40, x_41, x_42, x_43, x_44, ↓reduceIte, if_true, if_false, ao_iadd, ao_isub, ao_imul, ao_iand, ao_ior, ao_ishl, ao_ishr, ao_iushr, ao_ladd, ao_lsub, ao_lmul, ao_land, ao_lor, ao_idiv, ao_irem, ao_ldiv, ao_lrem, ao_ineg, ao_i2b, ao_i2s, Nat.reduceAdd, Nat.reduceMul, Nat.reduceSub, Nat.reduceEqDiff, Nat.reduceLeDiff, and_self, true_and, x_lit, x_ofn, x_z0, x_z1, x_inbT, x_ltT, x_ltF, x_leT, x_leF, x_eqF, x_eqT, x_inb, x_lt, x_le, x_eq, x_cl, x_sub, nI_add, pk_mul, x_m1e, x_m1e', x_m1l, x_m1n, x_m1s, Nat.not_lt_zero, x_zb, x_b0, x_b1, decide_eq_false_iff_not, decide_eq_true_eq, Bool.false_eq_true, Bool.true_eq_false, e5, h14, hto, hb12, hB, kd_123]
    | some s =>
      rw [hsn] at ysu
      have hsl := nm_lt hsn
      have ysu' : S_X8_suitNamed [.ref 26, .long (lN (keyR 27 (twd t e a)))] σx = some (some (.int (nI s)), σx) := ysu
      have hto := t3 hnm s hsn
      have hsm : ¬ nI s = -nI 1 := by
        have h4 : s < 4 := by omega
        clear ysu' hsn ysu hsl hto
        revert h4; revert s; decide +kernel
      have hc35 : S_X9_takeCard [.ref 6, .ref 3, .ref 26, .int (nI (if q = 7 then 8 else q))] σx = dn_X9_takeCard_50 [some (.ref 6), some (.ref 3), some (.ref 26), some (.int (nI (if q = 7 then 8 else q))), some (.int (nI s)), none, none] [.int (nI (if q = 7 then 0 else 1))] σx := by
        by_cases z : q = 7
        · rw [if_pos z, if_pos z]
          simp (disch := omega) only [g_X9_takeCard, ↓e_X9_takeCard_0, ↓e_X9_takeCard_13, ↓e_X9_takeCard_35, ↓e_X9_takeCard_49, ↓it_s, ↓y_iload, ↓y_lload, ↓y_aload, ↓y_istore, ↓y_lstore, ↓y_astore, ↓y_iinc, ↓y_cI, ↓y_cL, ↓y_bin, ↓y_binL, ↓y_div, ↓y_divL, ↓y_lshl, ↓y_un, ↓y_i2l, ↓y_lneg, ↓y_l2i, ↓y_lcmp, ↓y_dupI, ↓y_dupR, ↓y_dup2, ↓y_pop, ↓y_goto, ↓y_eq0, ↓y_lt0, ↓y_le0, ↓y_eq, ↓y_lt, ↓y_le, ↓y_switch, ↓y_sw0, ↓y_sw1, ↓y_getI, ↓y_getL, ↓y_getR, ↓y_getT, ↓y_putI, ↓y_putZ, ↓y_putL, ↓y_putT, ↓y_iald, ↓y_bald, ↓y_lald, ↓y_aald, ↓y_iast, ↓y_bast, ↓y_last, ↓y_alen, ↓y_iret, ↓y_zret, ↓y_lret, ↓y_vret, ↓y_svI, ↓y_svL, ↓y_svV, ↓y_ivI, ↓y_ivL, ↓y_ivV, ↓y_max, ↓y_min, ↓y_absL, ↓y_cpI, ↓y_cpL, ↓x_n1I, ↓x_n1L, ↓x_n1R, ↓x_n0I, ↓x_n0L, ↓x_n0R, ↓x_s0, ↓x_s1i, ↓x_s1r, ↓x_s1n, ↓x_s2, ↓x_c0, ↓x_c2, ↓x_tk0, ↓x_tk1, ↓x_rcv, x_rI1, x_rL1, x_rV1, x_rIn, x_rLn, x_rVn, x_rIf, x_rLf, x_rVf, x_40, x_41, x_42, x_43, x_44, ↓reduceIte, if_true, if_false, ao_iadd, ao_isub, ao_imul, ao_iand, ao_ior, ao_ishl, ao_ishr, ao_iushr, ao_ladd, ao_lsub, ao_lmul, ao_land, ao_lor, ao_idiv, ao_irem, ao_ldiv, ao_lrem, ao_ineg, ao_i2b, ao_i2s, Nat.reduceAdd, Nat.reduceMul, Nat.reduceSub, Nat.reduceEqDiff, Nat.reduceLeDiff, and_self, true_and, x_lit, x_ofn, x_z0, x_z1, x_inbT, x_ltT, x_ltF, x_leT, x_leF, x_eqF, x_eqT, x_inb, x_lt, x_le, x_eq, x_cl, x_sub, nI_add, pk_mul, x_m1e, x_m1e', x_m1l, x_m1n, x_m1s, Nat.not_lt_zero, x_zb, x_b0, x_b1, decide_eq_false_iff_not, decide_eq_true_eq, Bool.false_eq_true, Bool.true_eq_false, wn, b2_t, h7, ysu', hsm, kd_3, kd_6, kd_26]
        · rw [if_neg z, if_neg z]
          simp (disch := omega) only [g_X9_takeCard, ↓e_X9_takeCard_0, ↓e_X9_takeCard_13, ↓e_X9_takeCard_35, ↓e_X9_takeCard_49, ↓it_s, ↓y_iload, ↓y_lload, ↓y_aload, ↓y_istore, ↓y_lstore, ↓y_astore, ↓y_iinc, ↓y_cI, ↓y_cL, ↓y_bin, ↓y_binL, ↓y_div, ↓y_divL, ↓y_lshl, ↓y_un, ↓y_i2l, ↓y_lneg, ↓y_l2i, ↓y_lcmp, ↓y_dupI, ↓y_dupR, ↓y_dup2, ↓y_pop, ↓y_goto, ↓y_eq0, ↓y_lt0, ↓y_le0, ↓y_eq, ↓y_lt, ↓y_le, ↓y_switch, ↓y_sw0, ↓y_sw1, ↓y_getI, ↓y_getL, ↓y_getR, ↓y_getT, ↓y_putI, ↓y_putZ, ↓y_putL, ↓y_putT, ↓y_iald, ↓y_bald, ↓y_lald, ↓y_aald, ↓y_iast, ↓y_bast, ↓y_last, ↓y_alen, ↓y_iret, ↓y_zret, ↓y_lret, ↓y_vret, ↓y_svI, ↓y_svL, ↓y_svV, ↓y_ivI, ↓y_ivL, ↓y_ivV, ↓y_max, ↓y_min, ↓y_absL, ↓y_cpI, ↓y_cpL, ↓x_n1I, ↓x_n1L, ↓x_n1R, ↓x_n0I, ↓x_n0L, ↓x_n0R, ↓x_s0, ↓x_s1i, ↓x_s1r, ↓x_s1n, ↓x_s2, ↓x_c0, ↓x_c2, ↓x_tk0, ↓x_tk1, ↓x_rcv, x_rI1, x_rL1, x_rV1, x_rIn, x_rLn, x_rVn, x_rIf, x_rLf, x_rVf, x_40, x_41, x_42, x_43, x_44, ↓reduceIte, if_true, if_false, ao_iadd, ao_isub, ao_imul, ao_iand, ao_ior, ao_ishl, ao_ishr, ao_iushr, ao_ladd, ao_lsub, ao_lmul, ao_land, ao_lor, ao_idiv, ao_irem, ao_ldiv, ao_lrem, ao_ineg, ao_i2b, ao_i2s, Nat.reduceAdd, Nat.reduceMul, Nat.reduceSub, Nat.reduceEqDiff, Nat.reduceLeDiff, and_self, true_and, x_lit, x_ofn, x_z0, x_z1, x_inbT, x_ltT, x_ltF, x_leT, x_leF, x_eqF, x_eqT, x_inb, x_lt, x_le, x_eq, x_cl, x_sub, nI_add, pk_mul, x_m1e, x_m1e', x_m1l, x_m1n, x_m1s, Nat.not_lt_zero, x_zb, x_b0, x_b1, decide_eq_false_iff_not, decide_eq_true_eq, Bool.false_eq_true, Bool.true_eq_false, wn, b2_t, h7, ysu', hsm, kd_3, kd_6, kd_26]
      rw [hc35]
      by_cases hfull : q ≠ 7 ∧ i = 12
      · -- the row is full
        have hl : (vP V q).length = 12 := by omega
        have hta : σx.1 29 q = nI 12 := by rw [a1.2.1.1 q (by omega), hl]
        have hq6 : q < 6 := by omega
        have hmx : mx = 12 := by omega
        have hi12 := hfull.2
        subst hmx
        subst hi12
        have hbl := X_blame (k := 6) (σ := σx)
        obtain ⟨q1, q2, q3⟩ := XF_bl (k := 6) (p := tp t e a) (fR_rf σx) h5
        have hb12 := bdM_12 σm 6 (tp t e a)
        have hfa := M_fail0 (k := 6) (p := tp t e a) e5
        have hB := hbad (bdM σm 6 (tp t e a)) 6 (tp t e a) none (nI s) hb12 (by omega) (by omega) (TokM_bd e3).1 m0
        refine Or.inl ⟨_, bdM σm 6 (tp t e a), 6, tp t e a, ?_, fun B => ?_, by omega, by omega, q1, q2, bdM_12 _ _ _, bdM_13 _ _ _, fPx_B q3, fPm_bd (fPm_rf _)⟩
        · rw [if_neg hfull.1, if_neg hfull.1]
          simp (disch := omega) only [↓e_X9_takeCard_50, ↓it_s, ↓y_iload, ↓y_lload, ↓y_aload, ↓y_istore, ↓y_lstore, ↓y_astore, ↓y_iinc, ↓y_cI, ↓y_cL, ↓y_bin, ↓y_binL, ↓y_div, ↓y_divL, ↓y_lshl, ↓y_un, ↓y_i2l, ↓y_lneg, ↓y_l2i, ↓y_lcmp, ↓y_dupI, ↓y_dupR, ↓y_dup2, ↓y_pop, ↓y_goto, ↓y_eq0, ↓y_lt0, ↓y_le0, ↓y_eq, ↓y_lt, ↓y_le, ↓y_switch, ↓y_sw0, ↓y_sw1, ↓y_getI, ↓y_getL, ↓y_getR, ↓y_getT, ↓y_putI, ↓y_putZ, ↓y_putL, ↓y_putT, ↓y_iald, ↓y_bald, ↓y_lald, ↓y_aald, ↓y_iast, ↓y_bast, ↓y_last, ↓y_alen, ↓y_iret, ↓y_zret, ↓y_lret, ↓y_vret, ↓y_svI, ↓y_svL, ↓y_svV, ↓y_ivI, ↓y_ivL, ↓y_ivV, ↓y_max, ↓y_min, ↓y_absL, ↓y_cpI, ↓y_cpL, ↓x_n1I, ↓x_n1L, ↓x_n1R, ↓x_n0I, ↓x_n0L, ↓x_n0R, ↓x_s0, ↓x_s1i, ↓x_s1r, ↓x_s1n, ↓x_s2, ↓x_c0, ↓x_c2, ↓x_tk0, ↓x_tk1, ↓x_rcv, x_rI1, x_rL1, x_rV1, x_rIn, x_rLn, x_rVn, x_rIf, x_rLf, x_rVf, x_40, x_41, x_42, x_43, x_44, ↓reduceIte, if_true, if_false, ao_iadd, ao_isub, ao_imul, ao_iand, ao_ior, ao_ishl, ao_ishr, ao_iushr, ao_ladd, ao_lsub, ao_lmul, ao_land, ao_lor, ao_idiv, ao_irem, ao_ldiv, ao_lrem, ao_ineg, ao_i2b, ao_i2s, Nat.reduceAdd, Nat.reduceMul, Nat.reduceSub, Nat.reduceEqDiff, Nat.reduceLeDiff, and_self, true_and, x_lit, x_ofn, x_z0, x_z1, x_inbT, x_ltT, x_ltF, x_leT, x_leF, x_eqF, x_eqT, x_inb, x_lt, x_le, x_eq, x_cl, x_sub, nI_add, pk_mul, x_m1e, x_m1e', x_m1l, x_m1n, x_m1s, Nat.not_lt_zero, x_zb, x_b0, x_b1, decide_eq_false_iff_not, decide_eq_true_eq, Bool.false_eq_true, Bool.true_eq_false, hta, hbl, kd_3, kd_6, kd_26, kd_27, kd_29, ln_29]
        · simp (disch := omega) only [↓e_X11_readCards_7, ↓it_s, ↓y_iload, ↓y_lload, ↓y_aload, ↓y_istore, ↓y_lstore, ↓y_astore, ↓y_iinc, ↓y_cI, ↓y_cL, ↓y_bin, ↓y_binL, ↓y_div, ↓y_divL, ↓y_lshl, ↓y_un, ↓y_i2l, ↓y_lneg, ↓y_l2i, ↓y_lcmp, ↓y_dupI, ↓y_dupR, ↓y_dup2, ↓y_pop, ↓y_goto, ↓y_eq0, ↓y_lt0, ↓y_le0, ↓y_eq, ↓y_lt, ↓y_le, ↓y_switch, ↓y_sw0, ↓y_sw1, ↓y_getI, ↓y_getL, ↓y_getR, ↓y_getT, ↓y_putI, ↓y_putZ, ↓y_putL, ↓y_putT, ↓y_iald, ↓y_bald, ↓y_lald, ↓y_aald, ↓y_iast, ↓y_bast, ↓y_last, ↓y_alen, ↓y_iret, ↓y_zret, ↓y_lret, ↓y_vret, ↓y_svI, ↓y_svL, ↓y_svV, ↓y_ivI, ↓y_ivL, ↓y_ivV, ↓y_max, ↓y_min, ↓y_absL, ↓y_cpI, ↓y_cpL, ↓x_n1I, ↓x_n1L, ↓x_n1R, ↓x_n0I, ↓x_n0L, ↓x_n0R, ↓x_s0, ↓x_s1i, ↓x_s1r, ↓x_s1n, ↓x_s2, ↓x_c0, ↓x_c2, ↓x_tk0, ↓x_tk1, ↓x_rcv, x_rI1, x_rL1, x_rV1, x_rIn, x_rLn, x_rVn, x_rIf, x_rLf, x_rVf, x_40, x_41, x_42, x_43, x_44, ↓reduceIte, if_true, if_false, ao_iadd, ao_isub, ao_imul, ao_iand, ao_ior, ao_ishl, ao_ishr, ao_iushr, ao_ladd, ao_lsub, ao_lmul, ao_land, ao_lor, ao_idiv, ao_irem, ao_ldiv, ao_lrem, ao_ineg, ao_i2b, ao_i2s, Nat.reduceAdd, Nat.reduceMul, Nat.reduceSub, Nat.reduceEqDiff, Nat.reduceLeDiff, and_self, true_and, x_lit, x_ofn, x_z0, x_z1, x_inbT, x_ltT, x_ltF, x_leT, x_leF, x_eqF, x_eqT, x_inb, x_lt, x_le, x_eq, x_cl, x_sub, nI_add, pk_mul, x_m1e, x_m1e', x_m1l, x_m1n, x_m1s, Nat.not_lt_zero, x_zb, x_b0, x_b1, decide_eq_false_iff_not, decide_eq_true_eq, Bool.false_eq_true, Bool.true_eq_false, e5, h14, h15, hto, hfa, hB, kd_123]
      · have him : i ≠ mx := by omega
        have hc78 : dn_X9_takeCard_50 [some (.ref 6), some (.ref 3), some (.ref 26), some (.int (nI (if q = 7 then 8 else q))), some (.int (nI s)), none, none] [.int (nI (if q = 7 then 0 else 1))] σx = dn_X9_takeCard_78 [some (.ref 6), some (.ref 3), some (.ref 26), some (.int (nI (if q = 7 then 8 else q))), some (.int (nI s)), some (.int (nI (if q = 7 then 0 else 1))), none] [] σx := by
          by_cases z : q = 7
          · rw [if_pos z, if_pos z]
            simp (disch := omega) only [↓e_X9_takeCard_50, ↓it_s, ↓y_iload, ↓y_lload, ↓y_aload, ↓y_istore, ↓y_lstore, ↓y_astore, ↓y_iinc, ↓y_cI, ↓y_cL, ↓y_bin, ↓y_binL, ↓y_div, ↓y_divL, ↓y_lshl, ↓y_un, ↓y_i2l, ↓y_lneg, ↓y_l2i, ↓y_lcmp, ↓y_dupI, ↓y_dupR, ↓y_dup2, ↓y_pop, ↓y_goto, ↓y_eq0, ↓y_lt0, ↓y_le0, ↓y_eq, ↓y_lt, ↓y_le, ↓y_switch, ↓y_sw0, ↓y_sw1, ↓y_getI, ↓y_getL, ↓y_getR, ↓y_getT, ↓y_putI, ↓y_putZ, ↓y_putL, ↓y_putT, ↓y_iald, ↓y_bald, ↓y_lald, ↓y_aald, ↓y_iast, ↓y_bast, ↓y_last, ↓y_alen, ↓y_iret, ↓y_zret, ↓y_lret, ↓y_vret, ↓y_svI, ↓y_svL, ↓y_svV, ↓y_ivI, ↓y_ivL, ↓y_ivV, ↓y_max, ↓y_min, ↓y_absL, ↓y_cpI, ↓y_cpL, ↓x_n1I, ↓x_n1L, ↓x_n1R, ↓x_n0I, ↓x_n0L, ↓x_n0R, ↓x_s0, ↓x_s1i, ↓x_s1r, ↓x_s1n, ↓x_s2, ↓x_c0, ↓x_c2, ↓x_tk0, ↓x_tk1, ↓x_rcv, x_rI1, x_rL1, x_rV1, x_rIn, x_rLn, x_rVn, x_rIf, x_rLf, x_rVf, x_40, x_41, x_42, x_43, x_44, ↓reduceIte, if_true, if_false, ao_iadd, ao_isub, ao_imul, ao_iand, ao_ior, ao_ishl, ao_ishr, ao_iushr, ao_ladd, ao_lsub, ao_lmul, ao_land, ao_lor, ao_idiv, ao_irem, ao_ldiv, ao_lrem, ao_ineg, ao_i2b, ao_i2s, Nat.reduceAdd, Nat.reduceMul, Nat.reduceSub, Nat.reduceEqDiff, Nat.reduceLeDiff, and_self, true_and, x_lit, x_ofn, x_z0, x_z1, x_inbT, x_ltT, x_ltF, x_leT, x_leF, x_eqF, x_eqT, x_inb, x_lt, x_le, x_eq, x_cl, x_sub, nI_add, pk_mul, x_m1e, x_m1e', x_m1l, x_m1n, x_m1s, Nat.not_lt_zero, x_zb, x_b0, x_b1, decide_eq_false_iff_not, decide_eq_true_eq, Bool.false_eq_true, Bool.true_eq_false, kd_3, kd_6, kd_26]
          · have hta : σx.1 29 q = nI i := by rw [a1.2.1.1 q (by omega)]; congr 1; omega
            have := a2.2.1.2.2.1 q (by omega)
            have hi12 : i < 12 := by omega
            have hq6 : q < 6 := by omega
            rw [if_neg z, if_neg z]
            simp (disch := omega) only [↓e_X9_takeCard_50, ↓it_s, ↓y_iload, ↓y_lload, ↓y_aload, ↓y_istore, ↓y_lstore, ↓y_astore, ↓y_iinc, ↓y_cI, ↓y_cL, ↓y_bin, ↓y_binL, ↓y_div, ↓y_divL, ↓y_lshl, ↓y_un, ↓y_i2l, ↓y_lneg, ↓y_l2i, ↓y_lcmp, ↓y_dupI, ↓y_dupR, ↓y_dup2, ↓y_pop, ↓y_goto, ↓y_eq0, ↓y_lt0, ↓y_le0, ↓y_eq, ↓y_lt, ↓y_le, ↓y_switch, ↓y_sw0, ↓y_sw1, ↓y_getI, ↓y_getL, ↓y_getR, ↓y_getT, ↓y_putI, ↓y_putZ, ↓y_putL, ↓y_putT, ↓y_iald, ↓y_bald, ↓y_lald, ↓y_aald, ↓y_iast, ↓y_bast, ↓y_last, ↓y_alen, ↓y_iret, ↓y_zret, ↓y_lret, ↓y_vret, ↓y_svI, ↓y_svL, ↓y_svV, ↓y_ivI, ↓y_ivL, ↓y_ivV, ↓y_max, ↓y_min, ↓y_absL, ↓y_cpI, ↓y_cpL, ↓x_n1I, ↓x_n1L, ↓x_n1R, ↓x_n0I, ↓x_n0L, ↓x_n0R, ↓x_s0, ↓x_s1i, ↓x_s1r, ↓x_s1n, ↓x_s2, ↓x_c0, ↓x_c2, ↓x_tk0, ↓x_tk1, ↓x_rcv, x_rI1, x_rL1, x_rV1, x_rIn, x_rLn, x_rVn, x_rIf, x_rLf, x_rVf, x_40, x_41, x_42, x_43, x_44, ↓reduceIte, if_true, if_false, ao_iadd, ao_isub, ao_imul, ao_iand, ao_ior, ao_ishl, ao_ishr, ao_iushr, ao_ladd, ao_lsub, ao_lmul, ao_land, ao_lor, ao_idiv, ao_irem, ao_ldiv, ao_lrem, ao_ineg, ao_i2b, ao_i2s, Nat.reduceAdd, Nat.reduceMul, Nat.reduceSub, Nat.reduceEqDiff, Nat.reduceLeDiff, and_self, true_and, x_lit, x_ofn, x_z0, x_z1, x_inbT, x_ltT, x_ltF, x_leT, x_leF, x_eqF, x_eqT, x_inb, x_lt, x_le, x_eq, x_cl, x_sub, nI_add, pk_mul, x_m1e, x_m1e', x_m1l, x_m1n, x_m1s, Nat.not_lt_zero, x_zb, x_b0, x_b1, decide_eq_false_iff_not, decide_eq_true_eq, Bool.false_eq_true, Bool.true_eq_false, hta, kd_3, kd_6, kd_26, kd_27, kd_29, ln_29]
        rw [hc78]
        have hm52 : ∀ B, dn_X11_readCards_7 B [some (.ref 123), some (.int (nI bs)), some (.int (nI mx)), some (.int (nI i)), y4, y5, y6] [] σm = dn_X11_readCards_52 B [some (.ref 123), some (.int (nI bs)), some (.int (nI mx)), some (.int (nI i)), some (.int (nI s)), y5, y6] [] σm := fun B => by
          have hi30 : i < 30 := by omega
          have hm30 : mx < 30 := by omega
          simp (disch := omega) only [↓e_X11_readCards_7, ↓it_s, ↓y_iload, ↓y_lload, ↓y_aload, ↓y_istore, ↓y_lstore, ↓y_astore, ↓y_iinc, ↓y_cI, ↓y_cL, ↓y_bin, ↓y_binL, ↓y_div, ↓y_divL, ↓y_lshl, ↓y_un, ↓y_i2l, ↓y_lneg, ↓y_l2i, ↓y_lcmp, ↓y_dupI, ↓y_dupR, ↓y_dup2, ↓y_pop, ↓y_goto, ↓y_eq0, ↓y_lt0, ↓y_le0, ↓y_eq, ↓y_lt, ↓y_le, ↓y_switch, ↓y_sw0, ↓y_sw1, ↓y_getI, ↓y_getL, ↓y_getR, ↓y_getT, ↓y_putI, ↓y_putZ, ↓y_putL, ↓y_putT, ↓y_iald, ↓y_bald, ↓y_lald, ↓y_aald, ↓y_iast, ↓y_bast, ↓y_last, ↓y_alen, ↓y_iret, ↓y_zret, ↓y_lret, ↓y_vret, ↓y_svI, ↓y_svL, ↓y_svV, ↓y_ivI, ↓y_ivL, ↓y_ivV, ↓y_max, ↓y_min, ↓y_absL, ↓y_cpI, ↓y_cpL, ↓x_n1I, ↓x_n1L, ↓x_n1R, ↓x_n0I, ↓x_n0L, ↓x_n0R, ↓x_s0, ↓x_s1i, ↓x_s1r, ↓x_s1n, ↓x_s2, ↓x_c0, ↓x_c2, ↓x_tk0, ↓x_tk1, ↓x_rcv, x_rI1, x_rL1, x_rV1, x_rIn, x_rLn, x_rVn, x_rIf, x_rLf, x_rVf, x_40, x_41, x_42, x_43, x_44, ↓reduceIte, if_true, if_false, ao_iadd, ao_isub, ao_imul, ao_iand, ao_ior, ao_ishl, ao_ishr, ao_iushr, ao_ladd, ao_lsub, ao_lmul, ao_land, ao_lor, ao_idiv, ao_irem, ao_ldiv, ao_lrem, ao_ineg, ao_i2b, ao_i2s, Nat.reduceAdd, Nat.reduceMul, Nat.reduceSub, Nat.reduceEqDiff, Nat.reduceLeDiff, and_self, true_and, x_lit, x_ofn, x_z0, x_z1, x_inbT, x_ltT, x_ltF, x_leT, x_leF, x_eqF, x_eqT, x_inb, x_lt, x_le, x_eq, x_cl, x_sub, nI_add, pk_mul, x_m1e, x_m1e', x_m1l, x_m1n, x_m1s, Nat.not_lt_zero, x_zb, x_b0, x_b1, decide_eq_false_iff_not, decide_eq_true_eq, Bool.false_eq_true, Bool.true_eq_false, e5, h14, h15, hto, him, kd_123]
        obtain ⟨b, eb⟩ : ∃ b, b = tq t e a := ⟨_, rfl⟩
        have hx3 := hx.1
        obtain ⟨μ1, j1, j2, j3⟩ := M_mustT e2 e4 e3 e5
        rw [← eb] at hbe hgt hx3 j2
        have hM1 := TM_fr e2 j3
        have h121 : μ1.1 123 12 = nI 0 := by rw [j3.2.1 12 (by omega)]; exact e5
        have m01 : μ1.1 128 1768 = nI (vN V 0) := by rw [(j3.1 128 (by omega)).1]; exact m0
        have h151 := j2.1
        obtain ⟨n1, n0⟩ := X_wantNumber (lo := 1) (hi := vN V 0) e1 hbe hx3 (by omega) (by omega)
        cases hno : isNo t e 1 (vN V 0) b with
        | false =>
          obtain ⟨τx, u1, u2, u3, u4⟩ := n0 hno
          have hco := M_countF (lo := 1) (hi := vN V 0) j2 h121 (by omega) (by omega) hno
          have hb12 := bdM_12 μ1 (noK t e b) (tp t e b)
          have hnk := noK_12 t e b
          refine Or.inl ⟨τx, bdM μ1 (noK t e b) (tp t e b), noK t e b, tp t e b, ?_, fun B => ?_, hnk.1, hnk.2, u2, u3, bdM_12 _ _ _, bdM_13 _ _ _, fPx_B u4, fPm_bd (fPm_T j3)⟩
          · simp (disch := omega) only [↓e_X9_takeCard_78, ↓it_s, ↓y_iload, ↓y_lload, ↓y_aload, ↓y_istore, ↓y_lstore, ↓y_astore, ↓y_iinc, ↓y_cI, ↓y_cL, ↓y_bin, ↓y_binL, ↓y_div, ↓y_divL, ↓y_lshl, ↓y_un, ↓y_i2l, ↓y_lneg, ↓y_l2i, ↓y_lcmp, ↓y_dupI, ↓y_dupR, ↓y_dup2, ↓y_pop, ↓y_goto, ↓y_eq0, ↓y_lt0, ↓y_le0, ↓y_eq, ↓y_lt, ↓y_le, ↓y_switch, ↓y_sw0, ↓y_sw1, ↓y_getI, ↓y_getL, ↓y_getR, ↓y_getT, ↓y_putI, ↓y_putZ, ↓y_putL, ↓y_putT, ↓y_iald, ↓y_bald, ↓y_lald, ↓y_aald, ↓y_iast, ↓y_bast, ↓y_last, ↓y_alen, ↓y_iret, ↓y_zret, ↓y_lret, ↓y_vret, ↓y_svI, ↓y_svL, ↓y_svV, ↓y_ivI, ↓y_ivL, ↓y_ivV, ↓y_max, ↓y_min, ↓y_absL, ↓y_cpI, ↓y_cpL, ↓x_n1I, ↓x_n1L, ↓x_n1R, ↓x_n0I, ↓x_n0L, ↓x_n0R, ↓x_s0, ↓x_s1i, ↓x_s1r, ↓x_s1n, ↓x_s2, ↓x_c0, ↓x_c2, ↓x_tk0, ↓x_tk1, ↓x_rcv, x_rI1, x_rL1, x_rV1, x_rIn, x_rLn, x_rVn, x_rIf, x_rLf, x_rVf, x_40, x_41, x_42, x_43, x_44, ↓reduceIte, if_true, if_false, ao_iadd, ao_isub, ao_imul, ao_iand, ao_ior, ao_ishl, ao_ishr, ao_iushr, ao_ladd, ao_lsub, ao_lmul, ao_land, ao_lor, ao_idiv, ao_irem, ao_ldiv, ao_lrem, ao_ineg, ao_i2b, ao_i2s, Nat.reduceAdd, Nat.reduceMul, Nat.reduceSub, Nat.reduceEqDiff, Nat.reduceLeDiff, and_self, true_and, x_lit, x_ofn, x_z0, x_z1, x_inbT, x_ltT, x_ltF, x_leT, x_leF, x_eqF, x_eqT, x_inb, x_lt, x_le, x_eq, x_cl, x_sub, nI_add, pk_mul, x_m1e, x_m1e', x_m1l, x_m1n, x_m1s, Nat.not_lt_zero, x_zb, x_b0, x_b1, decide_eq_false_iff_not, decide_eq_true_eq, Bool.false_eq_true, Bool.true_eq_false, x6, u1, kd_3, kd_6, kd_26, kd_27]
          · refine (hm52 B).trans ?_
            simp (disch := omega) only [↓e_X11_readCards_52, ↓e_X11_readCards_112, ↓it_s, ↓y_iload, ↓y_lload, ↓y_aload, ↓y_istore, ↓y_lstore, ↓y_astore, ↓y_iinc, ↓y_cI, ↓y_cL, ↓y_bin, ↓y_binL, ↓y_div, ↓y_divL, ↓y_lshl, ↓y_un, ↓y_i2l, ↓y_lneg, ↓y_l2i, ↓y_lcmp, ↓y_dupI, ↓y_dupR, ↓y_dup2, ↓y_pop, ↓y_goto, ↓y_eq0, ↓y_lt0, ↓y_le0, ↓y_eq, ↓y_lt, ↓y_le, ↓y_switch, ↓y_sw0, ↓y_sw1, ↓y_getI, ↓y_getL, ↓y_getR, ↓y_getT, ↓y_putI, ↓y_putZ, ↓y_putL, ↓y_putT, ↓y_iald, ↓y_bald, ↓y_lald, ↓y_aald, ↓y_iast, ↓y_bast, ↓y_last, ↓y_alen, ↓y_iret, ↓y_zret, ↓y_lret, ↓y_vret, ↓y_svI, ↓y_svL, ↓y_svV, ↓y_ivI, ↓y_ivL, ↓y_ivV, ↓y_max, ↓y_min, ↓y_absL, ↓y_cpI, ↓y_cpL, ↓x_n1I, ↓x_n1L, ↓x_n1R, ↓x_n0I, ↓x_n0L, ↓x_n0R, ↓x_s0, ↓x_s1i, ↓x_s1r, ↓x_s1n, ↓x_s2, ↓x_c0, ↓x_c2, ↓x_tk0, ↓x_tk1, ↓x_rcv, x_rI1, x_rL1, x_rV1, x_rIn, x_rLn, x_rVn, x_rIf, x_rLf, x_rVf, x_40, x_41, x_42, x_43, x_44, ↓reduceIte, if_true, if_false, ao_iadd, ao_isub, ao_imul, ao_iand, ao_ior, ao_ishl, ao_ishr, ao_iushr, ao_ladd, ao_lsub, ao_lmul, ao_land, ao_lor, ao_idiv, ao_irem, ao_ldiv, ao_lrem, ao_ineg, ao_i2b, ao_i2s, Nat.reduceAdd, Nat.reduceMul, Nat.reduceSub, Nat.reduceEqDiff, Nat.reduceLeDiff, and_self, true_and, x_lit, x_ofn, x_z0, x_z1, x_inbT, x_ltT, x_ltF, x_leT, x_leF, x_eqF, x_eqT, x_inb, x_lt, x_le, x_eq, x_cl, x_sub, nI_add, pk_mul, x_m1e, x_m1e', x_m1l, x_m1n, x_m1s, Nat.not_lt_zero, x_zb, x_b0, x_b1, decide_eq_false_iff_not, decide_eq_true_eq, Bool.false_eq_true, Bool.true_eq_false, j1, h151, m01, hco, hb12, kd_123, kd_128, ln_128]
        | true =>
          obtain ⟨v1, v2, v3⟩ := of_decide_eq_true hno
          obtain ⟨ρ1, u1, u2, u3⟩ := n1 hno
          obtain ⟨μ2, k1, k2, k3⟩ := M_countT (lo := 1) (hi := vN V 0) hM1 hbe j2 h121 (by omega) (by omega) hno
          have hce := (tq_le (t := t) hbe).2
          have hgt2 := tq_gt hbe (show tkd t e b ≠ 0 by omega)
          have h6 := u2.2.2.2.2.1 (Or.inl v1)
          obtain ⟨v, ev⟩ : ∃ v, v = tnum t e b := ⟨_, rfl⟩
          rw [← ev] at h6 k1 v2 v3
          have hs4 : s < 4 := by omega
          obtain ⟨c, ec⟩ : ∃ c, c = 6 * s + v - 1 := ⟨_, rfl⟩
          have hc : c < 24 := by omega
          have h122 : μ2.1 123 12 = nI 0 := by rw [k3.2.1 12 (by omega)]; exact h121
          have h262 : μ2.1 123 26 = nI X := by rw [k3.2.1 26 (by omega), j3.2.1 26 (by omega)]; exact c7
          have hhas := M_has24 d.1 hc μ2
          have h64 : ρ1.1 6 4 = nI X := by rw [(u3.1 6 (by omega)).1]; exact c5
          have hbit := msk_bit d.1 hc
          have hor := msk_or d.1 hc
          have hcl95 : dn_X9_takeCard_78 [some (.ref 6), some (.ref 3), some (.ref 26), some (.int (nI (if q = 7 then 8 else q))), some (.int (nI s)), some (.int (nI (if q = 7 then 0 else 1))), none] [] σx = if X.testBit c = true then x_rI (S_X3_blame [.ref 3, .int (nI 5)] ρ1) am_zret [some (.ref 6), some (.ref 3), some (.ref 26), some (.int (nI (if q = 7 then 8 else q))), some (.int (nI s)), some (.int (nI (if q = 7 then 0 else 1))), some (.int (nI c))] [] else dn_X9_takeCard_128 [some (.ref 6), some (.ref 3), some (.ref 26), some (.int (nI (if q = 7 then 8 else q))), some (.int (nI s)), some (.int (nI (if q = 7 then 0 else 1))), some (.int (nI c))] [] ρ1 := by
            cases hXc : X.testBit c with
            | true =>
              rw [if_pos rfl]
              rw [hXc] at hbit
              simp (disch := omega) only [↓e_X9_takeCard_78, ↓e_X9_takeCard_95, ↓it_s, ↓y_iload, ↓y_lload, ↓y_aload, ↓y_istore, ↓y_lstore, ↓y_astore, ↓y_iinc, ↓y_cI, ↓y_cL, ↓y_bin, ↓y_binL, ↓y_div, ↓y_divL, ↓y_lshl, ↓y_un, ↓y_i2l, ↓y_lneg, ↓y_l2i, ↓y_lcmp, ↓y_dupI, ↓y_dupR, ↓y_dup2, ↓y_pop, ↓y_goto, ↓y_eq0, ↓y_lt0, ↓y_le0, ↓y_eq, ↓y_lt, ↓y_le, ↓y_switch, ↓y_sw0, ↓y_sw1, ↓y_getI, ↓y_getL, ↓y_getR, ↓y_getT, ↓y_putI, ↓y_putZ, ↓y_putL, ↓y_putT, ↓y_iald, ↓y_bald, ↓y_lald, ↓y_aald, ↓y_iast, ↓y_bast, ↓y_last, ↓y_alen, ↓y_iret, ↓y_zret, ↓y_lret, ↓y_vret, ↓y_svI, ↓y_svL, ↓y_svV, ↓y_ivI, ↓y_ivL, ↓y_ivV, ↓y_max, ↓y_min, ↓y_absL, ↓y_cpI, ↓y_cpL, ↓x_n1I, ↓x_n1L, ↓x_n1R, ↓x_n0I, ↓x_n0L, ↓x_n0R, ↓x_s0, ↓x_s1i, ↓x_s1r, ↓x_s1n, ↓x_s2, ↓x_c0, ↓x_c2, ↓x_tk0, ↓x_tk1, ↓x_rcv, x_rI1, x_rL1, x_rV1, x_rIn, x_rLn, x_rVn, x_rIf, x_rLf, x_rVf, x_40, x_41, x_42, x_43, x_44, ↓reduceIte, if_true, if_false, ao_iadd, ao_isub, ao_imul, ao_iand, ao_ior, ao_ishl, ao_ishr, ao_iushr, ao_ladd, ao_lsub, ao_lmul, ao_land, ao_lor, ao_idiv, ao_irem, ao_ldiv, ao_lrem, ao_ineg, ao_i2b, ao_i2s, Nat.reduceAdd, Nat.reduceMul, Nat.reduceSub, Nat.reduceEqDiff, Nat.reduceLeDiff, and_self, true_and, x_lit, x_ofn, x_z0, x_z1, x_inbT, x_ltT, x_ltF, x_leT, x_leF, x_eqF, x_eqT, x_inb, x_lt, x_le, x_eq, x_cl, x_sub, nI_add, pk_mul, x_m1e, x_m1e', x_m1l, x_m1n, x_m1s, Nat.not_lt_zero, x_zb, x_b0, x_b1, decide_eq_false_iff_not, decide_eq_true_eq, Bool.false_eq_true, Bool.true_eq_false, x6, u1, h6, h64, ← ec, hbit, b2_t, kd_3, kd_6, kd_26, kd_27]
            | false =>
              rw [if_neg (show ¬ (false = true) by simp)]
              rw [hXc] at hbit
              simp (disch := omega) only [↓e_X9_takeCard_78, ↓e_X9_takeCard_95, ↓it_s, ↓y_iload, ↓y_lload, ↓y_aload, ↓y_istore, ↓y_lstore, ↓y_astore, ↓y_iinc, ↓y_cI, ↓y_cL, ↓y_bin, ↓y_binL, ↓y_div, ↓y_divL, ↓y_lshl, ↓y_un, ↓y_i2l, ↓y_lneg, ↓y_l2i, ↓y_lcmp, ↓y_dupI, ↓y_dupR, ↓y_dup2, ↓y_pop, ↓y_goto, ↓y_eq0, ↓y_lt0, ↓y_le0, ↓y_eq, ↓y_lt, ↓y_le, ↓y_switch, ↓y_sw0, ↓y_sw1, ↓y_getI, ↓y_getL, ↓y_getR, ↓y_getT, ↓y_putI, ↓y_putZ, ↓y_putL, ↓y_putT, ↓y_iald, ↓y_bald, ↓y_lald, ↓y_aald, ↓y_iast, ↓y_bast, ↓y_last, ↓y_alen, ↓y_iret, ↓y_zret, ↓y_lret, ↓y_vret, ↓y_svI, ↓y_svL, ↓y_svV, ↓y_ivI, ↓y_ivL, ↓y_ivV, ↓y_max, ↓y_min, ↓y_absL, ↓y_cpI, ↓y_cpL, ↓x_n1I, ↓x_n1L, ↓x_n1R, ↓x_n0I, ↓x_n0L, ↓x_n0R, ↓x_s0, ↓x_s1i, ↓x_s1r, ↓x_s1n, ↓x_s2, ↓x_c0, ↓x_c2, ↓x_tk0, ↓x_tk1, ↓x_rcv, x_rI1, x_rL1, x_rV1, x_rIn, x_rLn, x_rVn, x_rIf, x_rLf, x_rVf, x_40, x_41, x_42, x_43, x_44, ↓reduceIte, if_true, if_false, ao_iadd, ao_isub, ao_imul, ao_iand, ao_ior, ao_ishl, ao_ishr, ao_iushr, ao_ladd, ao_lsub, ao_lmul, ao_land, ao_lor, ao_idiv, ao_irem, ao_ldiv, ao_lrem, ao_ineg, ao_i2b, ao_i2s, Nat.reduceAdd, Nat.reduceMul, Nat.reduceSub, Nat.reduceEqDiff, Nat.reduceLeDiff, and_self, true_and, x_lit, x_ofn, x_z0, x_z1, x_inbT, x_ltT, x_ltF, x_leT, x_leF, x_eqF, x_eqT, x_inb, x_lt, x_le, x_eq, x_cl, x_sub, nI_add, pk_mul, x_m1e, x_m1e', x_m1l, x_m1n, x_m1s, Nat.not_lt_zero, x_zb, x_b0, x_b1, decide_eq_false_iff_not, decide_eq_true_eq, Bool.false_eq_true, Bool.true_eq_false, x6, u1, h6, h64, ← ec, hbit, b2_f, kd_3, kd_6, kd_26, kd_27]
          rw [hcl95]
          cases hXc : X.testBit c with
          | true =>
            rw [hXc] at hhas
            have hbl := X_blame (k := 5) (σ := ρ1)
            obtain ⟨q1, q2, q3⟩ := XF_bl (k := 5) (p := tp t e b) (fR_rf ρ1) u2.2.1
            have hfa := M_fail0 (k := 5) (p := tp t e b) h122
            have hb12 := bdM_12 μ2 5 (tp t e b)
            refine Or.inl ⟨_, bdM μ2 5 (tp t e b), 5, tp t e b, ?_, fun B => ?_, by omega, by omega, q1, q2, bdM_12 _ _ _, bdM_13 _ _ _, fPx_tr (fPx_R u3) (fPx_B q3), fPm_bd (fPm_tr (fPm_T j3) (fPm_T k3))⟩
            · rw [if_pos rfl]
              simp (disch := omega) only [↓it_s, ↓y_iload, ↓y_lload, ↓y_aload, ↓y_istore, ↓y_lstore, ↓y_astore, ↓y_iinc, ↓y_cI, ↓y_cL, ↓y_bin, ↓y_binL, ↓y_div, ↓y_divL, ↓y_lshl, ↓y_un, ↓y_i2l, ↓y_lneg, ↓y_l2i, ↓y_lcmp, ↓y_dupI, ↓y_dupR, ↓y_dup2, ↓y_pop, ↓y_goto, ↓y_eq0, ↓y_lt0, ↓y_le0, ↓y_eq, ↓y_lt, ↓y_le, ↓y_switch, ↓y_sw0, ↓y_sw1, ↓y_getI, ↓y_getL, ↓y_getR, ↓y_getT, ↓y_putI, ↓y_putZ, ↓y_putL, ↓y_putT, ↓y_iald, ↓y_bald, ↓y_lald, ↓y_aald, ↓y_iast, ↓y_bast, ↓y_last, ↓y_alen, ↓y_iret, ↓y_zret, ↓y_lret, ↓y_vret, ↓y_svI, ↓y_svL, ↓y_svV, ↓y_ivI, ↓y_ivL, ↓y_ivV, ↓y_max, ↓y_min, ↓y_absL, ↓y_cpI, ↓y_cpL, ↓x_n1I, ↓x_n1L, ↓x_n1R, ↓x_n0I, ↓x_n0L, ↓x_n0R, ↓x_s0, ↓x_s1i, ↓x_s1r, ↓x_s1n, ↓x_s2, ↓x_c0, ↓x_c2, ↓x_tk0, ↓x_tk1, ↓x_rcv, x_rI1, x_rL1, x_rV1, x_rIn, x_rLn, x_rVn, x_rIf, x_rLf, x_rVf, x_40, x_41, x_42, x_43, x_44, ↓reduceIte, if_true, if_false, ao_iadd, ao_isub, ao_imul, ao_iand, ao_ior, ao_ishl, ao_ishr, ao_iushr, ao_ladd, ao_lsub, ao_lmul, ao_land, ao_lor, ao_idiv, ao_irem, ao_ldiv, ao_lrem, ao_ineg, ao_i2b, ao_i2s, Nat.reduceAdd, Nat.reduceMul, Nat.reduceSub, Nat.reduceEqDiff, Nat.reduceLeDiff, and_self, true_and, x_lit, x_ofn, x_z0, x_z1, x_inbT, x_ltT, x_ltF, x_leT, x_leF, x_eqF, x_eqT, x_inb, x_lt, x_le, x_eq, x_cl, x_sub, nI_add, pk_mul, x_m1e, x_m1e', x_m1l, x_m1n, x_m1s, Nat.not_lt_zero, x_zb, x_b0, x_b1, decide_eq_false_iff_not, decide_eq_true_eq, Bool.false_eq_true, Bool.true_eq_false, hbl]
            · refine (hm52 B).trans ?_
              simp (disch := omega) only [↓e_X11_readCards_52, ↓e_X11_readCards_112, ↓it_s, ↓y_iload, ↓y_lload, ↓y_aload, ↓y_istore, ↓y_lstore, ↓y_astore, ↓y_iinc, ↓y_cI, ↓y_cL, ↓y_bin, ↓y_binL, ↓y_div, ↓y_divL, ↓y_lshl, ↓y_un, ↓y_i2l, ↓y_lneg, ↓y_l2i, ↓y_lcmp, ↓y_dupI, ↓y_dupR, ↓y_dup2, ↓y_pop, ↓y_goto, ↓y_eq0, ↓y_lt0, ↓y_le0, ↓y_eq, ↓y_lt, ↓y_le, ↓y_switch, ↓y_sw0, ↓y_sw1, ↓y_getI, ↓y_getL, ↓y_getR, ↓y_getT, ↓y_putI, ↓y_putZ, ↓y_putL, ↓y_putT, ↓y_iald, ↓y_bald, ↓y_lald, ↓y_aald, ↓y_iast, ↓y_bast, ↓y_last, ↓y_alen, ↓y_iret, ↓y_zret, ↓y_lret, ↓y_vret, ↓y_svI, ↓y_svL, ↓y_svV, ↓y_ivI, ↓y_ivL, ↓y_ivV, ↓y_max, ↓y_min, ↓y_absL, ↓y_cpI, ↓y_cpL, ↓x_n1I, ↓x_n1L, ↓x_n1R, ↓x_n0I, ↓x_n0L, ↓x_n0R, ↓x_s0, ↓x_s1i, ↓x_s1r, ↓x_s1n, ↓x_s2, ↓x_c0, ↓x_c2, ↓x_tk0, ↓x_tk1, ↓x_rcv, x_rI1, x_rL1, x_rV1, x_rIn, x_rLn, x_rVn, x_rIf, x_rLf, x_rVf, x_40, x_41, x_42, x_43, x_44, ↓reduceIte, if_true, if_false, ao_iadd, ao_isub, ao_imul, ao_iand, ao_ior, ao_ishl, ao_ishr, ao_iushr, ao_ladd, ao_lsub, ao_lmul, ao_land, ao_lor, ao_idiv, ao_irem, ao_ldiv, ao_lrem, ao_ineg, ao_i2b, ao_i2s, Nat.reduceAdd, Nat.reduceMul, Nat.reduceSub, Nat.reduceEqDiff, Nat.reduceLeDiff, and_self, true_and, x_lit, x_ofn, x_z0, x_z1, x_inbT, x_ltT, x_ltF, x_leT, x_leF, x_eqF, x_eqT, x_inb, x_lt, x_le, x_eq, x_cl, x_sub, nI_add, pk_mul, x_m1e, x_m1e', x_m1l, x_m1n, x_m1s, Nat.not_lt_zero, x_zb, x_b0, x_b1, decide_eq_false_iff_not, decide_eq_true_eq, Bool.false_eq_true, Bool.true_eq_false, j1, h151, m01, k1, ← ec, h122, h262, hhas, b2_t, hfa, hb12, kd_123, kd_128, ln_128]
          | false =>
            rw [hXc] at hhas
            rw [if_neg (show ¬ (false = true) by simp)]
            have hnc : ¬ c ∈ allC V := fun z => by
              have := (d.2 c hc).mpr z
              rw [hXc] at this; cases this
            have hqc : (q < 6 ∧ q < vN V 4 ∧ (vP V q).length < 12) ∨ q = 7 := by
              rcases hq with z | z
              · have := a2.2.1.2.2.1 q z.1
                exact Or.inl ⟨z.1, z.2.1, by omega⟩
              · exact Or.inr z.1
            have hlen : (vP V q).length < 24 := by
              have h1 := (WC_cd a2.2.1 hqc hc hnc).len (p := q) (by omega)
              have h2 : vP (vuP V q (vP V q ++ [c])) q = vP V q ++ [c] := up_s _ _ _
              rw [h2, List.length_append] at h1
              have h3 : (vP V q).length + 1 ≤ 24 := h1
              omega
            obtain ⟨n, en⟩ : ∃ n, n = (vP V q).length := ⟨_, rfl⟩
            obtain ⟨ρ2, er2⟩ : ∃ s', s' = am_uI ρ1 6 4 (nI (X ||| 2 ^ c)) := ⟨_, rfl⟩
            have er2' := er2.symm
            have hf2 : ∀ j, j ≠ 3 → j ≠ 6 → ρ2.1 j = σx.1 j := fun j p1 p2 => by rw [er2, uI_n p2, (u3.1 j p1).1]
            have hTP2 : TP ρ2 27 V := TP_fr a1.2.1 (fun j p1 p2 => hf2 j (by omega) (by omega))
            obtain ⟨ρ3, hcl, hTP3, hf3, hf27, hL3⟩ : ∃ ρ3, dn_X9_takeCard_128 [some (.ref 6), some (.ref 3), some (.ref 26), some (.int (nI (if q = 7 then 8 else q))), some (.int (nI s)), some (.int (nI (if q = 7 then 0 else 1))), some (.int (nI c))] [] ρ1 = some (some (.int (nI 1)), ρ3) ∧ TP ρ3 27 (vuP V q (vP V q ++ [c])) ∧ (∀ j, j < 27 ∨ 31 < j → ρ3.1 j = ρ2.1 j) ∧ (∀ k, k = 3 ∨ 5 ≤ k → ρ3.1 27 k = ρ2.1 27 k) ∧ ρ3.2 = ρ2.2 := by
              by_cases z : q = 7
              · have h0 : ρ2.1 27 3 = nI 0 := by rw [hf2 27 (by omega) (by omega)]; exact f1
                rw [z] at hlen
                obtain ⟨g1, g2⟩ := TP_stock (c := c) hTP2 h0 hlen
                have hla := X_layInStock (t := 27) (c := c) (Or.inr (Or.inl rfl)) g1 hlen
                refine ⟨am_uI (am_uI ρ2 30 (vP V 7).length (nI c)) 27 4 (nI ((vP V 7).length + 1)), ?_, by rw [z]; exact g2, fun j p1 => ?_, fun k p1 => ?_, rfl⟩
                · rw [if_pos z, if_pos z]
                  simp (disch := omega) only [↓e_X9_takeCard_128, ↓e_X9_takeCard_159, ↓e_X9_takeCard_168, ↓it_s, ↓y_iload, ↓y_lload, ↓y_aload, ↓y_istore, ↓y_lstore, ↓y_astore, ↓y_iinc, ↓y_cI, ↓y_cL, ↓y_bin, ↓y_binL, ↓y_div, ↓y_divL, ↓y_lshl, ↓y_un, ↓y_i2l, ↓y_lneg, ↓y_l2i, ↓y_lcmp, ↓y_dupI, ↓y_dupR, ↓y_dup2, ↓y_pop, ↓y_goto, ↓y_eq0, ↓y_lt0, ↓y_le0, ↓y_eq, ↓y_lt, ↓y_le, ↓y_switch, ↓y_sw0, ↓y_sw1, ↓y_getI, ↓y_getL, ↓y_getR, ↓y_getT, ↓y_putI, ↓y_putZ, ↓y_putL, ↓y_putT, ↓y_iald, ↓y_bald, ↓y_lald, ↓y_aald, ↓y_iast, ↓y_bast, ↓y_last, ↓y_alen, ↓y_iret, ↓y_zret, ↓y_lret, ↓y_vret, ↓y_svI, ↓y_svL, ↓y_svV, ↓y_ivI, ↓y_ivL, ↓y_ivV, ↓y_max, ↓y_min, ↓y_absL, ↓y_cpI, ↓y_cpL, ↓x_n1I, ↓x_n1L, ↓x_n1R, ↓x_n0I, ↓x_n0L, ↓x_n0R, ↓x_s0, ↓x_s1i, ↓x_s1r, ↓x_s1n, ↓x_s2, ↓x_c0, ↓x_c2, ↓x_tk0, ↓x_tk1, ↓x_rcv, x_rI1, x_rL1, x_rV1, x_rIn, x_rLn, x_rVn, x_rIf, x_rLf, x_rVf, x_40, x_41, x_42, x_43, x_44, ↓reduceIte, if_true, if_false, ao_iadd, ao_isub, ao_imul, ao_iand, ao_ior, ao_ishl, ao_ishr, ao_iushr, ao_ladd, ao_lsub, ao_lmul, ao_land, ao_lor, ao_idiv, ao_irem, ao_ldiv, ao_lrem, ao_ineg, ao_i2b, ao_i2s, Nat.reduceAdd, Nat.reduceMul, Nat.reduceSub, Nat.reduceEqDiff, Nat.reduceLeDiff, and_self, true_and, x_lit, x_ofn, x_z0, x_z1, x_inbT, x_ltT, x_ltF, x_leT, x_leF, x_eqF, x_eqT, x_inb, x_lt, x_le, x_eq, x_cl, x_sub, nI_add, pk_mul, x_m1e, x_m1e', x_m1l, x_m1n, x_m1s, Nat.not_lt_zero, x_zb, x_b0, x_b1, decide_eq_false_iff_not, decide_eq_true_eq, Bool.false_eq_true, Bool.true_eq_false, h64, hor, er2', hla, kd_3, kd_6, kd_26, kd_27]
                · rw [uI_n (by omega), uI_n (by omega)]
                · rw [uI_s, up_n (by omega), uI_n (by omega)]
              · have hq7 : q < 7 := by omega
                have hla := X_lay (t := 27) (c := c) (Or.inr (Or.inl rfl)) hTP2 hq7 hlen
                refine ⟨am_uI (am_uI ρ2 28 (q * 24 + (vP V q).length) (nI c)) 29 q (nI ((vP V q).length + 1)), ?_, TP_push hTP2 (fun r hr => a2.2.1.len (by omega)) hq7 hlen, fun j p1 => ?_, fun k p1 => ?_, rfl⟩
                · rw [if_neg z, if_neg z]
                  simp (disch := omega) only [↓e_X9_takeCard_128, ↓e_X9_takeCard_168, ↓it_s, ↓y_iload, ↓y_lload, ↓y_aload, ↓y_istore, ↓y_lstore, ↓y_astore, ↓y_iinc, ↓y_cI, ↓y_cL, ↓y_bin, ↓y_binL, ↓y_div, ↓y_divL, ↓y_lshl, ↓y_un, ↓y_i2l, ↓y_lneg, ↓y_l2i, ↓y_lcmp, ↓y_dupI, ↓y_dupR, ↓y_dup2, ↓y_pop, ↓y_goto, ↓y_eq0, ↓y_lt0, ↓y_le0, ↓y_eq, ↓y_lt, ↓y_le, ↓y_switch, ↓y_sw0, ↓y_sw1, ↓y_getI, ↓y_getL, ↓y_getR, ↓y_getT, ↓y_putI, ↓y_putZ, ↓y_putL, ↓y_putT, ↓y_iald, ↓y_bald, ↓y_lald, ↓y_aald, ↓y_iast, ↓y_bast, ↓y_last, ↓y_alen, ↓y_iret, ↓y_zret, ↓y_lret, ↓y_vret, ↓y_svI, ↓y_svL, ↓y_svV, ↓y_ivI, ↓y_ivL, ↓y_ivV, ↓y_max, ↓y_min, ↓y_absL, ↓y_cpI, ↓y_cpL, ↓x_n1I, ↓x_n1L, ↓x_n1R, ↓x_n0I, ↓x_n0L, ↓x_n0R, ↓x_s0, ↓x_s1i, ↓x_s1r, ↓x_s1n, ↓x_s2, ↓x_c0, ↓x_c2, ↓x_tk0, ↓x_tk1, ↓x_rcv, x_rI1, x_rL1, x_rV1, x_rIn, x_rLn, x_rVn, x_rIf, x_rLf, x_rVf, x_40, x_41, x_42, x_43, x_44, ↓reduceIte, if_true, if_false, ao_iadd, ao_isub, ao_imul, ao_iand, ao_ior, ao_ishl, ao_ishr, ao_iushr, ao_ladd, ao_lsub, ao_lmul, ao_land, ao_lor, ao_idiv, ao_irem, ao_ldiv, ao_lrem, ao_ineg, ao_i2b, ao_i2s, Nat.reduceAdd, Nat.reduceMul, Nat.reduceSub, Nat.reduceEqDiff, Nat.reduceLeDiff, and_self, true_and, x_lit, x_ofn, x_z0, x_z1, x_inbT, x_ltT, x_ltF, x_leT, x_leF, x_eqF, x_eqT, x_inb, x_lt, x_le, x_eq, x_cl, x_sub, nI_add, pk_mul, x_m1e, x_m1e', x_m1l, x_m1n, x_m1s, Nat.not_lt_zero, x_zb, x_b0, x_b1, decide_eq_false_iff_not, decide_eq_true_eq, Bool.false_eq_true, Bool.true_eq_false, h64, hor, er2', hla, kd_3, kd_6, kd_26, kd_27]
                · rw [uI_n (by omega), uI_n (by omega)]
                · rw [uI_n (by omega), uI_n (by omega)]
            obtain ⟨τm, em⟩ : ∃ s', s' = am_uI (am_uI μ2 123 26 (nI (X ||| 2 ^ c))) 128 (bs + i) (nI c) := ⟨_, rfl⟩
            have em' := em.symm
            have hF2 := fT_tr j3 k3
            have hbl : mBeg q ≤ 92 := by unfold mBeg; split <;> (try split) <;> omega
            have hbh : 20 ≤ mBeg q := by unfold mBeg; split <;> (try split) <;> omega
            have hX3 : TX ρ3 t e := by
              obtain ⟨i1', i2', i3', i4', i5', i6'⟩ := TX_fr e1 u3
              have g2 : ρ2.2 = ρ1.2 := by rw [er2]; rfl
              exact ⟨by rw [hf3 3 (by omega), er2, uI_n (by omega)]; exact i1', by rw [hf3 3 (by omega), er2, uI_n (by omega)]; exact i2', i3', i4', fun j hj => by rw [hf3 2 (by omega), er2, uI_n (by omega)]; exact i5' j hj, fun i hi => by rw [hL3, g2]; exact i6' i hi⟩
            refine Or.inr ⟨ρ3, τm, c, tq t e b, some (.int (nI s)), some (.int (nI (tp t e b))), some (.int (nI c)), hcl, fun B => ?_, ?_, ?_, by omega, ?_, ?_, ?_, ?_, ?_⟩
            · refine (hm52 B).trans ?_
              simp (disch := omega) only [↓e_X11_readCards_52, ↓e_X11_readCards_112, ↓e_X11_readCards_121, ↓it_s, ↓y_iload, ↓y_lload, ↓y_aload, ↓y_istore, ↓y_lstore, ↓y_astore, ↓y_iinc, ↓y_cI, ↓y_cL, ↓y_bin, ↓y_binL, ↓y_div, ↓y_divL, ↓y_lshl, ↓y_un, ↓y_i2l, ↓y_lneg, ↓y_l2i, ↓y_lcmp, ↓y_dupI, ↓y_dupR, ↓y_dup2, ↓y_pop, ↓y_goto, ↓y_eq0, ↓y_lt0, ↓y_le0, ↓y_eq, ↓y_lt, ↓y_le, ↓y_switch, ↓y_sw0, ↓y_sw1, ↓y_getI, ↓y_getL, ↓y_getR, ↓y_getT, ↓y_putI, ↓y_putZ, ↓y_putL, ↓y_putT, ↓y_iald, ↓y_bald, ↓y_lald, ↓y_aald, ↓y_iast, ↓y_bast, ↓y_last, ↓y_alen, ↓y_iret, ↓y_zret, ↓y_lret, ↓y_vret, ↓y_svI, ↓y_svL, ↓y_svV, ↓y_ivI, ↓y_ivL, ↓y_ivV, ↓y_max, ↓y_min, ↓y_absL, ↓y_cpI, ↓y_cpL, ↓x_n1I, ↓x_n1L, ↓x_n1R, ↓x_n0I, ↓x_n0L, ↓x_n0R, ↓x_s0, ↓x_s1i, ↓x_s1r, ↓x_s1n, ↓x_s2, ↓x_c0, ↓x_c2, ↓x_tk0, ↓x_tk1, ↓x_rcv, x_rI1, x_rL1, x_rV1, x_rIn, x_rLn, x_rVn, x_rIf, x_rLf, x_rVf, x_40, x_41, x_42, x_43, x_44, ↓reduceIte, if_true, if_false, ao_iadd, ao_isub, ao_imul, ao_iand, ao_ior, ao_ishl, ao_ishr, ao_iushr, ao_ladd, ao_lsub, ao_lmul, ao_land, ao_lor, ao_idiv, ao_irem, ao_ldiv, ao_lrem, ao_ineg, ao_i2b, ao_i2s, Nat.reduceAdd, Nat.reduceMul, Nat.reduceSub, Nat.reduceEqDiff, Nat.reduceLeDiff, and_self, true_and, x_lit, x_ofn, x_z0, x_z1, x_inbT, x_ltT, x_ltF, x_leT, x_leF, x_eqF, x_eqT, x_inb, x_lt, x_le, x_eq, x_cl, x_sub, nI_add, pk_mul, x_m1e, x_m1e', x_m1l, x_m1n, x_m1s, Nat.not_lt_zero, x_zb, x_b0, x_b1, decide_eq_false_iff_not, decide_eq_true_eq, Bool.false_eq_true, Bool.true_eq_false, j1, h151, m01, k1, ← ec, h122, h262, hhas, b2_f, hor, em', kd_123, kd_128, ln_128]
            · refine PS_card hP hqc hc hXc hTP3 ?_ ?_ ?_ ?_ ?_ hX3 ?_ ?_ ?_ ?_ ?_ ?_ ?_ ?_ hce ?_
              · intro j p1 p2 p3
                rw [hf3 j p3, hf2 j p1 p2]
              · intro k p1
                rw [hf27 k p1, hf2 27 (by omega) (by omega)]
              · intro j p1
                rw [hL3, er2, uI_2, (u3.1 j p1).2]
              · intro k p1
                rw [hf3 6 (by omega), er2, uI_s, up_n (by omega), (u3.1 6 (by omega)).1]
              · rw [hf3 6 (by omega), er2, uI_s, up_s]
              · rw [ptM_o (by omega), ptM_o (by omega), em, uI_n (by omega), uI_s, up_n (by omega), hF2.2.1 25 (by omega)]
              · rw [ptM_o (by omega), ptM_o (by omega), em, uI_n (by omega), uI_s, up_n (by omega), hF2.2.1 27 (by omega)]
              · rw [ptM_o (by omega), em, uI_n (by omega), uI_s, up_s]
              · refine pt_push (σ := σm) hq67 rfl (fun z => by omega) hlen a2.2.1 a3 ?_
                rw [em, uI_s, uI_n (by omega), (hF2.1 128 (by omega)).1, hbs]
              · intro j p1
                rw [ptM_c (by omega) (by omega) (by omega) hq67, ptM_c (by omega) (by omega) (by omega) hq67, em, uI_s, up_n ?_, uI_n (by omega), (hF2.1 128 (by omega)).1]
                have hm12 : q < 6 → mBeg q ≤ 80 := fun z => by unfold mBeg; rw [if_pos z]; omega
                omega
              · rw [ptM_2, ptM_2, em, uI_2, uI_2, (hF2.1 131 (by omega)).2]
              · rw [ptM_tm, em]; exact TM_uo (TM_uI (TM_fr e2 hF2) (by omega)) (by omega) (by omega)
              · rw [ptM_tok, em]; exact TokM_uo (TokM_uI k2 (by omega)) (by omega)
              · rw [ptM_o (by omega), em, uI_n (by omega), uI_s, up_n (by omega)]; exact h122
            · rw [hf3 3 (by omega), er2, uI_n (by omega)]; exact u2.1
            · rw [hf3 3 (by omega), er2, uI_n (by omega), u3.2 10 (by omega)]
            · rw [hf3 3 (by omega), er2, uI_n (by omega), u3.2 11 (by omega)]
            · intro j p1 p2 p3
              exact ⟨by rw [hf3 j (by omega), hf2 j p1 p2], by rw [hL3, er2, uI_2, (u3.1 j p1).2]⟩
            · rw [em]; exact fPm_uc (fPm_uI (fPm_T hF2) (by omega)) (by omega)
            · rw [em, uI_s, up_n (by omega), uI_n (by omega), (hF2.1 128 (by omega)).1]
