/-! the least cheat -/
abbrev chS : Type := Nat × Option (Nat × Nat)
noncomputable def chR (V : Vt) (s a b : Nat) : Nat := rise (swV V (a / 100) (a % 100) (b / 100) (b % 100)) s
noncomputable def chB (V : Vt) (s a : Nat) (st : chS) (b : Nat) : chS := if isP V b = true ∧ st.1 < chR V s a b then (chR V s a b, some (a, b)) else st
noncomputable def chIn (V : Vt) (s a : Nat) : Nat → Nat → chS → chS
  | _, 0, st => st
  | lo, n + 1, st => chIn V s a (lo + 1) n (chB V s a st lo)
noncomputable def chA (V : Vt) (s : Nat) (st : chS) (a : Nat) : chS := if isP V a = true then chIn V s a (a + 1) (100 * vN V 4 - (a + 1)) st else st
noncomputable def chOut (V : Vt) (s : Nat) : Nat → Nat → chS → chS
  | _, 0, st => st
  | lo, n + 1, st => chOut V s (lo + 1) n (chA V s st lo)
noncomputable def chV (V : Vt) (s : Nat) : chS := chOut V s 0 (100 * vN V 4) (rise V s, none)
theorem chIn_s (V : Vt) (s a lo n : Nat) (st : chS) : chIn V s a lo (n + 1) st = chIn V s a (lo + 1) n (chB V s a st lo) := rfl
theorem chOut_s (V : Vt) (s lo n : Nat) (st : chS) : chOut V s lo (n + 1) st = chOut V s (lo + 1) n (chA V s st lo) := rfl
theorem chIn_add (V : Vt) (s a : Nat) : ∀ (n lo m : Nat) (st : chS), chIn V s a lo (n + m) st = chIn V s a (lo + n) m (chIn V s a lo n st)
  | 0, lo, m, st => by rw [Nat.zero_add]; rfl
  | n + 1, lo, m, st => by rw [show n + 1 + m = (n + m) + 1 by omega, chIn_s, chIn_s, chIn_add V s a n, show lo + 1 + n = lo + (n + 1) by omega]
theorem chOut_add (V : Vt) (s : Nat) : ∀ (n lo m : Nat) (st : chS), chOut V s lo (n + m) st = chOut V s (lo + n) m (chOut V s lo n st)
  | 0, lo, m, st => by rw [Nat.zero_add]; rfl
  | n + 1, lo, m, st => by rw [show n + 1 + m = (n + m) + 1 by omega, chOut_s, chOut_s, chOut_add V s n, show lo + 1 + n = lo + (n + 1) by omega]
theorem chB_no {V : Vt} {s a b : Nat} {st : chS} (h : isP V b = false) : chB V s a st b = st := by
  unfold chB
  rw [if_neg (fun z => by rw [h] at z; cases z.1)]
theorem chA_no {V : Vt} {s a : Nat} {st : chS} (h : isP V a = false) : chA V s st a = st := by
  unfold chA
  rw [if_neg (fun z => by rw [h] at z; cases z)]
theorem chIn_skip {V : Vt} {s a : Nat} : ∀ (n lo : Nat) (st : chS), (∀ b, lo ≤ b → b < lo + n → isP V b = false) → chIn V s a lo n st = st
  | 0, _, _, _ => rfl
  | n + 1, lo, st, h => by rw [chIn_s, chB_no (h lo (by omega) (by omega)), chIn_skip n (lo + 1) st (fun b p q => h b (by omega) (by omega))]
theorem chOut_skip {V : Vt} {s : Nat} : ∀ (n lo : Nat) (st : chS), (∀ b, lo ≤ b → b < lo + n → isP V b = false) → chOut V s lo n st = st
  | 0, _, _, _ => rfl
  | n + 1, lo, st, h => by rw [chOut_s, chA_no (h lo (by omega) (by omega)), chOut_skip n (lo + 1) st (fun b p q => h b (by omega) (by omega))]
theorem isP_t {V : Vt} {b : Nat} (h : isP V b = true) : b / 100 < vN V 4 ∧ b % 100 < (vP V (b / 100)).length := of_decide_eq_true h
theorem isP_mk {V : Vt} {r k : Nat} (hr : r < vN V 4) (hk : k < (vP V r).length) (h100 : k < 100) : isP V (100 * r + k) = true := by
  have e1 : (100 * r + k) / 100 = r := by omega
  have e2 : (100 * r + k) % 100 = k := by omega
  unfold isP
  rw [e1, e2]
  exact decide_eq_true ⟨hr, hk⟩
theorem isP_gap {V : Vt} {r : Nat} : ∀ b, 100 * r + (vP V r).length ≤ b → b < 100 * (r + 1) → isP V b = false := by
  intro b h1 h2
  have e1 : b / 100 = r := by omega
  unfold isP
  rw [e1]
  exact decide_eq_false (fun z => by omega)
def okS (st : chS) : Prop := st.1 ≤ 21 ∧ ∀ p, st.2 = some p → p.1 < 600 ∧ p.2 < 600
/-! the model -/
def stM (τ : am_M) (st : chS) : Prop := okS st ∧ (st.2 = none → τ.1 123 36 = -nI 1) ∧ ∀ p, st.2 = some p → τ.1 123 36 = nI p.1 ∧ τ.1 123 37 = nI p.2
def frC (σ τ : am_M) : Prop := τ.2 = σ.2 ∧ (∀ j, j ≠ 123 → j ≠ 129 → j ≠ 132 → τ.1 j = σ.1 j) ∧ ∀ i, i ≠ 36 → i ≠ 37 → τ.1 123 i = σ.1 123 i
theorem frC_rf (σ : am_M) : frC σ σ := ⟨rfl, fun _ _ _ _ => rfl, fun _ _ _ => rfl⟩
theorem frC_tr {a b c : am_M} (h1 : frC a b) (h2 : frC b c) : frC a c := ⟨h2.1.trans h1.1, fun j p q r => (h2.2.1 j p q r).trans (h1.2.1 j p q r), fun i p q => (h2.2.2 i p q).trans (h1.2.2 i p q)⟩
theorem M_pair {σ : am_M} {V : Vt} {s a b : Nat} (h : MC (σ.1 128) 0 V) (hw : WG V) (hs : s < 4) (ha : isP V a = true) (hb : isP V b = true) : ∃ σ1 σ2 σ3, S_X11_exchanges [.ref 123, .int (nI a), .int (nI b)] σ = some (none, σ1) ∧ S_X11_runFor [.ref 123, .int (nI s)] σ1 = some (some (.int (nI (chR V s a b))), σ2) ∧ S_X11_exchanges [.ref 123, .int (nI a), .int (nI b)] σ2 = some (none, σ3) ∧ frC σ σ3 ∧ (∀ i, σ3.1 123 i = σ.1 123 i) ∧ chR V s a b ≤ 21 := by
  obtain ⟨a1, a2⟩ := isP_t ha
  obtain ⟨b1, b2'⟩ := isP_t hb
  have hR := hw.1.2.2.2.2.1
  have l1 := hw.2.1.2.2.1 (a / 100) (by omega)
  have l2 := hw.2.1.2.2.1 (b / 100) (by omega)
  have ea : 100 * (a / 100) + a % 100 = a := by omega
  have eb : 100 * (b / 100) + b % 100 = b := by omega
  have x1 := M_exchanges (r := a / 100) (k := a % 100) (r' := b / 100) (j := b % 100) (σ := σ) (by omega) (by omega) (by omega) (by omega)
  rw [ea, eb] at x1
  obtain ⟨σ1, e1⟩ : ∃ q, q = am_uA σ 128 (swA (σ.1 128) (20 + 12 * (a / 100) + a % 100) (20 + 12 * (b / 100) + b % 100)) := ⟨_, rfl⟩
  rw [← e1] at x1
  have hM1 : MC (σ1.1 128) 0 (swV V (a / 100) (a % 100) (b / 100) (b % 100)) := by rw [e1, uA_s]; exact MC_swap h hw.2.1 (by omega) (by omega) a2 b2'
  obtain ⟨σ2, y1, y2, y3, y4, y5⟩ := M_runFor (s := s) hM1 (WG_sw hw (by omega) (by omega) a2 b2') hs
  have x2 := M_exchanges (r := a / 100) (k := a % 100) (r' := b / 100) (j := b % 100) (σ := σ2) (by omega) (by omega) (by omega) (by omega)
  rw [ea, eb, y2, e1, uA_s, swA_inv] at x2
  refine ⟨σ1, σ2, _, x1, y1, x2, ⟨?_, fun j p q r => ?_, fun i p q => ?_⟩, fun i => ?_, y5⟩
  · show σ2.2 = σ.2
    rw [y3, e1]; rfl
  · by_cases e : j = 128
    · subst e; rw [uA_s]
    · rw [uA_n e, y4 j e q r, e1, uA_n e]
  · rw [uA_n (by omega), y4 123 (by omega) (by omega) (by omega), e1, uA_n (by omega)]
  · rw [uA_n (by omega), y4 123 (by omega) (by omega) (by omega), e1, uA_n (by omega)]
theorem stM_fr {σ τ : am_M} {st : chS} (h : stM σ st) (e : ∀ i, τ.1 123 i = σ.1 123 i) : stM τ st := ⟨h.1, fun z => by rw [e]; exact h.2.1 z, fun p z => by rw [e, e]; exact h.2.2 p z⟩
theorem MCh_in {V : Vt} {s a : Nat} (hw : WG V) (hs : s < 4) (ha : isP V a = true) : ∀ (m lo : Nat) (st : chS) (σ : am_M) (d5 : Option Value), lo + m = 100 * vN V 4 → a < lo → MC (σ.1 128) 0 V → stM σ st →
    ∃ (τ : am_M) (d5' : Option Value), rch hd_X11_cheats (m + 1) 31 [some (.ref 123), some (.int (nI s)), some (.int (nI st.1)), some (.int (nI a)), some (.int (nI lo)), d5] σ 13 [some (.ref 123), some (.int (nI s)), some (.int (nI (chIn V s a lo m st).1)), some (.int (nI (a + 1))), some (.int (nI (100 * vN V 4))), d5'] τ ∧ frC σ τ ∧ stM τ (chIn V s a lo m st) := by
  have hR := hw.1.2.2.2.2.1
  obtain ⟨a1, a2⟩ := isP_t ha
  intro m
  induction m with
  | zero =>
    intro lo st σ d5 hm hlo h hst
    have e : lo = 100 * vN V 4 := by omega
    have h4 := (MC_0 h).1 4 (by omega)
    refine ⟨σ, d5, rch_1 fun B => ?_, frC_rf _, hst⟩
    rw [← e]
    simp (disch := omega) only [↓e_X11_cheats_31, ↓e_X11_cheats_115, ↓h_X11_cheats_31, ↓it_s, ↓y_iload, ↓y_lload, ↓y_aload, ↓y_istore, ↓y_lstore, ↓y_astore, ↓y_iinc, ↓y_cI, ↓y_cL, ↓y_bin, ↓y_binL, ↓y_div, ↓y_divL, ↓y_lshl, ↓y_un, ↓y_i2l, ↓y_lneg, ↓y_l2i, ↓y_lcmp, ↓y_dupI, ↓y_dupR, ↓y_dup2, ↓y_pop, ↓y_goto, ↓y_eq0, ↓y_lt0, ↓y_le0, ↓y_eq, ↓y_lt, ↓y_le, ↓y_switch, ↓y_sw0, ↓y_sw1, ↓y_getI, ↓y_getL, ↓y_getR, ↓y_getT, ↓y_putI, ↓y_putZ, ↓y_putL, ↓y_putT, ↓y_iald, ↓y_bald, ↓y_lald, ↓y_aald, ↓y_iast, ↓y_bast, ↓y_last, ↓y_alen, ↓y_iret, ↓y_zret, ↓y_lret, ↓y_vret, ↓y_svI, ↓y_svL, ↓y_svV, ↓y_ivI, ↓y_ivL, ↓y_ivV, ↓y_max, ↓y_min, ↓y_absL, ↓y_cpI, ↓y_cpL, ↓x_n1I, ↓x_n1L, ↓x_n1R, ↓x_n0I, ↓x_n0L, ↓x_n0R, ↓x_s0, ↓x_s1i, ↓x_s1r, ↓x_s1n, ↓x_s2, ↓x_c0, ↓x_c2, ↓x_tk0, ↓x_tk1, ↓x_rcv, x_rI1, x_rL1, x_rV1, x_rIn, x_rLn, x_rVn, x_rIf, x_rLf, x_rVf, x_40, x_41, x_42, x_43, x_44, ↓reduceIte, if_true, if_false, ao_iadd, ao_isub, ao_imul, ao_iand, ao_ior, ao_ishl, ao_ishr, ao_iushr, ao_ladd, ao_lsub, ao_lmul, ao_land, ao_lor, ao_idiv, ao_irem, ao_ldiv, ao_lrem, ao_ineg, ao_i2b, ao_i2s, Nat.reduceAdd, Nat.reduceMul, Nat.reduceSub, Nat.reduceEqDiff, Nat.reduceLeDiff, and_self, true_and, x_lit, x_ofn, x_z0, x_z1, x_inbT, x_ltT, x_ltF, x_leT, x_leF, x_eqF, x_eqT, x_inb, x_lt, x_le, x_eq, x_cl, x_sub, nI_add, pk_mul, x_m1e, x_m1e', x_m1l, x_m1n, x_m1s, Nat.not_lt_zero, x_zb, x_b0, x_b1, decide_eq_false_iff_not, decide_eq_true_eq, Bool.false_eq_true, Bool.true_eq_false, kd_123, kd_128, ln_128, h4]
    rfl
  | succ m ih =>
    intro lo st σ d5 hm hlo h hst
    have h4 := (MC_0 h).1 4 (by omega)
    have pa := M_isPlace (b := a) h hw.1 hw.2.1 (by omega)
    have pb := M_isPlace (b := lo) h hw.1 hw.2.1 (by omega)
    rw [ha] at pa
    cases hb : isP V lo with
    | false =>
      rw [hb] at pb
      obtain ⟨τ, d5', r1, r2, r3⟩ := ih (lo + 1) st σ d5 (by omega) (by omega) h hst
      have e : chIn V s a lo (m + 1) st = chIn V s a (lo + 1) m st := by rw [chIn_s, chB_no hb]
      rw [e]
      refine ⟨τ, d5', rch_mono (rch_tr (rch_1 fun B => ?_) r1) (by omega), r2, r3⟩
      simp (disch := omega) only [↓e_X11_cheats_31, ↓e_X11_cheats_109, ↓h_X11_cheats_31, ↓it_s, ↓y_iload, ↓y_lload, ↓y_aload, ↓y_istore, ↓y_lstore, ↓y_astore, ↓y_iinc, ↓y_cI, ↓y_cL, ↓y_bin, ↓y_binL, ↓y_div, ↓y_divL, ↓y_lshl, ↓y_un, ↓y_i2l, ↓y_lneg, ↓y_l2i, ↓y_lcmp, ↓y_dupI, ↓y_dupR, ↓y_dup2, ↓y_pop, ↓y_goto, ↓y_eq0, ↓y_lt0, ↓y_le0, ↓y_eq, ↓y_lt, ↓y_le, ↓y_switch, ↓y_sw0, ↓y_sw1, ↓y_getI, ↓y_getL, ↓y_getR, ↓y_getT, ↓y_putI, ↓y_putZ, ↓y_putL, ↓y_putT, ↓y_iald, ↓y_bald, ↓y_lald, ↓y_aald, ↓y_iast, ↓y_bast, ↓y_last, ↓y_alen, ↓y_iret, ↓y_zret, ↓y_lret, ↓y_vret, ↓y_svI, ↓y_svL, ↓y_svV, ↓y_ivI, ↓y_ivL, ↓y_ivV, ↓y_max, ↓y_min, ↓y_absL, ↓y_cpI, ↓y_cpL, ↓x_n1I, ↓x_n1L, ↓x_n1R, ↓x_n0I, ↓x_n0L, ↓x_n0R, ↓x_s0, ↓x_s1i, ↓x_s1r, ↓x_s1n, ↓x_s2, ↓x_c0, ↓x_c2, ↓x_tk0, ↓x_tk1, ↓x_rcv, x_rI1, x_rL1, x_rV1, x_rIn, x_rLn, x_rVn, x_rIf, x_rLf, x_rVf, x_40, x_41, x_42, x_43, x_44, ↓reduceIte, if_true, if_false, ao_iadd, ao_isub, ao_imul, ao_iand, ao_ior, ao_ishl, ao_ishr, ao_iushr, ao_ladd, ao_lsub, ao_lmul, ao_land, ao_lor, ao_idiv, ao_irem, ao_ldiv, ao_lrem, ao_ineg, ao_i2b, ao_i2s, Nat.reduceAdd, Nat.reduceMul, Nat.reduceSub, Nat.reduceEqDiff, Nat.reduceLeDiff, and_self, true_and, x_lit, x_ofn, x_z0, x_z1, x_inbT, x_ltT, x_ltF, x_leT, x_leF, x_eqF, x_eqT, x_inb, x_lt, x_le, x_eq, x_cl, x_sub, nI_add, pk_mul, x_m1e, x_m1e', x_m1l, x_m1n, x_m1s, Nat.not_lt_zero, x_zb, x_b0, x_b1, decide_eq_false_iff_not, decide_eq_true_eq, Bool.false_eq_true, Bool.true_eq_false, kd_123, kd_128, ln_128, h4, pa, pb, b2_t, b2_f]
    | true =>
      rw [hb] at pb
      obtain ⟨σ1, σ2, σ3, x1, x2, x3, x4, x5, x6⟩ := M_pair h hw hs ha hb
      have h3 : σ3.1 128 = σ.1 128 := x4.2.1 128 (by omega) (by omega) (by omega)
      have hst1 := hst.1.1
      by_cases hlt : st.1 < chR V s a lo
      · have e0 : chB V s a st lo = (chR V s a lo, some (a, lo)) := by unfold chB; rw [if_pos ⟨hb, hlt⟩]
        have e : chIn V s a lo (m + 1) st = chIn V s a (lo + 1) m (chR V s a lo, some (a, lo)) := by rw [chIn_s, e0]
        rw [e]
        obtain ⟨τ, d5', r1, r2, r3⟩ := ih (lo + 1) (chR V s a lo, some (a, lo)) (am_uI (am_uI σ3 123 36 (nI a)) 123 37 (nI lo)) (some (.int (nI (chR V s a lo)))) (by omega) (by omega) (by rw [uI_n (by omega), uI_n (by omega), h3]; exact h) ⟨⟨x6, fun p z => by cases z; exact ⟨by dsimp only; omega, by dsimp only; omega⟩⟩, fun z => (by cases z), fun p z => by cases z; exact ⟨by rw [uI_s, up_n (by omega), uI_s, up_s], by rw [uI_s, up_s]⟩⟩
        refine ⟨τ, d5', rch_mono (rch_tr (rch_1 fun B => ?_) r1) (by omega), frC_tr x4 (frC_tr (b := am_uI (am_uI σ3 123 36 (nI a)) 123 37 (nI lo)) ⟨rfl, fun j p q r => by rw [uI_n p, uI_n p], fun i p q => by rw [uI_s, up_n q, uI_s, up_n p]⟩ r2), r3⟩
        simp (disch := omega) only [↓e_X11_cheats_31, ↓e_X11_cheats_65, ↓e_X11_cheats_95, ↓e_X11_cheats_109, ↓h_X11_cheats_31, ↓it_s, ↓y_iload, ↓y_lload, ↓y_aload, ↓y_istore, ↓y_lstore, ↓y_astore, ↓y_iinc, ↓y_cI, ↓y_cL, ↓y_bin, ↓y_binL, ↓y_div, ↓y_divL, ↓y_lshl, ↓y_un, ↓y_i2l, ↓y_lneg, ↓y_l2i, ↓y_lcmp, ↓y_dupI, ↓y_dupR, ↓y_dup2, ↓y_pop, ↓y_goto, ↓y_eq0, ↓y_lt0, ↓y_le0, ↓y_eq, ↓y_lt, ↓y_le, ↓y_switch, ↓y_sw0, ↓y_sw1, ↓y_getI, ↓y_getL, ↓y_getR, ↓y_getT, ↓y_putI, ↓y_putZ, ↓y_putL, ↓y_putT, ↓y_iald, ↓y_bald, ↓y_lald, ↓y_aald, ↓y_iast, ↓y_bast, ↓y_last, ↓y_alen, ↓y_iret, ↓y_zret, ↓y_lret, ↓y_vret, ↓y_svI, ↓y_svL, ↓y_svV, ↓y_ivI, ↓y_ivL, ↓y_ivV, ↓y_max, ↓y_min, ↓y_absL, ↓y_cpI, ↓y_cpL, ↓x_n1I, ↓x_n1L, ↓x_n1R, ↓x_n0I, ↓x_n0L, ↓x_n0R, ↓x_s0, ↓x_s1i, ↓x_s1r, ↓x_s1n, ↓x_s2, ↓x_c0, ↓x_c2, ↓x_tk0, ↓x_tk1, ↓x_rcv, x_rI1, x_rL1, x_rV1, x_rIn, x_rLn, x_rVn, x_rIf, x_rLf, x_rVf, x_40, x_41, x_42, x_43, x_44, ↓reduceIte, if_true, if_false, ao_iadd, ao_isub, ao_imul, ao_iand, ao_ior, ao_ishl, ao_ishr, ao_iushr, ao_ladd, ao_lsub, ao_lmul, ao_land, ao_lor, ao_idiv, ao_irem, ao_ldiv, ao_lrem, ao_ineg, ao_i2b, ao_i2s, Nat.reduceAdd, Nat.reduceMul, Nat.reduceSub, Nat.reduceEqDiff, Nat.reduceLeDiff, and_self, true_and, x_lit, x_ofn, x_z0, x_z1, x_inbT, x_ltT, x_ltF, x_leT, x_leF, x_eqF, x_eqT, x_inb, x_lt, x_le, x_eq, x_cl, x_sub, nI_add, pk_mul, x_m1e, x_m1e', x_m1l, x_m1n, x_m1s, Nat.not_lt_zero, x_zb, x_b0, x_b1, decide_eq_false_iff_not, decide_eq_true_eq, Bool.false_eq_true, Bool.true_eq_false, kd_123, kd_128, ln_128, h4, pa, pb, b2_t, x1, x2, x3]
      · have e0 : chB V s a st lo = st := by unfold chB; rw [if_neg (fun z => hlt z.2)]
        have e : chIn V s a lo (m + 1) st = chIn V s a (lo + 1) m st := by rw [chIn_s, e0]
        rw [e]
        obtain ⟨τ, d5', r1, r2, r3⟩ := ih (lo + 1) st σ3 (some (.int (nI (chR V s a lo)))) (by omega) (by omega) (by rw [h3]; exact h) (stM_fr hst x5)
        refine ⟨τ, d5', rch_mono (rch_tr (rch_1 fun B => ?_) r1) (by omega), frC_tr x4 r2, r3⟩
        simp (disch := omega) only [↓e_X11_cheats_31, ↓e_X11_cheats_65, ↓e_X11_cheats_95, ↓e_X11_cheats_109, ↓h_X11_cheats_31, ↓it_s, ↓y_iload, ↓y_lload, ↓y_aload, ↓y_istore, ↓y_lstore, ↓y_astore, ↓y_iinc, ↓y_cI, ↓y_cL, ↓y_bin, ↓y_binL, ↓y_div, ↓y_divL, ↓y_lshl, ↓y_un, ↓y_i2l, ↓y_lneg, ↓y_l2i, ↓y_lcmp, ↓y_dupI, ↓y_dupR, ↓y_dup2, ↓y_pop, ↓y_goto, ↓y_eq0, ↓y_lt0, ↓y_le0, ↓y_eq, ↓y_lt, ↓y_le, ↓y_switch, ↓y_sw0, ↓y_sw1, ↓y_getI, ↓y_getL, ↓y_getR, ↓y_getT, ↓y_putI, ↓y_putZ, ↓y_putL, ↓y_putT, ↓y_iald, ↓y_bald, ↓y_lald, ↓y_aald, ↓y_iast, ↓y_bast, ↓y_last, ↓y_alen, ↓y_iret, ↓y_zret, ↓y_lret, ↓y_vret, ↓y_svI, ↓y_svL, ↓y_svV, ↓y_ivI, ↓y_ivL, ↓y_ivV, ↓y_max, ↓y_min, ↓y_absL, ↓y_cpI, ↓y_cpL, ↓x_n1I, ↓x_n1L, ↓x_n1R, ↓x_n0I, ↓x_n0L, ↓x_n0R, ↓x_s0, ↓x_s1i, ↓x_s1r, ↓x_s1n, ↓x_s2, ↓x_c0, ↓x_c2, ↓x_tk0, ↓x_tk1, ↓x_rcv, x_rI1, x_rL1, x_rV1, x_rIn, x_rLn, x_rVn, x_rIf, x_rLf, x_rVf, x_40, x_41, x_42, x_43, x_44, ↓reduceIte, if_true, if_false, ao_iadd, ao_isub, ao_imul, ao_iand, ao_ior, ao_ishl, ao_ishr, ao_iushr, ao_ladd, ao_lsub, ao_lmul, ao_land, ao_lor, ao_idiv, ao_irem, ao_ldiv, ao_lrem, ao_ineg, ao_i2b, ao_i2s, Nat.reduceAdd, Nat.reduceMul, Nat.reduceSub, Nat.reduceEqDiff, Nat.reduceLeDiff, and_self, true_and, x_lit, x_ofn, x_z0, x_z1, x_inbT, x_ltT, x_ltF, x_leT, x_leF, x_eqF, x_eqT, x_inb, x_lt, x_le, x_eq, x_cl, x_sub, nI_add, pk_mul, x_m1e, x_m1e', x_m1l, x_m1n, x_m1s, Nat.not_lt_zero, x_zb, x_b0, x_b1, decide_eq_false_iff_not, decide_eq_true_eq, Bool.false_eq_true, Bool.true_eq_false, kd_123, kd_128, ln_128, h4, pa, pb, b2_t, x1, x2, x3]
theorem MCh_out {V : Vt} {s : Nat} (hw : WG V) (hs : s < 4) : ∀ (m lo : Nat) (st : chS) (σ : am_M) (d4 d5 : Option Value), lo + m = 100 * vN V 4 → MC (σ.1 128) 0 V → stM σ st →
    ∃ (τ : am_M), fin hd_X11_cheats (700 * m) 13 [some (.ref 123), some (.int (nI s)), some (.int (nI st.1)), some (.int (nI lo)), d4, d5] σ (some (some (.int (nI (chOut V s lo m st).1)), τ)) ∧ frC σ τ ∧ stM τ (chOut V s lo m st) := by
  have hR := hw.1.2.2.2.2.1
  intro m
  induction m with
  | zero =>
    intro lo st σ d4 d5 hm h hst
    have h4 := (MC_0 h).1 4 (by omega)
    refine ⟨σ, fin_0 fun B => ?_, frC_rf _, hst⟩
    simp (disch := omega) only [↓e_X11_cheats_13, ↓e_X11_cheats_121, ↓h_X11_cheats_13, ↓it_s, ↓y_iload, ↓y_lload, ↓y_aload, ↓y_istore, ↓y_lstore, ↓y_astore, ↓y_iinc, ↓y_cI, ↓y_cL, ↓y_bin, ↓y_binL, ↓y_div, ↓y_divL, ↓y_lshl, ↓y_un, ↓y_i2l, ↓y_lneg, ↓y_l2i, ↓y_lcmp, ↓y_dupI, ↓y_dupR, ↓y_dup2, ↓y_pop, ↓y_goto, ↓y_eq0, ↓y_lt0, ↓y_le0, ↓y_eq, ↓y_lt, ↓y_le, ↓y_switch, ↓y_sw0, ↓y_sw1, ↓y_getI, ↓y_getL, ↓y_getR, ↓y_getT, ↓y_putI, ↓y_putZ, ↓y_putL, ↓y_putT, ↓y_iald, ↓y_bald, ↓y_lald, ↓y_aald, ↓y_iast, ↓y_bast, ↓y_last, ↓y_alen, ↓y_iret, ↓y_zret, ↓y_lret, ↓y_vret, ↓y_svI, ↓y_svL, ↓y_svV, ↓y_ivI, ↓y_ivL, ↓y_ivV, ↓y_max, ↓y_min, ↓y_absL, ↓y_cpI, ↓y_cpL, ↓x_n1I, ↓x_n1L, ↓x_n1R, ↓x_n0I, ↓x_n0L, ↓x_n0R, ↓x_s0, ↓x_s1i, ↓x_s1r, ↓x_s1n, ↓x_s2, ↓x_c0, ↓x_c2, ↓x_tk0, ↓x_tk1, ↓x_rcv, x_rI1, x_rL1, x_rV1, x_rIn, x_rLn, x_rVn, x_rIf, x_rLf, x_rVf, x_40, x_41, x_42, x_43, x_44, ↓reduceIte, if_true, if_false, ao_iadd, ao_isub, ao_imul, ao_iand, ao_ior, ao_ishl, ao_ishr, ao_iushr, ao_ladd, ao_lsub, ao_lmul, ao_land, ao_lor, ao_idiv, ao_irem, ao_ldiv, ao_lrem, ao_ineg, ao_i2b, ao_i2s, Nat.reduceAdd, Nat.reduceMul, Nat.reduceSub, Nat.reduceEqDiff, Nat.reduceLeDiff, and_self, true_and, x_lit, x_ofn, x_z0, x_z1, x_inbT, x_ltT, x_ltF, x_leT, x_leF, x_eqF, x_eqT, x_inb, x_lt, x_le, x_eq, x_cl, x_sub, nI_add, pk_mul, x_m1e, x_m1e', x_m1l, x_m1n, x_m1s, Nat.not_lt_zero, x_zb, x_b0, x_b1, decide_eq_false_iff_not, decide_eq_true_eq, Bool.false_eq_true, Bool.true_eq_false, kd_123, kd_128, ln_128, h4]
    rfl
  | succ m ih =>
    intro lo st σ d4 d5 hm h hst
    have h4 := (MC_0 h).1 4 (by omega)
    have r0 : rch hd_X11_cheats 0 13 [some (.ref 123), some (.int (nI s)), some (.int (nI st.1)), some (.int (nI lo)), d4, d5] σ 31 [some (.ref 123), some (.int (nI s)), some (.int (nI st.1)), some (.int (nI lo)), some (.int (nI (lo + 1))), d5] σ := rch_0 fun B => by
      simp (disch := omega) only [↓e_X11_cheats_13, ↓h_X11_cheats_13, ↓h_X11_cheats_31, ↓it_s, ↓y_iload, ↓y_lload, ↓y_aload, ↓y_istore, ↓y_lstore, ↓y_astore, ↓y_iinc, ↓y_cI, ↓y_cL, ↓y_bin, ↓y_binL, ↓y_div, ↓y_divL, ↓y_lshl, ↓y_un, ↓y_i2l, ↓y_lneg, ↓y_l2i, ↓y_lcmp, ↓y_dupI, ↓y_dupR, ↓y_dup2, ↓y_pop, ↓y_goto, ↓y_eq0, ↓y_lt0, ↓y_le0, ↓y_eq, ↓y_lt, ↓y_le, ↓y_switch, ↓y_sw0, ↓y_sw1, ↓y_getI, ↓y_getL, ↓y_getR, ↓y_getT, ↓y_putI, ↓y_putZ, ↓y_putL, ↓y_putT, ↓y_iald, ↓y_bald, ↓y_lald, ↓y_aald, ↓y_iast, ↓y_bast, ↓y_last, ↓y_alen, ↓y_iret, ↓y_zret, ↓y_lret, ↓y_vret, ↓y_svI, ↓y_svL, ↓y_svV, ↓y_ivI, ↓y_ivL, ↓y_ivV, ↓y_max, ↓y_min, ↓y_absL, ↓y_cpI, ↓y_cpL, ↓x_n1I, ↓x_n1L, ↓x_n1R, ↓x_n0I, ↓x_n0L, ↓x_n0R, ↓x_s0, ↓x_s1i, ↓x_s1r, ↓x_s1n, ↓x_s2, ↓x_c0, ↓x_c2, ↓x_tk0, ↓x_tk1, ↓x_rcv, x_rI1, x_rL1, x_rV1, x_rIn, x_rLn, x_rVn, x_rIf, x_rLf, x_rVf, x_40, x_41, x_42, x_43, x_44, ↓reduceIte, if_true, if_false, ao_iadd, ao_isub, ao_imul, ao_iand, ao_ior, ao_ishl, ao_ishr, ao_iushr, ao_ladd, ao_lsub, ao_lmul, ao_land, ao_lor, ao_idiv, ao_irem, ao_ldiv, ao_lrem, ao_ineg, ao_i2b, ao_i2s, Nat.reduceAdd, Nat.reduceMul, Nat.reduceSub, Nat.reduceEqDiff, Nat.reduceLeDiff, and_self, true_and, x_lit, x_ofn, x_z0, x_z1, x_inbT, x_ltT, x_ltF, x_leT, x_leF, x_eqF, x_eqT, x_inb, x_lt, x_le, x_eq, x_cl, x_sub, nI_add, pk_mul, x_m1e, x_m1e', x_m1l, x_m1n, x_m1s, Nat.not_lt_zero, x_zb, x_b0, x_b1, decide_eq_false_iff_not, decide_eq_true_eq, Bool.false_eq_true, Bool.true_eq_false, kd_123, kd_128, ln_128, h4]
    rw [chOut_s]
    cases ha : isP V lo with
    | false =>
      rw [chA_no ha]
      obtain ⟨τ, r1, r2, r3⟩ := ih (lo + 1) st σ (some (.int (nI (lo + 1)))) d5 (by omega) h hst
      have pa := M_isPlace (b := lo) h hw.1 hw.2.1 (by omega)
      rw [ha] at pa
      have r4 : rch hd_X11_cheats 1 31 [some (.ref 123), some (.int (nI s)), some (.int (nI st.1)), some (.int (nI lo)), some (.int (nI (lo + 1))), d5] σ 13 [some (.ref 123), some (.int (nI s)), some (.int (nI st.1)), some (.int (nI (lo + 1))), some (.int (nI (lo + 1))), d5] σ := rch_1 fun B => by
        by_cases e : lo + 1 < 100 * vN V 4
        · simp (disch := omega) only [↓e_X11_cheats_31, ↓e_X11_cheats_115, ↓h_X11_cheats_31, ↓it_s, ↓y_iload, ↓y_lload, ↓y_aload, ↓y_istore, ↓y_lstore, ↓y_astore, ↓y_iinc, ↓y_cI, ↓y_cL, ↓y_bin, ↓y_binL, ↓y_div, ↓y_divL, ↓y_lshl, ↓y_un, ↓y_i2l, ↓y_lneg, ↓y_l2i, ↓y_lcmp, ↓y_dupI, ↓y_dupR, ↓y_dup2, ↓y_pop, ↓y_goto, ↓y_eq0, ↓y_lt0, ↓y_le0, ↓y_eq, ↓y_lt, ↓y_le, ↓y_switch, ↓y_sw0, ↓y_sw1, ↓y_getI, ↓y_getL, ↓y_getR, ↓y_getT, ↓y_putI, ↓y_putZ, ↓y_putL, ↓y_putT, ↓y_iald, ↓y_bald, ↓y_lald, ↓y_aald, ↓y_iast, ↓y_bast, ↓y_last, ↓y_alen, ↓y_iret, ↓y_zret, ↓y_lret, ↓y_vret, ↓y_svI, ↓y_svL, ↓y_svV, ↓y_ivI, ↓y_ivL, ↓y_ivV, ↓y_max, ↓y_min, ↓y_absL, ↓y_cpI, ↓y_cpL, ↓x_n1I, ↓x_n1L, ↓x_n1R, ↓x_n0I, ↓x_n0L, ↓x_n0R, ↓x_s0, ↓x_s1i, ↓x_s1r, ↓x_s1n, ↓x_s2, ↓x_c0, ↓x_c2, ↓x_tk0, ↓x_tk1, ↓x_rcv, x_rI1, x_rL1, x_rV1, x_rIn, x_rLn, x_rVn, x_rIf, x_rLf, x_rVf, x_40, x_41, x_42, x_43, x_44, ↓reduceIte, if_true, if_false, ao_iadd, ao_isub, ao_imul, ao_iand, ao_ior, ao_ishl, ao_ishr, ao_iushr, ao_ladd, ao_lsub, ao_lmul, ao_land, ao_lor, ao_idiv, ao_irem, ao_ldiv, ao_lrem, ao_ineg, ao_i2b, ao_i2s, Nat.reduceAdd, Nat.reduceMul, Nat.reduceSub, Nat.reduceEqDiff, Nat.reduceLeDiff, and_self, true_and, x_lit, x_ofn, x_z0, x_z1, x_inbT, x_ltT, x_ltF, x_leT, x_leF, x_eqF, x_eqT, x_inb, x_lt, x_le, x_eq, x_cl, x_sub, nI_add, pk_mul, x_m1e, x_m1e', x_m1l, x_m1n, x_m1s, Nat.not_lt_zero, x_zb, x_b0, x_b1, decide_eq_false_iff_not, decide_eq_true_eq, Bool.false_eq_true, Bool.true_eq_false, kd_123, kd_128, ln_128, h4, pa, b2_f]
        · simp (disch := omega) only [↓e_X11_cheats_31, ↓e_X11_cheats_115, ↓h_X11_cheats_31, ↓it_s, ↓y_iload, ↓y_lload, ↓y_aload, ↓y_istore, ↓y_lstore, ↓y_astore, ↓y_iinc, ↓y_cI, ↓y_cL, ↓y_bin, ↓y_binL, ↓y_div, ↓y_divL, ↓y_lshl, ↓y_un, ↓y_i2l, ↓y_lneg, ↓y_l2i, ↓y_lcmp, ↓y_dupI, ↓y_dupR, ↓y_dup2, ↓y_pop, ↓y_goto, ↓y_eq0, ↓y_lt0, ↓y_le0, ↓y_eq, ↓y_lt, ↓y_le, ↓y_switch, ↓y_sw0, ↓y_sw1, ↓y_getI, ↓y_getL, ↓y_getR, ↓y_getT, ↓y_putI, ↓y_putZ, ↓y_putL, ↓y_putT, ↓y_iald, ↓y_bald, ↓y_lald, ↓y_aald, ↓y_iast, ↓y_bast, ↓y_last, ↓y_alen, ↓y_iret, ↓y_zret, ↓y_lret, ↓y_vret, ↓y_svI, ↓y_svL, ↓y_svV, ↓y_ivI, ↓y_ivL, ↓y_ivV, ↓y_max, ↓y_min, ↓y_absL, ↓y_cpI, ↓y_cpL, ↓x_n1I, ↓x_n1L, ↓x_n1R, ↓x_n0I, ↓x_n0L, ↓x_n0R, ↓x_s0, ↓x_s1i, ↓x_s1r, ↓x_s1n, ↓x_s2, ↓x_c0, ↓x_c2, ↓x_tk0, ↓x_tk1, ↓x_rcv, x_rI1, x_rL1, x_rV1, x_rIn, x_rLn, x_rVn, x_rIf, x_rLf, x_rVf, x_40, x_41, x_42, x_43, x_44, ↓reduceIte, if_true, if_false, ao_iadd, ao_isub, ao_imul, ao_iand, ao_ior, ao_ishl, ao_ishr, ao_iushr, ao_ladd, ao_lsub, ao_lmul, ao_land, ao_lor, ao_idiv, ao_irem, ao_ldiv, ao_lrem, ao_ineg, ao_i2b, ao_i2s, Nat.reduceAdd, Nat.reduceMul, Nat.reduceSub, Nat.reduceEqDiff, Nat.reduceLeDiff, and_self, true_and, x_lit, x_ofn, x_z0, x_z1, x_inbT, x_ltT, x_ltF, x_leT, x_leF, x_eqF, x_eqT, x_inb, x_lt, x_le, x_eq, x_cl, x_sub, nI_add, pk_mul, x_m1e, x_m1e', x_m1l, x_m1n, x_m1s, Nat.not_lt_zero, x_zb, x_b0, x_b1, decide_eq_false_iff_not, decide_eq_true_eq, Bool.false_eq_true, Bool.true_eq_false, kd_123, kd_128, ln_128, h4]
      exact ⟨τ, fin_mono (rch_fin r0 (rch_fin r4 r1)) (by omega), r2, r3⟩
    | true =>
      obtain ⟨σ1, d5', x1, x2, x3⟩ := MCh_in hw hs ha (100 * vN V 4 - (lo + 1)) (lo + 1) st σ d5 (by omega) (by omega) h hst
      have e : chA V s st lo = chIn V s lo (lo + 1) (100 * vN V 4 - (lo + 1)) st := by unfold chA; rw [if_pos ha]
      rw [← e] at x1 x3
      obtain ⟨τ, r1, r2, r3⟩ := ih (lo + 1) (chA V s st lo) σ1 (some (.int (nI (100 * vN V 4)))) d5' (by omega) (by rw [x2.2.1 128 (by omega) (by omega) (by omega)]; exact h) x3
      exact ⟨τ, fin_mono (rch_fin r0 (rch_fin x1 r1)) (by omega), frC_tr x2 r2, r3⟩
theorem M_cheats {V : Vt} {s : Nat} {σ : am_M} (h : MC (σ.1 128) 0 V) (hw : WG V) (hs : s < 4) : ∃ τ, S_X11_cheats [.ref 123, .int (nI s)] σ = some (some (.int (nI (chV V s).1)), τ) ∧ frC σ τ ∧ stM τ (chV V s) := by
  have hR := hw.1.2.2.2.2.1
  obtain ⟨σ1, y1, y2, y3, y4, y5⟩ := M_runFor (s := s) h hw hs
  obtain ⟨τ, r1, r2, r3⟩ := MCh_out hw hs (100 * vN V 4) 0 (rise V s, none) (am_uI σ1 123 36 (-nI 1)) none none (by omega) (by rw [uI_n (by omega), y2]; exact h) ⟨⟨y5, fun p z => by cases z⟩, fun _ => by rw [uI_s, up_s], fun p z => by cases z⟩
  refine ⟨τ, ?_, frC_tr (b := am_uI σ1 123 36 (-nI 1)) ⟨y3, fun j p q r => ?_, fun i p q => ?_⟩ r2, r3⟩
  · have hf := fin_run r1 (by unfold am_fuel; omega)
    unfold chV
    rw [← hf]
    simp (disch := omega) only [g_X11_cheats, ↓e_X11_cheats_0, ↓h_X11_cheats_13, ↓it_s, ↓y_iload, ↓y_lload, ↓y_aload, ↓y_istore, ↓y_lstore, ↓y_astore, ↓y_iinc, ↓y_cI, ↓y_cL, ↓y_bin, ↓y_binL, ↓y_div, ↓y_divL, ↓y_lshl, ↓y_un, ↓y_i2l, ↓y_lneg, ↓y_l2i, ↓y_lcmp, ↓y_dupI, ↓y_dupR, ↓y_dup2, ↓y_pop, ↓y_goto, ↓y_eq0, ↓y_lt0, ↓y_le0, ↓y_eq, ↓y_lt, ↓y_le, ↓y_switch, ↓y_sw0, ↓y_sw1, ↓y_getI, ↓y_getL, ↓y_getR, ↓y_getT, ↓y_putI, ↓y_putZ, ↓y_putL, ↓y_putT, ↓y_iald, ↓y_bald, ↓y_lald, ↓y_aald, ↓y_iast, ↓y_bast, ↓y_last, ↓y_alen, ↓y_iret, ↓y_zret, ↓y_lret, ↓y_vret, ↓y_svI, ↓y_svL, ↓y_svV, ↓y_ivI, ↓y_ivL, ↓y_ivV, ↓y_max, ↓y_min, ↓y_absL, ↓y_cpI, ↓y_cpL, ↓x_n1I, ↓x_n1L, ↓x_n1R, ↓x_n0I, ↓x_n0L, ↓x_n0R, ↓x_s0, ↓x_s1i, ↓x_s1r, ↓x_s1n, ↓x_s2, ↓x_c0, ↓x_c2, ↓x_tk0, ↓x_tk1, ↓x_rcv, x_rI1, x_rL1, x_rV1, x_rIn, x_rLn, x_rVn, x_rIf, x_rLf, x_rVf, x_40, x_41, x_42, x_43, x_44, ↓reduceIte, if_true, if_false, ao_iadd, ao_isub, ao_imul, ao_iand, ao_ior, ao_ishl, ao_ishr, ao_iushr, ao_ladd, ao_lsub, ao_lmul, ao_land, ao_lor, ao_idiv, ao_irem, ao_ldiv, ao_lrem, ao_ineg, ao_i2b, ao_i2s, Nat.reduceAdd, Nat.reduceMul, Nat.reduceSub, Nat.reduceEqDiff, Nat.reduceLeDiff, and_self, true_and, x_lit, x_ofn, x_z0, x_z1, x_inbT, x_ltT, x_ltF, x_leT, x_leF, x_eqF, x_eqT, x_inb, x_lt, x_le, x_eq, x_cl, x_sub, nI_add, pk_mul, x_m1e, x_m1e', x_m1l, x_m1n, x_m1s, Nat.not_lt_zero, x_zb, x_b0, x_b1, decide_eq_false_iff_not, decide_eq_true_eq, Bool.false_eq_true, Bool.true_eq_false, y1, kd_123]
  · rw [uI_n p]
    by_cases e : j = 128
    · subst e; exact y2
    · exact y4 j e q r
  · rw [uI_s, up_n p, y4 123 (by omega) (by omega) (by omega)]
/-! the class -/
def stX (τ : am_M) (st : chS) : Prop := okS st ∧ (st.2 = none → τ.1 50 2 = -nI 1 ∧ τ.1 50 3 = -nI 1) ∧ ∀ p, st.2 = some p → τ.1 50 2 = nI p.1 ∧ τ.1 50 3 = nI p.2
def frX (t : Nat) (σ τ : am_M) : Prop := τ.2 = σ.2 ∧ (∀ j, j ≠ 50 → j ≠ t + 5 → j ≠ t + 6 → τ.1 j = σ.1 j) ∧ ∀ i, i ≠ 2 → i ≠ 3 → τ.1 50 i = σ.1 50 i
theorem frX_rf (t : Nat) (σ : am_M) : frX t σ σ := ⟨rfl, fun _ _ _ _ => rfl, fun _ _ _ => rfl⟩
theorem frX_tr {t : Nat} {a b c : am_M} (h1 : frX t a b) (h2 : frX t b c) : frX t a c := ⟨h2.1.trans h1.1, fun j p q r => (h2.2.1 j p q r).trans (h1.2.1 j p q r), fun i p q => (h2.2.2 i p q).trans (h1.2.2 i p q)⟩
theorem isT_50 {t : Nat} (h : isT t) : ∀ i, i < 7 → t + i ≠ 50 := by
  intro i hi
  rcases h with rfl | rfl | rfl | rfl | rfl | rfl <;> omega
theorem TP_X {t : Nat} {σ τ : am_M} {V : Vt} (ht : isT t) (h : TP σ t V) (hf : frX t σ τ) : TP τ t V := TP_fr h (fun j q1 q2 => hf.2.1 j (by have := isT_50 ht (j - t) (by omega); omega) (by omega) (by omega))
theorem stX_fr {σ τ : am_M} {st : chS} (h : stX σ st) (e : ∀ i, τ.1 50 i = σ.1 50 i) : stX τ st := ⟨h.1, fun z => by rw [e, e]; exact h.2.1 z, fun p z => by rw [e, e]; exact h.2.2 p z⟩
theorem X_pair {t r k o j s : Nat} {σ : am_M} {V : Vt} (ht : isT t) (hP : TP σ t V) (wn : WN V) (wc : WC V) (hs : s < 4) (hr : r < vN V 4) (ho : o < vN V 4) (hk : k < (vP V r).length) (hj : j < (vP V o).length) : ∃ σ1 σ2 σ3, S_X6_swap [.ref t, .int (nI r), .int (nI k), .int (nI o), .int (nI j)] σ = some (none, σ1) ∧ S_X6_ripen [.ref t] σ1 = some (none, σ2) ∧ S_X6_swap [.ref t, .int (nI r), .int (nI k), .int (nI o), .int (nI j)] σ2 = some (none, σ3) ∧ S_X6_riseRanks [.ref t, .int (nI s)] σ3 = some (some (.int (nI (chR V s (100 * r + k) (100 * o + j)))), σ3) ∧ frX t σ σ3 ∧ (∀ i, σ3.1 50 i = σ.1 50 i) ∧ chR V s (100 * r + k) (100 * o + j) ≤ 21 := by
  have hR := wn.2.2.2.2.1
  have h50 := isT_50 ht
  have l1 := wc.2.2.1 r (by omega)
  have l2 := wc.2.2.1 o (by omega)
  have x1 := X_swap ht hP wc (show r < 6 by omega) (show o < 6 by omega) hk hj
  obtain ⟨σ1, e1⟩ : ∃ q, q = am_uA σ (t + 1) (swA (σ.1 (t + 1)) (r * 24 + k) (o * 24 + j)) := ⟨_, rfl⟩
  have hP1 := TP_swap hP wc (show r < 6 by omega) (show o < 6 by omega) hk hj
  rw [← e1] at x1 hP1
  have wc1 := WC_sw wc (show r < 6 by omega) (show o < 6 by omega) hk hj
  obtain ⟨ps, T, σ2, a1, a2, a3, a4, a5⟩ := X_ripen ht wc1 hP1
  have hP2 : TP σ2 t (swV V r k o j) := TP_fr hP1 (fun i q1 q2 => a5.2 i (by omega) (by omega))
  have x2 := X_swap (r := r) (k := k) (r' := o) (j := j) ht hP2 wc1 (by omega) (by omega) (by rw [swV_len]; exact hk) (by rw [swV_len]; exact hj)
  have f2 : σ2.1 (t + 1) = swA (σ.1 (t + 1)) (r * 24 + k) (o * 24 + j) := by rw [a5.2 (t + 1) (by omega) (by omega), e1, uA_s]
  rw [f2, swA_inv] at x2
  have eT := runT_eq wc1 a2 a3
  have hle := (runL_hsum ps _ T wc1 a2).2 s
  have e100 : (100 * r + k) / 100 = r ∧ (100 * r + k) % 100 = k ∧ (100 * o + j) / 100 = o ∧ (100 * o + j) % 100 = j := ⟨by omega, by omega, by omega, by omega⟩
  have ec : chR V s (100 * r + k) (100 * o + j) = sumR (vH V s) (vH T s) := by
    unfold chR rise
    rw [e100.1, e100.2.1, e100.2.2.1, e100.2.2.2, eT]
    rfl
  refine ⟨σ1, σ2, am_uA σ2 (t + 1) (σ.1 (t + 1)), x1, a1, x2, ?_, ⟨?_, fun i p q y => ?_, fun i p q => ?_⟩, fun i => ?_, ?_⟩
  · rw [ec]
    refine X_riseRanks2 ht hs ?_ ?_ hle (a4.1.2.2.2.2 s)
    · rw [uA_n (by omega), a5.2 (t + 4) (by omega) (by omega), e1, uA_n (by omega)]
      exact hP.2.2.2 s hs
    · rw [uA_n (by omega)]
      exact a4.2.2 s hs
  · show σ2.2 = σ.2
    rw [a5.1, e1]; rfl
  · by_cases e : i = t + 1
    · subst e; rw [uA_s]
    · rw [uA_n e, a5.2 i q y, e1, uA_n e]
  · rw [uA_n (by have := h50 1 (by omega); omega), a5.2 50 (by have := h50 5 (by omega); omega) (by have := h50 6 (by omega); omega), e1, uA_n (by have := h50 1 (by omega); omega)]
  · rw [uA_n (by have := h50 1 (by omega); omega), a5.2 50 (by have := h50 5 (by omega); omega) (by have := h50 6 (by omega); omega), e1, uA_n (by have := h50 1 (by omega); omega)]
  · rw [ec]; exact sumR_le (a4.1.2.2.2.2 s)
theorem XCh_in {t r k o s by0 : Nat} {V : Vt} (ht : isT t) (wn : WN V) (wc : WC V) (hs : s < 4) (hr : r < vN V 4) (ho : o < vN V 4) (hk : k < (vP V r).length) : ∀ (m j : Nat) (st : chS) (σ : am_M) (d9 : Option Value), j + m = (vP V o).length → TP σ t V → stX σ st →
    ∃ (τ : am_M) (d9' : Option Value), rch hd_X2_swapsOf (m + 1) 39 [some (.ref 50), some (.ref t), some (.int (nI s)), some (.int (nI r)), some (.int (nI k)), some (.int (nI by0)), some (.int (nI st.1)), some (.int (nI o)), some (.int (nI j)), d9] σ 7 [some (.ref 50), some (.ref t), some (.int (nI s)), some (.int (nI r)), some (.int (nI k)), some (.int (nI by0)), some (.int (nI (chIn V s (100 * r + k) (100 * o + j) m st).1)), some (.int (nI (o + 1))), some (.int (nI (vP V o).length)), d9'] τ ∧ frX t σ τ ∧ stX τ (chIn V s (100 * r + k) (100 * o + j) m st) := by
  obtain ⟨k0, k1, k2, k3, k4, k5, k6, l1, l2, l3, l4, l5, l6⟩ := isT_k ht
  have hR := wn.2.2.2.2.1
  have n1 := wc.2.2.1 r (by omega)
  have n2 := wc.2.2.1 o (by omega)
  intro m
  induction m with
  | zero =>
    intro j st σ d9 hm hP hst
    have e : j = (vP V o).length := by omega
    have h2 := hP.1 o (by omega)
    refine ⟨σ, d9, rch_1 fun B => ?_, frX_rf _ _, hst⟩
    rw [← e]
    rw [← e] at h2
    simp (disch := omega) only [↓e_X2_swapsOf_39, ↓e_X2_swapsOf_124, ↓h_X2_swapsOf_39, ↓it_s, ↓y_iload, ↓y_lload, ↓y_aload, ↓y_istore, ↓y_lstore, ↓y_astore, ↓y_iinc, ↓y_cI, ↓y_cL, ↓y_bin, ↓y_binL, ↓y_div, ↓y_divL, ↓y_lshl, ↓y_un, ↓y_i2l, ↓y_lneg, ↓y_l2i, ↓y_lcmp, ↓y_dupI, ↓y_dupR, ↓y_dup2, ↓y_pop, ↓y_goto, ↓y_eq0, ↓y_lt0, ↓y_le0, ↓y_eq, ↓y_lt, ↓y_le, ↓y_switch, ↓y_sw0, ↓y_sw1, ↓y_getI, ↓y_getL, ↓y_getR, ↓y_getT, ↓y_putI, ↓y_putZ, ↓y_putL, ↓y_putT, ↓y_iald, ↓y_bald, ↓y_lald, ↓y_aald, ↓y_iast, ↓y_bast, ↓y_last, ↓y_alen, ↓y_iret, ↓y_zret, ↓y_lret, ↓y_vret, ↓y_svI, ↓y_svL, ↓y_svV, ↓y_ivI, ↓y_ivL, ↓y_ivV, ↓y_max, ↓y_min, ↓y_absL, ↓y_cpI, ↓y_cpL, ↓x_n1I, ↓x_n1L, ↓x_n1R, ↓x_n0I, ↓x_n0L, ↓x_n0R, ↓x_s0, ↓x_s1i, ↓x_s1r, ↓x_s1n, ↓x_s2, ↓x_c0, ↓x_c2, ↓x_tk0, ↓x_tk1, ↓x_rcv, x_rI1, x_rL1, x_rV1, x_rIn, x_rLn, x_rVn, x_rIf, x_rLf, x_rVf, x_40, x_41, x_42, x_43, x_44, ↓reduceIte, if_true, if_false, ao_iadd, ao_isub, ao_imul, ao_iand, ao_ior, ao_ishl, ao_ishr, ao_iushr, ao_ladd, ao_lsub, ao_lmul, ao_land, ao_lor, ao_idiv, ao_irem, ao_ldiv, ao_lrem, ao_ineg, ao_i2b, ao_i2s, Nat.reduceAdd, Nat.reduceMul, Nat.reduceSub, Nat.reduceEqDiff, Nat.reduceLeDiff, and_self, true_and, x_lit, x_ofn, x_z0, x_z1, x_inbT, x_ltT, x_ltF, x_leT, x_leF, x_eqF, x_eqT, x_inb, x_lt, x_le, x_eq, x_cl, x_sub, nI_add, pk_mul, x_m1e, x_m1e', x_m1l, x_m1n, x_m1s, Nat.not_lt_zero, x_zb, x_b0, x_b1, decide_eq_false_iff_not, decide_eq_true_eq, Bool.false_eq_true, Bool.true_eq_false, k0, k2, l2, h2]
    rfl
  | succ m ih =>
    intro j st σ d9 hm hP hst
    have h2 := hP.1 o (by omega)
    have hj : j < (vP V o).length := by omega
    obtain ⟨σ1, σ2, σ3, x1, x2, x3, x4, x5, x6, x7⟩ := X_pair (s := s) ht hP wn wc hs hr ho hk hj
    have hP3 := TP_X ht hP x5
    have hb := isP_mk (k := j) ho hj (by omega)
    have hst1 := hst.1.1
    by_cases hlt : st.1 < chR V s (100 * r + k) (100 * o + j)
    · have e0 : chB V s (100 * r + k) st (100 * o + j) = (chR V s (100 * r + k) (100 * o + j), some (100 * r + k, 100 * o + j)) := by unfold chB; rw [if_pos ⟨hb, hlt⟩]
      rw [chIn_s, e0, Nat.add_assoc]
      obtain ⟨τ, d9', r1, r2, r3⟩ := ih (j + 1) (chR V s (100 * r + k) (100 * o + j), some (100 * r + k, 100 * o + j)) (am_uI (am_uI σ3 50 2 (nI (100 * r + k))) 50 3 (nI (100 * o + j))) (some (.int (nI (chR V s (100 * r + k) (100 * o + j))))) (by omega) (by
        refine TP_fr hP3 (fun i q1 q2 => ?_)
        have := isT_50 ht (i - t) (by omega)
        rw [uI_n (by omega), uI_n (by omega)]) ⟨⟨x7, fun p z => by cases z; exact ⟨by dsimp only; omega, by dsimp only; omega⟩⟩, fun z => (by cases z), fun p z => by cases z; exact ⟨by rw [uI_s, up_n (by omega), uI_s, up_s], by rw [uI_s, up_s]⟩⟩
      refine ⟨τ, d9', rch_mono (rch_tr (rch_1 fun B => ?_) r1) (by omega), frX_tr x5 (frX_tr (b := am_uI (am_uI σ3 50 2 (nI (100 * r + k))) 50 3 (nI (100 * o + j))) ⟨rfl, fun i p q y => by rw [uI_n p, uI_n p], fun i p q => by rw [uI_s, up_n q, uI_s, up_n p]⟩ r2), r3⟩
      simp (disch := omega) only [↓e_X2_swapsOf_39, ↓e_X2_swapsOf_118, ↓h_X2_swapsOf_39, ↓it_s, ↓y_iload, ↓y_lload, ↓y_aload, ↓y_istore, ↓y_lstore, ↓y_astore, ↓y_iinc, ↓y_cI, ↓y_cL, ↓y_bin, ↓y_binL, ↓y_div, ↓y_divL, ↓y_lshl, ↓y_un, ↓y_i2l, ↓y_lneg, ↓y_l2i, ↓y_lcmp, ↓y_dupI, ↓y_dupR, ↓y_dup2, ↓y_pop, ↓y_goto, ↓y_eq0, ↓y_lt0, ↓y_le0, ↓y_eq, ↓y_lt, ↓y_le, ↓y_switch, ↓y_sw0, ↓y_sw1, ↓y_getI, ↓y_getL, ↓y_getR, ↓y_getT, ↓y_putI, ↓y_putZ, ↓y_putL, ↓y_putT, ↓y_iald, ↓y_bald, ↓y_lald, ↓y_aald, ↓y_iast, ↓y_bast, ↓y_last, ↓y_alen, ↓y_iret, ↓y_zret, ↓y_lret, ↓y_vret, ↓y_svI, ↓y_svL, ↓y_svV, ↓y_ivI, ↓y_ivL, ↓y_ivV, ↓y_max, ↓y_min, ↓y_absL, ↓y_cpI, ↓y_cpL, ↓x_n1I, ↓x_n1L, ↓x_n1R, ↓x_n0I, ↓x_n0L, ↓x_n0R, ↓x_s0, ↓x_s1i, ↓x_s1r, ↓x_s1n, ↓x_s2, ↓x_c0, ↓x_c2, ↓x_tk0, ↓x_tk1, ↓x_rcv, x_rI1, x_rL1, x_rV1, x_rIn, x_rLn, x_rVn, x_rIf, x_rLf, x_rVf, x_40, x_41, x_42, x_43, x_44, ↓reduceIte, if_true, if_false, ao_iadd, ao_isub, ao_imul, ao_iand, ao_ior, ao_ishl, ao_ishr, ao_iushr, ao_ladd, ao_lsub, ao_lmul, ao_land, ao_lor, ao_idiv, ao_irem, ao_ldiv, ao_lrem, ao_ineg, ao_i2b, ao_i2s, Nat.reduceAdd, Nat.reduceMul, Nat.reduceSub, Nat.reduceEqDiff, Nat.reduceLeDiff, and_self, true_and, x_lit, x_ofn, x_z0, x_z1, x_inbT, x_ltT, x_ltF, x_leT, x_leF, x_eqF, x_eqT, x_inb, x_lt, x_le, x_eq, x_cl, x_sub, nI_add, pk_mul, x_m1e, x_m1e', x_m1l, x_m1n, x_m1s, Nat.not_lt_zero, x_zb, x_b0, x_b1, decide_eq_false_iff_not, decide_eq_true_eq, Bool.false_eq_true, Bool.true_eq_false, k0, k2, l2, h2, x1, x2, x3, x4, kd_50]
    · have e0 : chB V s (100 * r + k) st (100 * o + j) = st := by unfold chB; rw [if_neg (fun z => hlt z.2)]
      rw [chIn_s, e0, Nat.add_assoc]
      obtain ⟨τ, d9', r1, r2, r3⟩ := ih (j + 1) st σ3 (some (.int (nI (chR V s (100 * r + k) (100 * o + j))))) (by omega) hP3 (stX_fr hst x6)
      refine ⟨τ, d9', rch_mono (rch_tr (rch_1 fun B => ?_) r1) (by omega), frX_tr x5 r2, r3⟩
      simp (disch := omega) only [↓e_X2_swapsOf_39, ↓e_X2_swapsOf_118, ↓h_X2_swapsOf_39, ↓it_s, ↓y_iload, ↓y_lload, ↓y_aload, ↓y_istore, ↓y_lstore, ↓y_astore, ↓y_iinc, ↓y_cI, ↓y_cL, ↓y_bin, ↓y_binL, ↓y_div, ↓y_divL, ↓y_lshl, ↓y_un, ↓y_i2l, ↓y_lneg, ↓y_l2i, ↓y_lcmp, ↓y_dupI, ↓y_dupR, ↓y_dup2, ↓y_pop, ↓y_goto, ↓y_eq0, ↓y_lt0, ↓y_le0, ↓y_eq, ↓y_lt, ↓y_le, ↓y_switch, ↓y_sw0, ↓y_sw1, ↓y_getI, ↓y_getL, ↓y_getR, ↓y_getT, ↓y_putI, ↓y_putZ, ↓y_putL, ↓y_putT, ↓y_iald, ↓y_bald, ↓y_lald, ↓y_aald, ↓y_iast, ↓y_bast, ↓y_last, ↓y_alen, ↓y_iret, ↓y_zret, ↓y_lret, ↓y_vret, ↓y_svI, ↓y_svL, ↓y_svV, ↓y_ivI, ↓y_ivL, ↓y_ivV, ↓y_max, ↓y_min, ↓y_absL, ↓y_cpI, ↓y_cpL, ↓x_n1I, ↓x_n1L, ↓x_n1R, ↓x_n0I, ↓x_n0L, ↓x_n0R, ↓x_s0, ↓x_s1i, ↓x_s1r, ↓x_s1n, ↓x_s2, ↓x_c0, ↓x_c2, ↓x_tk0, ↓x_tk1, ↓x_rcv, x_rI1, x_rL1, x_rV1, x_rIn, x_rLn, x_rVn, x_rIf, x_rLf, x_rVf, x_40, x_41, x_42, x_43, x_44, ↓reduceIte, if_true, if_false, ao_iadd, ao_isub, ao_imul, ao_iand, ao_ior, ao_ishl, ao_ishr, ao_iushr, ao_ladd, ao_lsub, ao_lmul, ao_land, ao_lor, ao_idiv, ao_irem, ao_ldiv, ao_lrem, ao_ineg, ao_i2b, ao_i2s, Nat.reduceAdd, Nat.reduceMul, Nat.reduceSub, Nat.reduceEqDiff, Nat.reduceLeDiff, and_self, true_and, x_lit, x_ofn, x_z0, x_z1, x_inbT, x_ltT, x_ltF, x_leT, x_leF, x_eqF, x_eqT, x_inb, x_lt, x_le, x_eq, x_cl, x_sub, nI_add, pk_mul, x_m1e, x_m1e', x_m1l, x_m1n, x_m1s, Nat.not_lt_zero, x_zb, x_b0, x_b1, decide_eq_false_iff_not, decide_eq_true_eq, Bool.false_eq_true, Bool.true_eq_false, k0, k2, l2, h2, x1, x2, x3, x4, kd_50]
theorem XCh_out {t r k s by0 : Nat} {V : Vt} (ht : isT t) (wn : WN V) (wc : WC V) (hs : s < 4) (hr : r < vN V 4) (hk : k < (vP V r).length) : ∀ (m o : Nat) (st : chS) (σ : am_M) (d8 d9 : Option Value), o + m = vN V 4 → r < o → TN σ t V → TP σ t V → stX σ st →
    ∃ (τ : am_M), fin hd_X2_swapsOf (20 * m) 7 [some (.ref 50), some (.ref t), some (.int (nI s)), some (.int (nI r)), some (.int (nI k)), some (.int (nI by0)), some (.int (nI st.1)), some (.int (nI o)), d8, d9] σ (some (some (.int (nI (chIn V s (100 * r + k) (100 * o) (100 * m) st).1)), τ)) ∧ frX t σ τ ∧ stX τ (chIn V s (100 * r + k) (100 * o) (100 * m) st) := by
  obtain ⟨k0, k1, k2, k3, k4, k5, k6, l1, l2, l3, l4, l5, l6⟩ := isT_k ht
  have hR := wn.2.2.2.2.1
  intro m
  induction m with
  | zero =>
    intro o st σ d8 d9 hm hro hN hP hst
    have h11 := hN.2.2.2.2.1
    refine ⟨σ, fin_0 fun B => ?_, frX_rf _ _, hst⟩
    simp (disch := omega) only [↓e_X2_swapsOf_7, ↓e_X2_swapsOf_130, ↓h_X2_swapsOf_7, ↓it_s, ↓y_iload, ↓y_lload, ↓y_aload, ↓y_istore, ↓y_lstore, ↓y_astore, ↓y_iinc, ↓y_cI, ↓y_cL, ↓y_bin, ↓y_binL, ↓y_div, ↓y_divL, ↓y_lshl, ↓y_un, ↓y_i2l, ↓y_lneg, ↓y_l2i, ↓y_lcmp, ↓y_dupI, ↓y_dupR, ↓y_dup2, ↓y_pop, ↓y_goto, ↓y_eq0, ↓y_lt0, ↓y_le0, ↓y_eq, ↓y_lt, ↓y_le, ↓y_switch, ↓y_sw0, ↓y_sw1, ↓y_getI, ↓y_getL, ↓y_getR, ↓y_getT, ↓y_putI, ↓y_putZ, ↓y_putL, ↓y_putT, ↓y_iald, ↓y_bald, ↓y_lald, ↓y_aald, ↓y_iast, ↓y_bast, ↓y_last, ↓y_alen, ↓y_iret, ↓y_zret, ↓y_lret, ↓y_vret, ↓y_svI, ↓y_svL, ↓y_svV, ↓y_ivI, ↓y_ivL, ↓y_ivV, ↓y_max, ↓y_min, ↓y_absL, ↓y_cpI, ↓y_cpL, ↓x_n1I, ↓x_n1L, ↓x_n1R, ↓x_n0I, ↓x_n0L, ↓x_n0R, ↓x_s0, ↓x_s1i, ↓x_s1r, ↓x_s1n, ↓x_s2, ↓x_c0, ↓x_c2, ↓x_tk0, ↓x_tk1, ↓x_rcv, x_rI1, x_rL1, x_rV1, x_rIn, x_rLn, x_rVn, x_rIf, x_rLf, x_rVf, x_40, x_41, x_42, x_43, x_44, ↓reduceIte, if_true, if_false, ao_iadd, ao_isub, ao_imul, ao_iand, ao_ior, ao_ishl, ao_ishr, ao_iushr, ao_ladd, ao_lsub, ao_lmul, ao_land, ao_lor, ao_idiv, ao_irem, ao_ldiv, ao_lrem, ao_ineg, ao_i2b, ao_i2s, Nat.reduceAdd, Nat.reduceMul, Nat.reduceSub, Nat.reduceEqDiff, Nat.reduceLeDiff, and_self, true_and, x_lit, x_ofn, x_z0, x_z1, x_inbT, x_ltT, x_ltF, x_leT, x_leF, x_eqF, x_eqT, x_inb, x_lt, x_le, x_eq, x_cl, x_sub, nI_add, pk_mul, x_m1e, x_m1e', x_m1l, x_m1n, x_m1s, Nat.not_lt_zero, x_zb, x_b0, x_b1, decide_eq_false_iff_not, decide_eq_true_eq, Bool.false_eq_true, Bool.true_eq_false, k0, h11]
    rfl
  | succ m ih =>
    intro o st σ d8 d9 hm hro hN hP hst
    have h11 := hN.2.2.2.2.1
    have n2 := wc.2.2.1 o (by omega)
    obtain ⟨σ1, d9', a1, a2, a3⟩ := XCh_in (by0 := by0) ht wn wc hs hr (show o < vN V 4 by omega) hk (vP V o).length 0 st σ d9 (by omega) hP hst
    have r0 : rch hd_X2_swapsOf 0 7 [some (.ref 50), some (.ref t), some (.int (nI s)), some (.int (nI r)), some (.int (nI k)), some (.int (nI by0)), some (.int (nI st.1)), some (.int (nI o)), d8, d9] σ 39 [some (.ref 50), some (.ref t), some (.int (nI s)), some (.int (nI r)), some (.int (nI k)), some (.int (nI by0)), some (.int (nI st.1)), some (.int (nI o)), some (.int (nI 0)), d9] σ := rch_0 fun B => by
      simp (disch := omega) only [↓e_X2_swapsOf_7, ↓e_X2_swapsOf_36, ↓e_X2_swapsOf_37, ↓h_X2_swapsOf_7, ↓h_X2_swapsOf_39, ↓it_s, ↓y_iload, ↓y_lload, ↓y_aload, ↓y_istore, ↓y_lstore, ↓y_astore, ↓y_iinc, ↓y_cI, ↓y_cL, ↓y_bin, ↓y_binL, ↓y_div, ↓y_divL, ↓y_lshl, ↓y_un, ↓y_i2l, ↓y_lneg, ↓y_l2i, ↓y_lcmp, ↓y_dupI, ↓y_dupR, ↓y_dup2, ↓y_pop, ↓y_goto, ↓y_eq0, ↓y_lt0, ↓y_le0, ↓y_eq, ↓y_lt, ↓y_le, ↓y_switch, ↓y_sw0, ↓y_sw1, ↓y_getI, ↓y_getL, ↓y_getR, ↓y_getT, ↓y_putI, ↓y_putZ, ↓y_putL, ↓y_putT, ↓y_iald, ↓y_bald, ↓y_lald, ↓y_aald, ↓y_iast, ↓y_bast, ↓y_last, ↓y_alen, ↓y_iret, ↓y_zret, ↓y_lret, ↓y_vret, ↓y_svI, ↓y_svL, ↓y_svV, ↓y_ivI, ↓y_ivL, ↓y_ivV, ↓y_max, ↓y_min, ↓y_absL, ↓y_cpI, ↓y_cpL, ↓x_n1I, ↓x_n1L, ↓x_n1R, ↓x_n0I, ↓x_n0L, ↓x_n0R, ↓x_s0, ↓x_s1i, ↓x_s1r, ↓x_s1n, ↓x_s2, ↓x_c0, ↓x_c2, ↓x_tk0, ↓x_tk1, ↓x_rcv, x_rI1, x_rL1, x_rV1, x_rIn, x_rLn, x_rVn, x_rIf, x_rLf, x_rVf, x_40, x_41, x_42, x_43, x_44, ↓reduceIte, if_true, if_false, ao_iadd, ao_isub, ao_imul, ao_iand, ao_ior, ao_ishl, ao_ishr, ao_iushr, ao_ladd, ao_lsub, ao_lmul, ao_land, ao_lor, ao_idiv, ao_irem, ao_ldiv, ao_lrem, ao_ineg, ao_i2b, ao_i2s, Nat.reduceAdd, Nat.reduceMul, Nat.reduceSub, Nat.reduceEqDiff, Nat.reduceLeDiff, and_self, true_and, x_lit, x_ofn, x_z0, x_z1, x_inbT, x_ltT, x_ltF, x_leT, x_leF, x_eqF, x_eqT, x_inb, x_lt, x_le, x_eq, x_cl, x_sub, nI_add, pk_mul, x_m1e, x_m1e', x_m1l, x_m1n, x_m1s, Nat.not_lt_zero, x_zb, x_b0, x_b1, decide_eq_false_iff_not, decide_eq_true_eq, Bool.false_eq_true, Bool.true_eq_false, k0, h11]
    have e : chIn V s (100 * r + k) (100 * o) (100 * (m + 1)) st = chIn V s (100 * r + k) (100 * (o + 1)) (100 * m) (chIn V s (100 * r + k) (100 * o + 0) (vP V o).length st) := by
      rw [show 100 * (m + 1) = (vP V o).length + ((100 - (vP V o).length) + 100 * m) by omega, chIn_add, chIn_add, chIn_skip (100 - (vP V o).length) _ _ (fun b p q => isP_gap b p (by omega)), show 100 * o + (vP V o).length + (100 - (vP V o).length) = 100 * (o + 1) by omega]
      rfl
    rw [e]
    obtain ⟨τ, r1, r2, r3⟩ := ih (o + 1) _ σ1 (some (.int (nI (vP V o).length))) d9' (by omega) (by omega) (TN_fr hN (a2.2.1 t (by have := isT_50 ht 0 (by omega); omega) (by omega) (by omega))) (TP_X ht hP a2) a3
    exact ⟨τ, fin_mono (rch_fin r0 (rch_fin a1 r1)) (by omega), frX_tr a2 r2, r3⟩
theorem X_swapsOf {t r k s : Nat} {V : Vt} {σ : am_M} {st : chS} (ht : isT t) (wn : WN V) (wc : WC V) (hs : s < 4) (hr : r < vN V 4) (hk : k < (vP V r).length) (hN : TN σ t V) (hP : TP σ t V) (hst : stX σ st) :
    ∃ (τ : am_M), S_X2_swapsOf [.ref 50, .ref t, .int (nI s), .int (nI r), .int (nI k), .int (nI st.1)] σ = some (some (.int (nI (chA V s st (100 * r + k)).1)), τ) ∧ frX t σ τ ∧ stX τ (chA V s st (100 * r + k)) := by
  obtain ⟨k0, k1, k2, k3, k4, k5, k6, l1, l2, l3, l4, l5, l6⟩ := isT_k ht
  have hR := wn.2.2.2.2.1
  have n1 := wc.2.2.1 r (by omega)
  have h11 := hN.2.2.2.2.1
  obtain ⟨σ1, d9', a1, a2, a3⟩ := XCh_in (by0 := st.1) ht wn wc hs hr hr hk ((vP V r).length - (k + 1)) (k + 1) st σ none (by omega) hP hst
  obtain ⟨τ, r1, r2, r3⟩ := XCh_out (by0 := st.1) ht wn wc hs hr hk (vN V 4 - (r + 1)) (r + 1) _ σ1 (some (.int (nI (vP V r).length))) d9' (by omega) (by omega) (TN_fr hN (a2.2.1 t (by have := isT_50 ht 0 (by omega); omega) (by omega) (by omega))) (TP_X ht hP a2) a3
  have e : chA V s st (100 * r + k) = chIn V s (100 * r + k) (100 * (r + 1)) (100 * (vN V 4 - (r + 1))) (chIn V s (100 * r + k) (100 * r + (k + 1)) ((vP V r).length - (k + 1)) st) := by
    unfold chA
    rw [if_pos (isP_mk hr hk (by omega)), show 100 * vN V 4 - (100 * r + k + 1) = ((vP V r).length - (k + 1)) + ((100 - (vP V r).length) + 100 * (vN V 4 - (r + 1))) by omega, chIn_add, chIn_add, chIn_skip (100 - (vP V r).length) _ _ (fun b p q => isP_gap (r := r) b (by omega) (by omega)), show 100 * r + k + 1 + ((vP V r).length - (k + 1)) + (100 - (vP V r).length) = 100 * (r + 1) by omega, Nat.add_assoc]
  rw [e]
  refine ⟨τ, ?_, frX_tr a2 r2, r3⟩
  have r0 : rch hd_X2_swapsOf 0 7 [some (.ref 50), some (.ref t), some (.int (nI s)), some (.int (nI r)), some (.int (nI k)), some (.int (nI st.1)), some (.int (nI st.1)), some (.int (nI r)), none, none] σ 39 [some (.ref 50), some (.ref t), some (.int (nI s)), some (.int (nI r)), some (.int (nI k)), some (.int (nI st.1)), some (.int (nI st.1)), some (.int (nI r)), some (.int (nI (k + 1))), none] σ := rch_0 fun B => by
    simp (disch := omega) only [↓e_X2_swapsOf_7, ↓e_X2_swapsOf_36, ↓e_X2_swapsOf_37, ↓h_X2_swapsOf_7, ↓h_X2_swapsOf_39, ↓it_s, ↓y_iload, ↓y_lload, ↓y_aload, ↓y_istore, ↓y_lstore, ↓y_astore, ↓y_iinc, ↓y_cI, ↓y_cL, ↓y_bin, ↓y_binL, ↓y_div, ↓y_divL, ↓y_lshl, ↓y_un, ↓y_i2l, ↓y_lneg, ↓y_l2i, ↓y_lcmp, ↓y_dupI, ↓y_dupR, ↓y_dup2, ↓y_pop, ↓y_goto, ↓y_eq0, ↓y_lt0, ↓y_le0, ↓y_eq, ↓y_lt, ↓y_le, ↓y_switch, ↓y_sw0, ↓y_sw1, ↓y_getI, ↓y_getL, ↓y_getR, ↓y_getT, ↓y_putI, ↓y_putZ, ↓y_putL, ↓y_putT, ↓y_iald, ↓y_bald, ↓y_lald, ↓y_aald, ↓y_iast, ↓y_bast, ↓y_last, ↓y_alen, ↓y_iret, ↓y_zret, ↓y_lret, ↓y_vret, ↓y_svI, ↓y_svL, ↓y_svV, ↓y_ivI, ↓y_ivL, ↓y_ivV, ↓y_max, ↓y_min, ↓y_absL, ↓y_cpI, ↓y_cpL, ↓x_n1I, ↓x_n1L, ↓x_n1R, ↓x_n0I, ↓x_n0L, ↓x_n0R, ↓x_s0, ↓x_s1i, ↓x_s1r, ↓x_s1n, ↓x_s2, ↓x_c0, ↓x_c2, ↓x_tk0, ↓x_tk1, ↓x_rcv, x_rI1, x_rL1, x_rV1, x_rIn, x_rLn, x_rVn, x_rIf, x_rLf, x_rVf, x_40, x_41, x_42, x_43, x_44, ↓reduceIte, if_true, if_false, ao_iadd, ao_isub, ao_imul, ao_iand, ao_ior, ao_ishl, ao_ishr, ao_iushr, ao_ladd, ao_lsub, ao_lmul, ao_land, ao_lor, ao_idiv, ao_irem, ao_ldiv, ao_lrem, ao_ineg, ao_i2b, ao_i2s, Nat.reduceAdd, Nat.reduceMul, Nat.reduceSub, Nat.reduceEqDiff, Nat.reduceLeDiff, and_self, true_and, x_lit, x_ofn, x_z0, x_z1, x_inbT, x_ltT, x_ltF, x_leT, x_leF, x_eqF, x_eqT, x_inb, x_lt, x_le, x_eq, x_cl, x_sub, nI_add, pk_mul, x_m1e, x_m1e', x_m1l, x_m1n, x_m1s, Nat.not_lt_zero, x_zb, x_b0, x_b1, decide_eq_false_iff_not, decide_eq_true_eq, Bool.false_eq_true, Bool.true_eq_false, k0, h11]
  have hf := fin_run (rch_fin r0 (rch_fin a1 r1)) (by unfold am_fuel; omega)
  rw [← hf]
  simp (disch := omega) only [g_X2_swapsOf, ↓e_X2_swapsOf_0, ↓h_X2_swapsOf_7, ↓it_s, ↓y_iload, ↓y_lload, ↓y_aload, ↓y_istore, ↓y_lstore, ↓y_astore, ↓y_iinc, ↓y_cI, ↓y_cL, ↓y_bin, ↓y_binL, ↓y_div, ↓y_divL, ↓y_lshl, ↓y_un, ↓y_i2l, ↓y_lneg, ↓y_l2i, ↓y_lcmp, ↓y_dupI, ↓y_dupR, ↓y_dup2, ↓y_pop, ↓y_goto, ↓y_eq0, ↓y_lt0, ↓y_le0, ↓y_eq, ↓y_lt, ↓y_le, ↓y_switch, ↓y_sw0, ↓y_sw1, ↓y_getI, ↓y_getL, ↓y_getR, ↓y_getT, ↓y_putI, ↓y_putZ, ↓y_putL, ↓y_putT, ↓y_iald, ↓y_bald, ↓y_lald, ↓y_aald, ↓y_iast, ↓y_bast, ↓y_last, ↓y_alen, ↓y_iret, ↓y_zret, ↓y_lret, ↓y_vret, ↓y_svI, ↓y_svL, ↓y_svV, ↓y_ivI, ↓y_ivL, ↓y_ivV, ↓y_max, ↓y_min, ↓y_absL, ↓y_cpI, ↓y_cpL, ↓x_n1I, ↓x_n1L, ↓x_n1R, ↓x_n0I, ↓x_n0L, ↓x_n0R, ↓x_s0, ↓x_s1i, ↓x_s1r, ↓x_s1n, ↓x_s2, ↓x_c0, ↓x_c2, ↓x_tk0, ↓x_tk1, ↓x_rcv, x_rI1, x_rL1, x_rV1, x_rIn, x_rLn, x_rVn, x_rIf, x_rLf, x_rVf, x_40, x_41, x_42, x_43, x_44, ↓reduceIte, if_true, if_false, ao_iadd, ao_isub, ao_imul, ao_iand, ao_ior, ao_ishl, ao_ishr, ao_iushr, ao_ladd, ao_lsub, ao_lmul, ao_land, ao_lor, ao_idiv, ao_irem, ao_ldiv, ao_lrem, ao_ineg, ao_i2b, ao_i2s, Nat.reduceAdd, Nat.reduceMul, Nat.reduceSub, Nat.reduceEqDiff, Nat.reduceLeDiff, and_self, true_and]
theorem XBs_in {t r s : Nat} {V : Vt} (ht : isT t) (wn : WN V) (wc : WC V) (hs : s < 4) (hr : r < vN V 4) : ∀ (m k : Nat) (st : chS) (σ : am_M), k + m = (vP V r).length → TN σ t V → TP σ t V → stX σ st →
    ∃ (τ : am_M), rch hd_X2_bestSwap (m + 1) 42 [some (.ref 50), some (.ref t), some (.int (nI s)), some (.int (nI st.1)), some (.int (nI r)), some (.int (nI k))] σ 23 [some (.ref 50), some (.ref t), some (.int (nI s)), some (.int (nI (chOut V s (100 * r + k) m st).1)), some (.int (nI (r + 1))), some (.int (nI (vP V r).length))] τ ∧ frX t σ τ ∧ stX τ (chOut V s (100 * r + k) m st) := by
  obtain ⟨k0, k1, k2, k3, k4, k5, k6, l1, l2, l3, l4, l5, l6⟩ := isT_k ht
  have hR := wn.2.2.2.2.1
  have n1 := wc.2.2.1 r (by omega)
  intro m
  induction m with
  | zero =>
    intro k st σ hm hN hP hst
    have e : k = (vP V r).length := by omega
    have h2 := hP.1 r (by omega)
    refine ⟨σ, rch_1 fun B => ?_, frX_rf _ _, hst⟩
    rw [← e]
    rw [← e] at h2
    simp (disch := omega) only [↓e_X2_bestSwap_42, ↓e_X2_bestSwap_72, ↓h_X2_bestSwap_42, ↓it_s, ↓y_iload, ↓y_lload, ↓y_aload, ↓y_istore, ↓y_lstore, ↓y_astore, ↓y_iinc, ↓y_cI, ↓y_cL, ↓y_bin, ↓y_binL, ↓y_div, ↓y_divL, ↓y_lshl, ↓y_un, ↓y_i2l, ↓y_lneg, ↓y_l2i, ↓y_lcmp, ↓y_dupI, ↓y_dupR, ↓y_dup2, ↓y_pop, ↓y_goto, ↓y_eq0, ↓y_lt0, ↓y_le0, ↓y_eq, ↓y_lt, ↓y_le, ↓y_switch, ↓y_sw0, ↓y_sw1, ↓y_getI, ↓y_getL, ↓y_getR, ↓y_getT, ↓y_putI, ↓y_putZ, ↓y_putL, ↓y_putT, ↓y_iald, ↓y_bald, ↓y_lald, ↓y_aald, ↓y_iast, ↓y_bast, ↓y_last, ↓y_alen, ↓y_iret, ↓y_zret, ↓y_lret, ↓y_vret, ↓y_svI, ↓y_svL, ↓y_svV, ↓y_ivI, ↓y_ivL, ↓y_ivV, ↓y_max, ↓y_min, ↓y_absL, ↓y_cpI, ↓y_cpL, ↓x_n1I, ↓x_n1L, ↓x_n1R, ↓x_n0I, ↓x_n0L, ↓x_n0R, ↓x_s0, ↓x_s1i, ↓x_s1r, ↓x_s1n, ↓x_s2, ↓x_c0, ↓x_c2, ↓x_tk0, ↓x_tk1, ↓x_rcv, x_rI1, x_rL1, x_rV1, x_rIn, x_rLn, x_rVn, x_rIf, x_rLf, x_rVf, x_40, x_41, x_42, x_43, x_44, ↓reduceIte, if_true, if_false, ao_iadd, ao_isub, ao_imul, ao_iand, ao_ior, ao_ishl, ao_ishr, ao_iushr, ao_ladd, ao_lsub, ao_lmul, ao_land, ao_lor, ao_idiv, ao_irem, ao_ldiv, ao_lrem, ao_ineg, ao_i2b, ao_i2s, Nat.reduceAdd, Nat.reduceMul, Nat.reduceSub, Nat.reduceEqDiff, Nat.reduceLeDiff, and_self, true_and, x_lit, x_ofn, x_z0, x_z1, x_inbT, x_ltT, x_ltF, x_leT, x_leF, x_eqF, x_eqT, x_inb, x_lt, x_le, x_eq, x_cl, x_sub, nI_add, pk_mul, x_m1e, x_m1e', x_m1l, x_m1n, x_m1s, Nat.not_lt_zero, x_zb, x_b0, x_b1, decide_eq_false_iff_not, decide_eq_true_eq, Bool.false_eq_true, Bool.true_eq_false, k0, k2, l2, h2]
    rfl
  | succ m ih =>
    intro k st σ hm hN hP hst
    have h2 := hP.1 r (by omega)
    obtain ⟨σ1, a1, a2, a3⟩ := X_swapsOf ht wn wc hs hr (show k < (vP V r).length by omega) hN hP hst
    obtain ⟨τ, r1, r2, r3⟩ := ih (k + 1) _ σ1 (by omega) (TN_fr hN (a2.2.1 t (by have := isT_50 ht 0 (by omega); omega) (by omega) (by omega))) (TP_X ht hP a2) a3
    rw [chOut_s, Nat.add_assoc]
    refine ⟨τ, rch_mono (rch_tr (rch_1 fun B => ?_) r1) (by omega), frX_tr a2 r2, r3⟩
    simp (disch := omega) only [↓e_X2_bestSwap_42, ↓h_X2_bestSwap_42, ↓it_s, ↓y_iload, ↓y_lload, ↓y_aload, ↓y_istore, ↓y_lstore, ↓y_astore, ↓y_iinc, ↓y_cI, ↓y_cL, ↓y_bin, ↓y_binL, ↓y_div, ↓y_divL, ↓y_lshl, ↓y_un, ↓y_i2l, ↓y_lneg, ↓y_l2i, ↓y_lcmp, ↓y_dupI, ↓y_dupR, ↓y_dup2, ↓y_pop, ↓y_goto, ↓y_eq0, ↓y_lt0, ↓y_le0, ↓y_eq, ↓y_lt, ↓y_le, ↓y_switch, ↓y_sw0, ↓y_sw1, ↓y_getI, ↓y_getL, ↓y_getR, ↓y_getT, ↓y_putI, ↓y_putZ, ↓y_putL, ↓y_putT, ↓y_iald, ↓y_bald, ↓y_lald, ↓y_aald, ↓y_iast, ↓y_bast, ↓y_last, ↓y_alen, ↓y_iret, ↓y_zret, ↓y_lret, ↓y_vret, ↓y_svI, ↓y_svL, ↓y_svV, ↓y_ivI, ↓y_ivL, ↓y_ivV, ↓y_max, ↓y_min, ↓y_absL, ↓y_cpI, ↓y_cpL, ↓x_n1I, ↓x_n1L, ↓x_n1R, ↓x_n0I, ↓x_n0L, ↓x_n0R, ↓x_s0, ↓x_s1i, ↓x_s1r, ↓x_s1n, ↓x_s2, ↓x_c0, ↓x_c2, ↓x_tk0, ↓x_tk1, ↓x_rcv, x_rI1, x_rL1, x_rV1, x_rIn, x_rLn, x_rVn, x_rIf, x_rLf, x_rVf, x_40, x_41, x_42, x_43, x_44, ↓reduceIte, if_true, if_false, ao_iadd, ao_isub, ao_imul, ao_iand, ao_ior, ao_ishl, ao_ishr, ao_iushr, ao_ladd, ao_lsub, ao_lmul, ao_land, ao_lor, ao_idiv, ao_irem, ao_ldiv, ao_lrem, ao_ineg, ao_i2b, ao_i2s, Nat.reduceAdd, Nat.reduceMul, Nat.reduceSub, Nat.reduceEqDiff, Nat.reduceLeDiff, and_self, true_and, x_lit, x_ofn, x_z0, x_z1, x_inbT, x_ltT, x_ltF, x_leT, x_leF, x_eqF, x_eqT, x_inb, x_lt, x_le, x_eq, x_cl, x_sub, nI_add, pk_mul, x_m1e, x_m1e', x_m1l, x_m1n, x_m1s, Nat.not_lt_zero, x_zb, x_b0, x_b1, decide_eq_false_iff_not, decide_eq_true_eq, Bool.false_eq_true, Bool.true_eq_false, k0, k2, l2, h2, a1, kd_50]
theorem XBs_out {t s : Nat} {V : Vt} (ht : isT t) (wn : WN V) (wc : WC V) (hs : s < 4) : ∀ (m r : Nat) (st : chS) (σ : am_M) (d5 : Option Value), r + m = vN V 4 → TN σ t V → TP σ t V → stX σ st →
    ∃ (τ : am_M), fin hd_X2_bestSwap (20 * m) 23 [some (.ref 50), some (.ref t), some (.int (nI s)), some (.int (nI st.1)), some (.int (nI r)), d5] σ (some (some (.int (nI (chOut V s (100 * r) (100 * m) st).1)), τ)) ∧ frX t σ τ ∧ stX τ (chOut V s (100 * r) (100 * m) st) := by
  obtain ⟨k0, k1, k2, k3, k4, k5, k6, l1, l2, l3, l4, l5, l6⟩ := isT_k ht
  have hR := wn.2.2.2.2.1
  intro m
  induction m with
  | zero =>
    intro r st σ d5 hm hN hP hst
    have h11 := hN.2.2.2.2.1
    refine ⟨σ, fin_0 fun B => ?_, frX_rf _ _, hst⟩
    simp (disch := omega) only [↓e_X2_bestSwap_23, ↓e_X2_bestSwap_78, ↓h_X2_bestSwap_23, ↓it_s, ↓y_iload, ↓y_lload, ↓y_aload, ↓y_istore, ↓y_lstore, ↓y_astore, ↓y_iinc, ↓y_cI, ↓y_cL, ↓y_bin, ↓y_binL, ↓y_div, ↓y_divL, ↓y_lshl, ↓y_un, ↓y_i2l, ↓y_lneg, ↓y_l2i, ↓y_lcmp, ↓y_dupI, ↓y_dupR, ↓y_dup2, ↓y_pop, ↓y_goto, ↓y_eq0, ↓y_lt0, ↓y_le0, ↓y_eq, ↓y_lt, ↓y_le, ↓y_switch, ↓y_sw0, ↓y_sw1, ↓y_getI, ↓y_getL, ↓y_getR, ↓y_getT, ↓y_putI, ↓y_putZ, ↓y_putL, ↓y_putT, ↓y_iald, ↓y_bald, ↓y_lald, ↓y_aald, ↓y_iast, ↓y_bast, ↓y_last, ↓y_alen, ↓y_iret, ↓y_zret, ↓y_lret, ↓y_vret, ↓y_svI, ↓y_svL, ↓y_svV, ↓y_ivI, ↓y_ivL, ↓y_ivV, ↓y_max, ↓y_min, ↓y_absL, ↓y_cpI, ↓y_cpL, ↓x_n1I, ↓x_n1L, ↓x_n1R, ↓x_n0I, ↓x_n0L, ↓x_n0R, ↓x_s0, ↓x_s1i, ↓x_s1r, ↓x_s1n, ↓x_s2, ↓x_c0, ↓x_c2, ↓x_tk0, ↓x_tk1, ↓x_rcv, x_rI1, x_rL1, x_rV1, x_rIn, x_rLn, x_rVn, x_rIf, x_rLf, x_rVf, x_40, x_41, x_42, x_43, x_44, ↓reduceIte, if_true, if_false, ao_iadd, ao_isub, ao_imul, ao_iand, ao_ior, ao_ishl, ao_ishr, ao_iushr, ao_ladd, ao_lsub, ao_lmul, ao_land, ao_lor, ao_idiv, ao_irem, ao_ldiv, ao_lrem, ao_ineg, ao_i2b, ao_i2s, Nat.reduceAdd, Nat.reduceMul, Nat.reduceSub, Nat.reduceEqDiff, Nat.reduceLeDiff, and_self, true_and, x_lit, x_ofn, x_z0, x_z1, x_inbT, x_ltT, x_ltF, x_leT, x_leF, x_eqF, x_eqT, x_inb, x_lt, x_le, x_eq, x_cl, x_sub, nI_add, pk_mul, x_m1e, x_m1e', x_m1l, x_m1n, x_m1s, Nat.not_lt_zero, x_zb, x_b0, x_b1, decide_eq_false_iff_not, decide_eq_true_eq, Bool.false_eq_true, Bool.true_eq_false, k0, h11]
    rfl
  | succ m ih =>
    intro r st σ d5 hm hN hP hst
    have h11 := hN.2.2.2.2.1
    have n1 := wc.2.2.1 r (by omega)
    obtain ⟨σ1, a1, a2, a3⟩ := XBs_in ht wn wc hs (show r < vN V 4 by omega) (vP V r).length 0 st σ (by omega) hN hP hst
    have r0 : rch hd_X2_bestSwap 0 23 [some (.ref 50), some (.ref t), some (.int (nI s)), some (.int (nI st.1)), some (.int (nI r)), d5] σ 42 [some (.ref 50), some (.ref t), some (.int (nI s)), some (.int (nI st.1)), some (.int (nI r)), some (.int (nI 0))] σ := rch_0 fun B => by
      simp (disch := omega) only [↓e_X2_bestSwap_23, ↓h_X2_bestSwap_23, ↓h_X2_bestSwap_42, ↓it_s, ↓y_iload, ↓y_lload, ↓y_aload, ↓y_istore, ↓y_lstore, ↓y_astore, ↓y_iinc, ↓y_cI, ↓y_cL, ↓y_bin, ↓y_binL, ↓y_div, ↓y_divL, ↓y_lshl, ↓y_un, ↓y_i2l, ↓y_lneg, ↓y_l2i, ↓y_lcmp, ↓y_dupI, ↓y_dupR, ↓y_dup2, ↓y_pop, ↓y_goto, ↓y_eq0, ↓y_lt0, ↓y_le0, ↓y_eq, ↓y_lt, ↓y_le, ↓y_switch, ↓y_sw0, ↓y_sw1, ↓y_getI, ↓y_getL, ↓y_getR, ↓y_getT, ↓y_putI, ↓y_putZ, ↓y_putL, ↓y_putT, ↓y_iald, ↓y_bald, ↓y_lald, ↓y_aald, ↓y_iast, ↓y_bast, ↓y_last, ↓y_alen, ↓y_iret, ↓y_zret, ↓y_lret, ↓y_vret, ↓y_svI, ↓y_svL, ↓y_svV, ↓y_ivI, ↓y_ivL, ↓y_ivV, ↓y_max, ↓y_min, ↓y_absL, ↓y_cpI, ↓y_cpL, ↓x_n1I, ↓x_n1L, ↓x_n1R, ↓x_n0I, ↓x_n0L, ↓x_n0R, ↓x_s0, ↓x_s1i, ↓x_s1r, ↓x_s1n, ↓x_s2, ↓x_c0, ↓x_c2, ↓x_tk0, ↓x_tk1, ↓x_rcv, x_rI1, x_rL1, x_rV1, x_rIn, x_rLn, x_rVn, x_rIf, x_rLf, x_rVf, x_40, x_41, x_42, x_43, x_44, ↓reduceIte, if_true, if_false, ao_iadd, ao_isub, ao_imul, ao_iand, ao_ior, ao_ishl, ao_ishr, ao_iushr, ao_ladd, ao_lsub, ao_lmul, ao_land, ao_lor, ao_idiv, ao_irem, ao_ldiv, ao_lrem, ao_ineg, ao_i2b, ao_i2s, Nat.reduceAdd, Nat.reduceMul, Nat.reduceSub, Nat.reduceEqDiff, Nat.reduceLeDiff, and_self, true_and, x_lit, x_ofn, x_z0, x_z1, x_inbT, x_ltT, x_ltF, x_leT, x_leF, x_eqF, x_eqT, x_inb, x_lt, x_le, x_eq, x_cl, x_sub, nI_add, pk_mul, x_m1e, x_m1e', x_m1l, x_m1n, x_m1s, Nat.not_lt_zero, x_zb, x_b0, x_b1, decide_eq_false_iff_not, decide_eq_true_eq, Bool.false_eq_true, Bool.true_eq_false, k0, h11]
    have e : chOut V s (100 * r) (100 * (m + 1)) st = chOut V s (100 * (r + 1)) (100 * m) (chOut V s (100 * r + 0) (vP V r).length st) := by
      rw [show 100 * (m + 1) = (vP V r).length + ((100 - (vP V r).length) + 100 * m) by omega, chOut_add, chOut_add, chOut_skip (100 - (vP V r).length) _ _ (fun b p q => isP_gap b p (by omega)), show 100 * r + (vP V r).length + (100 - (vP V r).length) = 100 * (r + 1) by omega]
      rfl
    rw [e]
    obtain ⟨τ, r1, r2, r3⟩ := ih (r + 1) _ σ1 (some (.int (nI (vP V r).length))) (by omega) (TN_fr hN (a2.2.1 t (by have := isT_50 ht 0 (by omega); omega) (by omega) (by omega))) (TP_X ht hP a2) a3
    exact ⟨τ, fin_mono (rch_fin r0 (rch_fin a1 r1)) (by omega), frX_tr a2 r2, r3⟩
theorem X_bestSwap {t s : Nat} {V : Vt} {σ : am_M} (ht : isT t) (wn : WN V) (wc : WC V) (hs : s < 4) (hN : TN σ t V) (hP : TP σ t V) : ∃ (τ : am_M), S_X2_bestSwap [.ref 50, .ref t, .int (nI s)] σ = some (some (.int (nI (chV V s).1)), τ) ∧ frX t σ τ ∧ stX τ (chV V s) := by
  obtain ⟨k0, k1, k2, k3, k4, k5, k6, l1, l2, l3, l4, l5, l6⟩ := isT_k ht
  have hR := wn.2.2.2.2.1
  have h50 := isT_50 ht
  obtain ⟨ps, T, σ1, a1, a2, a3, a4, a5⟩ := X_ripen ht wc hP
  have eT := runT_eq wc a2 a3
  have hle := (runL_hsum ps _ T wc a2).2 s
  have hP1 : TP σ1 t V := TP_fr hP (fun j q1 q2 => a5.2 j (by omega) (by omega))
  have x1 := X_riseRanks ht wc hP1 a4 hs hle
  have er : sumR (vH V s) (vH T s) = rise V s := by unfold rise; rw [eT]
  rw [er] at x1
  have hr21 : rise V s ≤ 21 := by rw [← er]; exact sumR_le (a4.1.2.2.2.2 s)
  obtain ⟨σ2, e2⟩ : ∃ q, q = am_uI (am_uI σ1 50 2 (-nI 1)) 50 3 (-nI 1) := ⟨_, rfl⟩
  have hF2 : frX t σ σ2 := by
    rw [e2]
    exact ⟨a5.1, fun j p q r => by rw [uI_n p, uI_n p]; exact a5.2 j q r, fun i p q => by rw [uI_s, up_n q, uI_s, up_n p, a5.2 50 (by have := h50 5 (by omega); omega) (by have := h50 6 (by omega); omega)]⟩
  obtain ⟨τ, r1, r2, r3⟩ := XBs_out ht wn wc hs (vN V 4) 0 (rise V s, none) σ2 none (by omega) (TN_fr hN (hF2.2.1 t (by have := h50 0 (by omega); omega) (by omega) (by omega))) (TP_X ht hP hF2) ⟨⟨hr21, fun p z => by cases z⟩, fun _ => by rw [e2]; exact ⟨by rw [uI_s, up_n (by omega), uI_s, up_s], by rw [uI_s, up_s]⟩, fun p z => by cases z⟩
  refine ⟨τ, ?_, frX_tr hF2 r2, r3⟩
  have hf := fin_run r1 (by unfold am_fuel; omega)
  unfold chV
  rw [Nat.mul_zero] at hf
  rw [← hf, e2]
  simp (disch := omega) only [g_X2_bestSwap, ↓e_X2_bestSwap_0, ↓h_X2_bestSwap_23, ↓it_s, ↓y_iload, ↓y_lload, ↓y_aload, ↓y_istore, ↓y_lstore, ↓y_astore, ↓y_iinc, ↓y_cI, ↓y_cL, ↓y_bin, ↓y_binL, ↓y_div, ↓y_divL, ↓y_lshl, ↓y_un, ↓y_i2l, ↓y_lneg, ↓y_l2i, ↓y_lcmp, ↓y_dupI, ↓y_dupR, ↓y_dup2, ↓y_pop, ↓y_goto, ↓y_eq0, ↓y_lt0, ↓y_le0, ↓y_eq, ↓y_lt, ↓y_le, ↓y_switch, ↓y_sw0, ↓y_sw1, ↓y_getI, ↓y_getL, ↓y_getR, ↓y_getT, ↓y_putI, ↓y_putZ, ↓y_putL, ↓y_putT, ↓y_iald, ↓y_bald, ↓y_lald, ↓y_aald, ↓y_iast, ↓y_bast, ↓y_last, ↓y_alen, ↓y_iret, ↓y_zret, ↓y_lret, ↓y_vret, ↓y_svI, ↓y_svL, ↓y_svV, ↓y_ivI, ↓y_ivL, ↓y_ivV, ↓y_max, ↓y_min, ↓y_absL, ↓y_cpI, ↓y_cpL, ↓x_n1I, ↓x_n1L, ↓x_n1R, ↓x_n0I, ↓x_n0L, ↓x_n0R, ↓x_s0, ↓x_s1i, ↓x_s1r, ↓x_s1n, ↓x_s2, ↓x_c0, ↓x_c2, ↓x_tk0, ↓x_tk1, ↓x_rcv, x_rI1, x_rL1, x_rV1, x_rIn, x_rLn, x_rVn, x_rIf, x_rLf, x_rVf, x_40, x_41, x_42, x_43, x_44, ↓reduceIte, if_true, if_false, ao_iadd, ao_isub, ao_imul, ao_iand, ao_ior, ao_ishl, ao_ishr, ao_iushr, ao_ladd, ao_lsub, ao_lmul, ao_land, ao_lor, ao_idiv, ao_irem, ao_ldiv, ao_lrem, ao_ineg, ao_i2b, ao_i2s, Nat.reduceAdd, Nat.reduceMul, Nat.reduceSub, Nat.reduceEqDiff, Nat.reduceLeDiff, and_self, true_and, x_lit, x_ofn, x_z0, x_z1, x_inbT, x_ltT, x_ltF, x_leT, x_leF, x_eqF, x_eqT, x_inb, x_lt, x_le, x_eq, x_cl, x_sub, nI_add, pk_mul, x_m1e, x_m1e', x_m1l, x_m1n, x_m1s, Nat.not_lt_zero, x_zb, x_b0, x_b1, decide_eq_false_iff_not, decide_eq_true_eq, Bool.false_eq_true, Bool.true_eq_false, k0, a1, x1, kd_50]
