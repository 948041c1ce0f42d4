/-! plans, the model -/
def frA (lv : Nat) (σ τ : am_M) : Prop := τ.2 = σ.2 ∧ (∀ j, j ≠ 123 → j ≠ 128 → j ≠ 129 → τ.1 j = σ.1 j) ∧ (∀ i, i ≠ 35 → τ.1 123 i = σ.1 123 i) ∧ ∀ i, i < 170 * lv → τ.1 129 i = σ.1 129 i
theorem frA_rf (lv : Nat) (σ : am_M) : frA lv σ σ := ⟨rfl, fun _ _ _ _ => rfl, fun _ _ => rfl, fun _ _ => rfl⟩
theorem frA_tr {lv : Nat} {a b c : am_M} (h1 : frA lv a b) (h2 : frA lv b c) : frA lv a c := ⟨h2.1.trans h1.1, fun j p q r => (h2.2.1 j p q r).trans (h1.2.1 j p q r), fun i hi => (h2.2.2.1 i hi).trans (h1.2.2.1 i hi), fun i hi => (h2.2.2.2 i hi).trans (h1.2.2.2 i hi)⟩
theorem frA_mono {lv lw : Nat} {a b : am_M} (h : frA lw a b) (hl : lv ≤ lw) : frA lv a b := ⟨h.1, h.2.1, h.2.2.1, fun i hi => h.2.2.2 i (by omega)⟩
theorem frA_c (lv : Nat) (σ : am_M) (g : Nat → Int32) : frA lv σ (am_uA σ 128 g) := ⟨rfl, fun j p q r => uA_n q, fun i hi => by rw [uA_n (by omega)], fun i hi => by rw [uA_n (by omega)]⟩
theorem frA_k (lv : Nat) (σ : am_M) : frA lv σ (am_uA σ 129 (va_cpy (σ.1 128) (σ.1 129) 0 (170 * lv) 170)) := ⟨rfl, fun j p q r => uA_n r, fun i hi => by rw [uA_n (by omega)], fun i hi => by rw [uA_s, cpy_out (by omega)]⟩
theorem resM_at {V : Vt} {i m : Nat} (h : (mvL V)[i]? = some m) : resM V (some i) = nI m := by simp [resM, h]
theorem WG_mv {V : Vt} {f to c : Nat} (hw : WG V) (hf : f < 7) (hto : to < 8) (h : okM V f to = true) (hc : (vP V f).getLast? = some c) : WG (moveV V f to c) := by
  obtain ⟨h1, h2, h3, -⟩ := ok_spec hw.1 hto h
  exact WG_moveV hw hf hto h2 h3 hc
theorem M_goesK {σ : am_M} {V : Vt} {f to : Nat} (h : MC (σ.1 128) 0 V) (hw : WG V) (hf : f < 7) (hto : to < 8) (hk : okM V f to = true) {c : Nat} (hc : (vP V f).getLast? = some c) :
    ∃ g, S_X11_goes [.ref 123, .int (nI f), .int (nI to)] σ = some (some (.int (nI c)), am_uA σ 128 g) ∧ MC g 0 (moveV V f to c) ∧ ∀ j, 170 ≤ j → g j = σ.1 128 j := by
  obtain ⟨h1, h2, h3, h6, hft, d, d1, d2, d3⟩ := ok_spec hw.1 hto hk
  rw [hc] at d1
  cases d1
  have hc24 : c < 24 := hw.2.1.1 f (by omega) c (List.mem_of_getLast? hc)
  exact M_goes h hw.2.1 hw.1 hw.2.2 hf hto h6 hft hc (fun e => by rw [d2 e]; omega) d3
theorem mostV_mv (set k : Nat) (V : Vt) (f to c : Nat) : mostV set k (moveV V f to c) = mostV set k (moveC V f to c) := mostV_cg set k _ _ (by rw [moveV_N, moveC_N]) (moveV_P _ _ _ _) (moveV_H _ _ _ _)
theorem duelV_mv (set k : Nat) (first : Bool) (V : Vt) (f to c : Nat) : duelV set k first (moveV V f to c) = duelV set k first (moveC V f to c) := duelV_cg set k first _ _ (by rw [moveV_N, moveC_N]) (moveV_P _ _ _ _) (moveV_H _ _ _ _)
theorem M_most {set : Nat} (hset : set < 16) : ∀ (k n lv : Nat) (V : Vt) (σ : am_M), k + lv ≤ 3 → k < n → WG V → MC (σ.1 128) 0 V →
    ∃ τ, S_X11_most n [.ref 123, .int (nI set), .int (nI k), .int (nI lv)] σ = some (some (.int (mostV set k V).1), τ) ∧ τ.1 128 = σ.1 128 ∧ frA lv σ τ ∧ (lv = 0 → τ.1 123 35 = optI (mostV set k V).2) := by
  intro k
  induction k with
  | zero =>
    intro n lv V σ hk hn hw hM
    obtain ⟨n, rfl⟩ : ∃ q, n = q + 1 := ⟨n - 1, by omega⟩
    have hkp := M_keeps (σ := σ) (lv := lv) (by omega)
    obtain ⟨σ1, e1⟩ : ∃ s, s = am_uA σ 129 (va_cpy (σ.1 128) (σ.1 129) 0 (170 * lv) 170) := ⟨_, rfl⟩
    rw [← e1] at hkp
    have hF1 : frA lv σ σ1 := by rw [e1]; exact frA_k lv σ
    have hc1 : σ1.1 128 = σ.1 128 := by rw [e1, uA_n (by omega)]
    obtain ⟨E, eE⟩ : ∃ E, E = S_X11_most n := ⟨_, rfl⟩
    by_cases h0 : lv = 0
    · subst h0
      refine ⟨am_uI σ1 123 35 (-nI 1), ?_, by rw [uI_n (by omega)]; exact hc1, frA_tr hF1 ⟨rfl, fun j p q r => uI_n p, fun i hi => by rw [uI_s, up_n hi], fun i hi => by omega⟩, fun _ => by rw [uI_s, up_s]; rfl⟩
      show F_X11_most (S_X11_most n) _ _ = _
      rw [← eE]
      simp (disch := omega) only [g_X11_most, ↓e_X11_most_153, ↓e_X11_most_143, ↓e_X11_most_137, ↓e_X11_most_129, ↓e_X11_most_91, ↓e_X11_most_90, ↓e_X11_most_29, ↓e_X11_most_13, ↓e_X11_most_8, ↓e_X11_most_0, ↓h_X11_most_29, ↓it_s, ↓y_iload, ↓y_lload, ↓y_aload, ↓y_istore, ↓y_lstore, ↓y_astore, ↓y_iinc, ↓y_cI, ↓y_cL, ↓y_bin, ↓y_binL, ↓y_div, ↓y_divL, ↓y_lshl, ↓y_un, ↓y_i2l, ↓y_lneg, ↓y_l2i, ↓y_lcmp, ↓y_dupI, ↓y_dupR, ↓y_dup2, ↓y_pop, ↓y_goto, ↓y_eq0, ↓y_lt0, ↓y_le0, ↓y_eq, ↓y_lt, ↓y_le, ↓y_switch, ↓y_sw0, ↓y_sw1, ↓y_getI, ↓y_getL, ↓y_getR, ↓y_getT, ↓y_putI, ↓y_putZ, ↓y_putL, ↓y_putT, ↓y_iald, ↓y_bald, ↓y_lald, ↓y_aald, ↓y_iast, ↓y_bast, ↓y_last, ↓y_alen, ↓y_iret, ↓y_zret, ↓y_lret, ↓y_vret, ↓y_svI, ↓y_svL, ↓y_svV, ↓y_ivI, ↓y_ivL, ↓y_ivV, ↓y_max, ↓y_min, ↓y_absL, ↓y_cpI, ↓y_cpL, ↓x_n1I, ↓x_n1L, ↓x_n1R, ↓x_n0I, ↓x_n0L, ↓x_n0R, ↓x_s0, ↓x_s1i, ↓x_s1r, ↓x_s1n, ↓x_s2, ↓x_c0, ↓x_c2, ↓x_tk0, ↓x_tk1, ↓x_rcv, x_rI1, x_rL1, x_rV1, x_rIn, x_rLn, x_rVn, x_rIf, x_rLf, x_rVf, x_40, x_41, x_42, x_43, x_44, ↓reduceIte, if_true, if_false, ao_iadd, ao_isub, ao_imul, ao_iand, ao_ior, ao_ishl, ao_ishr, ao_iushr, ao_ladd, ao_lsub, ao_lmul, ao_land, ao_lor, ao_idiv, ao_irem, ao_ldiv, ao_lrem, ao_ineg, ao_i2b, ao_i2s, Nat.reduceAdd, Nat.reduceMul, Nat.reduceSub, Nat.reduceEqDiff, Nat.reduceLeDiff, and_self, true_and, x_lit, x_ofn, x_z0, x_z1, x_inbT, x_ltT, x_ltF, x_leT, x_leF, x_eqF, x_eqT, x_inb, x_lt, x_le, x_eq, x_cl, x_sub, nI_add, pk_mul, x_m1e, x_m1e', x_m1l, x_m1n, x_m1s, Nat.not_lt_zero, x_zb, x_b0, x_b1, decide_eq_false_iff_not, decide_eq_true_eq, Bool.false_eq_true, Bool.true_eq_false, hkp, kd_123]
      rfl
    · refine ⟨σ1, ?_, hc1, hF1, fun h => absurd h h0⟩
      show F_X11_most (S_X11_most n) _ _ = _
      rw [← eE]
      simp (disch := omega) only [g_X11_most, ↓e_X11_most_153, ↓e_X11_most_143, ↓e_X11_most_137, ↓e_X11_most_129, ↓e_X11_most_91, ↓e_X11_most_90, ↓e_X11_most_29, ↓e_X11_most_13, ↓e_X11_most_8, ↓e_X11_most_0, ↓h_X11_most_29, ↓it_s, ↓y_iload, ↓y_lload, ↓y_aload, ↓y_istore, ↓y_lstore, ↓y_astore, ↓y_iinc, ↓y_cI, ↓y_cL, ↓y_bin, ↓y_binL, ↓y_div, ↓y_divL, ↓y_lshl, ↓y_un, ↓y_i2l, ↓y_lneg, ↓y_l2i, ↓y_lcmp, ↓y_dupI, ↓y_dupR, ↓y_dup2, ↓y_pop, ↓y_goto, ↓y_eq0, ↓y_lt0, ↓y_le0, ↓y_eq, ↓y_lt, ↓y_le, ↓y_switch, ↓y_sw0, ↓y_sw1, ↓y_getI, ↓y_getL, ↓y_getR, ↓y_getT, ↓y_putI, ↓y_putZ, ↓y_putL, ↓y_putT, ↓y_iald, ↓y_bald, ↓y_lald, ↓y_aald, ↓y_iast, ↓y_bast, ↓y_last, ↓y_alen, ↓y_iret, ↓y_zret, ↓y_lret, ↓y_vret, ↓y_svI, ↓y_svL, ↓y_svV, ↓y_ivI, ↓y_ivL, ↓y_ivV, ↓y_max, ↓y_min, ↓y_absL, ↓y_cpI, ↓y_cpL, ↓x_n1I, ↓x_n1L, ↓x_n1R, ↓x_n0I, ↓x_n0L, ↓x_n0R, ↓x_s0, ↓x_s1i, ↓x_s1r, ↓x_s1n, ↓x_s2, ↓x_c0, ↓x_c2, ↓x_tk0, ↓x_tk1, ↓x_rcv, x_rI1, x_rL1, x_rV1, x_rIn, x_rLn, x_rVn, x_rIf, x_rLf, x_rVf, x_40, x_41, x_42, x_43, x_44, ↓reduceIte, if_true, if_false, ao_iadd, ao_isub, ao_imul, ao_iand, ao_ior, ao_ishl, ao_ishr, ao_iushr, ao_ladd, ao_lsub, ao_lmul, ao_land, ao_lor, ao_idiv, ao_irem, ao_ldiv, ao_lrem, ao_ineg, ao_i2b, ao_i2s, Nat.reduceAdd, Nat.reduceMul, Nat.reduceSub, Nat.reduceEqDiff, Nat.reduceLeDiff, and_self, true_and, x_lit, x_ofn, x_z0, x_z1, x_inbT, x_ltT, x_ltF, x_leT, x_leF, x_eqF, x_eqT, x_inb, x_lt, x_le, x_eq, x_cl, x_sub, nI_add, pk_mul, x_m1e, x_m1e', x_m1l, x_m1n, x_m1s, Nat.not_lt_zero, x_zb, x_b0, x_b1, decide_eq_false_iff_not, decide_eq_true_eq, Bool.false_eq_true, Bool.true_eq_false, hkp, kd_123]
      rfl
  | succ k ih =>
    intro n lv V σ hk hn hw hM
    obtain ⟨n, rfl⟩ : ∃ q, n = q + 1 := ⟨n - 1, by omega⟩
    obtain ⟨E, eE⟩ : ∃ E, E = S_X11_most n := ⟨_, rfl⟩
    have hlen := mvL_len hw.1
    have hmany := M_moveBy (key := none) hM hw.1 hw.2.1 (fun j e => by cases e)
    have hmany' : S_X11_moveBy [.ref 123, .int (-nI 1)] σ = some (some (.int (nI (mvL V).length)), σ) := hmany
    have hkp := M_keeps (σ := σ) (lv := lv) (by omega)
    obtain ⟨σ1, e1⟩ : ∃ s, s = am_uA σ 129 (va_cpy (σ.1 128) (σ.1 129) 0 (170 * lv) 170) := ⟨_, rfl⟩
    rw [← e1] at hkp
    have hF1 : frA lv σ σ1 := by rw [e1]; exact frA_k lv σ
    have hc1 : σ1.1 128 = σ.1 128 := by rw [e1, uA_n (by omega)]
    have ha1 : ∀ q, q < 170 → σ1.1 129 (170 * lv + q) = σ.1 128 q := fun q hq => by rw [e1, uA_s, kp_at hq]
    obtain ⟨⟨b, x8, x9, x10⟩, σ3, ⟨b1, b2', b3, b4, b5⟩, hr⟩ := rch_for (hd := hd_X11_most E) (p := 29) (n := (mvL V).length) (C := 1)
      (fun i (a : (Int32 × Option Nat) × Option Value × Option Value × Option Value) => [some (.ref 123), some (.int (nI set)), some (.int (nI (k + 1))), some (.int (nI lv)), some (.int (nI (mvL V).length)), some (.int a.1.1), some (.int (optI a.1.2)), some (.int (nI i)), a.2.1, a.2.2.1, a.2.2.2])
      (fun i a τ => τ.1 128 = σ.1 128 ∧ (∀ q, q < 170 → τ.1 129 (170 * lv + q) = σ.1 128 q) ∧ a.1 = mostF (fun U => (mostV set k U).1) set V ((mvL V).take i) ∧ (∀ m, a.1.2 = some m → m < 100) ∧ frA lv σ τ)
      (fun i a τ hi hI => by
        obtain ⟨⟨bv, bo⟩, x8, x9, x10⟩ := a
        obtain ⟨i1, i2, i3, i4, i5⟩ := hI
        dsimp only at i3 i4
        have hm : (mvL V)[i]? = some (mvL V)[i] := List.getElem?_eq_getElem hi
        obtain ⟨f, to, em, hf, hto, hok⟩ := mvL_at hm
        rw [em] at hm
        obtain ⟨o1, o2, o3, o4, o5, c, hc, o6, o7⟩ := ok_spec hw.1 hto hok
        obtain ⟨q1, q2, q3⟩ := mvc_eq hto hc
        have hc24 : c < 24 := hw.2.1.1 f (by omega) c (List.mem_of_getLast? hc)
        have hMτ : MC (τ.1 128) 0 V := by rw [i1]; exact hM
        have hby := M_moveBy (key := some i) hMτ hw.1 hw.2.1 (fun j e => by cases e; omega)
        rw [resM_at hm] at hby
        have hby' : S_X11_moveBy [.ref 123, .int (nI i)] τ = some (some (.int (nI (10 * f + to))), τ) := hby
        obtain ⟨g, s1, s2, s3⟩ := M_goesK hMτ hw hf hto hok hc
        obtain ⟨τ1, t1⟩ : ∃ s, s = am_uA τ 128 g := ⟨_, rfl⟩
        rw [← t1] at s1
        have hM1 : MC (τ1.1 128) 0 (moveV V f to c) := by rw [t1, uA_s]; exact s2
        obtain ⟨τ2, r1, r2, r3, -⟩ := ih n (lv + 1) (moveV V f to c) τ1 (by omega) (by omega) (WG_mv hw hf hto hok hc) hM1
        rw [← eE, mostV_mv] at r1
        have hgv := M_gives (σ := τ2) (lv := lv) (by omega)
        have h129 : ∀ q, q < 170 → τ2.1 129 (170 * lv + q) = σ.1 128 q := fun q hq => by
          rw [r3.2.2.2 _ (by omega), t1, uA_n (by omega)]; exact i2 q hq
        have hback : va_cpy (τ2.1 129) (τ2.1 128) (170 * lv) 0 170 = σ.1 128 := by
          refine gv_kp (fun j hj => ?_) h129
          rw [r2, t1, uA_s, s3 j hj, i1]
        rw [hback] at hgv
        obtain ⟨τ3, t3⟩ : ∃ s, s = am_uA τ2 128 (σ.1 128) := ⟨_, rfl⟩
        rw [← t3] at hgv
        have hF3 : frA lv τ τ3 := by
          refine frA_tr ?_ (frA_tr (frA_mono r3 (by omega)) ?_)
          · rw [t1]; exact frA_c lv τ g
          · rw [t3]; exact frA_c lv τ2 _
        have hstep := mostF_s (rec := fun U => (mostV set k U).1) (set := set) (V := V) hm
        rw [q1, q2, q3, ← i3] at hstep
        obtain ⟨v, ev⟩ : ∃ v, v = gY set c to + (mostV set k (moveC V f to c)).1 := ⟨_, rfl⟩
        rw [← ev] at hstep
        have hq10 : nI (10 * f + to) / nI 10 = nI f := by rw [x_div (by omega) (by omega) (by omega)]; congr 1; omega
        have hr10 : 10 * f + to - f * 10 = to := by omega
        have hg : ∀ (B : Nat → am_K), hd_X11_most E B 29 [some (.ref 123), some (.int (nI set)), some (.int (nI (k + 1))), some (.int (nI lv)), some (.int (nI (mvL V).length)), some (.int bv), some (.int (optI bo)), some (.int (nI i)), x8, x9, x10] [] τ = dn_X11_most_91 E B [some (.ref 123), some (.int (nI set)), some (.int (nI (k + 1))), some (.int (nI lv)), some (.int (nI (mvL V).length)), some (.int bv), some (.int (optI bo)), some (.int (nI i)), some (.int (nI (10 * f + to))), some (.int (nI c)), x10] [.int (gY set c to)] τ1 := fun B => by
          by_cases e7 : to = 7
          · subst e7
            cases e : set.testBit (c / 6)
            · simp (disch := omega) only [↓e_X11_most_29, ↓e_X11_most_90, ↓h_X11_most_29, ↓it_s, ↓y_iload, ↓y_lload, ↓y_aload, ↓y_istore, ↓y_lstore, ↓y_astore, ↓y_iinc, ↓y_cI, ↓y_cL, ↓y_bin, ↓y_binL, ↓y_div, ↓y_divL, ↓y_lshl, ↓y_un, ↓y_i2l, ↓y_lneg, ↓y_l2i, ↓y_lcmp, ↓y_dupI, ↓y_dupR, ↓y_dup2, ↓y_pop, ↓y_goto, ↓y_eq0, ↓y_lt0, ↓y_le0, ↓y_eq, ↓y_lt, ↓y_le, ↓y_switch, ↓y_sw0, ↓y_sw1, ↓y_getI, ↓y_getL, ↓y_getR, ↓y_getT, ↓y_putI, ↓y_putZ, ↓y_putL, ↓y_putT, ↓y_iald, ↓y_bald, ↓y_lald, ↓y_aald, ↓y_iast, ↓y_bast, ↓y_last, ↓y_alen, ↓y_iret, ↓y_zret, ↓y_lret, ↓y_vret, ↓y_svI, ↓y_svL, ↓y_svV, ↓y_ivI, ↓y_ivL, ↓y_ivV, ↓y_max, ↓y_min, ↓y_absL, ↓y_cpI, ↓y_cpL, ↓x_n1I, ↓x_n1L, ↓x_n1R, ↓x_n0I, ↓x_n0L, ↓x_n0R, ↓x_s0, ↓x_s1i, ↓x_s1r, ↓x_s1n, ↓x_s2, ↓x_c0, ↓x_c2, ↓x_tk0, ↓x_tk1, ↓x_rcv, x_rI1, x_rL1, x_rV1, x_rIn, x_rLn, x_rVn, x_rIf, x_rLf, x_rVf, x_40, x_41, x_42, x_43, x_44, ↓reduceIte, if_true, if_false, ao_iadd, ao_isub, ao_imul, ao_iand, ao_ior, ao_ishl, ao_ishr, ao_iushr, ao_ladd, ao_lsub, ao_lmul, ao_land, ao_lor, ao_idiv, ao_irem, ao_ldiv, ao_lrem, ao_ineg, ao_i2b, ao_i2s, Nat.reduceAdd, Nat.reduceMul, Nat.reduceSub, Nat.reduceEqDiff, Nat.reduceLeDiff, and_self, true_and, x_lit, x_ofn, x_z0, x_z1, x_inbT, x_ltT, x_ltF, x_leT, x_leF, x_eqF, x_eqT, x_inb, x_lt, x_le, x_eq, x_cl, x_sub, nI_add, pk_mul, x_m1e, x_m1e', x_m1l, x_m1n, x_m1s, Nat.not_lt_zero, x_zb, x_b0, x_b1, decide_eq_false_iff_not, decide_eq_true_eq, Bool.false_eq_true, Bool.true_eq_false, hby', hq10, hr10, s1, M_suitOf, M_rankOf, M_has hset (show c / 6 < 4 by omega), e, b2_f, kd_123, gY, and_false]
            · simp (disch := omega) only [↓e_X11_most_29, ↓e_X11_most_90, ↓h_X11_most_29, ↓it_s, ↓y_iload, ↓y_lload, ↓y_aload, ↓y_istore, ↓y_lstore, ↓y_astore, ↓y_iinc, ↓y_cI, ↓y_cL, ↓y_bin, ↓y_binL, ↓y_div, ↓y_divL, ↓y_lshl, ↓y_un, ↓y_i2l, ↓y_lneg, ↓y_l2i, ↓y_lcmp, ↓y_dupI, ↓y_dupR, ↓y_dup2, ↓y_pop, ↓y_goto, ↓y_eq0, ↓y_lt0, ↓y_le0, ↓y_eq, ↓y_lt, ↓y_le, ↓y_switch, ↓y_sw0, ↓y_sw1, ↓y_getI, ↓y_getL, ↓y_getR, ↓y_getT, ↓y_putI, ↓y_putZ, ↓y_putL, ↓y_putT, ↓y_iald, ↓y_bald, ↓y_lald, ↓y_aald, ↓y_iast, ↓y_bast, ↓y_last, ↓y_alen, ↓y_iret, ↓y_zret, ↓y_lret, ↓y_vret, ↓y_svI, ↓y_svL, ↓y_svV, ↓y_ivI, ↓y_ivL, ↓y_ivV, ↓y_max, ↓y_min, ↓y_absL, ↓y_cpI, ↓y_cpL, ↓x_n1I, ↓x_n1L, ↓x_n1R, ↓x_n0I, ↓x_n0L, ↓x_n0R, ↓x_s0, ↓x_s1i, ↓x_s1r, ↓x_s1n, ↓x_s2, ↓x_c0, ↓x_c2, ↓x_tk0, ↓x_tk1, ↓x_rcv, x_rI1, x_rL1, x_rV1, x_rIn, x_rLn, x_rVn, x_rIf, x_rLf, x_rVf, x_40, x_41, x_42, x_43, x_44, ↓reduceIte, if_true, if_false, ao_iadd, ao_isub, ao_imul, ao_iand, ao_ior, ao_ishl, ao_ishr, ao_iushr, ao_ladd, ao_lsub, ao_lmul, ao_land, ao_lor, ao_idiv, ao_irem, ao_ldiv, ao_lrem, ao_ineg, ao_i2b, ao_i2s, Nat.reduceAdd, Nat.reduceMul, Nat.reduceSub, Nat.reduceEqDiff, Nat.reduceLeDiff, and_self, true_and, x_lit, x_ofn, x_z0, x_z1, x_inbT, x_ltT, x_ltF, x_leT, x_leF, x_eqF, x_eqT, x_inb, x_lt, x_le, x_eq, x_cl, x_sub, nI_add, pk_mul, x_m1e, x_m1e', x_m1l, x_m1n, x_m1s, Nat.not_lt_zero, x_zb, x_b0, x_b1, decide_eq_false_iff_not, decide_eq_true_eq, Bool.false_eq_true, Bool.true_eq_false, hby', hq10, hr10, s1, M_suitOf, M_rankOf, M_has hset (show c / 6 < 4 by omega), e, b2_t, kd_123, gY]
          · simp (disch := omega) only [↓e_X11_most_29, ↓e_X11_most_90, ↓h_X11_most_29, ↓it_s, ↓y_iload, ↓y_lload, ↓y_aload, ↓y_istore, ↓y_lstore, ↓y_astore, ↓y_iinc, ↓y_cI, ↓y_cL, ↓y_bin, ↓y_binL, ↓y_div, ↓y_divL, ↓y_lshl, ↓y_un, ↓y_i2l, ↓y_lneg, ↓y_l2i, ↓y_lcmp, ↓y_dupI, ↓y_dupR, ↓y_dup2, ↓y_pop, ↓y_goto, ↓y_eq0, ↓y_lt0, ↓y_le0, ↓y_eq, ↓y_lt, ↓y_le, ↓y_switch, ↓y_sw0, ↓y_sw1, ↓y_getI, ↓y_getL, ↓y_getR, ↓y_getT, ↓y_putI, ↓y_putZ, ↓y_putL, ↓y_putT, ↓y_iald, ↓y_bald, ↓y_lald, ↓y_aald, ↓y_iast, ↓y_bast, ↓y_last, ↓y_alen, ↓y_iret, ↓y_zret, ↓y_lret, ↓y_vret, ↓y_svI, ↓y_svL, ↓y_svV, ↓y_ivI, ↓y_ivL, ↓y_ivV, ↓y_max, ↓y_min, ↓y_absL, ↓y_cpI, ↓y_cpL, ↓x_n1I, ↓x_n1L, ↓x_n1R, ↓x_n0I, ↓x_n0L, ↓x_n0R, ↓x_s0, ↓x_s1i, ↓x_s1r, ↓x_s1n, ↓x_s2, ↓x_c0, ↓x_c2, ↓x_tk0, ↓x_tk1, ↓x_rcv, x_rI1, x_rL1, x_rV1, x_rIn, x_rLn, x_rVn, x_rIf, x_rLf, x_rVf, x_40, x_41, x_42, x_43, x_44, ↓reduceIte, if_true, if_false, ao_iadd, ao_isub, ao_imul, ao_iand, ao_ior, ao_ishl, ao_ishr, ao_iushr, ao_ladd, ao_lsub, ao_lmul, ao_land, ao_lor, ao_idiv, ao_irem, ao_ldiv, ao_lrem, ao_ineg, ao_i2b, ao_i2s, Nat.reduceAdd, Nat.reduceMul, Nat.reduceSub, Nat.reduceEqDiff, Nat.reduceLeDiff, and_self, true_and, x_lit, x_ofn, x_z0, x_z1, x_inbT, x_ltT, x_ltF, x_leT, x_leF, x_eqF, x_eqT, x_inb, x_lt, x_le, x_eq, x_cl, x_sub, nI_add, pk_mul, x_m1e, x_m1e', x_m1l, x_m1n, x_m1s, Nat.not_lt_zero, x_zb, x_b0, x_b1, decide_eq_false_iff_not, decide_eq_true_eq, Bool.false_eq_true, Bool.true_eq_false, hby', hq10, hr10, s1, e7, kd_123, gY, false_and]
        by_cases hup : bo.isSome = true ∧ v ≤ bv
        · refine ⟨((bv, bo), some (.int (nI (10 * f + to))), some (.int (nI c)), some (.int v)), τ3, ⟨by rw [t3, uA_s], ?_, ?_, i4, frA_tr i5 hF3⟩, rch_1 fun B => ?_⟩
          · intro q hq; rw [t3, uA_n (by omega)]; exact h129 q hq
          · rw [hstep]; unfold pickY; rw [if_pos hup]
          · rw [hg B]
            obtain ⟨m0, em0⟩ := Option.isSome_iff_exists.mp hup.1
            have hm0 := i4 m0 em0
            have hle := hup.2
            have eo : optI bo = nI m0 := by rw [em0]; rfl
            dsimp only
            rw [eo]
            rw [ev] at hle ⊢
            simp (disch := omega) only [↓e_X11_most_91, ↓e_X11_most_137, ↓it_s, ↓y_iload, ↓y_lload, ↓y_aload, ↓y_istore, ↓y_lstore, ↓y_astore, ↓y_iinc, ↓y_cI, ↓y_cL, ↓y_bin, ↓y_binL, ↓y_div, ↓y_divL, ↓y_lshl, ↓y_un, ↓y_i2l, ↓y_lneg, ↓y_l2i, ↓y_lcmp, ↓y_dupI, ↓y_dupR, ↓y_dup2, ↓y_pop, ↓y_goto, ↓y_eq0, ↓y_lt0, ↓y_le0, ↓y_eq, ↓y_lt, ↓y_le, ↓y_switch, ↓y_sw0, ↓y_sw1, ↓y_getI, ↓y_getL, ↓y_getR, ↓y_getT, ↓y_putI, ↓y_putZ, ↓y_putL, ↓y_putT, ↓y_iald, ↓y_bald, ↓y_lald, ↓y_aald, ↓y_iast, ↓y_bast, ↓y_last, ↓y_alen, ↓y_iret, ↓y_zret, ↓y_lret, ↓y_vret, ↓y_svI, ↓y_svL, ↓y_svV, ↓y_ivI, ↓y_ivL, ↓y_ivV, ↓y_max, ↓y_min, ↓y_absL, ↓y_cpI, ↓y_cpL, ↓x_n1I, ↓x_n1L, ↓x_n1R, ↓x_n0I, ↓x_n0L, ↓x_n0R, ↓x_s0, ↓x_s1i, ↓x_s1r, ↓x_s1n, ↓x_s2, ↓x_c0, ↓x_c2, ↓x_tk0, ↓x_tk1, ↓x_rcv, x_rI1, x_rL1, x_rV1, x_rIn, x_rLn, x_rVn, x_rIf, x_rLf, x_rVf, x_40, x_41, x_42, x_43, x_44, ↓reduceIte, if_true, if_false, ao_iadd, ao_isub, ao_imul, ao_iand, ao_ior, ao_ishl, ao_ishr, ao_iushr, ao_ladd, ao_lsub, ao_lmul, ao_land, ao_lor, ao_idiv, ao_irem, ao_ldiv, ao_lrem, ao_ineg, ao_i2b, ao_i2s, Nat.reduceAdd, Nat.reduceMul, Nat.reduceSub, Nat.reduceEqDiff, Nat.reduceLeDiff, and_self, true_and, x_lit, x_ofn, x_z0, x_z1, x_inbT, x_ltT, x_ltF, x_leT, x_leF, x_eqF, x_eqT, x_inb, x_lt, x_le, x_eq, x_cl, x_sub, nI_add, pk_mul, x_m1e, x_m1e', x_m1l, x_m1n, x_m1s, Nat.not_lt_zero, x_zb, x_b0, x_b1, decide_eq_false_iff_not, decide_eq_true_eq, Bool.false_eq_true, Bool.true_eq_false, Nat.add_sub_cancel, r1, hgv, hle, kd_123]
        · refine ⟨((v, some (10 * f + to)), some (.int (nI (10 * f + to))), some (.int (nI c)), some (.int v)), τ3, ⟨by rw [t3, uA_s], ?_, ?_, fun m e => ?_, frA_tr i5 hF3⟩, rch_1 fun B => ?_⟩
          · intro q hq; rw [t3, uA_n (by omega)]; exact h129 q hq
          · rw [hstep]; unfold pickY; rw [if_neg hup]
          · cases e; omega
          · rw [hg B]
            dsimp only
            have eo2 : optI (some (10 * f + to)) = nI (10 * f + to) := rfl
            rw [eo2]
            cases bo with
            | none =>
              have eo : optI none = -nI 1 := rfl
              rw [eo, ev]
              simp (disch := omega) only [↓e_X11_most_91, ↓e_X11_most_129, ↓e_X11_most_137, ↓it_s, ↓y_iload, ↓y_lload, ↓y_aload, ↓y_istore, ↓y_lstore, ↓y_astore, ↓y_iinc, ↓y_cI, ↓y_cL, ↓y_bin, ↓y_binL, ↓y_div, ↓y_divL, ↓y_lshl, ↓y_un, ↓y_i2l, ↓y_lneg, ↓y_l2i, ↓y_lcmp, ↓y_dupI, ↓y_dupR, ↓y_dup2, ↓y_pop, ↓y_goto, ↓y_eq0, ↓y_lt0, ↓y_le0, ↓y_eq, ↓y_lt, ↓y_le, ↓y_switch, ↓y_sw0, ↓y_sw1, ↓y_getI, ↓y_getL, ↓y_getR, ↓y_getT, ↓y_putI, ↓y_putZ, ↓y_putL, ↓y_putT, ↓y_iald, ↓y_bald, ↓y_lald, ↓y_aald, ↓y_iast, ↓y_bast, ↓y_last, ↓y_alen, ↓y_iret, ↓y_zret, ↓y_lret, ↓y_vret, ↓y_svI, ↓y_svL, ↓y_svV, ↓y_ivI, ↓y_ivL, ↓y_ivV, ↓y_max, ↓y_min, ↓y_absL, ↓y_cpI, ↓y_cpL, ↓x_n1I, ↓x_n1L, ↓x_n1R, ↓x_n0I, ↓x_n0L, ↓x_n0R, ↓x_s0, ↓x_s1i, ↓x_s1r, ↓x_s1n, ↓x_s2, ↓x_c0, ↓x_c2, ↓x_tk0, ↓x_tk1, ↓x_rcv, x_rI1, x_rL1, x_rV1, x_rIn, x_rLn, x_rVn, x_rIf, x_rLf, x_rVf, x_40, x_41, x_42, x_43, x_44, ↓reduceIte, if_true, if_false, ao_iadd, ao_isub, ao_imul, ao_iand, ao_ior, ao_ishl, ao_ishr, ao_iushr, ao_ladd, ao_lsub, ao_lmul, ao_land, ao_lor, ao_idiv, ao_irem, ao_ldiv, ao_lrem, ao_ineg, ao_i2b, ao_i2s, Nat.reduceAdd, Nat.reduceMul, Nat.reduceSub, Nat.reduceEqDiff, Nat.reduceLeDiff, and_self, true_and, x_lit, x_ofn, x_z0, x_z1, x_inbT, x_ltT, x_ltF, x_leT, x_leF, x_eqF, x_eqT, x_inb, x_lt, x_le, x_eq, x_cl, x_sub, nI_add, pk_mul, x_m1e, x_m1e', x_m1l, x_m1n, x_m1s, Nat.not_lt_zero, x_zb, x_b0, x_b1, decide_eq_false_iff_not, decide_eq_true_eq, Bool.false_eq_true, Bool.true_eq_false, Nat.add_sub_cancel, r1, hgv, kd_123]
            | some m0 =>
              have hm0 := i4 m0 rfl
              have eo : optI (some m0) = nI m0 := rfl
              have hle : ¬ v ≤ bv := fun e => hup ⟨rfl, e⟩
              rw [eo]
              rw [ev] at hle ⊢
              simp (disch := omega) only [↓e_X11_most_91, ↓e_X11_most_129, ↓e_X11_most_137, ↓it_s, ↓y_iload, ↓y_lload, ↓y_aload, ↓y_istore, ↓y_lstore, ↓y_astore, ↓y_iinc, ↓y_cI, ↓y_cL, ↓y_bin, ↓y_binL, ↓y_div, ↓y_divL, ↓y_lshl, ↓y_un, ↓y_i2l, ↓y_lneg, ↓y_l2i, ↓y_lcmp, ↓y_dupI, ↓y_dupR, ↓y_dup2, ↓y_pop, ↓y_goto, ↓y_eq0, ↓y_lt0, ↓y_le0, ↓y_eq, ↓y_lt, ↓y_le, ↓y_switch, ↓y_sw0, ↓y_sw1, ↓y_getI, ↓y_getL, ↓y_getR, ↓y_getT, ↓y_putI, ↓y_putZ, ↓y_putL, ↓y_putT, ↓y_iald, ↓y_bald, ↓y_lald, ↓y_aald, ↓y_iast, ↓y_bast, ↓y_last, ↓y_alen, ↓y_iret, ↓y_zret, ↓y_lret, ↓y_vret, ↓y_svI, ↓y_svL, ↓y_svV, ↓y_ivI, ↓y_ivL, ↓y_ivV, ↓y_max, ↓y_min, ↓y_absL, ↓y_cpI, ↓y_cpL, ↓x_n1I, ↓x_n1L, ↓x_n1R, ↓x_n0I, ↓x_n0L, ↓x_n0R, ↓x_s0, ↓x_s1i, ↓x_s1r, ↓x_s1n, ↓x_s2, ↓x_c0, ↓x_c2, ↓x_tk0, ↓x_tk1, ↓x_rcv, x_rI1, x_rL1, x_rV1, x_rIn, x_rLn, x_rVn, x_rIf, x_rLf, x_rVf, x_40, x_41, x_42, x_43, x_44, ↓reduceIte, if_true, if_false, ao_iadd, ao_isub, ao_imul, ao_iand, ao_ior, ao_ishl, ao_ishr, ao_iushr, ao_ladd, ao_lsub, ao_lmul, ao_land, ao_lor, ao_idiv, ao_irem, ao_ldiv, ao_lrem, ao_ineg, ao_i2b, ao_i2s, Nat.reduceAdd, Nat.reduceMul, Nat.reduceSub, Nat.reduceEqDiff, Nat.reduceLeDiff, and_self, true_and, x_lit, x_ofn, x_z0, x_z1, x_inbT, x_ltT, x_ltF, x_leT, x_leF, x_eqF, x_eqT, x_inb, x_lt, x_le, x_eq, x_cl, x_sub, nI_add, pk_mul, x_m1e, x_m1e', x_m1l, x_m1n, x_m1s, Nat.not_lt_zero, x_zb, x_b0, x_b1, decide_eq_false_iff_not, decide_eq_true_eq, Bool.false_eq_true, Bool.true_eq_false, Nat.add_sub_cancel, r1, hgv, hle, kd_123])
      (mvL V).length 0 ((nI 0, none), none, none, none) σ1 (by omega) ⟨hc1, ha1, rfl, fun m e => (by cases e), hF1⟩
    dsimp only at b3 b4 hr
    rw [List.take_length] at b3
    have eV : mostV set (k + 1) V = b := by rw [b3]; rfl
    have hent : ∀ r, fin (hd_X11_most E) (1 * (mvL V).length + 0) 29 [some (.ref 123), some (.int (nI set)), some (.int (nI (k + 1))), some (.int (nI lv)), some (.int (nI (mvL V).length)), some (.int (nI 0)), some (.int (optI none)), some (.int (nI 0)), none, none, none] σ1 r → S_X11_most (n + 1) [.ref 123, .int (nI set), .int (nI (k + 1)), .int (nI lv)] σ = r := fun r hf => by
      show F_X11_most (S_X11_most n) _ _ = _
      rw [← eE, ← fin_run hf (by unfold am_fuel; omega)]
      have eo : optI none = -nI 1 := rfl
      rw [eo]
      simp (disch := omega) only [g_X11_most, ↓e_X11_most_0, ↓e_X11_most_8, ↓e_X11_most_13, ↓h_X11_most_29, ↓it_s, ↓y_iload, ↓y_lload, ↓y_aload, ↓y_istore, ↓y_lstore, ↓y_astore, ↓y_iinc, ↓y_cI, ↓y_cL, ↓y_bin, ↓y_binL, ↓y_div, ↓y_divL, ↓y_lshl, ↓y_un, ↓y_i2l, ↓y_lneg, ↓y_l2i, ↓y_lcmp, ↓y_dupI, ↓y_dupR, ↓y_dup2, ↓y_pop, ↓y_goto, ↓y_eq0, ↓y_lt0, ↓y_le0, ↓y_eq, ↓y_lt, ↓y_le, ↓y_switch, ↓y_sw0, ↓y_sw1, ↓y_getI, ↓y_getL, ↓y_getR, ↓y_getT, ↓y_putI, ↓y_putZ, ↓y_putL, ↓y_putT, ↓y_iald, ↓y_bald, ↓y_lald, ↓y_aald, ↓y_iast, ↓y_bast, ↓y_last, ↓y_alen, ↓y_iret, ↓y_zret, ↓y_lret, ↓y_vret, ↓y_svI, ↓y_svL, ↓y_svV, ↓y_ivI, ↓y_ivL, ↓y_ivV, ↓y_max, ↓y_min, ↓y_absL, ↓y_cpI, ↓y_cpL, ↓x_n1I, ↓x_n1L, ↓x_n1R, ↓x_n0I, ↓x_n0L, ↓x_n0R, ↓x_s0, ↓x_s1i, ↓x_s1r, ↓x_s1n, ↓x_s2, ↓x_c0, ↓x_c2, ↓x_tk0, ↓x_tk1, ↓x_rcv, x_rI1, x_rL1, x_rV1, x_rIn, x_rLn, x_rVn, x_rIf, x_rLf, x_rVf, x_40, x_41, x_42, x_43, x_44, ↓reduceIte, if_true, if_false, ao_iadd, ao_isub, ao_imul, ao_iand, ao_ior, ao_ishl, ao_ishr, ao_iushr, ao_ladd, ao_lsub, ao_lmul, ao_land, ao_lor, ao_idiv, ao_irem, ao_ldiv, ao_lrem, ao_ineg, ao_i2b, ao_i2s, Nat.reduceAdd, Nat.reduceMul, Nat.reduceSub, Nat.reduceEqDiff, Nat.reduceLeDiff, and_self, true_and, x_lit, x_ofn, x_z0, x_z1, x_inbT, x_ltT, x_ltF, x_leT, x_leF, x_eqF, x_eqT, x_inb, x_lt, x_le, x_eq, x_cl, x_sub, nI_add, pk_mul, x_m1e, x_m1e', x_m1l, x_m1n, x_m1s, Nat.not_lt_zero, x_zb, x_b0, x_b1, decide_eq_false_iff_not, decide_eq_true_eq, Bool.false_eq_true, Bool.true_eq_false, hmany', hkp, kd_123]
    by_cases h0 : lv = 0
    · subst h0
      refine ⟨am_uI σ3 123 35 (optI b.2), ?_, by rw [uI_n (by omega)]; exact b1, frA_tr b5 ⟨rfl, fun j p q r => uI_n p, fun i hi => by rw [uI_s, up_n hi], fun i hi => by omega⟩, fun _ => by rw [uI_s, up_s, eV]⟩
      rw [eV]
      exact hent _ (rch_fin hr (fin_0 (r := some (some (.int b.1), am_uI σ3 123 35 (optI b.2))) fun B => by
        simp (disch := omega) only [↓e_X11_most_29, ↓e_X11_most_143, ↓e_X11_most_153, ↓h_X11_most_29, ↓it_s, ↓y_iload, ↓y_lload, ↓y_aload, ↓y_istore, ↓y_lstore, ↓y_astore, ↓y_iinc, ↓y_cI, ↓y_cL, ↓y_bin, ↓y_binL, ↓y_div, ↓y_divL, ↓y_lshl, ↓y_un, ↓y_i2l, ↓y_lneg, ↓y_l2i, ↓y_lcmp, ↓y_dupI, ↓y_dupR, ↓y_dup2, ↓y_pop, ↓y_goto, ↓y_eq0, ↓y_lt0, ↓y_le0, ↓y_eq, ↓y_lt, ↓y_le, ↓y_switch, ↓y_sw0, ↓y_sw1, ↓y_getI, ↓y_getL, ↓y_getR, ↓y_getT, ↓y_putI, ↓y_putZ, ↓y_putL, ↓y_putT, ↓y_iald, ↓y_bald, ↓y_lald, ↓y_aald, ↓y_iast, ↓y_bast, ↓y_last, ↓y_alen, ↓y_iret, ↓y_zret, ↓y_lret, ↓y_vret, ↓y_svI, ↓y_svL, ↓y_svV, ↓y_ivI, ↓y_ivL, ↓y_ivV, ↓y_max, ↓y_min, ↓y_absL, ↓y_cpI, ↓y_cpL, ↓x_n1I, ↓x_n1L, ↓x_n1R, ↓x_n0I, ↓x_n0L, ↓x_n0R, ↓x_s0, ↓x_s1i, ↓x_s1r, ↓x_s1n, ↓x_s2, ↓x_c0, ↓x_c2, ↓x_tk0, ↓x_tk1, ↓x_rcv, x_rI1, x_rL1, x_rV1, x_rIn, x_rLn, x_rVn, x_rIf, x_rLf, x_rVf, x_40, x_41, x_42, x_43, x_44, ↓reduceIte, if_true, if_false, ao_iadd, ao_isub, ao_imul, ao_iand, ao_ior, ao_ishl, ao_ishr, ao_iushr, ao_ladd, ao_lsub, ao_lmul, ao_land, ao_lor, ao_idiv, ao_irem, ao_ldiv, ao_lrem, ao_ineg, ao_i2b, ao_i2s, Nat.reduceAdd, Nat.reduceMul, Nat.reduceSub, Nat.reduceEqDiff, Nat.reduceLeDiff, and_self, true_and, x_lit, x_ofn, x_z0, x_z1, x_inbT, x_ltT, x_ltF, x_leT, x_leF, x_eqF, x_eqT, x_inb, x_lt, x_le, x_eq, x_cl, x_sub, nI_add, pk_mul, x_m1e, x_m1e', x_m1l, x_m1n, x_m1s, Nat.not_lt_zero, x_zb, x_b0, x_b1, decide_eq_false_iff_not, decide_eq_true_eq, Bool.false_eq_true, Bool.true_eq_false, kd_123]))
    · refine ⟨σ3, ?_, b1, b5, fun h => absurd h h0⟩
      rw [eV]
      exact hent _ (rch_fin hr (fin_0 (r := some (some (.int b.1), σ3)) fun B => by
        simp (disch := omega) only [↓e_X11_most_29, ↓e_X11_most_143, ↓e_X11_most_153, ↓h_X11_most_29, ↓it_s, ↓y_iload, ↓y_lload, ↓y_aload, ↓y_istore, ↓y_lstore, ↓y_astore, ↓y_iinc, ↓y_cI, ↓y_cL, ↓y_bin, ↓y_binL, ↓y_div, ↓y_divL, ↓y_lshl, ↓y_un, ↓y_i2l, ↓y_lneg, ↓y_l2i, ↓y_lcmp, ↓y_dupI, ↓y_dupR, ↓y_dup2, ↓y_pop, ↓y_goto, ↓y_eq0, ↓y_lt0, ↓y_le0, ↓y_eq, ↓y_lt, ↓y_le, ↓y_switch, ↓y_sw0, ↓y_sw1, ↓y_getI, ↓y_getL, ↓y_getR, ↓y_getT, ↓y_putI, ↓y_putZ, ↓y_putL, ↓y_putT, ↓y_iald, ↓y_bald, ↓y_lald, ↓y_aald, ↓y_iast, ↓y_bast, ↓y_last, ↓y_alen, ↓y_iret, ↓y_zret, ↓y_lret, ↓y_vret, ↓y_svI, ↓y_svL, ↓y_svV, ↓y_ivI, ↓y_ivL, ↓y_ivV, ↓y_max, ↓y_min, ↓y_absL, ↓y_cpI, ↓y_cpL, ↓x_n1I, ↓x_n1L, ↓x_n1R, ↓x_n0I, ↓x_n0L, ↓x_n0R, ↓x_s0, ↓x_s1i, ↓x_s1r, ↓x_s1n, ↓x_s2, ↓x_c0, ↓x_c2, ↓x_tk0, ↓x_tk1, ↓x_rcv, x_rI1, x_rL1, x_rV1, x_rIn, x_rLn, x_rVn, x_rIf, x_rLf, x_rVf, x_40, x_41, x_42, x_43, x_44, ↓reduceIte, if_true, if_false, ao_iadd, ao_isub, ao_imul, ao_iand, ao_ior, ao_ishl, ao_ishr, ao_iushr, ao_ladd, ao_lsub, ao_lmul, ao_land, ao_lor, ao_idiv, ao_irem, ao_ldiv, ao_lrem, ao_ineg, ao_i2b, ao_i2s, Nat.reduceAdd, Nat.reduceMul, Nat.reduceSub, Nat.reduceEqDiff, Nat.reduceLeDiff, and_self, true_and, x_lit, x_ofn, x_z0, x_z1, x_inbT, x_ltT, x_ltF, x_leT, x_leF, x_eqF, x_eqT, x_inb, x_lt, x_le, x_eq, x_cl, x_sub, nI_add, pk_mul, x_m1e, x_m1e', x_m1l, x_m1n, x_m1s, Nat.not_lt_zero, x_zb, x_b0, x_b1, decide_eq_false_iff_not, decide_eq_true_eq, Bool.false_eq_true, Bool.true_eq_false, kd_123]))
