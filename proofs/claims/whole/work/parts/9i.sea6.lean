/-! the seasons' text: a line whole -/
def SS (t : Nat → Nat) (e : Nat) (σx σm : am_M) (Ns Nf : List (List Nat)) (k l d a : Nat) : Prop := (TX σx t e ∧ TM σm t e ∧ TokM t e a σm ∧ σx.1 3 3 = nI a ∧ σm.1 123 12 = nI 0 ∧ a ≤ e) ∧ (σx.1 34 1 = nI l ∧ σx.1 34 2 = nI k ∧ σm.1 123 28 = nI k ∧ k ≤ 30 ∧ l + d ≤ 2 * k ∧ σx.1 7 1 = nI d ∧ d ≤ 3) ∧ EN σx σm Ns Nf
def LineR (nf : Nat) (blk : Bool) (g f : Nat → Int32) (l k : Nat) : Prop := if blk = true then ((∃ n, 1 ≤ n ∧ n ≤ 99 ∧ g (l * 6 + 0) = nI 20 ∧ f (9 * k + 0) = nI 6 ∧ g (l * 6 + 1) = nI n ∧ f (9 * k + 1) = nI n) ∨ (g (l * 6 + 0) = nI 17 ∧ f (9 * k + 0) = nI 5 ∧ TestR nf g f l k)) else (BasR g f l k ∨ (g (l * 6 + 0) = nI 22 ∧ f (9 * k + 0) = nI 7))
theorem P_line {t : Nat → Nat} {e a k l d wd kind : Nat} {blk : Bool} {σx σ1 σm : am_M} {Ns Nf : List (List Nat)} {E : am_F} (hS : SS t e σx σm Ns Nf k l d a) (hst : isSt wd kind blk) (htw : twi t e a = some wd) (hk30 : k < 30) (hd3 : blk = true → d < 3) (h1X : TokX t e a σ1) (h1R : fR σx σ1) :
    Bad (S_X5_takeStep [.ref 7, .ref 3, .ref 9, .ref 34] σ1) (F_X11_readStep E [.ref 123, .int (nI d)] σm) d l k σx σm ∨
    ∃ τx τm b, S_X5_takeStep [.ref 7, .ref 3, .ref 9, .ref 34] σ1 = some (some (.int (nI 1)), τx) ∧ F_X11_readStep E [.ref 123, .int (nI d)] σm = hd_X11_readStep E (am_it (hd_X11_readStep E) am_fuel) 141 [some (.ref 123), some (.int (nI d)), some (.int (nI kind)), some (.int (nI (b2 blk))), some (.int (nI (1940 + 9 * k)))] [] τm ∧ SS t e τx τm Ns Nf (k + 1) (l + 1) (if blk = true then d + 1 else d) b ∧ a < b ∧ LineR Nf.length blk (τx.1 35) (fun j => τm.1 128 (1940 + j)) l k ∧ (blk = true → τx.1 8 d = nI l) ∧ fX2 d l σx τx ∧ fM2 k σm τm ∧ τx.1 3 10 = σx.1 3 10 ∧ τx.1 3 11 = σx.1 3 11 := by
  obtain ⟨⟨c1, c2, c3, c4, c5, c6⟩, ⟨d1, d2, d3, d4, d5, d6, d7⟩, hE⟩ := hS
  have hl : l < 60 := by omega
  have tl := tq_le (t := t) c6
  have tl2 := tp_le (t := t) c6
  have hgt : a < tq t e a := tq_gt c6 (by
    intro z
    rw [tw_none (by omega)] at htw
    cases htw)
  have hd4 := d7
  have f34 : σ1.1 34 = σx.1 34 := (h1R.1 34 (by omega)).1
  have f7 : σ1.1 7 = σx.1 7 := (h1R.1 7 (by omega)).1
  have h9 : σ1.1 3 9 = nI wd := by rw [h1X.2.2.2.1, htw]; rfl
  have hxh := X_stepHead hst h9 (by rw [f34]; exact d2) (by rw [f34]; exact d1) (by rw [f7]; exact d6) hk30 hl hd3 d7
  obtain ⟨τ, t1, t2, t3⟩ := M_stepHead (E := E) hst c2 c6 c3 c5 htw d3 hk30 hd3 d7
  obtain ⟨A, eA⟩ : ∃ A, A = A3 σ1 k l d wd blk := ⟨_, rfl⟩
  obtain ⟨B, eB⟩ : ∃ B, B = am_uI τ 128 (1940 + 9 * k) (nI kind) := ⟨_, rfl⟩
  rw [← eA] at hxh
  rw [← eB] at t3
  -- A
  have Ao : ∀ j, j ≠ 7 → j ≠ 8 → j ≠ 34 → j ≠ 35 → A.1 j = σ1.1 j := fun j p q r s => by
    rw [eA]; unfold A3 A2
    cases blk
    · simp only [Bool.false_eq_true, if_false]; rw [uI_n s, uI_n r, uI_n r]
    · simp only [if_true]; rw [uI_n p, uI_n q, uI_n s, uI_n r, uI_n r]
  have A2' : A.2 = σ1.2 := by
    rw [eA]; unfold A3 A2
    cases blk <;> rfl
  have A34 : A.1 34 1 = nI (l + 1) ∧ A.1 34 2 = nI (k + 1) ∧ A.1 34 3 = σx.1 34 3 := by
    rw [eA]; unfold A3 A2
    cases blk <;> simp (disch := omega) only [Bool.false_eq_true, if_false, if_true, uI_n, uI_s, up_s, up_n, f34, and_self]
  have A35 : A.1 35 (l * 6 + 0) = nI wd ∧ ∀ i, i ≠ l * 6 → A.1 35 i = σx.1 35 i := by
    have f35 : σ1.1 35 = σx.1 35 := (h1R.1 35 (by omega)).1
    rw [eA]; unfold A3 A2
    cases blk
    · refine ⟨by simp (disch := omega) only [Bool.false_eq_true, if_false, uI_n, uI_s, up_s], fun i hi => ?_⟩
      simp only [Bool.false_eq_true, if_false]; rw [uI_s, up_n (by omega), uI_n (by omega), uI_n (by omega), f35]
    · refine ⟨by simp (disch := omega) only [if_true, uI_n, uI_s, up_s], fun i hi => ?_⟩
      simp only [if_true]; rw [uI_n (by omega), uI_n (by omega), uI_s, up_n (by omega), uI_n (by omega), uI_n (by omega), f35]
  have A8 : ∀ i, i < d → A.1 8 i = σx.1 8 i := fun i hi => by
    have f8 : σ1.1 8 = σx.1 8 := (h1R.1 8 (by omega)).1
    rw [eA]; unfold A3 A2
    cases blk
    · simp only [Bool.false_eq_true, if_false]; rw [uI_n (by omega), uI_n (by omega), uI_n (by omega), f8]
    · simp only [if_true]; rw [uI_n (by omega), uI_s, up_n (by omega), uI_n (by omega), uI_n (by omega), uI_n (by omega), f8]
  have A7 : A.1 7 1 = nI (if blk = true then d + 1 else d) ∧ (blk = true → A.1 8 d = nI l) := by
    rw [eA]; unfold A3 A2
    cases blk
    · exact ⟨by simp only [Bool.false_eq_true, if_false]; rw [uI_n (by omega), uI_n (by omega), uI_n (by omega), f7]; exact d6, fun z => by cases z⟩
    · exact ⟨by simp only [if_true]; rw [uI_s, up_s], fun _ => by simp only [if_true]; rw [uI_n (by omega), uI_s, up_s]⟩
  have hXA : TX A t e := by
    obtain ⟨i1, i2, i3, i4, i5, i6⟩ := TX_fr c1 h1R
    exact ⟨by rw [Ao 3 (by omega) (by omega) (by omega) (by omega)]; exact i1, by rw [Ao 3 (by omega) (by omega) (by omega) (by omega)]; exact i2, i3, i4, fun j hj => by rw [Ao 2 (by omega) (by omega) (by omega) (by omega)]; exact i5 j hj, fun i hi => by rw [A2']; exact i6 i hi⟩
  have hA3 : A.1 3 3 = nI (tq t e a) := by rw [Ao 3 (by omega) (by omega) (by omega) (by omega)]; exact h1X.1
  have hA10 : A.1 3 10 = σx.1 3 10 := by rw [Ao 3 (by omega) (by omega) (by omega) (by omega), h1R.2 10 (by omega)]
  have hA11 : A.1 3 11 = σx.1 3 11 := by rw [Ao 3 (by omega) (by omega) (by omega) (by omega), h1R.2 11 (by omega)]
  have fxA : fX2 d l σx A := ⟨fun j p => by rw [A2', (h1R.1 j p).2], fun j p q r s u => by rw [Ao j q r s u, (h1R.1 j p).1], fun i p => by rw [Ao 3 (by omega) (by omega) (by omega) (by omega), h1R.2 i (by omega)], A34.2.2, A8, fun i p => A35.2 i (by omega)⟩
  -- B
  have s28 : ∀ i, i ≠ 28 → (am_uI σm 123 28 (nI (k + 1))).1 123 i = σm.1 123 i := fun i p => by rw [uI_s, up_n p]
  have so : ∀ j, j ≠ 123 → (am_uI σm 123 28 (nI (k + 1))).1 j = σm.1 j := fun j p => uI_n p
  have fmB : fM2 k σm B := ⟨fun j p q => by rw [eB, uI_n q, (t2.1 j p).1, so j p], fun j p => by rw [eB]; show τ.2 j = σm.2 j; rw [(t2.1 j p).2]; rfl, fun i p q => by rw [eB, uI_n (by omega), t2.2.1 i (by omega), s28 i q], fun i p => by rw [eB]; show τ.2 123 i = σm.2 123 i; rw [t2.2.2 i p]; rfl, fun i p => by rw [eB, uI_s, up_n (by omega), (t2.1 128 (by omega)).1, so 128 (by omega)]⟩
  have hMB : TM B t e := by
    rw [eB]
    exact TM_uo (TM_fr (TM_uI c2 (show 28 ≠ 9 by omega)) t2) (by omega) (by omega)
  have hkB : TokM t e (tq t e a) B := by rw [eB]; exact TokM_uo t1 (by omega)
  have h12B : B.1 123 12 = nI 0 := by rw [eB, uI_n (by omega), t2.2.1 12 (by omega), s28 12 (by omega)]; exact c5
  have hwB : B.1 128 (1940 + 9 * k) = nI kind := by rw [eB, uI_s, up_s]
  have h28B : B.1 123 28 = nI (k + 1) := by rw [eB, uI_n (by omega), t2.2.1 28 (by omega), uI_s, up_s]
  have hEB : EN A B Ns Nf := EN_cg hE (by rw [Ao 10 (by omega) (by omega) (by omega) (by omega), (h1R.1 10 (by omega)).1]) (by rw [Ao 9 (by omega) (by omega) (by omega) (by omega), (h1R.1 9 (by omega)).1]) (by rw [A2', (h1R.1 19 (by omega)).2]) (by rw [A2', (h1R.1 20 (by omega)).2]) (fmB.2.2.2.2 1 (by omega)) (fmB.2.2.2.2 5 (by omega)) (fmB.2.1 131 (by omega))
  -- from the rest's outcome to the line's
  have wrap : ∀ (Q : (Nat → Int32) → (Nat → Int32) → Prop) (rx : Option am_R), RO t e l k (tq t e a) Q A B rx (S_X11_readRest [.ref 123, .int (nI (1940 + 9 * k))] B) → (∀ g τ, rx = some (some (.int g), τ) → S_X5_takeStep [.ref 7, .ref 3, .ref 9, .ref 34] σ1 = dn_X5_takeStep_237 [some (.ref 7), some (.ref 3), some (.ref 9), some (.ref 34), some (.int (nI wd)), some (.int (nI (b2 blk))), some (.int (nI l)), some (.int g)] [] τ) → (∀ g f : Nat → Int32, g (l * 6 + 0) = nI wd → f (9 * k + 0) = nI kind → Q g f → LineR Nf.length blk g f l k) → Bad (S_X5_takeStep [.ref 7, .ref 3, .ref 9, .ref 34] σ1) (F_X11_readStep E [.ref 123, .int (nI d)] σm) d l k σx σm ∨
    ∃ τx τm b, S_X5_takeStep [.ref 7, .ref 3, .ref 9, .ref 34] σ1 = some (some (.int (nI 1)), τx) ∧ F_X11_readStep E [.ref 123, .int (nI d)] σm = hd_X11_readStep E (am_it (hd_X11_readStep E) am_fuel) 141 [some (.ref 123), some (.int (nI d)), some (.int (nI kind)), some (.int (nI (b2 blk))), some (.int (nI (1940 + 9 * k)))] [] τm ∧ SS t e τx τm Ns Nf (k + 1) (l + 1) (if blk = true then d + 1 else d) b ∧ a < b ∧ LineR Nf.length blk (τx.1 35) (fun j => τm.1 128 (1940 + j)) l k ∧ (blk = true → τx.1 8 d = nI l) ∧ fX2 d l σx τx ∧ fM2 k σm τm ∧ τx.1 3 10 = σx.1 3 10 ∧ τx.1 3 11 = σx.1 3 11 := fun Q rx hro hx hq => by
    rcases P_fin (d0 := d) hXA hMB hk30 h28B hro hx t3 with ⟨τx, τm, q, p, r1, r2, r3, r4, r5, r6, r7, r8, r9, r10⟩ | ⟨τx, τm, b, r1, r2, r3, r4, r5, r6, r7, r8, r9, r10, r11, r12⟩
    · exact Or.inl ⟨τx, τm, q, p, r1, r2, r3, r4, r5, r6, r7, r8, fX2_tr fxA r9 (Nat.le_refl _) (Nat.le_refl _), fM2_tr fmB r10 (Nat.le_refl _)⟩
    · refine Or.inr ⟨τx, τm, b, r1, r2, ⟨⟨TX_g hXA r11, TM_g hMB r12, r6, r3, r7, r9⟩, ⟨by rw [r11.2.1 34 (by omega) (by omega)]; exact A34.1, by rw [r11.2.1 34 (by omega) (by omega)]; exact A34.2.1, by rw [r12.2.2.1 28 (by omega)]; exact h28B, by omega, ?_, by rw [r11.2.1 7 (by omega) (by omega)]; exact A7.1, ?_⟩, EN_g hEB r11 r12⟩, by omega, hq _ _ (by rw [r11.2.2.2 _ (by omega)]; exact A35.1) (by show τm.1 128 (1940 + (9 * k + 0)) = _; rw [show 1940 + (9 * k + 0) = 1940 + 9 * k by omega, r12.2.2.2.2 _ (by omega)]; exact hwB) r10, fun z => by rw [r11.2.1 8 (by omega) (by omega)]; exact A7.2 z, fX2_tr fxA (fX2_g r11) (Nat.le_refl _) (Nat.le_refl _), fM2_tr fmB (fM2_g r12) (Nat.le_refl _), by rw [r4, hA10], by rw [r5, hA11]⟩
      · split <;> omega
      · split
        · rename_i z; have := hd3 z; omega
        · omega
  rcases hst with ⟨rfl, rfl, rfl⟩ | ⟨rfl, rfl, rfl⟩ | ⟨rfl, rfl, rfl⟩ | ⟨rfl, rfl, rfl⟩ | ⟨rfl, rfl, rfl⟩ | ⟨rfl, rfl, rfl⟩ | ⟨rfl, rfl, rfl⟩ | ⟨rfl, rfl, rfl⟩
  · refine wrap _ _ (P_number (mx := 20) hXA hMB hA3 hkB h12B (by omega) hl hk30 hwB (Or.inl ⟨rfl, rfl⟩)) (fun g τ hg => ?_) (fun g f h1 h2 ⟨n, q1, q2, q3, q4⟩ => Or.inl (Or.inl ⟨n, q1, q2, h1, h2, q3, q4⟩))
    rw [hxh]
    simp (disch := omega) only [↓e_X5_takeStep_128, ↓e_X5_takeStep_184, ↓it_s, ↓y_iload, ↓y_lload, ↓y_aload, ↓y_istore, ↓y_lstore, ↓y_astore, ↓y_iinc, ↓y_cI, ↓y_cL, ↓y_bin, ↓y_binL, ↓y_div, ↓y_divL, ↓y_lshl, ↓y_un, ↓y_i2l, ↓y_lneg, ↓y_l2i, ↓y_lcmp, ↓y_dupI, ↓y_dupR, ↓y_dup2, ↓y_pop, ↓y_goto, ↓y_eq0, ↓y_lt0, ↓y_le0, ↓y_eq, ↓y_lt, ↓y_le, ↓y_switch, ↓y_sw0, ↓y_sw1, ↓y_getI, ↓y_getL, ↓y_getR, ↓y_getT, ↓y_putI, ↓y_putZ, ↓y_putL, ↓y_putT, ↓y_iald, ↓y_bald, ↓y_lald, ↓y_aald, ↓y_iast, ↓y_bast, ↓y_last, ↓y_alen, ↓y_iret, ↓y_zret, ↓y_lret, ↓y_vret, ↓y_svI, ↓y_svL, ↓y_svV, ↓y_ivI, ↓y_ivL, ↓y_ivV, ↓y_max, ↓y_min, ↓y_absL, ↓y_cpI, ↓y_cpL, ↓x_n1I, ↓x_n1L, ↓x_n1R, ↓x_n0I, ↓x_n0L, ↓x_n0R, ↓x_s0, ↓x_s1i, ↓x_s1r, ↓x_s1n, ↓x_s2, ↓x_c0, ↓x_c2, ↓x_tk0, ↓x_tk1, ↓x_rcv, x_rI1, x_rL1, x_rV1, x_rIn, x_rLn, x_rVn, x_rIf, x_rLf, x_rVf, x_40, x_41, x_42, x_43, x_44, ↓reduceIte, if_true, if_false, ao_iadd, ao_isub, ao_imul, ao_iand, ao_ior, ao_ishl, ao_ishr, ao_iushr, ao_ladd, ao_lsub, ao_lmul, ao_land, ao_lor, ao_idiv, ao_irem, ao_ldiv, ao_lrem, ao_ineg, ao_i2b, ao_i2s, Nat.reduceAdd, Nat.reduceMul, Nat.reduceSub, Nat.reduceEqDiff, Nat.reduceLeDiff, and_self, true_and, x_lit, x_ofn, x_z0, x_z1, x_inbT, x_ltT, x_ltF, x_leT, x_leF, x_eqF, x_eqT, x_inb, x_lt, x_le, x_eq, x_cl, x_sub, nI_add, pk_mul, x_m1e, x_m1e', x_m1l, x_m1n, x_m1s, Nat.not_lt_zero, x_zb, x_b0, x_b1, decide_eq_false_iff_not, decide_eq_true_eq, Bool.false_eq_true, Bool.true_eq_false, hg, b2_f]
  · refine wrap _ _ (P_places hXA hMB hA3 hkB h12B (by omega) hl hk30 hwB) (fun g τ hg => ?_) (fun g f h1 h2 ⟨x, y, q1, q2, q3, q4, q5, q6⟩ => Or.inl (Or.inr (Or.inl ⟨x, y, q1, q2, h1, h2, q3, q4, q5, q6⟩)))
    rw [hxh]
    simp (disch := omega) only [↓e_X5_takeStep_128, ↓e_X5_takeStep_212, ↓it_s, ↓y_iload, ↓y_lload, ↓y_aload, ↓y_istore, ↓y_lstore, ↓y_astore, ↓y_iinc, ↓y_cI, ↓y_cL, ↓y_bin, ↓y_binL, ↓y_div, ↓y_divL, ↓y_lshl, ↓y_un, ↓y_i2l, ↓y_lneg, ↓y_l2i, ↓y_lcmp, ↓y_dupI, ↓y_dupR, ↓y_dup2, ↓y_pop, ↓y_goto, ↓y_eq0, ↓y_lt0, ↓y_le0, ↓y_eq, ↓y_lt, ↓y_le, ↓y_switch, ↓y_sw0, ↓y_sw1, ↓y_getI, ↓y_getL, ↓y_getR, ↓y_getT, ↓y_putI, ↓y_putZ, ↓y_putL, ↓y_putT, ↓y_iald, ↓y_bald, ↓y_lald, ↓y_aald, ↓y_iast, ↓y_bast, ↓y_last, ↓y_alen, ↓y_iret, ↓y_zret, ↓y_lret, ↓y_vret, ↓y_svI, ↓y_svL, ↓y_svV, ↓y_ivI, ↓y_ivL, ↓y_ivV, ↓y_max, ↓y_min, ↓y_absL, ↓y_cpI, ↓y_cpL, ↓x_n1I, ↓x_n1L, ↓x_n1R, ↓x_n0I, ↓x_n0L, ↓x_n0R, ↓x_s0, ↓x_s1i, ↓x_s1r, ↓x_s1n, ↓x_s2, ↓x_c0, ↓x_c2, ↓x_tk0, ↓x_tk1, ↓x_rcv, x_rI1, x_rL1, x_rV1, x_rIn, x_rLn, x_rVn, x_rIf, x_rLf, x_rVf, x_40, x_41, x_42, x_43, x_44, ↓reduceIte, if_true, if_false, ao_iadd, ao_isub, ao_imul, ao_iand, ao_ior, ao_ishl, ao_ishr, ao_iushr, ao_ladd, ao_lsub, ao_lmul, ao_land, ao_lor, ao_idiv, ao_irem, ao_ldiv, ao_lrem, ao_ineg, ao_i2b, ao_i2s, Nat.reduceAdd, Nat.reduceMul, Nat.reduceSub, Nat.reduceEqDiff, Nat.reduceLeDiff, and_self, true_and, x_lit, x_ofn, x_z0, x_z1, x_inbT, x_ltT, x_ltF, x_leT, x_leF, x_eqF, x_eqT, x_inb, x_lt, x_le, x_eq, x_cl, x_sub, nI_add, pk_mul, x_m1e, x_m1e', x_m1l, x_m1n, x_m1s, Nat.not_lt_zero, x_zb, x_b0, x_b1, decide_eq_false_iff_not, decide_eq_true_eq, Bool.false_eq_true, Bool.true_eq_false, hg, b2_f]
  · refine wrap _ _ (P_bare hA3 hkB h12B (by omega) hk30 hwB (by omega)) (fun g τ hg => ?_) (fun g f h1 h2 _ => Or.inl (Or.inr (Or.inr (Or.inl ⟨h1, h2⟩))))
    rw [hxh]
    simp only [Option.some.injEq, Prod.mk.injEq, Value.int.injEq] at hg
    obtain ⟨hg1, hg2⟩ := hg
    rw [← hg1, ← hg2]
    simp (disch := omega) only [↓e_X5_takeStep_128, ↓it_s, ↓y_iload, ↓y_lload, ↓y_aload, ↓y_istore, ↓y_lstore, ↓y_astore, ↓y_iinc, ↓y_cI, ↓y_cL, ↓y_bin, ↓y_binL, ↓y_div, ↓y_divL, ↓y_lshl, ↓y_un, ↓y_i2l, ↓y_lneg, ↓y_l2i, ↓y_lcmp, ↓y_dupI, ↓y_dupR, ↓y_dup2, ↓y_pop, ↓y_goto, ↓y_eq0, ↓y_lt0, ↓y_le0, ↓y_eq, ↓y_lt, ↓y_le, ↓y_switch, ↓y_sw0, ↓y_sw1, ↓y_getI, ↓y_getL, ↓y_getR, ↓y_getT, ↓y_putI, ↓y_putZ, ↓y_putL, ↓y_putT, ↓y_iald, ↓y_bald, ↓y_lald, ↓y_aald, ↓y_iast, ↓y_bast, ↓y_last, ↓y_alen, ↓y_iret, ↓y_zret, ↓y_lret, ↓y_vret, ↓y_svI, ↓y_svL, ↓y_svV, ↓y_ivI, ↓y_ivL, ↓y_ivV, ↓y_max, ↓y_min, ↓y_absL, ↓y_cpI, ↓y_cpL, ↓x_n1I, ↓x_n1L, ↓x_n1R, ↓x_n0I, ↓x_n0L, ↓x_n0R, ↓x_s0, ↓x_s1i, ↓x_s1r, ↓x_s1n, ↓x_s2, ↓x_c0, ↓x_c2, ↓x_tk0, ↓x_tk1, ↓x_rcv, x_rI1, x_rL1, x_rV1, x_rIn, x_rLn, x_rVn, x_rIf, x_rLf, x_rVf, x_40, x_41, x_42, x_43, x_44, ↓reduceIte, if_true, if_false, ao_iadd, ao_isub, ao_imul, ao_iand, ao_ior, ao_ishl, ao_ishr, ao_iushr, ao_ladd, ao_lsub, ao_lmul, ao_land, ao_lor, ao_idiv, ao_irem, ao_ldiv, ao_lrem, ao_ineg, ao_i2b, ao_i2s, Nat.reduceAdd, Nat.reduceMul, Nat.reduceSub, Nat.reduceEqDiff, Nat.reduceLeDiff, and_self, true_and, x_lit, x_ofn, x_z0, x_z1, x_inbT, x_ltT, x_ltF, x_leT, x_leF, x_eqF, x_eqT, x_inb, x_lt, x_le, x_eq, x_cl, x_sub, nI_add, pk_mul, x_m1e, x_m1e', x_m1l, x_m1n, x_m1s, Nat.not_lt_zero, x_zb, x_b0, x_b1, decide_eq_false_iff_not, decide_eq_true_eq, Bool.false_eq_true, Bool.true_eq_false, b2_f]
  · refine wrap _ _ (P_bare hA3 hkB h12B (by omega) hk30 hwB (by omega)) (fun g τ hg => ?_) (fun g f h1 h2 _ => Or.inl (Or.inr (Or.inr (Or.inr (Or.inl ⟨h1, h2⟩)))))
    rw [hxh]
    simp only [Option.some.injEq, Prod.mk.injEq, Value.int.injEq] at hg
    obtain ⟨hg1, hg2⟩ := hg
    rw [← hg1, ← hg2]
    simp (disch := omega) only [↓e_X5_takeStep_128, ↓it_s, ↓y_iload, ↓y_lload, ↓y_aload, ↓y_istore, ↓y_lstore, ↓y_astore, ↓y_iinc, ↓y_cI, ↓y_cL, ↓y_bin, ↓y_binL, ↓y_div, ↓y_divL, ↓y_lshl, ↓y_un, ↓y_i2l, ↓y_lneg, ↓y_l2i, ↓y_lcmp, ↓y_dupI, ↓y_dupR, ↓y_dup2, ↓y_pop, ↓y_goto, ↓y_eq0, ↓y_lt0, ↓y_le0, ↓y_eq, ↓y_lt, ↓y_le, ↓y_switch, ↓y_sw0, ↓y_sw1, ↓y_getI, ↓y_getL, ↓y_getR, ↓y_getT, ↓y_putI, ↓y_putZ, ↓y_putL, ↓y_putT, ↓y_iald, ↓y_bald, ↓y_lald, ↓y_aald, ↓y_iast, ↓y_bast, ↓y_last, ↓y_alen, ↓y_iret, ↓y_zret, ↓y_lret, ↓y_vret, ↓y_svI, ↓y_svL, ↓y_svV, ↓y_ivI, ↓y_ivL, ↓y_ivV, ↓y_max, ↓y_min, ↓y_absL, ↓y_cpI, ↓y_cpL, ↓x_n1I, ↓x_n1L, ↓x_n1R, ↓x_n0I, ↓x_n0L, ↓x_n0R, ↓x_s0, ↓x_s1i, ↓x_s1r, ↓x_s1n, ↓x_s2, ↓x_c0, ↓x_c2, ↓x_tk0, ↓x_tk1, ↓x_rcv, x_rI1, x_rL1, x_rV1, x_rIn, x_rLn, x_rVn, x_rIf, x_rLf, x_rVf, x_40, x_41, x_42, x_43, x_44, ↓reduceIte, if_true, if_false, ao_iadd, ao_isub, ao_imul, ao_iand, ao_ior, ao_ishl, ao_ishr, ao_iushr, ao_ladd, ao_lsub, ao_lmul, ao_land, ao_lor, ao_idiv, ao_irem, ao_ldiv, ao_lrem, ao_ineg, ao_i2b, ao_i2s, Nat.reduceAdd, Nat.reduceMul, Nat.reduceSub, Nat.reduceEqDiff, Nat.reduceLeDiff, and_self, true_and, x_lit, x_ofn, x_z0, x_z1, x_inbT, x_ltT, x_ltF, x_leT, x_leF, x_eqF, x_eqT, x_inb, x_lt, x_le, x_eq, x_cl, x_sub, nI_add, pk_mul, x_m1e, x_m1e', x_m1l, x_m1n, x_m1s, Nat.not_lt_zero, x_zb, x_b0, x_b1, decide_eq_false_iff_not, decide_eq_true_eq, Bool.false_eq_true, Bool.true_eq_false, b2_f]
  · refine wrap _ _ (P_bare hA3 hkB h12B (by omega) hk30 hwB (by omega)) (fun g τ hg => ?_) (fun g f h1 h2 _ => Or.inl (Or.inr (Or.inr (Or.inr (Or.inr ⟨h1, h2⟩)))))
    rw [hxh]
    simp only [Option.some.injEq, Prod.mk.injEq, Value.int.injEq] at hg
    obtain ⟨hg1, hg2⟩ := hg
    rw [← hg1, ← hg2]
    simp (disch := omega) only [↓e_X5_takeStep_128, ↓it_s, ↓y_iload, ↓y_lload, ↓y_aload, ↓y_istore, ↓y_lstore, ↓y_astore, ↓y_iinc, ↓y_cI, ↓y_cL, ↓y_bin, ↓y_binL, ↓y_div, ↓y_divL, ↓y_lshl, ↓y_un, ↓y_i2l, ↓y_lneg, ↓y_l2i, ↓y_lcmp, ↓y_dupI, ↓y_dupR, ↓y_dup2, ↓y_pop, ↓y_goto, ↓y_eq0, ↓y_lt0, ↓y_le0, ↓y_eq, ↓y_lt, ↓y_le, ↓y_switch, ↓y_sw0, ↓y_sw1, ↓y_getI, ↓y_getL, ↓y_getR, ↓y_getT, ↓y_putI, ↓y_putZ, ↓y_putL, ↓y_putT, ↓y_iald, ↓y_bald, ↓y_lald, ↓y_aald, ↓y_iast, ↓y_bast, ↓y_last, ↓y_alen, ↓y_iret, ↓y_zret, ↓y_lret, ↓y_vret, ↓y_svI, ↓y_svL, ↓y_svV, ↓y_ivI, ↓y_ivL, ↓y_ivV, ↓y_max, ↓y_min, ↓y_absL, ↓y_cpI, ↓y_cpL, ↓x_n1I, ↓x_n1L, ↓x_n1R, ↓x_n0I, ↓x_n0L, ↓x_n0R, ↓x_s0, ↓x_s1i, ↓x_s1r, ↓x_s1n, ↓x_s2, ↓x_c0, ↓x_c2, ↓x_tk0, ↓x_tk1, ↓x_rcv, x_rI1, x_rL1, x_rV1, x_rIn, x_rLn, x_rVn, x_rIf, x_rLf, x_rVf, x_40, x_41, x_42, x_43, x_44, ↓reduceIte, if_true, if_false, ao_iadd, ao_isub, ao_imul, ao_iand, ao_ior, ao_ishl, ao_ishr, ao_iushr, ao_ladd, ao_lsub, ao_lmul, ao_land, ao_lor, ao_idiv, ao_irem, ao_ldiv, ao_lrem, ao_ineg, ao_i2b, ao_i2s, Nat.reduceAdd, Nat.reduceMul, Nat.reduceSub, Nat.reduceEqDiff, Nat.reduceLeDiff, and_self, true_and, x_lit, x_ofn, x_z0, x_z1, x_inbT, x_ltT, x_ltF, x_leT, x_leF, x_eqF, x_eqT, x_inb, x_lt, x_le, x_eq, x_cl, x_sub, nI_add, pk_mul, x_m1e, x_m1e', x_m1l, x_m1n, x_m1s, Nat.not_lt_zero, x_zb, x_b0, x_b1, decide_eq_false_iff_not, decide_eq_true_eq, Bool.false_eq_true, Bool.true_eq_false, b2_f]
  · refine wrap _ _ (P_test hXA hMB hA3 hkB h12B (by omega) hl hk30 hEB hwB) (fun g τ hg => ?_) (fun g f h1 h2 q => Or.inr ⟨h1, h2, q⟩)
    rw [hxh]
    simp (disch := omega) only [↓e_X5_takeStep_128, ↓e_X5_takeStep_224, ↓it_s, ↓y_iload, ↓y_lload, ↓y_aload, ↓y_istore, ↓y_lstore, ↓y_astore, ↓y_iinc, ↓y_cI, ↓y_cL, ↓y_bin, ↓y_binL, ↓y_div, ↓y_divL, ↓y_lshl, ↓y_un, ↓y_i2l, ↓y_lneg, ↓y_l2i, ↓y_lcmp, ↓y_dupI, ↓y_dupR, ↓y_dup2, ↓y_pop, ↓y_goto, ↓y_eq0, ↓y_lt0, ↓y_le0, ↓y_eq, ↓y_lt, ↓y_le, ↓y_switch, ↓y_sw0, ↓y_sw1, ↓y_getI, ↓y_getL, ↓y_getR, ↓y_getT, ↓y_putI, ↓y_putZ, ↓y_putL, ↓y_putT, ↓y_iald, ↓y_bald, ↓y_lald, ↓y_aald, ↓y_iast, ↓y_bast, ↓y_last, ↓y_alen, ↓y_iret, ↓y_zret, ↓y_lret, ↓y_vret, ↓y_svI, ↓y_svL, ↓y_svV, ↓y_ivI, ↓y_ivL, ↓y_ivV, ↓y_max, ↓y_min, ↓y_absL, ↓y_cpI, ↓y_cpL, ↓x_n1I, ↓x_n1L, ↓x_n1R, ↓x_n0I, ↓x_n0L, ↓x_n0R, ↓x_s0, ↓x_s1i, ↓x_s1r, ↓x_s1n, ↓x_s2, ↓x_c0, ↓x_c2, ↓x_tk0, ↓x_tk1, ↓x_rcv, x_rI1, x_rL1, x_rV1, x_rIn, x_rLn, x_rVn, x_rIf, x_rLf, x_rVf, x_40, x_41, x_42, x_43, x_44, ↓reduceIte, if_true, if_false, ao_iadd, ao_isub, ao_imul, ao_iand, ao_ior, ao_ishl, ao_ishr, ao_iushr, ao_ladd, ao_lsub, ao_lmul, ao_land, ao_lor, ao_idiv, ao_irem, ao_ldiv, ao_lrem, ao_ineg, ao_i2b, ao_i2s, Nat.reduceAdd, Nat.reduceMul, Nat.reduceSub, Nat.reduceEqDiff, Nat.reduceLeDiff, and_self, true_and, x_lit, x_ofn, x_z0, x_z1, x_inbT, x_ltT, x_ltF, x_leT, x_leF, x_eqF, x_eqT, x_inb, x_lt, x_le, x_eq, x_cl, x_sub, nI_add, pk_mul, x_m1e, x_m1e', x_m1l, x_m1n, x_m1s, Nat.not_lt_zero, x_zb, x_b0, x_b1, decide_eq_false_iff_not, decide_eq_true_eq, Bool.false_eq_true, Bool.true_eq_false, hg, b2_t]
  · refine wrap _ _ (P_number (mx := 99) hXA hMB hA3 hkB h12B (by omega) hl hk30 hwB (Or.inr ⟨rfl, rfl⟩)) (fun g τ hg => ?_) (fun g f h1 h2 ⟨n, q1, q2, q3, q4⟩ => Or.inl ⟨n, q1, q2, h1, h2, q3, q4⟩)
    rw [hxh]
    simp (disch := omega) only [↓e_X5_takeStep_128, ↓e_X5_takeStep_198, ↓it_s, ↓y_iload, ↓y_lload, ↓y_aload, ↓y_istore, ↓y_lstore, ↓y_astore, ↓y_iinc, ↓y_cI, ↓y_cL, ↓y_bin, ↓y_binL, ↓y_div, ↓y_divL, ↓y_lshl, ↓y_un, ↓y_i2l, ↓y_lneg, ↓y_l2i, ↓y_lcmp, ↓y_dupI, ↓y_dupR, ↓y_dup2, ↓y_pop, ↓y_goto, ↓y_eq0, ↓y_lt0, ↓y_le0, ↓y_eq, ↓y_lt, ↓y_le, ↓y_switch, ↓y_sw0, ↓y_sw1, ↓y_getI, ↓y_getL, ↓y_getR, ↓y_getT, ↓y_putI, ↓y_putZ, ↓y_putL, ↓y_putT, ↓y_iald, ↓y_bald, ↓y_lald, ↓y_aald, ↓y_iast, ↓y_bast, ↓y_last, ↓y_alen, ↓y_iret, ↓y_zret, ↓y_lret, ↓y_vret, ↓y_svI, ↓y_svL, ↓y_svV, ↓y_ivI, ↓y_ivL, ↓y_ivV, ↓y_max, ↓y_min, ↓y_absL, ↓y_cpI, ↓y_cpL, ↓x_n1I, ↓x_n1L, ↓x_n1R, ↓x_n0I, ↓x_n0L, ↓x_n0R, ↓x_s0, ↓x_s1i, ↓x_s1r, ↓x_s1n, ↓x_s2, ↓x_c0, ↓x_c2, ↓x_tk0, ↓x_tk1, ↓x_rcv, x_rI1, x_rL1, x_rV1, x_rIn, x_rLn, x_rVn, x_rIf, x_rLf, x_rVf, x_40, x_41, x_42, x_43, x_44, ↓reduceIte, if_true, if_false, ao_iadd, ao_isub, ao_imul, ao_iand, ao_ior, ao_ishl, ao_ishr, ao_iushr, ao_ladd, ao_lsub, ao_lmul, ao_land, ao_lor, ao_idiv, ao_irem, ao_ldiv, ao_lrem, ao_ineg, ao_i2b, ao_i2s, Nat.reduceAdd, Nat.reduceMul, Nat.reduceSub, Nat.reduceEqDiff, Nat.reduceLeDiff, and_self, true_and, x_lit, x_ofn, x_z0, x_z1, x_inbT, x_ltT, x_ltF, x_leT, x_leF, x_eqF, x_eqT, x_inb, x_lt, x_le, x_eq, x_cl, x_sub, nI_add, pk_mul, x_m1e, x_m1e', x_m1l, x_m1n, x_m1s, Nat.not_lt_zero, x_zb, x_b0, x_b1, decide_eq_false_iff_not, decide_eq_true_eq, Bool.false_eq_true, Bool.true_eq_false, hg, b2_t]
  · refine wrap _ _ (P_bare hA3 hkB h12B (by omega) hk30 hwB (by omega)) (fun g τ hg => ?_) (fun g f h1 h2 _ => Or.inr ⟨h1, h2⟩)
    rw [hxh]
    simp only [Option.some.injEq, Prod.mk.injEq, Value.int.injEq] at hg
    obtain ⟨hg1, hg2⟩ := hg
    rw [← hg1, ← hg2]
    simp (disch := omega) only [↓e_X5_takeStep_128, ↓it_s, ↓y_iload, ↓y_lload, ↓y_aload, ↓y_istore, ↓y_lstore, ↓y_astore, ↓y_iinc, ↓y_cI, ↓y_cL, ↓y_bin, ↓y_binL, ↓y_div, ↓y_divL, ↓y_lshl, ↓y_un, ↓y_i2l, ↓y_lneg, ↓y_l2i, ↓y_lcmp, ↓y_dupI, ↓y_dupR, ↓y_dup2, ↓y_pop, ↓y_goto, ↓y_eq0, ↓y_lt0, ↓y_le0, ↓y_eq, ↓y_lt, ↓y_le, ↓y_switch, ↓y_sw0, ↓y_sw1, ↓y_getI, ↓y_getL, ↓y_getR, ↓y_getT, ↓y_putI, ↓y_putZ, ↓y_putL, ↓y_putT, ↓y_iald, ↓y_bald, ↓y_lald, ↓y_aald, ↓y_iast, ↓y_bast, ↓y_last, ↓y_alen, ↓y_iret, ↓y_zret, ↓y_lret, ↓y_vret, ↓y_svI, ↓y_svL, ↓y_svV, ↓y_ivI, ↓y_ivL, ↓y_ivV, ↓y_max, ↓y_min, ↓y_absL, ↓y_cpI, ↓y_cpL, ↓x_n1I, ↓x_n1L, ↓x_n1R, ↓x_n0I, ↓x_n0L, ↓x_n0R, ↓x_s0, ↓x_s1i, ↓x_s1r, ↓x_s1n, ↓x_s2, ↓x_c0, ↓x_c2, ↓x_tk0, ↓x_tk1, ↓x_rcv, x_rI1, x_rL1, x_rV1, x_rIn, x_rLn, x_rVn, x_rIf, x_rLf, x_rVf, x_40, x_41, x_42, x_43, x_44, ↓reduceIte, if_true, if_false, ao_iadd, ao_isub, ao_imul, ao_iand, ao_ior, ao_ishl, ao_ishr, ao_iushr, ao_ladd, ao_lsub, ao_lmul, ao_land, ao_lor, ao_idiv, ao_irem, ao_ldiv, ao_lrem, ao_ineg, ao_i2b, ao_i2s, Nat.reduceAdd, Nat.reduceMul, Nat.reduceSub, Nat.reduceEqDiff, Nat.reduceLeDiff, and_self, true_and, x_lit, x_ofn, x_z0, x_z1, x_inbT, x_ltT, x_ltF, x_leT, x_leF, x_eqF, x_eqT, x_inb, x_lt, x_le, x_eq, x_cl, x_sub, nI_add, pk_mul, x_m1e, x_m1e', x_m1l, x_m1n, x_m1s, Nat.not_lt_zero, x_zb, x_b0, x_b1, decide_eq_false_iff_not, decide_eq_true_eq, Bool.false_eq_true, Bool.true_eq_false, b2_f]
