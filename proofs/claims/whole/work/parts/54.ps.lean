/-! a valley's text, both sides -/
def fPx (σ τ : am_M) : Prop := ∀ j, j ≠ 3 → j ≠ 6 → (j < 26 ∨ 42 < j) → τ.1 j = σ.1 j ∧ τ.2 j = σ.2 j
def fPm (σ τ : am_M) : Prop := (∀ j, j ≠ 123 → j ≠ 128 → j ≠ 131 → τ.1 j = σ.1 j ∧ τ.2 j = σ.2 j) ∧ (∀ i, (i < 12 ∨ 19 < i) → (i < 25 ∨ 28 < i) → τ.1 123 i = σ.1 123 i) ∧ (∀ i, i ≠ 19 → τ.2 123 i = σ.2 123 i) ∧ (∀ i, i < 1768 → τ.1 128 i = σ.1 128 i) ∧ ∀ i, i < 40 → τ.2 131 i = σ.2 131 i
theorem fPx_rf (σ : am_M) : fPx σ σ := fun _ _ _ _ => ⟨rfl, rfl⟩
theorem fPx_tr {a b c : am_M} (h1 : fPx a b) (h2 : fPx b c) : fPx a c := fun j p q r => ⟨(h2 j p q r).1.trans (h1 j p q r).1, (h2 j p q r).2.trans (h1 j p q r).2⟩
theorem fPx_B {a b : am_M} (h : fB a b) : fPx a b := fun j p q r => h.1 j p
theorem fPx_uI {a b : am_M} {i k : Nat} {v : Int32} (h : fPx a b) (hi : i = 3 ∨ i = 6 ∨ (26 ≤ i ∧ i ≤ 42)) : fPx a (am_uI b i k v) := fun j p q r => ⟨by rw [uI_n (by omega)]; exact (h j p q r).1, (h j p q r).2⟩
theorem fPx_uL {a b : am_M} {i k : Nat} {v : Int64} (h : fPx a b) (hi : i = 3 ∨ i = 6 ∨ (26 ≤ i ∧ i ≤ 42)) : fPx a (am_uL b i k v) := fun j p q r => ⟨(h j p q r).1, by rw [uL_n (by omega)]; exact (h j p q r).2⟩
theorem fPm_rf (σ : am_M) : fPm σ σ := ⟨fun _ _ _ _ => ⟨rfl, rfl⟩, fun _ _ _ => rfl, fun _ _ => rfl, fun _ _ => rfl, fun _ _ => rfl⟩
theorem fPm_tr {a b c : am_M} (h1 : fPm a b) (h2 : fPm b c) : fPm a c := ⟨fun j p q r => ⟨(h2.1 j p q r).1.trans (h1.1 j p q r).1, (h2.1 j p q r).2.trans (h1.1 j p q r).2⟩, fun i p q => (h2.2.1 i p q).trans (h1.2.1 i p q), fun i p => (h2.2.2.1 i p).trans (h1.2.2.1 i p), fun i p => (h2.2.2.2.1 i p).trans (h1.2.2.2.1 i p), fun i p => (h2.2.2.2.2 i p).trans (h1.2.2.2.2 i p)⟩
theorem fPm_T {a b : am_M} (h : fT a b) : fPm a b := ⟨fun j p q r => h.1 j p, fun i p q => h.2.1 i (by omega), h.2.2, fun i p => by rw [(h.1 128 (by omega)).1], fun i p => by rw [(h.1 131 (by omega)).2]⟩
theorem fPm_uI {a b : am_M} {k : Nat} {v : Int32} (h : fPm a b) (hk : (12 ≤ k ∧ k ≤ 19) ∨ (25 ≤ k ∧ k ≤ 28)) : fPm a (am_uI b 123 k v) := ⟨fun j p q r => ⟨by rw [uI_n p]; exact (h.1 j p q r).1, (h.1 j p q r).2⟩, fun i p q => by rw [uI_s, up_n (by omega)]; exact h.2.1 i p q, h.2.2.1, fun i p => by rw [uI_n (by omega)]; exact h.2.2.2.1 i p, h.2.2.2.2⟩
theorem fPm_uc {a b : am_M} {k : Nat} {v : Int32} (h : fPm a b) (hk : 1768 ≤ k) : fPm a (am_uI b 128 k v) := ⟨fun j p q r => ⟨by rw [uI_n q]; exact (h.1 j p q r).1, (h.1 j p q r).2⟩, fun i p q => by rw [uI_n (by omega)]; exact h.2.1 i p q, h.2.2.1, fun i p => by rw [uI_s, up_n (by omega)]; exact h.2.2.2.1 i p, h.2.2.2.2⟩
theorem fPm_uw {a b : am_M} {k : Nat} {v : Int64} (h : fPm a b) (hk : 40 ≤ k) : fPm a (am_uL b 131 k v) := ⟨fun j p q r => ⟨(h.1 j p q r).1, by rw [uL_n r]; exact (h.1 j p q r).2⟩, h.2.1, fun i p => by rw [uL_n (by omega)]; exact h.2.2.1 i p, h.2.2.2.1, fun i p => by rw [uL_s, up_n (by omega)]; exact h.2.2.2.2 i p⟩
theorem fPm_bd {a b : am_M} {k p : Nat} (h : fPm a b) : fPm a (bdM b k p) := fPm_uI (fPm_uI h (by omega)) (by omega)
def PS (t : Nat → Nat) (e : Nat) (σx σm : am_M) (V : Vt) (Ns Nf : List (List Nat)) (rT lT dT cT : Bool) (X a : Nat) : Prop :=
  (VG σx 26 V ∧ WG V ∧ MC (σm.1 128) 1768 V) ∧ (Ns.length = vN V 1 ∧ Nf.length = vN V 5 ∧ okN Ns ∧ okN Nf ∧ NmX σx 36 Ns ∧ NmX σx 37 Nf ∧ NmM σm 40 Ns ∧ NmM σm 44 Nf) ∧
  (σx.1 6 0 = nI (b2 rT) ∧ σx.1 6 1 = nI (b2 lT) ∧ σx.1 6 2 = nI (b2 dT) ∧ σx.1 6 3 = nI (b2 cT) ∧ σx.1 6 4 = nI X ∧ σm.1 123 25 = nI (b2 rT + 2 * b2 lT + 4 * b2 dT) ∧ σm.1 123 26 = nI X ∧ σm.1 123 27 = nI (b2 cT)) ∧
  (X < 16777216 ∧ ∀ c, c < 24 → (X.testBit c = true ↔ c ∈ allC V)) ∧ (TX σx t e ∧ TM σm t e ∧ TokM t e a σm ∧ a ≤ e ∧ σm.1 123 12 = nI 0) ∧ (σx.1 27 3 = nI 0 ∧ σx.1 34 3 = nI 0 ∧ σm.1 128 1938 = nI 0 ∧ vN V 6 = 0 ∧ ∀ f, vN V 5 ≤ f → f < 6 → σm.1 128 (1932 + f) = nI 0)
theorem PS_tok {t : Nat → Nat} {e : Nat} {σx σm τx τm : am_M} {V : Vt} {Ns Nf : List (List Nat)} {rT lT dT cT : Bool} {X a b : Nat} (h : PS t e σx σm V Ns Nf rT lT dT cT X a) (hx : fR σx τx) (hm : fT σm τm) (hb : TokM t e b τm) (hbe : b ≤ e) : PS t e τx τm V Ns Nf rT lT dT cT X b := by
  obtain ⟨⟨a1, a2, a3⟩, ⟨b1, b2', b3, b4, b5, b6, b7, b8⟩, ⟨c1, c2, c3, c4, c5, c6, c7, c8⟩, d, ⟨e1, e2, e3, e4, e5⟩, ⟨f1, f2, f3, f4⟩⟩ := h
  have hxj : ∀ j, j ≠ 3 → τx.1 j = σx.1 j := fun j hj => (hx.1 j hj).1
  have h128 : τm.1 128 = σm.1 128 := (hm.1 128 (by omega)).1
  refine ⟨⟨VG_fr a1 (fun j p q => hxj j (by omega)), a2, by rw [h128]; exact a3⟩, ⟨b1, b2', b3, b4, fun i r z => by rw [(hx.1 36 (by omega)).2]; exact b5 i r z, fun i r z => by rw [(hx.1 37 (by omega)).2]; exact b6 i r z, fun i r z => by rw [(hm.1 131 (by omega)).2]; exact b7 i r z, fun i r z => by rw [(hm.1 131 (by omega)).2]; exact b8 i r z⟩, ⟨?_, ?_, ?_, ?_, ?_, ?_, ?_, ?_⟩, d, ⟨TX_fr e1 hx, TM_fr e2 hm, hb, hbe, by rw [hm.2.1 12 (by omega)]; exact e5⟩, ⟨by rw [hxj 27 (by omega)]; exact f1, by rw [hxj 34 (by omega)]; exact f2, by rw [h128]; exact f3, f4.1, fun f p q => by rw [h128]; exact f4.2 f p q⟩⟩
  · rw [hxj 6 (by omega)]; exact c1
  · rw [hxj 6 (by omega)]; exact c2
  · rw [hxj 6 (by omega)]; exact c3
  · rw [hxj 6 (by omega)]; exact c4
  · rw [hxj 6 (by omega)]; exact c5
  · rw [hm.2.1 25 (by omega)]; exact c6
  · rw [hm.2.1 26 (by omega)]; exact c7
  · rw [hm.2.1 27 (by omega)]; exact c8
theorem TokM_uI {t : Nat → Nat} {e a k : Nat} {v : Int32} {σ : am_M} (h : TokM t e a σ) (hk : k < 14 ∨ 18 < k) : TokM t e a (am_uI σ 123 k v) := by
  obtain ⟨h1, h2, h3, h4, h5⟩ := h
  exact ⟨by rw [uI_s, up_n (by omega)]; exact h1, by rw [uI_s, up_n (by omega)]; exact h2, by rw [uI_s, up_n (by omega)]; exact h3, fun z => by rw [uI_s, up_n (by omega)]; exact h4 z, fun z => ⟨by rw [uI_s, up_n (by omega)]; exact (h5 z).1, (h5 z).2⟩⟩
theorem TokM_uo {t : Nat → Nat} {e a j k : Nat} {v : Int32} {σ : am_M} (h : TokM t e a σ) (hj : j ≠ 123) : TokM t e a (am_uI σ j k v) := by
  obtain ⟨h1, h2, h3, h4, h5⟩ := h
  have e1 : (am_uI σ j k v).1 123 = σ.1 123 := uI_n (fun z => hj z.symm)
  exact ⟨by rw [e1]; exact h1, by rw [e1]; exact h2, by rw [e1]; exact h3, fun z => by rw [e1]; exact h4 z, fun z => ⟨by rw [e1]; exact (h5 z).1, (h5 z).2⟩⟩
theorem TM_uI {t : Nat → Nat} {e k : Nat} {v : Int32} {σ : am_M} (h : TM σ t e) (hk : k ≠ 9) : TM (am_uI σ 123 k v) t e := by
  obtain ⟨h1, h2, h3, h4⟩ := h
  exact ⟨by rw [uI_s, up_n (by omega)]; exact h1, h2, h3, fun j hj => by rw [uI_n (by omega)]; exact h4 j hj⟩
theorem TM_uo {t : Nat → Nat} {e j k : Nat} {v : Int32} {σ : am_M} (h : TM σ t e) (hj : j ≠ 123) (hj2 : j ≠ 127) : TM (am_uI σ j k v) t e := by
  obtain ⟨h1, h2, h3, h4⟩ := h
  exact ⟨by rw [uI_n (fun z => hj z.symm)]; exact h1, h2, h3, fun i hi => by rw [uI_n (fun z => hj2 z.symm)]; exact h4 i hi⟩
theorem tq_gt {t : Nat → Nat} {e a : Nat} (hae : a ≤ e) (hk : tkd t e a ≠ 0) : a < tq t e a := by
  have h1 := tp_le (t := t) hae
  have h2 : ¬ e ≤ tp t e a := fun z => hk (by unfold tkd; rw [if_pos z])
  unfold tq
  rw [if_neg h2]
  split
  · rename_i z
    rw [scan_go (P := isLt) (by omega) z]
    have := scan_le isLt t (e := e) (a := tp t e a + 1) (by omega)
    omega
  · split
    · rename_i z
      rw [scan_go (P := isDg) (by omega) z]
      have := scan_le isDg t (e := e) (a := tp t e a + 1) (by omega)
      omega
    · omega
/-- the model's part with its sign behind it -/
def bodyM (σ : am_M) : Option am_R := am_bV (S_X11_readPart [.ref 123] σ) fun τ => am_bI (S_X11_isSign [.ref 123, .int (nI 59)] τ) fun x ρ => S_X11_must [.ref 123, .int x] ρ
theorem M_isSignA (σ : am_M) (c : Int32) : ∃ x, S_X11_isSign [.ref 123, .int c] σ = some (some (.int x), σ) := by
  by_cases h1 : σ.1 123 14 = nI 3
  · by_cases h2 : σ.1 123 17 = c
    · refine ⟨nI 1, ?_⟩
      simp (disch := omega) only [g_X11_isSign, ↓e_X11_isSign_0, ↓e_X11_isSign_21, ↓it_s, ↓y_iload, ↓y_lload, ↓y_aload, ↓y_istore, ↓y_lstore, ↓y_astore, ↓y_iinc, ↓y_cI, ↓y_cL, ↓y_bin, ↓y_binL, ↓y_div, ↓y_divL, ↓y_lshl, ↓y_un, ↓y_i2l, ↓y_lneg, ↓y_l2i, ↓y_lcmp, ↓y_dupI, ↓y_dupR, ↓y_dup2, ↓y_pop, ↓y_goto, ↓y_eq0, ↓y_lt0, ↓y_le0, ↓y_eq, ↓y_lt, ↓y_le, ↓y_switch, ↓y_sw0, ↓y_sw1, ↓y_getI, ↓y_getL, ↓y_getR, ↓y_getT, ↓y_putI, ↓y_putZ, ↓y_putL, ↓y_putT, ↓y_iald, ↓y_bald, ↓y_lald, ↓y_aald, ↓y_iast, ↓y_bast, ↓y_last, ↓y_alen, ↓y_iret, ↓y_zret, ↓y_lret, ↓y_vret, ↓y_svI, ↓y_svL, ↓y_svV, ↓y_ivI, ↓y_ivL, ↓y_ivV, ↓y_max, ↓y_min, ↓y_absL, ↓y_cpI, ↓y_cpL, ↓x_n1I, ↓x_n1L, ↓x_n1R, ↓x_n0I, ↓x_n0L, ↓x_n0R, ↓x_s0, ↓x_s1i, ↓x_s1r, ↓x_s1n, ↓x_s2, ↓x_c0, ↓x_c2, ↓x_tk0, ↓x_tk1, ↓x_rcv, x_rI1, x_rL1, x_rV1, x_rIn, x_rLn, x_rVn, x_rIf, x_rLf, x_rVf, x_40, x_41, x_42, x_43, x_44, ↓reduceIte, if_true, if_false, ao_iadd, ao_isub, ao_imul, ao_iand, ao_ior, ao_ishl, ao_ishr, ao_iushr, ao_ladd, ao_lsub, ao_lmul, ao_land, ao_lor, ao_idiv, ao_irem, ao_ldiv, ao_lrem, ao_ineg, ao_i2b, ao_i2s, Nat.reduceAdd, Nat.reduceMul, Nat.reduceSub, Nat.reduceEqDiff, Nat.reduceLeDiff, and_self, true_and, x_lit, x_ofn, x_z0, x_z1, x_inbT, x_ltT, x_ltF, x_leT, x_leF, x_eqF, x_eqT, x_inb, x_lt, x_le, x_eq, x_cl, x_sub, nI_add, pk_mul, x_m1e, x_m1e', x_m1l, x_m1n, x_m1s, Nat.not_lt_zero, x_zb, x_b0, x_b1, decide_eq_false_iff_not, decide_eq_true_eq, Bool.false_eq_true, Bool.true_eq_false, h1, h2, kd_123]
    · refine ⟨nI 0, ?_⟩
      simp (disch := omega) only [g_X11_isSign, ↓e_X11_isSign_0, ↓e_X11_isSign_20, ↓e_X11_isSign_21, ↓it_s, ↓y_iload, ↓y_lload, ↓y_aload, ↓y_istore, ↓y_lstore, ↓y_astore, ↓y_iinc, ↓y_cI, ↓y_cL, ↓y_bin, ↓y_binL, ↓y_div, ↓y_divL, ↓y_lshl, ↓y_un, ↓y_i2l, ↓y_lneg, ↓y_l2i, ↓y_lcmp, ↓y_dupI, ↓y_dupR, ↓y_dup2, ↓y_pop, ↓y_goto, ↓y_eq0, ↓y_lt0, ↓y_le0, ↓y_eq, ↓y_lt, ↓y_le, ↓y_switch, ↓y_sw0, ↓y_sw1, ↓y_getI, ↓y_getL, ↓y_getR, ↓y_getT, ↓y_putI, ↓y_putZ, ↓y_putL, ↓y_putT, ↓y_iald, ↓y_bald, ↓y_lald, ↓y_aald, ↓y_iast, ↓y_bast, ↓y_last, ↓y_alen, ↓y_iret, ↓y_zret, ↓y_lret, ↓y_vret, ↓y_svI, ↓y_svL, ↓y_svV, ↓y_ivI, ↓y_ivL, ↓y_ivV, ↓y_max, ↓y_min, ↓y_absL, ↓y_cpI, ↓y_cpL, ↓x_n1I, ↓x_n1L, ↓x_n1R, ↓x_n0I, ↓x_n0L, ↓x_n0R, ↓x_s0, ↓x_s1i, ↓x_s1r, ↓x_s1n, ↓x_s2, ↓x_c0, ↓x_c2, ↓x_tk0, ↓x_tk1, ↓x_rcv, x_rI1, x_rL1, x_rV1, x_rIn, x_rLn, x_rVn, x_rIf, x_rLf, x_rVf, x_40, x_41, x_42, x_43, x_44, ↓reduceIte, if_true, if_false, ao_iadd, ao_isub, ao_imul, ao_iand, ao_ior, ao_ishl, ao_ishr, ao_iushr, ao_ladd, ao_lsub, ao_lmul, ao_land, ao_lor, ao_idiv, ao_irem, ao_ldiv, ao_lrem, ao_ineg, ao_i2b, ao_i2s, Nat.reduceAdd, Nat.reduceMul, Nat.reduceSub, Nat.reduceEqDiff, Nat.reduceLeDiff, and_self, true_and, x_lit, x_ofn, x_z0, x_z1, x_inbT, x_ltT, x_ltF, x_leT, x_leF, x_eqF, x_eqT, x_inb, x_lt, x_le, x_eq, x_cl, x_sub, nI_add, pk_mul, x_m1e, x_m1e', x_m1l, x_m1n, x_m1s, Nat.not_lt_zero, x_zb, x_b0, x_b1, decide_eq_false_iff_not, decide_eq_true_eq, Bool.false_eq_true, Bool.true_eq_false, h1, h2, kd_123]
  · refine ⟨nI 0, ?_⟩
    simp (disch := omega) only [g_X11_isSign, ↓e_X11_isSign_0, ↓e_X11_isSign_20, ↓e_X11_isSign_21, ↓it_s, ↓y_iload, ↓y_lload, ↓y_aload, ↓y_istore, ↓y_lstore, ↓y_astore, ↓y_iinc, ↓y_cI, ↓y_cL, ↓y_bin, ↓y_binL, ↓y_div, ↓y_divL, ↓y_lshl, ↓y_un, ↓y_i2l, ↓y_lneg, ↓y_l2i, ↓y_lcmp, ↓y_dupI, ↓y_dupR, ↓y_dup2, ↓y_pop, ↓y_goto, ↓y_eq0, ↓y_lt0, ↓y_le0, ↓y_eq, ↓y_lt, ↓y_le, ↓y_switch, ↓y_sw0, ↓y_sw1, ↓y_getI, ↓y_getL, ↓y_getR, ↓y_getT, ↓y_putI, ↓y_putZ, ↓y_putL, ↓y_putT, ↓y_iald, ↓y_bald, ↓y_lald, ↓y_aald, ↓y_iast, ↓y_bast, ↓y_last, ↓y_alen, ↓y_iret, ↓y_zret, ↓y_lret, ↓y_vret, ↓y_svI, ↓y_svL, ↓y_svV, ↓y_ivI, ↓y_ivL, ↓y_ivV, ↓y_max, ↓y_min, ↓y_absL, ↓y_cpI, ↓y_cpL, ↓x_n1I, ↓x_n1L, ↓x_n1R, ↓x_n0I, ↓x_n0L, ↓x_n0R, ↓x_s0, ↓x_s1i, ↓x_s1r, ↓x_s1n, ↓x_s2, ↓x_c0, ↓x_c2, ↓x_tk0, ↓x_tk1, ↓x_rcv, x_rI1, x_rL1, x_rV1, x_rIn, x_rLn, x_rVn, x_rIf, x_rLf, x_rVf, x_40, x_41, x_42, x_43, x_44, ↓reduceIte, if_true, if_false, ao_iadd, ao_isub, ao_imul, ao_iand, ao_ior, ao_ishl, ao_ishr, ao_iushr, ao_ladd, ao_lsub, ao_lmul, ao_land, ao_lor, ao_idiv, ao_irem, ao_ldiv, ao_lrem, ao_ineg, ao_i2b, ao_i2s, Nat.reduceAdd, Nat.reduceMul, Nat.reduceSub, Nat.reduceEqDiff, Nat.reduceLeDiff, and_self, true_and, x_lit, x_ofn, x_z0, x_z1, x_inbT, x_ltT, x_ltF, x_leT, x_leF, x_eqF, x_eqT, x_inb, x_lt, x_le, x_eq, x_cl, x_sub, nI_add, pk_mul, x_m1e, x_m1e', x_m1l, x_m1n, x_m1s, Nat.not_lt_zero, x_zb, x_b0, x_b1, decide_eq_false_iff_not, decide_eq_true_eq, Bool.false_eq_true, Bool.true_eq_false, h1, kd_123]
theorem body_bad {σ τ : am_M} {k : Nat} (h : S_X11_readPart [.ref 123] σ = some (none, τ)) (h12 : τ.1 123 12 = nI k) (hk : 0 < k) (hk2 : k < 100) : bodyM σ = some (none, τ) := by
  obtain ⟨x, hx⟩ := M_isSignA τ (nI 59)
  unfold bodyM
  rw [h, x_bV, hx, x_bI, M_mustB h12 hk hk2]
/-- the sign ; behind a part, where it is, where it isn't -/
theorem body_sg {t : Nat → Nat} {e b : Nat} {σ τ : am_M} (h : S_X11_readPart [.ref 123] σ = some (none, τ)) (hT : TM τ t e) (hb : b ≤ e) (hk : TokM t e b τ) (h12 : τ.1 123 12 = nI 0) : (decide (tkd t e b = 3 ∧ tnum t e b = 59) = true → ∃ ρ, bodyM σ = some (none, ρ) ∧ TokM t e (tq t e b) ρ ∧ fT τ ρ) ∧ (decide (tkd t e b = 3 ∧ tnum t e b = 59) = false → bodyM σ = some (none, bdM τ (amk t e b) (tp t e b))) := by
  have w := M_isSign (c := 59) hk (by omega) hT.2.2.1
  constructor
  · intro z
    rw [z] at w
    obtain ⟨ρ, a1, a2, a3⟩ := M_mustT hT hb hk h12
    refine ⟨ρ, ?_, a2, a3⟩
    unfold bodyM
    rw [h, x_bV, w, x_bI]
    exact a1
  · intro z
    rw [z] at w
    unfold bodyM
    rw [h, x_bV, w, x_bI]
    exact M_mustF hk h12
theorem amk_12 (t : Nat → Nat) (e a : Nat) : 0 < amk t e a ∧ amk t e a < 100 := by unfold amk; split <;> omega
theorem noK_12 (t : Nat → Nat) (e a : Nat) : 0 < noK t e a ∧ noK t e a < 100 := by
  have := amk_12 t e a
  unfold noK; split <;> omega
def POut (t : Nat → Nat) (e : Nat) (σx σm : am_M) (rx rm : Option am_R) (a : Nat) : Prop :=
  (∃ τx τm k p, rx = some (some (.int (nI 0)), τx) ∧ rm = some (none, τm) ∧ 0 < k ∧ k < 100 ∧ τx.1 3 10 = nI k ∧ τx.1 3 11 = nI p ∧ τm.1 123 12 = nI k ∧ τm.1 123 13 = nI p ∧ fPx σx τx ∧ fPm σm τm) ∨
  (∃ τx τm V Ns Nf rT lT dT cT X b, rx = some (some (.int (nI 1)), τx) ∧ rm = some (none, τm) ∧ PS t e τx τm V Ns Nf rT lT dT cT X b ∧ τx.1 3 3 = nI b ∧ a < b ∧ τx.1 3 10 = σx.1 3 10 ∧ τx.1 3 11 = σx.1 3 11 ∧ fPx σx τx ∧ fPm σm τm)
theorem PO_bad {t : Nat → Nat} {e a k p : Nat} {σx σm τx τm : am_M} {rx rm : Option am_R} (h1 : rx = some (some (.int (nI 0)), τx)) (h2 : rm = some (none, bdM τm k p)) (hk : 0 < k ∧ k < 100) (hx : XF σx τx k p) (hm : fPm σm τm) : POut t e σx σm rx rm a := Or.inl ⟨τx, bdM τm k p, k, p, h1, h2, hk.1, hk.2, hx.1, hx.2.1, bdM_12 _ _ _, bdM_13 _ _ _, fPx_B hx.2.2, fPm_bd hm⟩
theorem fPx_R {a b : am_M} (h : fR a b) : fPx a b := fPx_B (fB_R h)
/-- once told things: ranks, law, redeals -/
theorem tb8 : ∀ m, m < 8 → ∀ b, b < 3 → nI m ||| (nI 1 <<< (nI b &&& nI 31)) = nI (m ||| 2 ^ b) := by decide +kernel
theorem M_readOnce {t : Nat → Nat} {e a b w lo hi m : Nat} {cT : Bool} {σ : am_M} (hT : TM σ t e) (hae : a ≤ e) (h : TokM t e a σ) (h12 : σ.1 123 12 = nI 0) (h25 : σ.1 123 25 = nI m) (hm : m < 8) (hb : b < 3) (h27 : σ.1 123 27 = nI (b2 cT)) (hw : w < 8) (hlo : lo < 1000) (hhi : hi < 1000) :
    ((b = 0 ∧ cT = true) → S_X11_readOnce [.ref 123, .int (nI b), .int (nI w), .int (nI lo), .int (nI hi)] σ = some (none, bdM σ (amk t e a) (tp t e a))) ∧
    (¬ (b = 0 ∧ cT = true) → m.testBit b = true → S_X11_readOnce [.ref 123, .int (nI b), .int (nI w), .int (nI lo), .int (nI hi)] σ = some (none, bdM σ 5 (tp t e a))) ∧
    (¬ (b = 0 ∧ cT = true) → m.testBit b = false → isNo t e lo hi (tq t e a) = false → ∃ τ, S_X11_readOnce [.ref 123, .int (nI b), .int (nI w), .int (nI lo), .int (nI hi)] σ = some (none, τ) ∧ τ.1 123 12 = nI (noK t e (tq t e a)) ∧ τ.1 123 13 = nI (tp t e (tq t e a)) ∧ fPm σ τ) ∧
    (¬ (b = 0 ∧ cT = true) → m.testBit b = false → isNo t e lo hi (tq t e a) = true → ∃ τ, S_X11_readOnce [.ref 123, .int (nI b), .int (nI w), .int (nI lo), .int (nI hi)] σ = some (none, am_uI τ 128 (1768 + w) (nI (tnum t e (tq t e a)))) ∧ TokM t e (tq t e (tq t e a)) τ ∧ fT (am_uI σ 123 25 (nI (m ||| 2 ^ b))) τ) := by
  have hh := M_has (r := m) (s := b) (by omega) (by omega) σ
  have hs8 := tb8 m hm b hb
  -- past the first two tests
  have past : ¬ (b = 0 ∧ cT = true) → m.testBit b = false → S_X11_readOnce [.ref 123, .int (nI b), .int (nI w), .int (nI lo), .int (nI hi)] σ = dn_X11_readOnce_50 [some (.ref 123), some (.int (nI b)), some (.int (nI w)), some (.int (nI lo)), some (.int (nI hi))] [] σ := fun z1 z2 => by
    rw [z2] at hh
    by_cases q : b = 0
    · have qc : cT = false := by
        cases cT with
        | false => rfl
        | true => exact absurd ⟨q, rfl⟩ z1
      rw [qc] at h27
      subst q
      simp (disch := omega) only [g_X11_readOnce, ↓e_X11_readOnce_0, ↓e_X11_readOnce_15, ↓e_X11_readOnce_42, ↓it_s, ↓y_iload, ↓y_lload, ↓y_aload, ↓y_istore, ↓y_lstore, ↓y_astore, ↓y_iinc, ↓y_cI, ↓y_cL, ↓y_bin, ↓y_binL, ↓y_div, ↓y_divL, ↓y_lshl, ↓y_un, ↓y_i2l, ↓y_lneg, ↓y_l2i, ↓y_lcmp, ↓y_dupI, ↓y_dupR, ↓y_dup2, ↓y_pop, ↓y_goto, ↓y_eq0, ↓y_lt0, ↓y_le0, ↓y_eq, ↓y_lt, ↓y_le, ↓y_switch, ↓y_sw0, ↓y_sw1, ↓y_getI, ↓y_getL, ↓y_getR, ↓y_getT, ↓y_putI, ↓y_putZ, ↓y_putL, ↓y_putT, ↓y_iald, ↓y_bald, ↓y_lald, ↓y_aald, ↓y_iast, ↓y_bast, ↓y_last, ↓y_alen, ↓y_iret, ↓y_zret, ↓y_lret, ↓y_vret, ↓y_svI, ↓y_svL, ↓y_svV, ↓y_ivI, ↓y_ivL, ↓y_ivV, ↓y_max, ↓y_min, ↓y_absL, ↓y_cpI, ↓y_cpL, ↓x_n1I, ↓x_n1L, ↓x_n1R, ↓x_n0I, ↓x_n0L, ↓x_n0R, ↓x_s0, ↓x_s1i, ↓x_s1r, ↓x_s1n, ↓x_s2, ↓x_c0, ↓x_c2, ↓x_tk0, ↓x_tk1, ↓x_rcv, x_rI1, x_rL1, x_rV1, x_rIn, x_rLn, x_rVn, x_rIf, x_rLf, x_rVf, x_40, x_41, x_42, x_43, x_44, ↓reduceIte, if_true, if_false, ao_iadd, ao_isub, ao_imul, ao_iand, ao_ior, ao_ishl, ao_ishr, ao_iushr, ao_ladd, ao_lsub, ao_lmul, ao_land, ao_lor, ao_idiv, ao_irem, ao_ldiv, ao_lrem, ao_ineg, ao_i2b, ao_i2s, Nat.reduceAdd, Nat.reduceMul, Nat.reduceSub, Nat.reduceEqDiff, Nat.reduceLeDiff, and_self, true_and, x_lit, x_ofn, x_z0, x_z1, x_inbT, x_ltT, x_ltF, x_leT, x_leF, x_eqF, x_eqT, x_inb, x_lt, x_le, x_eq, x_cl, x_sub, nI_add, pk_mul, x_m1e, x_m1e', x_m1l, x_m1n, x_m1s, Nat.not_lt_zero, x_zb, x_b0, x_b1, decide_eq_false_iff_not, decide_eq_true_eq, Bool.false_eq_true, Bool.true_eq_false, h12, h25, h27, hh, b2_f, kd_123]
    · simp (disch := omega) only [g_X11_readOnce, ↓e_X11_readOnce_0, ↓e_X11_readOnce_15, ↓e_X11_readOnce_42, ↓it_s, ↓y_iload, ↓y_lload, ↓y_aload, ↓y_istore, ↓y_lstore, ↓y_astore, ↓y_iinc, ↓y_cI, ↓y_cL, ↓y_bin, ↓y_binL, ↓y_div, ↓y_divL, ↓y_lshl, ↓y_un, ↓y_i2l, ↓y_lneg, ↓y_l2i, ↓y_lcmp, ↓y_dupI, ↓y_dupR, ↓y_dup2, ↓y_pop, ↓y_goto, ↓y_eq0, ↓y_lt0, ↓y_le0, ↓y_eq, ↓y_lt, ↓y_le, ↓y_switch, ↓y_sw0, ↓y_sw1, ↓y_getI, ↓y_getL, ↓y_getR, ↓y_getT, ↓y_putI, ↓y_putZ, ↓y_putL, ↓y_putT, ↓y_iald, ↓y_bald, ↓y_lald, ↓y_aald, ↓y_iast, ↓y_bast, ↓y_last, ↓y_alen, ↓y_iret, ↓y_zret, ↓y_lret, ↓y_vret, ↓y_svI, ↓y_svL, ↓y_svV, ↓y_ivI, ↓y_ivL, ↓y_ivV, ↓y_max, ↓y_min, ↓y_absL, ↓y_cpI, ↓y_cpL, ↓x_n1I, ↓x_n1L, ↓x_n1R, ↓x_n0I, ↓x_n0L, ↓x_n0R, ↓x_s0, ↓x_s1i, ↓x_s1r, ↓x_s1n, ↓x_s2, ↓x_c0, ↓x_c2, ↓x_tk0, ↓x_tk1, ↓x_rcv, x_rI1, x_rL1, x_rV1, x_rIn, x_rLn, x_rVn, x_rIf, x_rLf, x_rVf, x_40, x_41, x_42, x_43, x_44, ↓reduceIte, if_true, if_false, ao_iadd, ao_isub, ao_imul, ao_iand, ao_ior, ao_ishl, ao_ishr, ao_iushr, ao_ladd, ao_lsub, ao_lmul, ao_land, ao_lor, ao_idiv, ao_irem, ao_ldiv, ao_lrem, ao_ineg, ao_i2b, ao_i2s, Nat.reduceAdd, Nat.reduceMul, Nat.reduceSub, Nat.reduceEqDiff, Nat.reduceLeDiff, and_self, true_and, x_lit, x_ofn, x_z0, x_z1, x_inbT, x_ltT, x_ltF, x_leT, x_leF, x_eqF, x_eqT, x_inb, x_lt, x_le, x_eq, x_cl, x_sub, nI_add, pk_mul, x_m1e, x_m1e', x_m1l, x_m1n, x_m1s, Nat.not_lt_zero, x_zb, x_b0, x_b1, decide_eq_false_iff_not, decide_eq_true_eq, Bool.false_eq_true, Bool.true_eq_false, h12, h25, hh, b2_f, kd_123]
  refine ⟨fun z => ?_, fun z1 z2 => ?_, fun z1 z2 z3 => ?_, fun z1 z2 z3 => ?_⟩
  · obtain ⟨q1, q2⟩ := z
    rw [q2] at h27
    subst q1
    have ha := M_amiss h h12
    have hbd := bdM_12 σ (amk t e a) (tp t e a)
    have h12' := amk_12 t e a
    simp (disch := omega) only [g_X11_readOnce, ↓e_X11_readOnce_0, ↓e_X11_readOnce_15, ↓e_X11_readOnce_42, ↓it_s, ↓y_iload, ↓y_lload, ↓y_aload, ↓y_istore, ↓y_lstore, ↓y_astore, ↓y_iinc, ↓y_cI, ↓y_cL, ↓y_bin, ↓y_binL, ↓y_div, ↓y_divL, ↓y_lshl, ↓y_un, ↓y_i2l, ↓y_lneg, ↓y_l2i, ↓y_lcmp, ↓y_dupI, ↓y_dupR, ↓y_dup2, ↓y_pop, ↓y_goto, ↓y_eq0, ↓y_lt0, ↓y_le0, ↓y_eq, ↓y_lt, ↓y_le, ↓y_switch, ↓y_sw0, ↓y_sw1, ↓y_getI, ↓y_getL, ↓y_getR, ↓y_getT, ↓y_putI, ↓y_putZ, ↓y_putL, ↓y_putT, ↓y_iald, ↓y_bald, ↓y_lald, ↓y_aald, ↓y_iast, ↓y_bast, ↓y_last, ↓y_alen, ↓y_iret, ↓y_zret, ↓y_lret, ↓y_vret, ↓y_svI, ↓y_svL, ↓y_svV, ↓y_ivI, ↓y_ivL, ↓y_ivV, ↓y_max, ↓y_min, ↓y_absL, ↓y_cpI, ↓y_cpL, ↓x_n1I, ↓x_n1L, ↓x_n1R, ↓x_n0I, ↓x_n0L, ↓x_n0R, ↓x_s0, ↓x_s1i, ↓x_s1r, ↓x_s1n, ↓x_s2, ↓x_c0, ↓x_c2, ↓x_tk0, ↓x_tk1, ↓x_rcv, x_rI1, x_rL1, x_rV1, x_rIn, x_rLn, x_rVn, x_rIf, x_rLf, x_rVf, x_40, x_41, x_42, x_43, x_44, ↓reduceIte, if_true, if_false, ao_iadd, ao_isub, ao_imul, ao_iand, ao_ior, ao_ishl, ao_ishr, ao_iushr, ao_ladd, ao_lsub, ao_lmul, ao_land, ao_lor, ao_idiv, ao_irem, ao_ldiv, ao_lrem, ao_ineg, ao_i2b, ao_i2s, Nat.reduceAdd, Nat.reduceMul, Nat.reduceSub, Nat.reduceEqDiff, Nat.reduceLeDiff, and_self, true_and, x_lit, x_ofn, x_z0, x_z1, x_inbT, x_ltT, x_ltF, x_leT, x_leF, x_eqF, x_eqT, x_inb, x_lt, x_le, x_eq, x_cl, x_sub, nI_add, pk_mul, x_m1e, x_m1e', x_m1l, x_m1n, x_m1s, Nat.not_lt_zero, x_zb, x_b0, x_b1, decide_eq_false_iff_not, decide_eq_true_eq, Bool.false_eq_true, Bool.true_eq_false, h27, b2_t, ha, hbd, kd_123]
  · rw [z2] at hh
    have hf := M_fail0 (k := 5) (p := tp t e a) h12
    have hbd := bdM_12 σ 5 (tp t e a)
    have h15 := h.1
    by_cases q : b = 0
    · have qc : cT = false := by
        cases cT with
        | false => rfl
        | true => exact absurd ⟨q, rfl⟩ z1
      rw [qc] at h27
      subst q
      simp (disch := omega) only [g_X11_readOnce, ↓e_X11_readOnce_0, ↓e_X11_readOnce_15, ↓e_X11_readOnce_42, ↓it_s, ↓y_iload, ↓y_lload, ↓y_aload, ↓y_istore, ↓y_lstore, ↓y_astore, ↓y_iinc, ↓y_cI, ↓y_cL, ↓y_bin, ↓y_binL, ↓y_div, ↓y_divL, ↓y_lshl, ↓y_un, ↓y_i2l, ↓y_lneg, ↓y_l2i, ↓y_lcmp, ↓y_dupI, ↓y_dupR, ↓y_dup2, ↓y_pop, ↓y_goto, ↓y_eq0, ↓y_lt0, ↓y_le0, ↓y_eq, ↓y_lt, ↓y_le, ↓y_switch, ↓y_sw0, ↓y_sw1, ↓y_getI, ↓y_getL, ↓y_getR, ↓y_getT, ↓y_putI, ↓y_putZ, ↓y_putL, ↓y_putT, ↓y_iald, ↓y_bald, ↓y_lald, ↓y_aald, ↓y_iast, ↓y_bast, ↓y_last, ↓y_alen, ↓y_iret, ↓y_zret, ↓y_lret, ↓y_vret, ↓y_svI, ↓y_svL, ↓y_svV, ↓y_ivI, ↓y_ivL, ↓y_ivV, ↓y_max, ↓y_min, ↓y_absL, ↓y_cpI, ↓y_cpL, ↓x_n1I, ↓x_n1L, ↓x_n1R, ↓x_n0I, ↓x_n0L, ↓x_n0R, ↓x_s0, ↓x_s1i, ↓x_s1r, ↓x_s1n, ↓x_s2, ↓x_c0, ↓x_c2, ↓x_tk0, ↓x_tk1, ↓x_rcv, x_rI1, x_rL1, x_rV1, x_rIn, x_rLn, x_rVn, x_rIf, x_rLf, x_rVf, x_40, x_41, x_42, x_43, x_44, ↓reduceIte, if_true, if_false, ao_iadd, ao_isub, ao_imul, ao_iand, ao_ior, ao_ishl, ao_ishr, ao_iushr, ao_ladd, ao_lsub, ao_lmul, ao_land, ao_lor, ao_idiv, ao_irem, ao_ldiv, ao_lrem, ao_ineg, ao_i2b, ao_i2s, Nat.reduceAdd, Nat.reduceMul, Nat.reduceSub, Nat.reduceEqDiff, Nat.reduceLeDiff, and_self, true_and, x_lit, x_ofn, x_z0, x_z1, x_inbT, x_ltT, x_ltF, x_leT, x_leF, x_eqF, x_eqT, x_inb, x_lt, x_le, x_eq, x_cl, x_sub, nI_add, pk_mul, x_m1e, x_m1e', x_m1l, x_m1n, x_m1s, Nat.not_lt_zero, x_zb, x_b0, x_b1, decide_eq_false_iff_not, decide_eq_true_eq, Bool.false_eq_true, Bool.true_eq_false, h12, h15, h25, h27, hh, b2_f, b2_t, hf, hbd, kd_123]
    · simp (disch := omega) only [g_X11_readOnce, ↓e_X11_readOnce_0, ↓e_X11_readOnce_15, ↓e_X11_readOnce_42, ↓it_s, ↓y_iload, ↓y_lload, ↓y_aload, ↓y_istore, ↓y_lstore, ↓y_astore, ↓y_iinc, ↓y_cI, ↓y_cL, ↓y_bin, ↓y_binL, ↓y_div, ↓y_divL, ↓y_lshl, ↓y_un, ↓y_i2l, ↓y_lneg, ↓y_l2i, ↓y_lcmp, ↓y_dupI, ↓y_dupR, ↓y_dup2, ↓y_pop, ↓y_goto, ↓y_eq0, ↓y_lt0, ↓y_le0, ↓y_eq, ↓y_lt, ↓y_le, ↓y_switch, ↓y_sw0, ↓y_sw1, ↓y_getI, ↓y_getL, ↓y_getR, ↓y_getT, ↓y_putI, ↓y_putZ, ↓y_putL, ↓y_putT, ↓y_iald, ↓y_bald, ↓y_lald, ↓y_aald, ↓y_iast, ↓y_bast, ↓y_last, ↓y_alen, ↓y_iret, ↓y_zret, ↓y_lret, ↓y_vret, ↓y_svI, ↓y_svL, ↓y_svV, ↓y_ivI, ↓y_ivL, ↓y_ivV, ↓y_max, ↓y_min, ↓y_absL, ↓y_cpI, ↓y_cpL, ↓x_n1I, ↓x_n1L, ↓x_n1R, ↓x_n0I, ↓x_n0L, ↓x_n0R, ↓x_s0, ↓x_s1i, ↓x_s1r, ↓x_s1n, ↓x_s2, ↓x_c0, ↓x_c2, ↓x_tk0, ↓x_tk1, ↓x_rcv, x_rI1, x_rL1, x_rV1, x_rIn, x_rLn, x_rVn, x_rIf, x_rLf, x_rVf, x_40, x_41, x_42, x_43, x_44, ↓reduceIte, if_true, if_false, ao_iadd, ao_isub, ao_imul, ao_iand, ao_ior, ao_ishl, ao_ishr, ao_iushr, ao_ladd, ao_lsub, ao_lmul, ao_land, ao_lor, ao_idiv, ao_irem, ao_ldiv, ao_lrem, ao_ineg, ao_i2b, ao_i2s, Nat.reduceAdd, Nat.reduceMul, Nat.reduceSub, Nat.reduceEqDiff, Nat.reduceLeDiff, and_self, true_and, x_lit, x_ofn, x_z0, x_z1, x_inbT, x_ltT, x_ltF, x_leT, x_leF, x_eqF, x_eqT, x_inb, x_lt, x_le, x_eq, x_cl, x_sub, nI_add, pk_mul, x_m1e, x_m1e', x_m1l, x_m1n, x_m1s, Nat.not_lt_zero, x_zb, x_b0, x_b1, decide_eq_false_iff_not, decide_eq_true_eq, Bool.false_eq_true, Bool.true_eq_false, h12, h15, h25, hh, b2_t, hf, hbd, kd_123]
  all_goals
    obtain ⟨σ1, es1⟩ : ∃ s, s = am_uI σ 123 25 (nI (m ||| 2 ^ b)) := ⟨_, rfl⟩
    have hT1 : TM σ1 t e := by rw [es1]; exact TM_uI hT (by omega)
    have hk1 : TokM t e a σ1 := by rw [es1]; exact TokM_uI h (by omega)
    obtain ⟨σ2, a1, a2, a3⟩ := M_advance hT1 (tq_le hae).2 hk1.2.1
    have h12' : σ2.1 123 12 = nI 0 := by rw [a3.2.1 12 (by omega), es1, uI_s, up_n (by omega)]; exact h12
    have es1' := es1.symm
  · have hc := M_countF (lo := lo) (hi := hi) a2 h12' hlo hhi z3
    refine ⟨am_uI (bdM σ2 (noK t e (tq t e a)) (tp t e (tq t e a))) 128 (1768 + w) (nI 0), ?_, ?_, ?_, ?_⟩
    · rw [past z1 z2]
      simp (disch := omega) only [↓e_X11_readOnce_50, ↓it_s, ↓y_iload, ↓y_lload, ↓y_aload, ↓y_istore, ↓y_lstore, ↓y_astore, ↓y_iinc, ↓y_cI, ↓y_cL, ↓y_bin, ↓y_binL, ↓y_div, ↓y_divL, ↓y_lshl, ↓y_un, ↓y_i2l, ↓y_lneg, ↓y_l2i, ↓y_lcmp, ↓y_dupI, ↓y_dupR, ↓y_dup2, ↓y_pop, ↓y_goto, ↓y_eq0, ↓y_lt0, ↓y_le0, ↓y_eq, ↓y_lt, ↓y_le, ↓y_switch, ↓y_sw0, ↓y_sw1, ↓y_getI, ↓y_getL, ↓y_getR, ↓y_getT, ↓y_putI, ↓y_putZ, ↓y_putL, ↓y_putT, ↓y_iald, ↓y_bald, ↓y_lald, ↓y_aald, ↓y_iast, ↓y_bast, ↓y_last, ↓y_alen, ↓y_iret, ↓y_zret, ↓y_lret, ↓y_vret, ↓y_svI, ↓y_svL, ↓y_svV, ↓y_ivI, ↓y_ivL, ↓y_ivV, ↓y_max, ↓y_min, ↓y_absL, ↓y_cpI, ↓y_cpL, ↓x_n1I, ↓x_n1L, ↓x_n1R, ↓x_n0I, ↓x_n0L, ↓x_n0R, ↓x_s0, ↓x_s1i, ↓x_s1r, ↓x_s1n, ↓x_s2, ↓x_c0, ↓x_c2, ↓x_tk0, ↓x_tk1, ↓x_rcv, x_rI1, x_rL1, x_rV1, x_rIn, x_rLn, x_rVn, x_rIf, x_rLf, x_rVf, x_40, x_41, x_42, x_43, x_44, ↓reduceIte, if_true, if_false, ao_iadd, ao_isub, ao_imul, ao_iand, ao_ior, ao_ishl, ao_ishr, ao_iushr, ao_ladd, ao_lsub, ao_lmul, ao_land, ao_lor, ao_idiv, ao_irem, ao_ldiv, ao_lrem, ao_ineg, ao_i2b, ao_i2s, Nat.reduceAdd, Nat.reduceMul, Nat.reduceSub, Nat.reduceEqDiff, Nat.reduceLeDiff, and_self, true_and, x_lit, x_ofn, x_z0, x_z1, x_inbT, x_ltT, x_ltF, x_leT, x_leF, x_eqF, x_eqT, x_inb, x_lt, x_le, x_eq, x_cl, x_sub, nI_add, pk_mul, x_m1e, x_m1e', x_m1l, x_m1n, x_m1s, Nat.not_lt_zero, x_zb, x_b0, x_b1, decide_eq_false_iff_not, decide_eq_true_eq, Bool.false_eq_true, Bool.true_eq_false, h25, hs8, es1', a1, hc, kd_123, kd_128, ln_128]
    · rw [uI_n (by omega)]; exact bdM_12 _ _ _
    · rw [uI_n (by omega)]; exact bdM_13 _ _ _
    · exact fPm_uc (fPm_bd (fPm_tr (by rw [es1]; exact fPm_uI (fPm_rf _) (by omega)) (fPm_T a3))) (by omega)
  · obtain ⟨τ, c1, c2, c3⟩ := M_countT (lo := lo) (hi := hi) (TM_fr hT1 a3) (tq_le hae).2 a2 h12' hlo hhi z3
    refine ⟨τ, ?_, c2, by rw [es1']; exact fT_tr a3 c3⟩
    rw [past z1 z2]
    simp (disch := omega) only [↓e_X11_readOnce_50, ↓it_s, ↓y_iload, ↓y_lload, ↓y_aload, ↓y_istore, ↓y_lstore, ↓y_astore, ↓y_iinc, ↓y_cI, ↓y_cL, ↓y_bin, ↓y_binL, ↓y_div, ↓y_divL, ↓y_lshl, ↓y_un, ↓y_i2l, ↓y_lneg, ↓y_l2i, ↓y_lcmp, ↓y_dupI, ↓y_dupR, ↓y_dup2, ↓y_pop, ↓y_goto, ↓y_eq0, ↓y_lt0, ↓y_le0, ↓y_eq, ↓y_lt, ↓y_le, ↓y_switch, ↓y_sw0, ↓y_sw1, ↓y_getI, ↓y_getL, ↓y_getR, ↓y_getT, ↓y_putI, ↓y_putZ, ↓y_putL, ↓y_putT, ↓y_iald, ↓y_bald, ↓y_lald, ↓y_aald, ↓y_iast, ↓y_bast, ↓y_last, ↓y_alen, ↓y_iret, ↓y_zret, ↓y_lret, ↓y_vret, ↓y_svI, ↓y_svL, ↓y_svV, ↓y_ivI, ↓y_ivL, ↓y_ivV, ↓y_max, ↓y_min, ↓y_absL, ↓y_cpI, ↓y_cpL, ↓x_n1I, ↓x_n1L, ↓x_n1R, ↓x_n0I, ↓x_n0L, ↓x_n0R, ↓x_s0, ↓x_s1i, ↓x_s1r, ↓x_s1n, ↓x_s2, ↓x_c0, ↓x_c2, ↓x_tk0, ↓x_tk1, ↓x_rcv, x_rI1, x_rL1, x_rV1, x_rIn, x_rLn, x_rVn, x_rIf, x_rLf, x_rVf, x_40, x_41, x_42, x_43, x_44, ↓reduceIte, if_true, if_false, ao_iadd, ao_isub, ao_imul, ao_iand, ao_ior, ao_ishl, ao_ishr, ao_iushr, ao_ladd, ao_lsub, ao_lmul, ao_land, ao_lor, ao_idiv, ao_irem, ao_ldiv, ao_lrem, ao_ineg, ao_i2b, ao_i2s, Nat.reduceAdd, Nat.reduceMul, Nat.reduceSub, Nat.reduceEqDiff, Nat.reduceLeDiff, and_self, true_and, x_lit, x_ofn, x_z0, x_z1, x_inbT, x_ltT, x_ltF, x_leT, x_leF, x_eqF, x_eqT, x_inb, x_lt, x_le, x_eq, x_cl, x_sub, nI_add, pk_mul, x_m1e, x_m1e', x_m1l, x_m1n, x_m1s, Nat.not_lt_zero, x_zb, x_b0, x_b1, decide_eq_false_iff_not, decide_eq_true_eq, Bool.false_eq_true, Bool.true_eq_false, h25, hs8, es1', a1, c1, kd_123, kd_128, ln_128]
