/-! steps of the seasons: what each does, both sides -/
def isH (h : Nat) : Prop := h = 44 ∨ h = 47
def isLV (v : Nat) : Prop := v = 9 ∨ v = 26
theorem isLV_V {v : Nat} (h : isLV v) : isV v := by rcases h with rfl | rfl <;> simp [isV]
theorem isH_k {h : Nat} (hh : isH h) : am_kd h = 0 ∧ am_kd (h + 1) = 20 ∧ am_kd (h + 2) = 20 ∧ am_ln (h + 1) = 60 ∧ am_ln (h + 2) = 49 := by
  rcases hh with rfl | rfl <;> exact ⟨rfl, rfl, rfl, rfl, rfl⟩
theorem hv_apart {h v : Nat} (hh : isH h) (hv : isLV v) : v + 17 ≤ h := by
  rcases hh with rfl | rfl <;> rcases hv with rfl | rfl <;> omega
theorem VG_fr {σ τ : am_M} {v : Nat} {V : Vt} (h : VG σ v V) (e : ∀ j, v ≤ j → j ≤ v + 16 → τ.1 j = σ.1 j) : VG τ v V := ⟨TN_fr h.1 (e _ (by omega) (by omega)), TP_fr h.2.1 (fun j p q => e j (by omega) (by omega)), VF_fr h.2.2 (e _ (by omega) (by omega)) (fun j p q => e j (by omega) (by omega))⟩
def fX (h v : Nat) (σ τ : am_M) : Prop := τ.2 = σ.2 ∧ ∀ j, (j < v ∨ v + 17 ≤ j ∨ (v + 8 ≤ j ∧ j ≤ v + 11)) → j ≠ h → j ≠ h + 1 → j ≠ h + 2 → τ.1 j = σ.1 j
theorem fX_rf (h v : Nat) (σ : am_M) : fX h v σ σ := ⟨rfl, fun _ _ _ _ _ => rfl⟩
theorem fX_tr {h v : Nat} {a b c : am_M} (h1 : fX h v a b) (h2 : fX h v b c) : fX h v a c := ⟨h2.1.trans h1.1, fun j p q r s => (h2.2 j p q r s).trans (h1.2 j p q r s)⟩
theorem fX_uI {h v i k : Nat} {a b : am_M} {x : Int32} (h1 : fX h v a b) (hi : i = h ∨ i = h + 1 ∨ i = h + 2) : fX h v a (am_uI b i k x) := ⟨h1.1, fun j p q r s => by rw [uI_n (by omega)]; exact h1.2 j p q r s⟩
def fM (σ τ : am_M) : Prop := τ.2 = σ.2 ∧ (∀ j, j ≠ 123 → j ≠ 128 → j ≠ 132 → τ.1 j = σ.1 j) ∧ (∀ i, i ≠ 29 → (i < 42 ∨ 49 < i) → τ.1 123 i = σ.1 123 i) ∧ ∀ i, 170 ≤ i → τ.1 128 i = σ.1 128 i
theorem fM_rf (σ : am_M) : fM σ σ := ⟨rfl, fun _ _ _ _ => rfl, fun _ _ _ => rfl, fun _ _ => rfl⟩
theorem fM_tr {a b c : am_M} (h1 : fM a b) (h2 : fM b c) : fM a c := ⟨h2.1.trans h1.1, fun j p q r => (h2.2.1 j p q r).trans (h1.2.1 j p q r), fun i p q => (h2.2.2.1 i p q).trans (h1.2.2.1 i p q), fun i p => (h2.2.2.2 i p).trans (h1.2.2.2 i p)⟩
theorem fM_uI {a b : am_M} {k : Nat} {x : Int32} (h1 : fM a b) (hk : 42 ≤ k ∧ k ≤ 49) : fM a (am_uI b 123 k x) := ⟨h1.1, fun j p q r => by rw [uI_n p]; exact h1.2.1 j p q r, fun i p q => by rw [uI_s, up_n (by omega)]; exact h1.2.2.1 i p q, fun i p => by rw [uI_n (by omega)]; exact h1.2.2.2 i p⟩
theorem fM_c {a : am_M} {g : Nat → Int32} (h : ∀ j, 170 ≤ j → g j = a.1 128 j) : fM a (am_uA a 128 g) := ⟨rfl, fun j p q r => uA_n q, fun i p q => by rw [uA_n (by omega)], fun i p => by rw [uA_s]; exact h i p⟩
theorem x_a0 (x : Int32) : x + nI 0 = x := Int32.add_zero x
/-- the class's counters behind a step: drawn, days, come, made -/
def AX (h v : Nat) (σ τ : am_M) (V : Vt) (d : Nat) (dd dc dm : Int32) : Prop := VG τ v V ∧ fX h v σ τ ∧ τ.1 (h + 1) = σ.1 (h + 1) ∧ τ.1 h 2 = nI d ∧ τ.1 h 3 = σ.1 h 3 ∧ τ.1 h 4 = σ.1 h 4 ∧ τ.1 h 5 = σ.1 h 5 + dd ∧ τ.1 h 6 = σ.1 h 6 + dc ∧ τ.1 h 7 = σ.1 h 7 + dm ∧ τ.1 h 8 = σ.1 h 8
def AM (σ τ : am_M) (V : Vt) (d : Nat) (dd dc dm : Int32) : Prop := MC (τ.1 128) 0 V ∧ fM σ τ ∧ τ.1 123 42 = σ.1 123 42 ∧ τ.1 123 43 = nI d ∧ τ.1 123 44 = σ.1 123 44 ∧ τ.1 123 45 = σ.1 123 45 ∧ τ.1 123 46 = σ.1 123 46 + dd ∧ τ.1 123 47 = σ.1 123 47 + dc ∧ τ.1 123 48 = σ.1 123 48 + dm ∧ τ.1 123 49 = σ.1 123 49
theorem AX_rf {h v d : Nat} {σ : am_M} {V : Vt} (hV : VG σ v V) (hd : σ.1 h 2 = nI d) : AX h v σ σ V d (nI 0) (nI 0) (nI 0) := ⟨hV, fX_rf _ _ _, rfl, hd, rfl, rfl, (x_a0 _).symm, (x_a0 _).symm, (x_a0 _).symm, rfl⟩
theorem AM_rf {d : Nat} {σ : am_M} {V : Vt} (hM : MC (σ.1 128) 0 V) (hd : σ.1 123 43 = nI d) : AM σ σ V d (nI 0) (nI 0) (nI 0) := ⟨hM, fM_rf _, rfl, hd, rfl, rfl, (x_a0 _).symm, (x_a0 _).symm, (x_a0 _).symm, rfl⟩
/-- days -/
theorem X_letPass {h v n d : Nat} {σ : am_M} {V : Vt} (hh : isH h) (hv : isLV v) (hV : VG σ v V) (hw : WG V) (hn : n ≤ 99) (hd : σ.1 h 2 = nI d) : ∃ τ, S_X0_letPass [.ref h, .ref v, .int (nI n)] σ = some (some (.int (nI (b2 (decide (vN V 6 + n ≤ 9999))))), τ) ∧ (vN V 6 + n ≤ 9999 → AX h v σ τ (dayV V n) d (nI n) (nI 0) (nI 0)) ∧ (¬ vN V 6 + n ≤ 9999 → τ = σ) := by
  obtain ⟨k0, k1, k2, l1, l2⟩ := isH_k hh
  have kv := (isV_k (isLV_V hv)).1
  have hap := hv_apart hh hv
  by_cases e : vN V 6 + n ≤ 9999
  · obtain ⟨τ, a1, a2, a3, a4⟩ := X_passDays (isLV_V hv) hV.2.2 hw.1 hw.2.2 hn e
    have eh : τ.1 h = σ.1 h := a4 h (by omega) (by omega) (by omega)
    have h5 : τ.1 h 5 = σ.1 h 5 := by rw [eh]
    refine ⟨am_uI τ h 5 (σ.1 h 5 + nI n), ?_, fun _ => ?_, fun z => absurd e z⟩
    · rw [decide_eq_true e]
      simp (disch := omega) only [g_X0_letPass, ↓e_X0_letPass_10, ↓e_X0_letPass_0, ↓it_s, ↓y_iload, ↓y_lload, ↓y_aload, ↓y_istore, ↓y_lstore, ↓y_astore, ↓y_iinc, ↓y_cI, ↓y_cL, ↓y_bin, ↓y_binL, ↓y_div, ↓y_divL, ↓y_lshl, ↓y_un, ↓y_i2l, ↓y_lneg, ↓y_l2i, ↓y_lcmp, ↓y_dupI, ↓y_dupR, ↓y_dup2, ↓y_pop, ↓y_goto, ↓y_eq0, ↓y_lt0, ↓y_le0, ↓y_eq, ↓y_lt, ↓y_le, ↓y_switch, ↓y_sw0, ↓y_sw1, ↓y_getI, ↓y_getL, ↓y_getR, ↓y_getT, ↓y_putI, ↓y_putZ, ↓y_putL, ↓y_putT, ↓y_iald, ↓y_bald, ↓y_lald, ↓y_aald, ↓y_iast, ↓y_bast, ↓y_last, ↓y_alen, ↓y_iret, ↓y_zret, ↓y_lret, ↓y_vret, ↓y_svI, ↓y_svL, ↓y_svV, ↓y_ivI, ↓y_ivL, ↓y_ivV, ↓y_max, ↓y_min, ↓y_absL, ↓y_cpI, ↓y_cpL, ↓x_n1I, ↓x_n1L, ↓x_n1R, ↓x_n0I, ↓x_n0L, ↓x_n0R, ↓x_s0, ↓x_s1i, ↓x_s1r, ↓x_s1n, ↓x_s2, ↓x_c0, ↓x_c2, ↓x_tk0, ↓x_tk1, ↓x_rcv, x_rI1, x_rL1, x_rV1, x_rIn, x_rLn, x_rVn, x_rIf, x_rLf, x_rVf, x_40, x_41, x_42, x_43, x_44, ↓reduceIte, if_true, if_false, ao_iadd, ao_isub, ao_imul, ao_iand, ao_ior, ao_ishl, ao_ishr, ao_iushr, ao_ladd, ao_lsub, ao_lmul, ao_land, ao_lor, ao_idiv, ao_irem, ao_ldiv, ao_lrem, ao_ineg, ao_i2b, ao_i2s, Nat.reduceAdd, Nat.reduceMul, Nat.reduceSub, Nat.reduceEqDiff, Nat.reduceLeDiff, and_self, true_and, x_lit, x_ofn, x_z0, x_z1, x_inbT, x_ltT, x_ltF, x_leT, x_leF, x_eqF, x_eqT, x_inb, x_lt, x_le, x_eq, x_cl, x_sub, nI_add, pk_mul, x_m1e, x_m1e', x_m1l, x_m1n, x_m1s, Nat.not_lt_zero, x_zb, x_b0, x_b1, decide_eq_false_iff_not, decide_eq_true_eq, Bool.false_eq_true, Bool.true_eq_false, k0, kv, a1, h5, b2_t]
    · have hV1 : VG τ v (dayV V n) := ⟨TN_day (TN_fr hV.1 (a4 _ (by omega) (by omega) (by omega))), TP_cg (TP_fr hV.2.1 (fun j p q => a4 j (by omega) (by omega) (by omega))) rfl rfl, a2⟩
      refine ⟨VG_fr hV1 (fun j p q => uI_n (by omega)), fX_uI ⟨a3, fun j p q r s => a4 j (by omega) (by omega) (by omega)⟩ (Or.inl rfl), ?_, ?_, ?_, ?_, ?_, ?_, ?_, ?_⟩
      · rw [uI_n (by omega)]; exact a4 _ (by omega) (by omega) (by omega)
      · rw [uI_s, up_n (by omega), eh]; exact hd
      · rw [uI_s, up_n (by omega), eh]
      · rw [uI_s, up_n (by omega), eh]
      · rw [uI_s, up_s]
      · rw [uI_s, up_n (by omega), eh, x_a0]
      · rw [uI_s, up_n (by omega), eh, x_a0]
      · rw [uI_s, up_n (by omega), eh]
  · refine ⟨σ, ?_, fun z => absurd z e, fun _ => rfl⟩
    have a1 := X_passDaysN (isLV_V hv) hV.2.2 hw.1 hn e
    rw [decide_eq_false e]
    simp (disch := omega) only [g_X0_letPass, ↓e_X0_letPass_10, ↓e_X0_letPass_0, ↓it_s, ↓y_iload, ↓y_lload, ↓y_aload, ↓y_istore, ↓y_lstore, ↓y_astore, ↓y_iinc, ↓y_cI, ↓y_cL, ↓y_bin, ↓y_binL, ↓y_div, ↓y_divL, ↓y_lshl, ↓y_un, ↓y_i2l, ↓y_lneg, ↓y_l2i, ↓y_lcmp, ↓y_dupI, ↓y_dupR, ↓y_dup2, ↓y_pop, ↓y_goto, ↓y_eq0, ↓y_lt0, ↓y_le0, ↓y_eq, ↓y_lt, ↓y_le, ↓y_switch, ↓y_sw0, ↓y_sw1, ↓y_getI, ↓y_getL, ↓y_getR, ↓y_getT, ↓y_putI, ↓y_putZ, ↓y_putL, ↓y_putT, ↓y_iald, ↓y_bald, ↓y_lald, ↓y_aald, ↓y_iast, ↓y_bast, ↓y_last, ↓y_alen, ↓y_iret, ↓y_zret, ↓y_lret, ↓y_vret, ↓y_svI, ↓y_svL, ↓y_svV, ↓y_ivI, ↓y_ivL, ↓y_ivV, ↓y_max, ↓y_min, ↓y_absL, ↓y_cpI, ↓y_cpL, ↓x_n1I, ↓x_n1L, ↓x_n1R, ↓x_n0I, ↓x_n0L, ↓x_n0R, ↓x_s0, ↓x_s1i, ↓x_s1r, ↓x_s1n, ↓x_s2, ↓x_c0, ↓x_c2, ↓x_tk0, ↓x_tk1, ↓x_rcv, x_rI1, x_rL1, x_rV1, x_rIn, x_rLn, x_rVn, x_rIf, x_rLf, x_rVf, x_40, x_41, x_42, x_43, x_44, ↓reduceIte, if_true, if_false, ao_iadd, ao_isub, ao_imul, ao_iand, ao_ior, ao_ishl, ao_ishr, ao_iushr, ao_ladd, ao_lsub, ao_lmul, ao_land, ao_lor, ao_idiv, ao_irem, ao_ldiv, ao_lrem, ao_ineg, ao_i2b, ao_i2s, Nat.reduceAdd, Nat.reduceMul, Nat.reduceSub, Nat.reduceEqDiff, Nat.reduceLeDiff, and_self, true_and, x_lit, x_ofn, x_z0, x_z1, x_inbT, x_ltT, x_ltF, x_leT, x_leF, x_eqF, x_eqT, x_inb, x_lt, x_le, x_eq, x_cl, x_sub, nI_add, pk_mul, x_m1e, x_m1e', x_m1l, x_m1n, x_m1s, Nat.not_lt_zero, x_zb, x_b0, x_b1, decide_eq_false_iff_not, decide_eq_true_eq, Bool.false_eq_true, Bool.true_eq_false, k0, kv, a1, b2_f]
theorem MD_days {σ : am_M} {V : Vt} {n : Nat} (hM : MC (σ.1 128) 0 V) (hw : WG V) (hday : vN V 6 + n ≤ 9999) (hd : (Nat → am_K) → Nat → am_K) (p C : Nat) (L : Nat → am_L) (step : ∀ i τ τ', i < n → S_X11_goesDay [.ref 123] τ = some (none, τ') → rch hd C p (L i) τ p (L (i + 1)) τ') : ∃ g, rch hd (C * n) p (L 0) σ p (L n) (am_uA σ 128 g) ∧ MC g 0 (dayV V n) ∧ ∀ j, 170 ≤ j → g j = σ.1 128 j := by
  obtain ⟨g, τ, ⟨e, a, b⟩, h⟩ := rch_for (hd := hd) (p := p) (n := n) (C := C) (fun i (_ : Nat → Int32) => L i) (fun i g τ => τ = am_uA σ 128 g ∧ MC g 0 (dayV V i) ∧ ∀ j, 170 ≤ j → g j = σ.1 128 j)
    (fun i g τ hi hI => by
      obtain ⟨e, a, b⟩ := hI
      have hwi := WG_day (n := i) hw (by omega)
      obtain ⟨g', x1, x2, x3⟩ := M_goesDay (σ := τ) (V := dayV V i) (by rw [e, uA_s]; exact a) hwi.1 hwi.2.1 hwi.2.2
      refine ⟨g', am_uA σ 128 g', ⟨rfl, by rw [dayV_s]; exact x2, fun j hj => by rw [x3 j hj, e, uA_s]; exact b j hj⟩, ?_⟩
      have := step i τ _ hi x1
      rw [e, uA_uA] at this
      rw [e]
      exact this)
    n 0 (σ.1 128) σ (by omega) ⟨(uA_id rfl).symm, by rw [dayV_0]; exact hM, fun _ _ => rfl⟩
  subst e
  exact ⟨g, h, a, b⟩
theorem M_anyDays {n d : Nat} {σ : am_M} {V : Vt} (hM : MC (σ.1 128) 0 V) (hw : WG V) (hn : n ≤ 99) (hd : σ.1 123 43 = nI d) : ∃ τ, S_X11_anyDays [.ref 123, .int (nI n)] σ = some (some (.int (nI (b2 (decide (vN V 6 + n ≤ 9999))))), τ) ∧ (vN V 6 + n ≤ 9999 → AM σ τ (dayV V n) d (nI n) (nI 0) (nI 0)) ∧ (¬ vN V 6 + n ≤ 9999 → τ = σ) := by
  have h6 := (MC_0 hM).1 6 (by omega)
  have h99 := hw.1.2.2.2.2.2.2.1
  by_cases e : vN V 6 + n ≤ 9999
  · obtain ⟨g, a1, a2, a3⟩ := MD_days hM hw e hd_X11_anyDays 19 1 (fun i => [some (.ref 123), some (.int (nI n)), some (.int (nI i))]) (fun i τ τ' hi h => rch_1 fun B => by
      simp (disch := omega) only [↓e_X11_anyDays_19, ↓h_X11_anyDays_19, ↓it_s, ↓y_iload, ↓y_lload, ↓y_aload, ↓y_istore, ↓y_lstore, ↓y_astore, ↓y_iinc, ↓y_cI, ↓y_cL, ↓y_bin, ↓y_binL, ↓y_div, ↓y_divL, ↓y_lshl, ↓y_un, ↓y_i2l, ↓y_lneg, ↓y_l2i, ↓y_lcmp, ↓y_dupI, ↓y_dupR, ↓y_dup2, ↓y_pop, ↓y_goto, ↓y_eq0, ↓y_lt0, ↓y_le0, ↓y_eq, ↓y_lt, ↓y_le, ↓y_switch, ↓y_sw0, ↓y_sw1, ↓y_getI, ↓y_getL, ↓y_getR, ↓y_getT, ↓y_putI, ↓y_putZ, ↓y_putL, ↓y_putT, ↓y_iald, ↓y_bald, ↓y_lald, ↓y_aald, ↓y_iast, ↓y_bast, ↓y_last, ↓y_alen, ↓y_iret, ↓y_zret, ↓y_lret, ↓y_vret, ↓y_svI, ↓y_svL, ↓y_svV, ↓y_ivI, ↓y_ivL, ↓y_ivV, ↓y_max, ↓y_min, ↓y_absL, ↓y_cpI, ↓y_cpL, ↓x_n1I, ↓x_n1L, ↓x_n1R, ↓x_n0I, ↓x_n0L, ↓x_n0R, ↓x_s0, ↓x_s1i, ↓x_s1r, ↓x_s1n, ↓x_s2, ↓x_c0, ↓x_c2, ↓x_tk0, ↓x_tk1, ↓x_rcv, x_rI1, x_rL1, x_rV1, x_rIn, x_rLn, x_rVn, x_rIf, x_rLf, x_rVf, x_40, x_41, x_42, x_43, x_44, ↓reduceIte, if_true, if_false, ao_iadd, ao_isub, ao_imul, ao_iand, ao_ior, ao_ishl, ao_ishr, ao_iushr, ao_ladd, ao_lsub, ao_lmul, ao_land, ao_lor, ao_idiv, ao_irem, ao_ldiv, ao_lrem, ao_ineg, ao_i2b, ao_i2s, Nat.reduceAdd, Nat.reduceMul, Nat.reduceSub, Nat.reduceEqDiff, Nat.reduceLeDiff, and_self, true_and, x_lit, x_ofn, x_z0, x_z1, x_inbT, x_ltT, x_ltF, x_leT, x_leF, x_eqF, x_eqT, x_inb, x_lt, x_le, x_eq, x_cl, x_sub, nI_add, pk_mul, x_m1e, x_m1e', x_m1l, x_m1n, x_m1s, Nat.not_lt_zero, x_zb, x_b0, x_b1, decide_eq_false_iff_not, decide_eq_true_eq, Bool.false_eq_true, Bool.true_eq_false, h, kd_123])
    have hf := fin_run (rch_fin a1 (fin_0 (r := some (some (.int (nI 1)), am_uI (am_uA σ 128 g) 123 46 (σ.1 123 46 + nI n))) fun B => by
      have h46 : (am_uA σ 128 g).1 123 46 = σ.1 123 46 := by rw [uA_n (by omega)]
      simp (disch := omega) only [↓e_X11_anyDays_19, ↓e_X11_anyDays_34, ↓h_X11_anyDays_19, ↓it_s, ↓y_iload, ↓y_lload, ↓y_aload, ↓y_istore, ↓y_lstore, ↓y_astore, ↓y_iinc, ↓y_cI, ↓y_cL, ↓y_bin, ↓y_binL, ↓y_div, ↓y_divL, ↓y_lshl, ↓y_un, ↓y_i2l, ↓y_lneg, ↓y_l2i, ↓y_lcmp, ↓y_dupI, ↓y_dupR, ↓y_dup2, ↓y_pop, ↓y_goto, ↓y_eq0, ↓y_lt0, ↓y_le0, ↓y_eq, ↓y_lt, ↓y_le, ↓y_switch, ↓y_sw0, ↓y_sw1, ↓y_getI, ↓y_getL, ↓y_getR, ↓y_getT, ↓y_putI, ↓y_putZ, ↓y_putL, ↓y_putT, ↓y_iald, ↓y_bald, ↓y_lald, ↓y_aald, ↓y_iast, ↓y_bast, ↓y_last, ↓y_alen, ↓y_iret, ↓y_zret, ↓y_lret, ↓y_vret, ↓y_svI, ↓y_svL, ↓y_svV, ↓y_ivI, ↓y_ivL, ↓y_ivV, ↓y_max, ↓y_min, ↓y_absL, ↓y_cpI, ↓y_cpL, ↓x_n1I, ↓x_n1L, ↓x_n1R, ↓x_n0I, ↓x_n0L, ↓x_n0R, ↓x_s0, ↓x_s1i, ↓x_s1r, ↓x_s1n, ↓x_s2, ↓x_c0, ↓x_c2, ↓x_tk0, ↓x_tk1, ↓x_rcv, x_rI1, x_rL1, x_rV1, x_rIn, x_rLn, x_rVn, x_rIf, x_rLf, x_rVf, x_40, x_41, x_42, x_43, x_44, ↓reduceIte, if_true, if_false, ao_iadd, ao_isub, ao_imul, ao_iand, ao_ior, ao_ishl, ao_ishr, ao_iushr, ao_ladd, ao_lsub, ao_lmul, ao_land, ao_lor, ao_idiv, ao_irem, ao_ldiv, ao_lrem, ao_ineg, ao_i2b, ao_i2s, Nat.reduceAdd, Nat.reduceMul, Nat.reduceSub, Nat.reduceEqDiff, Nat.reduceLeDiff, and_self, true_and, x_lit, x_ofn, x_z0, x_z1, x_inbT, x_ltT, x_ltF, x_leT, x_leF, x_eqF, x_eqT, x_inb, x_lt, x_le, x_eq, x_cl, x_sub, nI_add, pk_mul, x_m1e, x_m1e', x_m1l, x_m1n, x_m1s, Nat.not_lt_zero, x_zb, x_b0, x_b1, decide_eq_false_iff_not, decide_eq_true_eq, Bool.false_eq_true, Bool.true_eq_false, h46, kd_123])) (by unfold am_fuel; omega)
    refine ⟨am_uI (am_uA σ 128 g) 123 46 (σ.1 123 46 + nI n), ?_, fun _ => ?_, fun z => absurd e z⟩
    · rw [decide_eq_true e]
      show _ = some (some (Value.int (nI 1)), _)
      rw [← hf]
      simp (disch := omega) only [g_X11_anyDays, ↓e_X11_anyDays_0, ↓e_X11_anyDays_17, ↓h_X11_anyDays_19, ↓it_s, ↓y_iload, ↓y_lload, ↓y_aload, ↓y_istore, ↓y_lstore, ↓y_astore, ↓y_iinc, ↓y_cI, ↓y_cL, ↓y_bin, ↓y_binL, ↓y_div, ↓y_divL, ↓y_lshl, ↓y_un, ↓y_i2l, ↓y_lneg, ↓y_l2i, ↓y_lcmp, ↓y_dupI, ↓y_dupR, ↓y_dup2, ↓y_pop, ↓y_goto, ↓y_eq0, ↓y_lt0, ↓y_le0, ↓y_eq, ↓y_lt, ↓y_le, ↓y_switch, ↓y_sw0, ↓y_sw1, ↓y_getI, ↓y_getL, ↓y_getR, ↓y_getT, ↓y_putI, ↓y_putZ, ↓y_putL, ↓y_putT, ↓y_iald, ↓y_bald, ↓y_lald, ↓y_aald, ↓y_iast, ↓y_bast, ↓y_last, ↓y_alen, ↓y_iret, ↓y_zret, ↓y_lret, ↓y_vret, ↓y_svI, ↓y_svL, ↓y_svV, ↓y_ivI, ↓y_ivL, ↓y_ivV, ↓y_max, ↓y_min, ↓y_absL, ↓y_cpI, ↓y_cpL, ↓x_n1I, ↓x_n1L, ↓x_n1R, ↓x_n0I, ↓x_n0L, ↓x_n0R, ↓x_s0, ↓x_s1i, ↓x_s1r, ↓x_s1n, ↓x_s2, ↓x_c0, ↓x_c2, ↓x_tk0, ↓x_tk1, ↓x_rcv, x_rI1, x_rL1, x_rV1, x_rIn, x_rLn, x_rVn, x_rIf, x_rLf, x_rVf, x_40, x_41, x_42, x_43, x_44, ↓reduceIte, if_true, if_false, ao_iadd, ao_isub, ao_imul, ao_iand, ao_ior, ao_ishl, ao_ishr, ao_iushr, ao_ladd, ao_lsub, ao_lmul, ao_land, ao_lor, ao_idiv, ao_irem, ao_ldiv, ao_lrem, ao_ineg, ao_i2b, ao_i2s, Nat.reduceAdd, Nat.reduceMul, Nat.reduceSub, Nat.reduceEqDiff, Nat.reduceLeDiff, and_self, true_and, x_lit, x_ofn, x_z0, x_z1, x_inbT, x_ltT, x_ltF, x_leT, x_leF, x_eqF, x_eqT, x_inb, x_lt, x_le, x_eq, x_cl, x_sub, nI_add, pk_mul, x_m1e, x_m1e', x_m1l, x_m1n, x_m1s, Nat.not_lt_zero, x_zb, x_b0, x_b1, decide_eq_false_iff_not, decide_eq_true_eq, Bool.false_eq_true, Bool.true_eq_false, h6, kd_123, kd_128, ln_128]
    · have eh : (am_uA σ 128 g).1 123 = σ.1 123 := uA_n (by omega)
      refine ⟨by rw [uI_n (by omega), uA_s]; exact a2, fM_uI (fM_c a3) (by omega), ?_, ?_, ?_, ?_, ?_, ?_, ?_, ?_⟩
      · rw [uI_s, up_n (by omega), eh]
      · rw [uI_s, up_n (by omega), eh]; exact hd
      · rw [uI_s, up_n (by omega), eh]
      · rw [uI_s, up_n (by omega), eh]
      · rw [uI_s, up_s]
      · rw [uI_s, up_n (by omega), eh, x_a0]
      · rw [uI_s, up_n (by omega), eh, x_a0]
      · rw [uI_s, up_n (by omega), eh]
  · refine ⟨σ, ?_, fun z => absurd z e, fun _ => rfl⟩
    rw [decide_eq_false e]
    simp (disch := omega) only [g_X11_anyDays, ↓e_X11_anyDays_0, ↓it_s, ↓y_iload, ↓y_lload, ↓y_aload, ↓y_istore, ↓y_lstore, ↓y_astore, ↓y_iinc, ↓y_cI, ↓y_cL, ↓y_bin, ↓y_binL, ↓y_div, ↓y_divL, ↓y_lshl, ↓y_un, ↓y_i2l, ↓y_lneg, ↓y_l2i, ↓y_lcmp, ↓y_dupI, ↓y_dupR, ↓y_dup2, ↓y_pop, ↓y_goto, ↓y_eq0, ↓y_lt0, ↓y_le0, ↓y_eq, ↓y_lt, ↓y_le, ↓y_switch, ↓y_sw0, ↓y_sw1, ↓y_getI, ↓y_getL, ↓y_getR, ↓y_getT, ↓y_putI, ↓y_putZ, ↓y_putL, ↓y_putT, ↓y_iald, ↓y_bald, ↓y_lald, ↓y_aald, ↓y_iast, ↓y_bast, ↓y_last, ↓y_alen, ↓y_iret, ↓y_zret, ↓y_lret, ↓y_vret, ↓y_svI, ↓y_svL, ↓y_svV, ↓y_ivI, ↓y_ivL, ↓y_ivV, ↓y_max, ↓y_min, ↓y_absL, ↓y_cpI, ↓y_cpL, ↓x_n1I, ↓x_n1L, ↓x_n1R, ↓x_n0I, ↓x_n0L, ↓x_n0R, ↓x_s0, ↓x_s1i, ↓x_s1r, ↓x_s1n, ↓x_s2, ↓x_c0, ↓x_c2, ↓x_tk0, ↓x_tk1, ↓x_rcv, x_rI1, x_rL1, x_rV1, x_rIn, x_rLn, x_rVn, x_rIf, x_rLf, x_rVf, x_40, x_41, x_42, x_43, x_44, ↓reduceIte, if_true, if_false, ao_iadd, ao_isub, ao_imul, ao_iand, ao_ior, ao_ishl, ao_ishr, ao_iushr, ao_ladd, ao_lsub, ao_lmul, ao_land, ao_lor, ao_idiv, ao_irem, ao_ldiv, ao_lrem, ao_ineg, ao_i2b, ao_i2s, Nat.reduceAdd, Nat.reduceMul, Nat.reduceSub, Nat.reduceEqDiff, Nat.reduceLeDiff, and_self, true_and, x_lit, x_ofn, x_z0, x_z1, x_inbT, x_ltT, x_ltF, x_leT, x_leF, x_eqF, x_eqT, x_inb, x_lt, x_le, x_eq, x_cl, x_sub, nI_add, pk_mul, x_m1e, x_m1e', x_m1l, x_m1n, x_m1s, Nat.not_lt_zero, x_zb, x_b0, x_b1, decide_eq_false_iff_not, decide_eq_true_eq, Bool.false_eq_true, Bool.true_eq_false, h6, kd_123, kd_128, ln_128, b2_f]
/-- a move -/
theorem X_carry {h v f to c d : Nat} {σ : am_M} {V : Vt} (hh : isH h) (hv : isLV v) (hV : VG σ v V) (hw : WG V) (hf : f < 7) (hto : to < 8) (hk : okM V f to = true) (hc : (vP V f).getLast? = some c) (hd : σ.1 h 2 = nI d) : ∃ τ, S_X0_carry [.ref h, .ref v, .int (nI f), .int (nI to)] σ = some (none, τ) ∧ AX h v σ τ (moveV V f to c) d (nI 0) (nI (if to = 7 then 1 else 0)) (nI 1) := by
  obtain ⟨k0, k1, k2, l1, l2⟩ := isH_k hh
  have kv := (isV_k (isLV_V hv)).1
  have hap := hv_apart hh hv
  obtain ⟨h1, h2, h3, h6, hft, c', c1, c2, c3⟩ := ok_spec hw.1 hto hk
  rw [hc] at c1
  cases c1
  obtain ⟨τ, a1, a2, a3, a4⟩ := X_play (isLV_V hv) hV hw hf hto h6 hft hc c3
  have eh : τ.1 h = σ.1 h := a4 h (by omega) (by omega) (by omega) (by omega) (by omega)
  have q7 : τ.1 h 7 = σ.1 h 7 := by rw [eh]
  have q6 : τ.1 h 6 = σ.1 h 6 := by rw [eh]
  have hF : fX h v σ τ := ⟨a3, fun j p q r s => a4 j (by omega) (by omega) (by omega) (by omega) (by omega)⟩
  have e1 : τ.1 (h + 1) = σ.1 (h + 1) := a4 _ (by omega) (by omega) (by omega) (by omega) (by omega)
  by_cases e7 : to = 7
  · subst e7
    refine ⟨am_uI (am_uI τ h 7 (σ.1 h 7 + nI 1)) h 6 (σ.1 h 6 + nI 1), ?_, VG_fr a2 (fun j p q => by rw [uI_n (by omega), uI_n (by omega)]), fX_uI (fX_uI hF (Or.inl rfl)) (Or.inl rfl), ?_, ?_, ?_, ?_, ?_, ?_, ?_, ?_⟩
    · simp (disch := omega) only [g_X0_carry, ↓e_X0_carry_33, ↓e_X0_carry_0, ↓it_s, ↓y_iload, ↓y_lload, ↓y_aload, ↓y_istore, ↓y_lstore, ↓y_astore, ↓y_iinc, ↓y_cI, ↓y_cL, ↓y_bin, ↓y_binL, ↓y_div, ↓y_divL, ↓y_lshl, ↓y_un, ↓y_i2l, ↓y_lneg, ↓y_l2i, ↓y_lcmp, ↓y_dupI, ↓y_dupR, ↓y_dup2, ↓y_pop, ↓y_goto, ↓y_eq0, ↓y_lt0, ↓y_le0, ↓y_eq, ↓y_lt, ↓y_le, ↓y_switch, ↓y_sw0, ↓y_sw1, ↓y_getI, ↓y_getL, ↓y_getR, ↓y_getT, ↓y_putI, ↓y_putZ, ↓y_putL, ↓y_putT, ↓y_iald, ↓y_bald, ↓y_lald, ↓y_aald, ↓y_iast, ↓y_bast, ↓y_last, ↓y_alen, ↓y_iret, ↓y_zret, ↓y_lret, ↓y_vret, ↓y_svI, ↓y_svL, ↓y_svV, ↓y_ivI, ↓y_ivL, ↓y_ivV, ↓y_max, ↓y_min, ↓y_absL, ↓y_cpI, ↓y_cpL, ↓x_n1I, ↓x_n1L, ↓x_n1R, ↓x_n0I, ↓x_n0L, ↓x_n0R, ↓x_s0, ↓x_s1i, ↓x_s1r, ↓x_s1n, ↓x_s2, ↓x_c0, ↓x_c2, ↓x_tk0, ↓x_tk1, ↓x_rcv, x_rI1, x_rL1, x_rV1, x_rIn, x_rLn, x_rVn, x_rIf, x_rLf, x_rVf, x_40, x_41, x_42, x_43, x_44, ↓reduceIte, if_true, if_false, ao_iadd, ao_isub, ao_imul, ao_iand, ao_ior, ao_ishl, ao_ishr, ao_iushr, ao_ladd, ao_lsub, ao_lmul, ao_land, ao_lor, ao_idiv, ao_irem, ao_ldiv, ao_lrem, ao_ineg, ao_i2b, ao_i2s, Nat.reduceAdd, Nat.reduceMul, Nat.reduceSub, Nat.reduceEqDiff, Nat.reduceLeDiff, and_self, true_and, x_lit, x_ofn, x_z0, x_z1, x_inbT, x_ltT, x_ltF, x_leT, x_leF, x_eqF, x_eqT, x_inb, x_lt, x_le, x_eq, x_cl, x_sub, nI_add, pk_mul, x_m1e, x_m1e', x_m1l, x_m1n, x_m1s, Nat.not_lt_zero, x_zb, x_b0, x_b1, decide_eq_false_iff_not, decide_eq_true_eq, Bool.false_eq_true, Bool.true_eq_false, k0, kv, a1, q7, q6, uI_s, up_n]
    · rw [uI_n (by omega), uI_n (by omega)]; exact e1
    · rw [uI_s, up_n (by omega), uI_s, up_n (by omega), eh]; exact hd
    · rw [uI_s, up_n (by omega), uI_s, up_n (by omega), eh]
    · rw [uI_s, up_n (by omega), uI_s, up_n (by omega), eh]
    · rw [uI_s, up_n (by omega), uI_s, up_n (by omega), eh, x_a0]
    · rw [uI_s, up_s, if_pos rfl]
    · rw [uI_s, up_n (by omega), uI_s, up_s]
    · rw [uI_s, up_n (by omega), uI_s, up_n (by omega), eh]
  · refine ⟨am_uI τ h 7 (σ.1 h 7 + nI 1), ?_, VG_fr a2 (fun j p q => by rw [uI_n (by omega)]), fX_uI hF (Or.inl rfl), ?_, ?_, ?_, ?_, ?_, ?_, ?_, ?_⟩
    · simp (disch := omega) only [g_X0_carry, ↓e_X0_carry_33, ↓e_X0_carry_0, ↓it_s, ↓y_iload, ↓y_lload, ↓y_aload, ↓y_istore, ↓y_lstore, ↓y_astore, ↓y_iinc, ↓y_cI, ↓y_cL, ↓y_bin, ↓y_binL, ↓y_div, ↓y_divL, ↓y_lshl, ↓y_un, ↓y_i2l, ↓y_lneg, ↓y_l2i, ↓y_lcmp, ↓y_dupI, ↓y_dupR, ↓y_dup2, ↓y_pop, ↓y_goto, ↓y_eq0, ↓y_lt0, ↓y_le0, ↓y_eq, ↓y_lt, ↓y_le, ↓y_switch, ↓y_sw0, ↓y_sw1, ↓y_getI, ↓y_getL, ↓y_getR, ↓y_getT, ↓y_putI, ↓y_putZ, ↓y_putL, ↓y_putT, ↓y_iald, ↓y_bald, ↓y_lald, ↓y_aald, ↓y_iast, ↓y_bast, ↓y_last, ↓y_alen, ↓y_iret, ↓y_zret, ↓y_lret, ↓y_vret, ↓y_svI, ↓y_svL, ↓y_svV, ↓y_ivI, ↓y_ivL, ↓y_ivV, ↓y_max, ↓y_min, ↓y_absL, ↓y_cpI, ↓y_cpL, ↓x_n1I, ↓x_n1L, ↓x_n1R, ↓x_n0I, ↓x_n0L, ↓x_n0R, ↓x_s0, ↓x_s1i, ↓x_s1r, ↓x_s1n, ↓x_s2, ↓x_c0, ↓x_c2, ↓x_tk0, ↓x_tk1, ↓x_rcv, x_rI1, x_rL1, x_rV1, x_rIn, x_rLn, x_rVn, x_rIf, x_rLf, x_rVf, x_40, x_41, x_42, x_43, x_44, ↓reduceIte, if_true, if_false, ao_iadd, ao_isub, ao_imul, ao_iand, ao_ior, ao_ishl, ao_ishr, ao_iushr, ao_ladd, ao_lsub, ao_lmul, ao_land, ao_lor, ao_idiv, ao_irem, ao_ldiv, ao_lrem, ao_ineg, ao_i2b, ao_i2s, Nat.reduceAdd, Nat.reduceMul, Nat.reduceSub, Nat.reduceEqDiff, Nat.reduceLeDiff, and_self, true_and, x_lit, x_ofn, x_z0, x_z1, x_inbT, x_ltT, x_ltF, x_leT, x_leF, x_eqF, x_eqT, x_inb, x_lt, x_le, x_eq, x_cl, x_sub, nI_add, pk_mul, x_m1e, x_m1e', x_m1l, x_m1n, x_m1s, Nat.not_lt_zero, x_zb, x_b0, x_b1, decide_eq_false_iff_not, decide_eq_true_eq, Bool.false_eq_true, Bool.true_eq_false, k0, kv, a1, q7, e7]
    · rw [uI_n (by omega)]; exact e1
    · rw [uI_s, up_n (by omega), eh]; exact hd
    · rw [uI_s, up_n (by omega), eh]
    · rw [uI_s, up_n (by omega), eh]
    · rw [uI_s, up_n (by omega), eh, x_a0]
    · rw [uI_s, up_n (by omega), eh, if_neg e7, x_a0]
    · rw [uI_s, up_s]
    · rw [uI_s, up_n (by omega), eh]
theorem M_isMovedT {f to c d : Nat} {σ : am_M} {V : Vt} (hM : MC (σ.1 128) 0 V) (hw : WG V) (hf : f < 7) (hto : to < 8) (hk : okM V f to = true) (hc : (vP V f).getLast? = some c) (hd : σ.1 123 43 = nI d) : ∃ τ, S_X11_isMoved [.ref 123, .int (nI f), .int (nI to)] σ = some (some (.int (nI 1)), τ) ∧ AM σ τ (moveV V f to c) d (nI 0) (nI (if to = 7 then 1 else 0)) (nI 1) := by
  obtain ⟨h1, h2, h3, h6, hft, c', c1, c2, c3⟩ := ok_spec hw.1 hto hk
  have x1 := M_isFrom (p := f) hM hw.1 (by omega)
  have x2 := M_isTo (p := to) hM hw.1 (by omega)
  have x3 := M_isMove hM hw.2.1 hw.1 hf hto h6
  rw [h1] at x1
  rw [h2] at x2
  rw [h3] at x3
  obtain ⟨g, a1, a2, a3⟩ := M_goesK hM hw hf hto hk hc
  have eh : (am_uA σ 128 g).1 123 = σ.1 123 := uA_n (by omega)
  have q7 : (am_uA σ 128 g).1 123 47 = σ.1 123 47 := by rw [eh]
  have q8 : (am_uA σ 128 g).1 123 48 = σ.1 123 48 := by rw [eh]
  refine ⟨am_uI (am_uI (am_uA σ 128 g) 123 47 (σ.1 123 47 + nI (if to = 7 then 1 else 0))) 123 48 (σ.1 123 48 + nI 1), ?_, by rw [uI_n (by omega), uI_n (by omega), uA_s]; exact a2, fM_uI (fM_uI (fM_c a3) (by omega)) (by omega), ?_, ?_, ?_, ?_, ?_, ?_, ?_, ?_⟩
  · by_cases e7 : to = 7
    · subst e7
      rw [if_pos rfl]
      simp (disch := omega) only [g_X11_isMoved, ↓e_X11_isMoved_50, ↓e_X11_isMoved_49, ↓e_X11_isMoved_27, ↓e_X11_isMoved_25, ↓e_X11_isMoved_0, ↓it_s, ↓y_iload, ↓y_lload, ↓y_aload, ↓y_istore, ↓y_lstore, ↓y_astore, ↓y_iinc, ↓y_cI, ↓y_cL, ↓y_bin, ↓y_binL, ↓y_div, ↓y_divL, ↓y_lshl, ↓y_un, ↓y_i2l, ↓y_lneg, ↓y_l2i, ↓y_lcmp, ↓y_dupI, ↓y_dupR, ↓y_dup2, ↓y_pop, ↓y_goto, ↓y_eq0, ↓y_lt0, ↓y_le0, ↓y_eq, ↓y_lt, ↓y_le, ↓y_switch, ↓y_sw0, ↓y_sw1, ↓y_getI, ↓y_getL, ↓y_getR, ↓y_getT, ↓y_putI, ↓y_putZ, ↓y_putL, ↓y_putT, ↓y_iald, ↓y_bald, ↓y_lald, ↓y_aald, ↓y_iast, ↓y_bast, ↓y_last, ↓y_alen, ↓y_iret, ↓y_zret, ↓y_lret, ↓y_vret, ↓y_svI, ↓y_svL, ↓y_svV, ↓y_ivI, ↓y_ivL, ↓y_ivV, ↓y_max, ↓y_min, ↓y_absL, ↓y_cpI, ↓y_cpL, ↓x_n1I, ↓x_n1L, ↓x_n1R, ↓x_n0I, ↓x_n0L, ↓x_n0R, ↓x_s0, ↓x_s1i, ↓x_s1r, ↓x_s1n, ↓x_s2, ↓x_c0, ↓x_c2, ↓x_tk0, ↓x_tk1, ↓x_rcv, x_rI1, x_rL1, x_rV1, x_rIn, x_rLn, x_rVn, x_rIf, x_rLf, x_rVf, x_40, x_41, x_42, x_43, x_44, ↓reduceIte, if_true, if_false, ao_iadd, ao_isub, ao_imul, ao_iand, ao_ior, ao_ishl, ao_ishr, ao_iushr, ao_ladd, ao_lsub, ao_lmul, ao_land, ao_lor, ao_idiv, ao_irem, ao_ldiv, ao_lrem, ao_ineg, ao_i2b, ao_i2s, Nat.reduceAdd, Nat.reduceMul, Nat.reduceSub, Nat.reduceEqDiff, Nat.reduceLeDiff, and_self, true_and, x_lit, x_ofn, x_z0, x_z1, x_inbT, x_ltT, x_ltF, x_leT, x_leF, x_eqF, x_eqT, x_inb, x_lt, x_le, x_eq, x_cl, x_sub, nI_add, pk_mul, x_m1e, x_m1e', x_m1l, x_m1n, x_m1s, Nat.not_lt_zero, x_zb, x_b0, x_b1, decide_eq_false_iff_not, decide_eq_true_eq, Bool.false_eq_true, Bool.true_eq_false, x1, x2, x3, b2_t, a1, q7, uI_s, up_n, q8, kd_123]
    · simp (disch := omega) only [g_X11_isMoved, ↓e_X11_isMoved_50, ↓e_X11_isMoved_49, ↓e_X11_isMoved_27, ↓e_X11_isMoved_25, ↓e_X11_isMoved_0, ↓it_s, ↓y_iload, ↓y_lload, ↓y_aload, ↓y_istore, ↓y_lstore, ↓y_astore, ↓y_iinc, ↓y_cI, ↓y_cL, ↓y_bin, ↓y_binL, ↓y_div, ↓y_divL, ↓y_lshl, ↓y_un, ↓y_i2l, ↓y_lneg, ↓y_l2i, ↓y_lcmp, ↓y_dupI, ↓y_dupR, ↓y_dup2, ↓y_pop, ↓y_goto, ↓y_eq0, ↓y_lt0, ↓y_le0, ↓y_eq, ↓y_lt, ↓y_le, ↓y_switch, ↓y_sw0, ↓y_sw1, ↓y_getI, ↓y_getL, ↓y_getR, ↓y_getT, ↓y_putI, ↓y_putZ, ↓y_putL, ↓y_putT, ↓y_iald, ↓y_bald, ↓y_lald, ↓y_aald, ↓y_iast, ↓y_bast, ↓y_last, ↓y_alen, ↓y_iret, ↓y_zret, ↓y_lret, ↓y_vret, ↓y_svI, ↓y_svL, ↓y_svV, ↓y_ivI, ↓y_ivL, ↓y_ivV, ↓y_max, ↓y_min, ↓y_absL, ↓y_cpI, ↓y_cpL, ↓x_n1I, ↓x_n1L, ↓x_n1R, ↓x_n0I, ↓x_n0L, ↓x_n0R, ↓x_s0, ↓x_s1i, ↓x_s1r, ↓x_s1n, ↓x_s2, ↓x_c0, ↓x_c2, ↓x_tk0, ↓x_tk1, ↓x_rcv, x_rI1, x_rL1, x_rV1, x_rIn, x_rLn, x_rVn, x_rIf, x_rLf, x_rVf, x_40, x_41, x_42, x_43, x_44, ↓reduceIte, if_true, if_false, ao_iadd, ao_isub, ao_imul, ao_iand, ao_ior, ao_ishl, ao_ishr, ao_iushr, ao_ladd, ao_lsub, ao_lmul, ao_land, ao_lor, ao_idiv, ao_irem, ao_ldiv, ao_lrem, ao_ineg, ao_i2b, ao_i2s, Nat.reduceAdd, Nat.reduceMul, Nat.reduceSub, Nat.reduceEqDiff, Nat.reduceLeDiff, and_self, true_and, x_lit, x_ofn, x_z0, x_z1, x_inbT, x_ltT, x_ltF, x_leT, x_leF, x_eqF, x_eqT, x_inb, x_lt, x_le, x_eq, x_cl, x_sub, nI_add, pk_mul, x_m1e, x_m1e', x_m1l, x_m1n, x_m1s, Nat.not_lt_zero, x_zb, x_b0, x_b1, decide_eq_false_iff_not, decide_eq_true_eq, Bool.false_eq_true, Bool.true_eq_false, x1, x2, x3, b2_t, a1, q7, e7, uI_s, up_n, q8, kd_123]
  · rw [uI_s, up_n (by omega), uI_s, up_n (by omega), eh]
  · rw [uI_s, up_n (by omega), uI_s, up_n (by omega), eh]; exact hd
  · rw [uI_s, up_n (by omega), uI_s, up_n (by omega), eh]
  · rw [uI_s, up_n (by omega), uI_s, up_n (by omega), eh]
  · rw [uI_s, up_n (by omega), uI_s, up_n (by omega), eh, x_a0]
  · rw [uI_s, up_n (by omega), uI_s, up_s]
  · rw [uI_s, up_s]
  · rw [uI_s, up_n (by omega), uI_s, up_n (by omega), eh]
theorem M_isMovedF {f to : Nat} {σ : am_M} {V : Vt} (hM : MC (σ.1 128) 0 V) (hw : WG V) (hf : f < 7) (hto : to < 8) (hk : okM V f to = false) : S_X11_isMoved [.ref 123, .int (nI f), .int (nI to)] σ = some (some (.int (nI 0)), σ) := by
  have x1 := M_isFrom (p := f) hM hw.1 (by omega)
  have x2 := M_isTo (p := to) hM hw.1 (by omega)
  cases h1 : isFr V f with
  | false =>
    rw [h1] at x1
    simp (disch := omega) only [g_X11_isMoved, ↓e_X11_isMoved_50, ↓e_X11_isMoved_49, ↓e_X11_isMoved_27, ↓e_X11_isMoved_25, ↓e_X11_isMoved_0, ↓it_s, ↓y_iload, ↓y_lload, ↓y_aload, ↓y_istore, ↓y_lstore, ↓y_astore, ↓y_iinc, ↓y_cI, ↓y_cL, ↓y_bin, ↓y_binL, ↓y_div, ↓y_divL, ↓y_lshl, ↓y_un, ↓y_i2l, ↓y_lneg, ↓y_l2i, ↓y_lcmp, ↓y_dupI, ↓y_dupR, ↓y_dup2, ↓y_pop, ↓y_goto, ↓y_eq0, ↓y_lt0, ↓y_le0, ↓y_eq, ↓y_lt, ↓y_le, ↓y_switch, ↓y_sw0, ↓y_sw1, ↓y_getI, ↓y_getL, ↓y_getR, ↓y_getT, ↓y_putI, ↓y_putZ, ↓y_putL, ↓y_putT, ↓y_iald, ↓y_bald, ↓y_lald, ↓y_aald, ↓y_iast, ↓y_bast, ↓y_last, ↓y_alen, ↓y_iret, ↓y_zret, ↓y_lret, ↓y_vret, ↓y_svI, ↓y_svL, ↓y_svV, ↓y_ivI, ↓y_ivL, ↓y_ivV, ↓y_max, ↓y_min, ↓y_absL, ↓y_cpI, ↓y_cpL, ↓x_n1I, ↓x_n1L, ↓x_n1R, ↓x_n0I, ↓x_n0L, ↓x_n0R, ↓x_s0, ↓x_s1i, ↓x_s1r, ↓x_s1n, ↓x_s2, ↓x_c0, ↓x_c2, ↓x_tk0, ↓x_tk1, ↓x_rcv, x_rI1, x_rL1, x_rV1, x_rIn, x_rLn, x_rVn, x_rIf, x_rLf, x_rVf, x_40, x_41, x_42, x_43, x_44, ↓reduceIte, if_true, if_false, ao_iadd, ao_isub, ao_imul, ao_iand, ao_ior, ao_ishl, ao_ishr, ao_iushr, ao_ladd, ao_lsub, ao_lmul, ao_land, ao_lor, ao_idiv, ao_irem, ao_ldiv, ao_lrem, ao_ineg, ao_i2b, ao_i2s, Nat.reduceAdd, Nat.reduceMul, Nat.reduceSub, Nat.reduceEqDiff, Nat.reduceLeDiff, and_self, true_and, x_lit, x_ofn, x_z0, x_z1, x_inbT, x_ltT, x_ltF, x_leT, x_leF, x_eqF, x_eqT, x_inb, x_lt, x_le, x_eq, x_cl, x_sub, nI_add, pk_mul, x_m1e, x_m1e', x_m1l, x_m1n, x_m1s, Nat.not_lt_zero, x_zb, x_b0, x_b1, decide_eq_false_iff_not, decide_eq_true_eq, Bool.false_eq_true, Bool.true_eq_false, x1, b2_f, kd_123]
  | true =>
    rw [h1] at x1
    cases h2 : isTo V to with
    | false =>
      rw [h2] at x2
      simp (disch := omega) only [g_X11_isMoved, ↓e_X11_isMoved_50, ↓e_X11_isMoved_49, ↓e_X11_isMoved_27, ↓e_X11_isMoved_25, ↓e_X11_isMoved_0, ↓it_s, ↓y_iload, ↓y_lload, ↓y_aload, ↓y_istore, ↓y_lstore, ↓y_astore, ↓y_iinc, ↓y_cI, ↓y_cL, ↓y_bin, ↓y_binL, ↓y_div, ↓y_divL, ↓y_lshl, ↓y_un, ↓y_i2l, ↓y_lneg, ↓y_l2i, ↓y_lcmp, ↓y_dupI, ↓y_dupR, ↓y_dup2, ↓y_pop, ↓y_goto, ↓y_eq0, ↓y_lt0, ↓y_le0, ↓y_eq, ↓y_lt, ↓y_le, ↓y_switch, ↓y_sw0, ↓y_sw1, ↓y_getI, ↓y_getL, ↓y_getR, ↓y_getT, ↓y_putI, ↓y_putZ, ↓y_putL, ↓y_putT, ↓y_iald, ↓y_bald, ↓y_lald, ↓y_aald, ↓y_iast, ↓y_bast, ↓y_last, ↓y_alen, ↓y_iret, ↓y_zret, ↓y_lret, ↓y_vret, ↓y_svI, ↓y_svL, ↓y_svV, ↓y_ivI, ↓y_ivL, ↓y_ivV, ↓y_max, ↓y_min, ↓y_absL, ↓y_cpI, ↓y_cpL, ↓x_n1I, ↓x_n1L, ↓x_n1R, ↓x_n0I, ↓x_n0L, ↓x_n0R, ↓x_s0, ↓x_s1i, ↓x_s1r, ↓x_s1n, ↓x_s2, ↓x_c0, ↓x_c2, ↓x_tk0, ↓x_tk1, ↓x_rcv, x_rI1, x_rL1, x_rV1, x_rIn, x_rLn, x_rVn, x_rIf, x_rLf, x_rVf, x_40, x_41, x_42, x_43, x_44, ↓reduceIte, if_true, if_false, ao_iadd, ao_isub, ao_imul, ao_iand, ao_ior, ao_ishl, ao_ishr, ao_iushr, ao_ladd, ao_lsub, ao_lmul, ao_land, ao_lor, ao_idiv, ao_irem, ao_ldiv, ao_lrem, ao_ineg, ao_i2b, ao_i2s, Nat.reduceAdd, Nat.reduceMul, Nat.reduceSub, Nat.reduceEqDiff, Nat.reduceLeDiff, and_self, true_and, x_lit, x_ofn, x_z0, x_z1, x_inbT, x_ltT, x_ltF, x_leT, x_leF, x_eqF, x_eqT, x_inb, x_lt, x_le, x_eq, x_cl, x_sub, nI_add, pk_mul, x_m1e, x_m1e', x_m1l, x_m1n, x_m1s, Nat.not_lt_zero, x_zb, x_b0, x_b1, decide_eq_false_iff_not, decide_eq_true_eq, Bool.false_eq_true, Bool.true_eq_false, x1, x2, b2_f, b2_t, kd_123]
    | true =>
      rw [h2] at x2
      have h3 : canM V f to = false := by
        unfold okM at hk
        rw [h1, h2] at hk
        exact hk
      have h6 : to ≠ 6 := by
        intro e
        subst e
        unfold isTo at h2
        have := of_decide_eq_true h2
        have := hw.1.2.2.2.2.1
        omega
      have x3 := M_isMove hM hw.2.1 hw.1 hf hto h6
      rw [h3] at x3
      simp (disch := omega) only [g_X11_isMoved, ↓e_X11_isMoved_50, ↓e_X11_isMoved_49, ↓e_X11_isMoved_27, ↓e_X11_isMoved_25, ↓e_X11_isMoved_0, ↓it_s, ↓y_iload, ↓y_lload, ↓y_aload, ↓y_istore, ↓y_lstore, ↓y_astore, ↓y_iinc, ↓y_cI, ↓y_cL, ↓y_bin, ↓y_binL, ↓y_div, ↓y_divL, ↓y_lshl, ↓y_un, ↓y_i2l, ↓y_lneg, ↓y_l2i, ↓y_lcmp, ↓y_dupI, ↓y_dupR, ↓y_dup2, ↓y_pop, ↓y_goto, ↓y_eq0, ↓y_lt0, ↓y_le0, ↓y_eq, ↓y_lt, ↓y_le, ↓y_switch, ↓y_sw0, ↓y_sw1, ↓y_getI, ↓y_getL, ↓y_getR, ↓y_getT, ↓y_putI, ↓y_putZ, ↓y_putL, ↓y_putT, ↓y_iald, ↓y_bald, ↓y_lald, ↓y_aald, ↓y_iast, ↓y_bast, ↓y_last, ↓y_alen, ↓y_iret, ↓y_zret, ↓y_lret, ↓y_vret, ↓y_svI, ↓y_svL, ↓y_svV, ↓y_ivI, ↓y_ivL, ↓y_ivV, ↓y_max, ↓y_min, ↓y_absL, ↓y_cpI, ↓y_cpL, ↓x_n1I, ↓x_n1L, ↓x_n1R, ↓x_n0I, ↓x_n0L, ↓x_n0R, ↓x_s0, ↓x_s1i, ↓x_s1r, ↓x_s1n, ↓x_s2, ↓x_c0, ↓x_c2, ↓x_tk0, ↓x_tk1, ↓x_rcv, x_rI1, x_rL1, x_rV1, x_rIn, x_rLn, x_rVn, x_rIf, x_rLf, x_rVf, x_40, x_41, x_42, x_43, x_44, ↓reduceIte, if_true, if_false, ao_iadd, ao_isub, ao_imul, ao_iand, ao_ior, ao_ishl, ao_ishr, ao_iushr, ao_ladd, ao_lsub, ao_lmul, ao_land, ao_lor, ao_idiv, ao_irem, ao_ldiv, ao_lrem, ao_ineg, ao_i2b, ao_i2s, Nat.reduceAdd, Nat.reduceMul, Nat.reduceSub, Nat.reduceEqDiff, Nat.reduceLeDiff, and_self, true_and, x_lit, x_ofn, x_z0, x_z1, x_inbT, x_ltT, x_ltF, x_leT, x_leF, x_eqF, x_eqT, x_inb, x_lt, x_le, x_eq, x_cl, x_sub, nI_add, pk_mul, x_m1e, x_m1e', x_m1l, x_m1n, x_m1s, Nat.not_lt_zero, x_zb, x_b0, x_b1, decide_eq_false_iff_not, decide_eq_true_eq, Bool.false_eq_true, Bool.true_eq_false, x1, x2, x3, b2_f, b2_t, kd_123]
theorem X_makeMoveT {h v f to c d : Nat} {σ : am_M} {V : Vt} (hh : isH h) (hv : isLV v) (hV : VG σ v V) (hw : WG V) (hf : f < 7) (hto : to < 8) (hk : okM V f to = true) (hc : (vP V f).getLast? = some c) (hd : σ.1 h 2 = nI d) : ∃ τ, S_X0_makeMove [.ref h, .ref v, .int (nI f), .int (nI to)] σ = some (some (.int (nI 1)), τ) ∧ AX h v σ τ (moveV V f to c) d (nI 0) (nI (if to = 7 then 1 else 0)) (nI 1) := by
  obtain ⟨k0, k1, k2, l1, l2⟩ := isH_k hh
  have kv := (isV_k (isLV_V hv)).1
  have ht := isV_T (isLV_V hv)
  have kt := (isT_k ht).1
  obtain ⟨h1, h2, h3, h6, hft, c', c1, c2, c3⟩ := ok_spec hw.1 hto hk
  have x1 := X_isSource (p := f) ht hV.1 hw.1 (by omega)
  have x2 := X_allows ht hV.2.1 hV.1 hw.2.1 hw.1 hf hto
  rw [h1] at x1
  rw [h2, h3] at x2
  obtain ⟨τ, a1, a2⟩ := X_carry hh hv hV hw hf hto hk hc hd
  refine ⟨τ, ?_, a2⟩
  simp (disch := omega) only [g_X0_makeMove, ↓e_X0_makeMove_25, ↓e_X0_makeMove_23, ↓e_X0_makeMove_0, ↓it_s, ↓y_iload, ↓y_lload, ↓y_aload, ↓y_istore, ↓y_lstore, ↓y_astore, ↓y_iinc, ↓y_cI, ↓y_cL, ↓y_bin, ↓y_binL, ↓y_div, ↓y_divL, ↓y_lshl, ↓y_un, ↓y_i2l, ↓y_lneg, ↓y_l2i, ↓y_lcmp, ↓y_dupI, ↓y_dupR, ↓y_dup2, ↓y_pop, ↓y_goto, ↓y_eq0, ↓y_lt0, ↓y_le0, ↓y_eq, ↓y_lt, ↓y_le, ↓y_switch, ↓y_sw0, ↓y_sw1, ↓y_getI, ↓y_getL, ↓y_getR, ↓y_getT, ↓y_putI, ↓y_putZ, ↓y_putL, ↓y_putT, ↓y_iald, ↓y_bald, ↓y_lald, ↓y_aald, ↓y_iast, ↓y_bast, ↓y_last, ↓y_alen, ↓y_iret, ↓y_zret, ↓y_lret, ↓y_vret, ↓y_svI, ↓y_svL, ↓y_svV, ↓y_ivI, ↓y_ivL, ↓y_ivV, ↓y_max, ↓y_min, ↓y_absL, ↓y_cpI, ↓y_cpL, ↓x_n1I, ↓x_n1L, ↓x_n1R, ↓x_n0I, ↓x_n0L, ↓x_n0R, ↓x_s0, ↓x_s1i, ↓x_s1r, ↓x_s1n, ↓x_s2, ↓x_c0, ↓x_c2, ↓x_tk0, ↓x_tk1, ↓x_rcv, x_rI1, x_rL1, x_rV1, x_rIn, x_rLn, x_rVn, x_rIf, x_rLf, x_rVf, x_40, x_41, x_42, x_43, x_44, ↓reduceIte, if_true, if_false, ao_iadd, ao_isub, ao_imul, ao_iand, ao_ior, ao_ishl, ao_ishr, ao_iushr, ao_ladd, ao_lsub, ao_lmul, ao_land, ao_lor, ao_idiv, ao_irem, ao_ldiv, ao_lrem, ao_ineg, ao_i2b, ao_i2s, Nat.reduceAdd, Nat.reduceMul, Nat.reduceSub, Nat.reduceEqDiff, Nat.reduceLeDiff, and_self, true_and, x_lit, x_ofn, x_z0, x_z1, x_inbT, x_ltT, x_ltF, x_leT, x_leF, x_eqF, x_eqT, x_inb, x_lt, x_le, x_eq, x_cl, x_sub, nI_add, pk_mul, x_m1e, x_m1e', x_m1l, x_m1n, x_m1s, Nat.not_lt_zero, x_zb, x_b0, x_b1, decide_eq_false_iff_not, decide_eq_true_eq, Bool.false_eq_true, Bool.true_eq_false, k0, kv, kt, x1, x2, a1, b2_t, Bool.and_self]
theorem X_makeMoveF {h v f to : Nat} {σ : am_M} {V : Vt} (hh : isH h) (hv : isLV v) (hV : VG σ v V) (hw : WG V) (hf : f < 7) (hto : to < 8) (hk : okM V f to = false) : S_X0_makeMove [.ref h, .ref v, .int (nI f), .int (nI to)] σ = some (some (.int (nI 0)), σ) := by
  obtain ⟨k0, k1, k2, l1, l2⟩ := isH_k hh
  have kv := (isV_k (isLV_V hv)).1
  have ht := isV_T (isLV_V hv)
  have kt := (isT_k ht).1
  have x1 := X_isSource (p := f) ht hV.1 hw.1 (by omega)
  have x2 := X_allows ht hV.2.1 hV.1 hw.2.1 hw.1 hf hto
  cases h1 : isFr V f with
  | false =>
    rw [h1] at x1
    simp (disch := omega) only [g_X0_makeMove, ↓e_X0_makeMove_25, ↓e_X0_makeMove_23, ↓e_X0_makeMove_0, ↓it_s, ↓y_iload, ↓y_lload, ↓y_aload, ↓y_istore, ↓y_lstore, ↓y_astore, ↓y_iinc, ↓y_cI, ↓y_cL, ↓y_bin, ↓y_binL, ↓y_div, ↓y_divL, ↓y_lshl, ↓y_un, ↓y_i2l, ↓y_lneg, ↓y_l2i, ↓y_lcmp, ↓y_dupI, ↓y_dupR, ↓y_dup2, ↓y_pop, ↓y_goto, ↓y_eq0, ↓y_lt0, ↓y_le0, ↓y_eq, ↓y_lt, ↓y_le, ↓y_switch, ↓y_sw0, ↓y_sw1, ↓y_getI, ↓y_getL, ↓y_getR, ↓y_getT, ↓y_putI, ↓y_putZ, ↓y_putL, ↓y_putT, ↓y_iald, ↓y_bald, ↓y_lald, ↓y_aald, ↓y_iast, ↓y_bast, ↓y_last, ↓y_alen, ↓y_iret, ↓y_zret, ↓y_lret, ↓y_vret, ↓y_svI, ↓y_svL, ↓y_svV, ↓y_ivI, ↓y_ivL, ↓y_ivV, ↓y_max, ↓y_min, ↓y_absL, ↓y_cpI, ↓y_cpL, ↓x_n1I, ↓x_n1L, ↓x_n1R, ↓x_n0I, ↓x_n0L, ↓x_n0R, ↓x_s0, ↓x_s1i, ↓x_s1r, ↓x_s1n, ↓x_s2, ↓x_c0, ↓x_c2, ↓x_tk0, ↓x_tk1, ↓x_rcv, x_rI1, x_rL1, x_rV1, x_rIn, x_rLn, x_rVn, x_rIf, x_rLf, x_rVf, x_40, x_41, x_42, x_43, x_44, ↓reduceIte, if_true, if_false, ao_iadd, ao_isub, ao_imul, ao_iand, ao_ior, ao_ishl, ao_ishr, ao_iushr, ao_ladd, ao_lsub, ao_lmul, ao_land, ao_lor, ao_idiv, ao_irem, ao_ldiv, ao_lrem, ao_ineg, ao_i2b, ao_i2s, Nat.reduceAdd, Nat.reduceMul, Nat.reduceSub, Nat.reduceEqDiff, Nat.reduceLeDiff, and_self, true_and, x_lit, x_ofn, x_z0, x_z1, x_inbT, x_ltT, x_ltF, x_leT, x_leF, x_eqF, x_eqT, x_inb, x_lt, x_le, x_eq, x_cl, x_sub, nI_add, pk_mul, x_m1e, x_m1e', x_m1l, x_m1n, x_m1s, Nat.not_lt_zero, x_zb, x_b0, x_b1, decide_eq_false_iff_not, decide_eq_true_eq, Bool.false_eq_true, Bool.true_eq_false, k0, kv, kt, x1, b2_f]
  | true =>
    rw [h1] at x1
    have h2 : (isTo V to && canM V f to) = false := by
      unfold okM at hk
      rw [h1] at hk
      simpa using hk
    rw [h2] at x2
    simp (disch := omega) only [g_X0_makeMove, ↓e_X0_makeMove_25, ↓e_X0_makeMove_23, ↓e_X0_makeMove_0, ↓it_s, ↓y_iload, ↓y_lload, ↓y_aload, ↓y_istore, ↓y_lstore, ↓y_astore, ↓y_iinc, ↓y_cI, ↓y_cL, ↓y_bin, ↓y_binL, ↓y_div, ↓y_divL, ↓y_lshl, ↓y_un, ↓y_i2l, ↓y_lneg, ↓y_l2i, ↓y_lcmp, ↓y_dupI, ↓y_dupR, ↓y_dup2, ↓y_pop, ↓y_goto, ↓y_eq0, ↓y_lt0, ↓y_le0, ↓y_eq, ↓y_lt, ↓y_le, ↓y_switch, ↓y_sw0, ↓y_sw1, ↓y_getI, ↓y_getL, ↓y_getR, ↓y_getT, ↓y_putI, ↓y_putZ, ↓y_putL, ↓y_putT, ↓y_iald, ↓y_bald, ↓y_lald, ↓y_aald, ↓y_iast, ↓y_bast, ↓y_last, ↓y_alen, ↓y_iret, ↓y_zret, ↓y_lret, ↓y_vret, ↓y_svI, ↓y_svL, ↓y_svV, ↓y_ivI, ↓y_ivL, ↓y_ivV, ↓y_max, ↓y_min, ↓y_absL, ↓y_cpI, ↓y_cpL, ↓x_n1I, ↓x_n1L, ↓x_n1R, ↓x_n0I, ↓x_n0L, ↓x_n0R, ↓x_s0, ↓x_s1i, ↓x_s1r, ↓x_s1n, ↓x_s2, ↓x_c0, ↓x_c2, ↓x_tk0, ↓x_tk1, ↓x_rcv, x_rI1, x_rL1, x_rV1, x_rIn, x_rLn, x_rVn, x_rIf, x_rLf, x_rVf, x_40, x_41, x_42, x_43, x_44, ↓reduceIte, if_true, if_false, ao_iadd, ao_isub, ao_imul, ao_iand, ao_ior, ao_ishl, ao_ishr, ao_iushr, ao_ladd, ao_lsub, ao_lmul, ao_land, ao_lor, ao_idiv, ao_irem, ao_ldiv, ao_lrem, ao_ineg, ao_i2b, ao_i2s, Nat.reduceAdd, Nat.reduceMul, Nat.reduceSub, Nat.reduceEqDiff, Nat.reduceLeDiff, and_self, true_and, x_lit, x_ofn, x_z0, x_z1, x_inbT, x_ltT, x_ltF, x_leT, x_leF, x_eqF, x_eqT, x_inb, x_lt, x_le, x_eq, x_cl, x_sub, nI_add, pk_mul, x_m1e, x_m1e', x_m1l, x_m1n, x_m1s, Nat.not_lt_zero, x_zb, x_b0, x_b1, decide_eq_false_iff_not, decide_eq_true_eq, Bool.false_eq_true, Bool.true_eq_false, k0, kv, kt, x1, x2, b2_f, b2_t]
/-- dealing -/
theorem X_turnCard {h v d : Nat} {σ : am_M} {V : Vt} (hh : isH h) (hv : isLV v) (hV : VG σ v V) (hw : WG V) (hd : σ.1 h 2 = nI d) : ∃ τ, S_X0_turnCard [.ref (v + 1)] σ = some (some (.int (nI (b2 (hasD V)))), τ) ∧ (hasD V = true → AX h v σ τ (dealV V) d (nI 0) (nI 0) (nI 0)) ∧ (hasD V = false → τ = σ) := by
  have hap := hv_apart hh hv
  have ht := isV_T (isLV_V hv)
  have kt := (isT_k ht).1
  have x1 := X_hasDeal ht hV.2.1 hV.1 hw.1 hw.2.1
  cases e : hasD V with
  | false =>
    rw [e] at x1
    refine ⟨σ, ?_, fun z => (by cases z), fun _ => rfl⟩
    simp (disch := omega) only [g_X0_turnCard, ↓e_X0_turnCard_9, ↓e_X0_turnCard_0, ↓it_s, ↓y_iload, ↓y_lload, ↓y_aload, ↓y_istore, ↓y_lstore, ↓y_astore, ↓y_iinc, ↓y_cI, ↓y_cL, ↓y_bin, ↓y_binL, ↓y_div, ↓y_divL, ↓y_lshl, ↓y_un, ↓y_i2l, ↓y_lneg, ↓y_l2i, ↓y_lcmp, ↓y_dupI, ↓y_dupR, ↓y_dup2, ↓y_pop, ↓y_goto, ↓y_eq0, ↓y_lt0, ↓y_le0, ↓y_eq, ↓y_lt, ↓y_le, ↓y_switch, ↓y_sw0, ↓y_sw1, ↓y_getI, ↓y_getL, ↓y_getR, ↓y_getT, ↓y_putI, ↓y_putZ, ↓y_putL, ↓y_putT, ↓y_iald, ↓y_bald, ↓y_lald, ↓y_aald, ↓y_iast, ↓y_bast, ↓y_last, ↓y_alen, ↓y_iret, ↓y_zret, ↓y_lret, ↓y_vret, ↓y_svI, ↓y_svL, ↓y_svV, ↓y_ivI, ↓y_ivL, ↓y_ivV, ↓y_max, ↓y_min, ↓y_absL, ↓y_cpI, ↓y_cpL, ↓x_n1I, ↓x_n1L, ↓x_n1R, ↓x_n0I, ↓x_n0L, ↓x_n0R, ↓x_s0, ↓x_s1i, ↓x_s1r, ↓x_s1n, ↓x_s2, ↓x_c0, ↓x_c2, ↓x_tk0, ↓x_tk1, ↓x_rcv, x_rI1, x_rL1, x_rV1, x_rIn, x_rLn, x_rVn, x_rIf, x_rLf, x_rVf, x_40, x_41, x_42, x_43, x_44, ↓reduceIte, if_true, if_false, ao_iadd, ao_isub, ao_imul, ao_iand, ao_ior, ao_ishl, ao_ishr, ao_iushr, ao_ladd, ao_lsub, ao_lmul, ao_land, ao_lor, ao_idiv, ao_irem, ao_ldiv, ao_lrem, ao_ineg, ao_i2b, ao_i2s, Nat.reduceAdd, Nat.reduceMul, Nat.reduceSub, Nat.reduceEqDiff, Nat.reduceLeDiff, and_self, true_and, x_lit, x_ofn, x_z0, x_z1, x_inbT, x_ltT, x_ltF, x_leT, x_leF, x_eqF, x_eqT, x_inb, x_lt, x_le, x_eq, x_cl, x_sub, nI_add, pk_mul, x_m1e, x_m1e', x_m1l, x_m1n, x_m1s, Nat.not_lt_zero, x_zb, x_b0, x_b1, decide_eq_false_iff_not, decide_eq_true_eq, Bool.false_eq_true, Bool.true_eq_false, kt, x1, b2_f]
  | true =>
    rw [e] at x1
    obtain ⟨τ, a1, a2, a3, a4, a5⟩ := X_turnUp ht hV.2.1 hV.1 hw.1 hw.2.1 e
    have eh : τ.1 h = σ.1 h := a5 h (by omega) (by omega) (by omega) (by omega)
    refine ⟨τ, ?_, fun _ => ⟨⟨a3, a2, ?_⟩, ⟨a4, fun j p q r s => a5 j (by omega) (by omega) (by omega) (by omega)⟩, a5 _ (by omega) (by omega) (by omega) (by omega), by rw [eh]; exact hd, by rw [eh], by rw [eh], by rw [eh, x_a0], by rw [eh, x_a0], by rw [eh, x_a0], by rw [eh]⟩, fun z => (by cases z)⟩
    · simp (disch := omega) only [g_X0_turnCard, ↓e_X0_turnCard_9, ↓e_X0_turnCard_0, ↓it_s, ↓y_iload, ↓y_lload, ↓y_aload, ↓y_istore, ↓y_lstore, ↓y_astore, ↓y_iinc, ↓y_cI, ↓y_cL, ↓y_bin, ↓y_binL, ↓y_div, ↓y_divL, ↓y_lshl, ↓y_un, ↓y_i2l, ↓y_lneg, ↓y_l2i, ↓y_lcmp, ↓y_dupI, ↓y_dupR, ↓y_dup2, ↓y_pop, ↓y_goto, ↓y_eq0, ↓y_lt0, ↓y_le0, ↓y_eq, ↓y_lt, ↓y_le, ↓y_switch, ↓y_sw0, ↓y_sw1, ↓y_getI, ↓y_getL, ↓y_getR, ↓y_getT, ↓y_putI, ↓y_putZ, ↓y_putL, ↓y_putT, ↓y_iald, ↓y_bald, ↓y_lald, ↓y_aald, ↓y_iast, ↓y_bast, ↓y_last, ↓y_alen, ↓y_iret, ↓y_zret, ↓y_lret, ↓y_vret, ↓y_svI, ↓y_svL, ↓y_svV, ↓y_ivI, ↓y_ivL, ↓y_ivV, ↓y_max, ↓y_min, ↓y_absL, ↓y_cpI, ↓y_cpL, ↓x_n1I, ↓x_n1L, ↓x_n1R, ↓x_n0I, ↓x_n0L, ↓x_n0R, ↓x_s0, ↓x_s1i, ↓x_s1r, ↓x_s1n, ↓x_s2, ↓x_c0, ↓x_c2, ↓x_tk0, ↓x_tk1, ↓x_rcv, x_rI1, x_rL1, x_rV1, x_rIn, x_rLn, x_rVn, x_rIf, x_rLf, x_rVf, x_40, x_41, x_42, x_43, x_44, ↓reduceIte, if_true, if_false, ao_iadd, ao_isub, ao_imul, ao_iand, ao_ior, ao_ishl, ao_ishr, ao_iushr, ao_ladd, ao_lsub, ao_lmul, ao_land, ao_lor, ao_idiv, ao_irem, ao_ldiv, ao_lrem, ao_ineg, ao_i2b, ao_i2s, Nat.reduceAdd, Nat.reduceMul, Nat.reduceSub, Nat.reduceEqDiff, Nat.reduceLeDiff, and_self, true_and, x_lit, x_ofn, x_z0, x_z1, x_inbT, x_ltT, x_ltF, x_leT, x_leF, x_eqF, x_eqT, x_inb, x_lt, x_le, x_eq, x_cl, x_sub, nI_add, pk_mul, x_m1e, x_m1e', x_m1l, x_m1n, x_m1s, Nat.not_lt_zero, x_zb, x_b0, x_b1, decide_eq_false_iff_not, decide_eq_true_eq, Bool.false_eq_true, Bool.true_eq_false, kt, x1, a1, b2_t]
    · exact VF_deal (VF_fr hV.2.2 (a5 v (by omega) (by omega) (by omega) (by omega)) (fun j p q => a5 j (by omega) (by omega) (by omega) (by omega)))
theorem M_dealsA {d : Nat} {σ : am_M} {V : Vt} (hM : MC (σ.1 128) 0 V) (hw : WG V) (hd : σ.1 123 43 = nI d) : ∃ τ, S_X11_deals [.ref 123] σ = some (some (.int (nI (b2 (hasD V)))), τ) ∧ (hasD V = true → AM σ τ (dealV V) d (nI 0) (nI 0) (nI 0)) ∧ (hasD V = false → τ = σ) := by
  cases e : hasD V with
  | false => exact ⟨σ, M_dealsN hM hw.1 hw.2.1 e, fun z => (by cases z), fun _ => rfl⟩
  | true =>
    obtain ⟨τ, a1, a2, a3, a4, a5, a6, a7⟩ := M_deals hM hw.1 hw.2.1 e
    exact ⟨τ, a1, fun _ => ⟨a2, ⟨a4, fun j p q r => a5 j p q, fun i p q => a6 i p, a7⟩, a6 _ (by omega), by rw [a6 _ (by omega)]; exact hd, a6 _ (by omega), a6 _ (by omega), by rw [a6 _ (by omega), x_a0], by rw [a6 _ (by omega), x_a0], by rw [a6 _ (by omega), x_a0], a6 _ (by omega)⟩, fun z => (by cases z)⟩
