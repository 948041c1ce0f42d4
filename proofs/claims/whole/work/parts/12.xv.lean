/-! the class's valleys: fields -/
def isV (v : Nat) : Prop := v = 9 ∨ v = 26 ∨ v = 72 ∨ v = 89 ∨ v = 106
theorem isV_T {v : Nat} (h : isV v) : isT (v + 1) := by
  rcases h with rfl | rfl | rfl | rfl | rfl <;> simp [isT]
theorem isV_k {v : Nat} (h : isV v) : am_kd v = 8 ∧ am_kd (v + 12) = 20 ∧ am_kd (v + 13) = 20 ∧ am_kd (v + 14) = 20 ∧ am_kd (v + 15) = 20 ∧ am_kd (v + 16) = 20 ∧ am_ln (v + 12) = 6 ∧ am_ln (v + 13) = 6 ∧ am_ln (v + 14) = 6 ∧ am_ln (v + 15) = 6 ∧ am_ln (v + 16) = 6 := by
  rcases h with rfl | rfl | rfl | rfl | rfl <;> exact ⟨rfl, rfl, rfl, rfl, rfl, rfl, rfl, rfl, rfl, rfl, rfl⟩
def VF (σ : am_M) (v : Nat) (V : Vt) : Prop := σ.1 v 4 = nI (vN V 5) ∧ σ.1 v 5 = nI (vN V 6) ∧ ∀ f, f < vN V 5 → σ.1 (v + 12) f = nI (vF V 0 f) ∧ σ.1 (v + 13) f = nI (vF V 1 f) ∧ σ.1 (v + 14) f = nI (vF V 2 f) ∧ σ.1 (v + 15) f = nI (vF V 3 f) ∧ σ.1 (v + 16) f = nI (vF V 4 f)
/-- fields as they can be -/
def WFd (V : Vt) : Prop := ∀ f, f < vN V 5 → (vF V 0 f < vN V 1 ∧ (vF V 4 f = 0 → vF V 2 f ≤ 99)) ∧ vF V 1 f ≤ 20 ∧ vF V 2 f ≤ 198 ∧ vF V 3 f ≤ 99 ∧ vF V 4 f ≤ 2
def wet1 (V : Vt) (f r : Nat) : Nat × Nat := if vF V 4 f = 0 then (vF V 2 f + r, if vF V 3 f < vF V 2 f + r then 2 else 0) else (vF V 2 f, vF V 4 f)
/-- a field's water and fate told anew -/
def vuW (V : Vt) (f : Nat) (x : Nat × Nat) : Vt := vuF (vuF V 2 f x.1) 4 f x.2
def only2 (a b : Nat) (σ τ : am_M) : Prop := τ.2 = σ.2 ∧ ∀ j, j ≠ a → j ≠ b → τ.1 j = σ.1 j
theorem only2_rf (a b : Nat) (σ : am_M) : only2 a b σ σ := ⟨rfl, fun _ _ _ => rfl⟩
theorem only2_tr {a b : Nat} {x y z : am_M} (h1 : only2 a b x y) (h2 : only2 a b y z) : only2 a b x z := ⟨h2.1.trans h1.1, fun j p q => (h2.2 j p q).trans (h1.2 j p q)⟩
theorem uI_id {σ : am_M} {h k : Nat} {v : Int32} (e : σ.1 h k = v) : am_uI σ h k v = σ := by
  have h1 : va_up σ.1 h (va_up (σ.1 h) k v) = σ.1 := by
    funext a b
    by_cases ha : a = h
    · subst ha
      rw [up_s]
      by_cases hb : b = k
      · subst hb; rw [up_s, e]
      · rw [up_n hb]
    · rw [up_n ha]
  unfold am_uI
  rw [h1]
def wetM (σ : am_M) (v f : Nat) (x : Nat × Nat) : am_M := am_uI (am_uI σ (v + 14) f (nI x.1)) (v + 16) f (nI x.2)
theorem wetM_only (σ : am_M) (v f : Nat) (x : Nat × Nat) : only2 (v + 14) (v + 16) σ (wetM σ v f x) := ⟨rfl, fun j h1 h2 => by unfold wetM; rw [uI_n h2, uI_n h1]⟩
theorem X_wet {v f r : Nat} {σ : am_M} {V : Vt} (hv : isV v) (h : VF σ v V) (hw : WN V) (hf : f < vN V 5) (hd : vF V 2 f ≤ 198 ∧ vF V 3 f ≤ 99 ∧ vF V 4 f ≤ 2) (hr : r ≤ 99) :
    S_X8_wet [.ref v, .int (nI f), .int (nI r)] σ = some (none, wetM σ v f (wet1 V f r)) := by
  obtain ⟨k0, k12, k13, k14, k15, k16, l12, l13, l14, l15, l16⟩ := isV_k hv
  have h6 := hw.2.2.2.2.2.1
  obtain ⟨a0, a1, a2, a3, a4⟩ := h.2.2 f hf
  obtain ⟨b2', b3, b4⟩ := hd
  unfold wetM
  by_cases e1 : vF V 4 f = 0
  · rw [e1] at a4
    by_cases e2 : vF V 3 f < vF V 2 f + r
    · simp (disch := omega) only [g_X8_wet, ↓e_X8_wet_54, ↓e_X8_wet_22, ↓e_X8_wet_21, ↓e_X8_wet_0, ↓it_s, ↓y_iload, ↓y_lload, ↓y_aload, ↓y_istore, ↓y_lstore, ↓y_astore, ↓y_iinc, ↓y_cI, ↓y_cL, ↓y_bin, ↓y_binL, ↓y_div, ↓y_divL, ↓y_lshl, ↓y_un, ↓y_i2l, ↓y_lneg, ↓y_l2i, ↓y_lcmp, ↓y_dupI, ↓y_dupR, ↓y_dup2, ↓y_pop, ↓y_goto, ↓y_eq0, ↓y_lt0, ↓y_le0, ↓y_eq, ↓y_lt, ↓y_le, ↓y_switch, ↓y_sw0, ↓y_sw1, ↓y_getI, ↓y_getL, ↓y_getR, ↓y_getT, ↓y_putI, ↓y_putZ, ↓y_putL, ↓y_putT, ↓y_iald, ↓y_bald, ↓y_lald, ↓y_aald, ↓y_iast, ↓y_bast, ↓y_last, ↓y_alen, ↓y_iret, ↓y_zret, ↓y_lret, ↓y_vret, ↓y_svI, ↓y_svL, ↓y_svV, ↓y_ivI, ↓y_ivL, ↓y_ivV, ↓y_max, ↓y_min, ↓y_absL, ↓y_cpI, ↓y_cpL, ↓x_n1I, ↓x_n1L, ↓x_n1R, ↓x_n0I, ↓x_n0L, ↓x_n0R, ↓x_s0, ↓x_s1i, ↓x_s1r, ↓x_s1n, ↓x_s2, ↓x_c0, ↓x_c2, ↓x_tk0, ↓x_tk1, ↓x_rcv, x_rI1, x_rL1, x_rV1, x_rIn, x_rLn, x_rVn, x_rIf, x_rLf, x_rVf, x_40, x_41, x_42, x_43, x_44, ↓reduceIte, if_true, if_false, ao_iadd, ao_isub, ao_imul, ao_iand, ao_ior, ao_ishl, ao_ishr, ao_iushr, ao_ladd, ao_lsub, ao_lmul, ao_land, ao_lor, ao_idiv, ao_irem, ao_ldiv, ao_lrem, ao_ineg, ao_i2b, ao_i2s, Nat.reduceAdd, Nat.reduceMul, Nat.reduceSub, Nat.reduceEqDiff, Nat.reduceLeDiff, and_self, true_and, k0, k14, k15, k16, l14, l15, l16, x_lit, x_ofn, x_z0, x_z1, x_inbT, x_ltT, x_ltF, x_leT, x_leF, x_eqF, x_eqT, x_inb, x_lt, x_le, x_eq, x_cl, x_sub, nI_add, pk_mul, x_m1e, x_m1e', x_m1l, x_m1n, x_m1s, Nat.not_lt_zero, x_zb, x_b0, x_b1, decide_eq_false_iff_not, decide_eq_true_eq, Bool.false_eq_true, Bool.true_eq_false, h.1, hf, a2, a3, a4, uI_n, uI_s, up_s, show f < 6 by omega, show ¬ vF V 2 f + r ≤ vF V 3 f by omega]
      simp [wet1, e1, e2]
    · simp (disch := omega) only [g_X8_wet, ↓e_X8_wet_54, ↓e_X8_wet_22, ↓e_X8_wet_21, ↓e_X8_wet_0, ↓it_s, ↓y_iload, ↓y_lload, ↓y_aload, ↓y_istore, ↓y_lstore, ↓y_astore, ↓y_iinc, ↓y_cI, ↓y_cL, ↓y_bin, ↓y_binL, ↓y_div, ↓y_divL, ↓y_lshl, ↓y_un, ↓y_i2l, ↓y_lneg, ↓y_l2i, ↓y_lcmp, ↓y_dupI, ↓y_dupR, ↓y_dup2, ↓y_pop, ↓y_goto, ↓y_eq0, ↓y_lt0, ↓y_le0, ↓y_eq, ↓y_lt, ↓y_le, ↓y_switch, ↓y_sw0, ↓y_sw1, ↓y_getI, ↓y_getL, ↓y_getR, ↓y_getT, ↓y_putI, ↓y_putZ, ↓y_putL, ↓y_putT, ↓y_iald, ↓y_bald, ↓y_lald, ↓y_aald, ↓y_iast, ↓y_bast, ↓y_last, ↓y_alen, ↓y_iret, ↓y_zret, ↓y_lret, ↓y_vret, ↓y_svI, ↓y_svL, ↓y_svV, ↓y_ivI, ↓y_ivL, ↓y_ivV, ↓y_max, ↓y_min, ↓y_absL, ↓y_cpI, ↓y_cpL, ↓x_n1I, ↓x_n1L, ↓x_n1R, ↓x_n0I, ↓x_n0L, ↓x_n0R, ↓x_s0, ↓x_s1i, ↓x_s1r, ↓x_s1n, ↓x_s2, ↓x_c0, ↓x_c2, ↓x_tk0, ↓x_tk1, ↓x_rcv, x_rI1, x_rL1, x_rV1, x_rIn, x_rLn, x_rVn, x_rIf, x_rLf, x_rVf, x_40, x_41, x_42, x_43, x_44, ↓reduceIte, if_true, if_false, ao_iadd, ao_isub, ao_imul, ao_iand, ao_ior, ao_ishl, ao_ishr, ao_iushr, ao_ladd, ao_lsub, ao_lmul, ao_land, ao_lor, ao_idiv, ao_irem, ao_ldiv, ao_lrem, ao_ineg, ao_i2b, ao_i2s, Nat.reduceAdd, Nat.reduceMul, Nat.reduceSub, Nat.reduceEqDiff, Nat.reduceLeDiff, and_self, true_and, k0, k14, k15, k16, l14, l15, l16, x_lit, x_ofn, x_z0, x_z1, x_inbT, x_ltT, x_ltF, x_leT, x_leF, x_eqF, x_eqT, x_inb, x_lt, x_le, x_eq, x_cl, x_sub, nI_add, pk_mul, x_m1e, x_m1e', x_m1l, x_m1n, x_m1s, Nat.not_lt_zero, x_zb, x_b0, x_b1, decide_eq_false_iff_not, decide_eq_true_eq, Bool.false_eq_true, Bool.true_eq_false, h.1, hf, a2, a3, a4, uI_n, uI_s, up_s, show f < 6 by omega, show vF V 2 f + r ≤ vF V 3 f by omega]
      simp [wet1, e1, e2]
      exact (uI_id (by rw [uI_n (by omega), a4])).symm
  · simp (disch := omega) only [g_X8_wet, ↓e_X8_wet_54, ↓e_X8_wet_22, ↓e_X8_wet_21, ↓e_X8_wet_0, ↓it_s, ↓y_iload, ↓y_lload, ↓y_aload, ↓y_istore, ↓y_lstore, ↓y_astore, ↓y_iinc, ↓y_cI, ↓y_cL, ↓y_bin, ↓y_binL, ↓y_div, ↓y_divL, ↓y_lshl, ↓y_un, ↓y_i2l, ↓y_lneg, ↓y_l2i, ↓y_lcmp, ↓y_dupI, ↓y_dupR, ↓y_dup2, ↓y_pop, ↓y_goto, ↓y_eq0, ↓y_lt0, ↓y_le0, ↓y_eq, ↓y_lt, ↓y_le, ↓y_switch, ↓y_sw0, ↓y_sw1, ↓y_getI, ↓y_getL, ↓y_getR, ↓y_getT, ↓y_putI, ↓y_putZ, ↓y_putL, ↓y_putT, ↓y_iald, ↓y_bald, ↓y_lald, ↓y_aald, ↓y_iast, ↓y_bast, ↓y_last, ↓y_alen, ↓y_iret, ↓y_zret, ↓y_lret, ↓y_vret, ↓y_svI, ↓y_svL, ↓y_svV, ↓y_ivI, ↓y_ivL, ↓y_ivV, ↓y_max, ↓y_min, ↓y_absL, ↓y_cpI, ↓y_cpL, ↓x_n1I, ↓x_n1L, ↓x_n1R, ↓x_n0I, ↓x_n0L, ↓x_n0R, ↓x_s0, ↓x_s1i, ↓x_s1r, ↓x_s1n, ↓x_s2, ↓x_c0, ↓x_c2, ↓x_tk0, ↓x_tk1, ↓x_rcv, x_rI1, x_rL1, x_rV1, x_rIn, x_rLn, x_rVn, x_rIf, x_rLf, x_rVf, x_40, x_41, x_42, x_43, x_44, ↓reduceIte, if_true, if_false, ao_iadd, ao_isub, ao_imul, ao_iand, ao_ior, ao_ishl, ao_ishr, ao_iushr, ao_ladd, ao_lsub, ao_lmul, ao_land, ao_lor, ao_idiv, ao_irem, ao_ldiv, ao_lrem, ao_ineg, ao_i2b, ao_i2s, Nat.reduceAdd, Nat.reduceMul, Nat.reduceSub, Nat.reduceEqDiff, Nat.reduceLeDiff, and_self, true_and, k0, k14, k15, k16, l14, l15, l16, x_lit, x_ofn, x_z0, x_z1, x_inbT, x_ltT, x_ltF, x_leT, x_leF, x_eqF, x_eqT, x_inb, x_lt, x_le, x_eq, x_cl, x_sub, nI_add, pk_mul, x_m1e, x_m1e', x_m1l, x_m1n, x_m1s, Nat.not_lt_zero, x_zb, x_b0, x_b1, decide_eq_false_iff_not, decide_eq_true_eq, Bool.false_eq_true, Bool.true_eq_false, h.1, hf, a2, a3, a4, uI_n, uI_s, up_s, show f < 6 by omega, e1]
    simp [wet1, e1]
    rw [uI_id a2, uI_id a4]
theorem VF_wetM {v f : Nat} {σ : am_M} {V : Vt} {x : Nat × Nat} (h : VF σ v V) : VF (wetM σ v f x) v (vuW V f x) := by
  obtain ⟨h1, h2, h3⟩ := h
  refine ⟨?_, ?_, fun g hg => ?_⟩
  · unfold wetM; rw [uI_n (by omega), uI_n (by omega)]; exact h1
  · unfold wetM; rw [uI_n (by omega), uI_n (by omega)]; exact h2
  · obtain ⟨a0, a1, a2, a3, a4⟩ := h3 g hg
    unfold wetM
    rw [uI_n (j := v + 12) (by omega), uI_n (j := v + 12) (by omega), uI_n (j := v + 13) (by omega), uI_n (j := v + 13) (by omega), uI_n (j := v + 14) (by omega), uI_s, uI_n (j := v + 15) (by omega), uI_n (j := v + 15) (by omega), uI_s, uI_n (j := v + 16) (by omega)]
    by_cases e : g = f
    · subst e
      simp [vF, vuW, vuF, va_up] at *; simp [a0, a1, a3]
    · simp [vF, vuW, vuF, va_up, e] at *; simp [a0, a1, a2, a3, a4]
/-- a rank of a suit waters the fields below i -/
def wetTo (V : Vt) (s r i : Nat) : Vt := (V.1, V.2.1, V.2.2.1, (fun w f => if f < i ∧ vF V 0 f = s then (if w = 2 then (wet1 V f r).1 else if w = 4 then (wet1 V f r).2 else vF V w f) else vF V w f), V.2.2.2.2)
def wetAll (V : Vt) (s r : Nat) : Vt := wetTo V s r (vN V 5)
theorem wetTo_0 (V : Vt) (s r : Nat) : wetTo V s r 0 = V := by
  unfold wetTo
  simp
theorem wetTo_s (V : Vt) (s r i : Nat) : wetTo V s r (i + 1) = if vF V 0 i = s then vuW (wetTo V s r i) i (wet1 V i r) else wetTo V s r i := by
  split
  · rename_i h
    unfold wetTo vuW vuF
    simp only [Prod.mk.injEq, true_and, and_true]
    funext w f
    by_cases hf : f = i
    · subst hf
      by_cases h2 : w = 2
      · subst h2; simp [va_up, h]
      · by_cases h4 : w = 4
        · subst h4; simp [va_up, h]
        · simp [va_up, h2, h4]
    · by_cases h4 : w = 4
      · subst h4; simp [va_up, hf, show (f < i + 1) = (f < i) by rw [eq_iff_iff]; omega]
      · by_cases h2 : w = 2
        · subst h2; simp [va_up, hf, show (f < i + 1) = (f < i) by rw [eq_iff_iff]; omega]
        · simp [va_up, hf, h2, h4, show (f < i + 1) = (f < i) by rw [eq_iff_iff]; omega]
  · rename_i h
    unfold wetTo
    simp only [Prod.mk.injEq, true_and, and_true]
    funext w f
    by_cases hf : f = i
    · subst hf; simp [h]
    · simp [show (f < i + 1) = (f < i) by rw [eq_iff_iff]; omega]
theorem wetTo_ge {V : Vt} {s r i f w : Nat} (h : i ≤ f) : vF (wetTo V s r i) w f = vF V w f := by
  show (if f < i ∧ _ then _ else _) = _
  rw [if_neg (by omega)]
theorem wetTo_0f (V : Vt) (s r i f : Nat) : vF (wetTo V s r i) 0 f = vF V 0 f := by
  show (if f < i ∧ _ then _ else _) = _
  split <;> rfl
theorem X_wetSuit_loop {v s r : Nat} {V : Vt} (hv : isV v) (hw : WN V) (hd : WFd V) (hs : s < 2147483648) (hr : r ≤ 99) : ∀ (m i n : Nat) (σ : am_M), vN V 5 - i = m → i ≤ vN V 5 → m < n → VF σ v (wetTo V s r i) →
    ∃ τ, am_it hd_X8_wetSuit n 2 [some (.ref v), some (.int (nI s)), some (.int (nI r)), some (.int (nI i))] [] σ = some (none, τ) ∧ VF τ v (wetAll V s r) ∧ only2 (v + 14) (v + 16) σ τ := by
  obtain ⟨k0, k12, k13, k14, k15, k16, l12, l13, l14, l15, l16⟩ := isV_k hv
  have h6 := hw.2.2.2.2.2.1
  intro m
  induction m with
  | zero =>
    intro i n σ hm hi hn h
    have e : i = vN V 5 := by omega
    obtain ⟨n, rfl⟩ : ∃ k, n = k + 1 := ⟨n - 1, by omega⟩
    have h1 : σ.1 v 4 = nI (vN V 5) := h.1
    refine ⟨σ, ?_, by rw [e] at h; exact h, only2_rf _ _ _⟩
    simp (disch := omega) only [g_X8_wetSuit, ↓e_X8_wetSuit_38, ↓e_X8_wetSuit_32, ↓e_X8_wetSuit_2, ↓e_X8_wetSuit_0, ↓h_X8_wetSuit_2, ↓it_s, ↓y_iload, ↓y_lload, ↓y_aload, ↓y_istore, ↓y_lstore, ↓y_astore, ↓y_iinc, ↓y_cI, ↓y_cL, ↓y_bin, ↓y_binL, ↓y_div, ↓y_divL, ↓y_lshl, ↓y_un, ↓y_i2l, ↓y_lneg, ↓y_l2i, ↓y_lcmp, ↓y_dupI, ↓y_dupR, ↓y_dup2, ↓y_pop, ↓y_goto, ↓y_eq0, ↓y_lt0, ↓y_le0, ↓y_eq, ↓y_lt, ↓y_le, ↓y_switch, ↓y_sw0, ↓y_sw1, ↓y_getI, ↓y_getL, ↓y_getR, ↓y_getT, ↓y_putI, ↓y_putZ, ↓y_putL, ↓y_putT, ↓y_iald, ↓y_bald, ↓y_lald, ↓y_aald, ↓y_iast, ↓y_bast, ↓y_last, ↓y_alen, ↓y_iret, ↓y_zret, ↓y_lret, ↓y_vret, ↓y_svI, ↓y_svL, ↓y_svV, ↓y_ivI, ↓y_ivL, ↓y_ivV, ↓y_max, ↓y_min, ↓y_absL, ↓y_cpI, ↓y_cpL, ↓x_n1I, ↓x_n1L, ↓x_n1R, ↓x_n0I, ↓x_n0L, ↓x_n0R, ↓x_s0, ↓x_s1i, ↓x_s1r, ↓x_s1n, ↓x_s2, ↓x_c0, ↓x_c2, ↓x_tk0, ↓x_tk1, ↓x_rcv, x_rI1, x_rL1, x_rV1, x_rIn, x_rLn, x_rVn, x_rIf, x_rLf, x_rVf, x_40, x_41, x_42, x_43, x_44, ↓reduceIte, if_true, if_false, ao_iadd, ao_isub, ao_imul, ao_iand, ao_ior, ao_ishl, ao_ishr, ao_iushr, ao_ladd, ao_lsub, ao_lmul, ao_land, ao_lor, ao_idiv, ao_irem, ao_ldiv, ao_lrem, ao_ineg, ao_i2b, ao_i2s, Nat.reduceAdd, Nat.reduceMul, Nat.reduceSub, Nat.reduceEqDiff, Nat.reduceLeDiff, and_self, true_and, k0, x_lit, x_ofn, x_z0, x_z1, x_inbT, x_ltT, x_ltF, x_leT, x_leF, x_eqF, x_eqT, x_inb, x_lt, x_le, x_eq, x_cl, x_sub, nI_add, pk_mul, x_m1e, x_m1e', x_m1l, x_m1n, x_m1s, Nat.not_lt_zero, x_zb, x_b0, x_b1, decide_eq_false_iff_not, decide_eq_true_eq, Bool.false_eq_true, Bool.true_eq_false, h1, show ¬ i < vN V 5 by omega]
  | succ m ih =>
    intro i n σ hm hi hn h
    have hlt : i < vN V 5 := by omega
    obtain ⟨n, rfl⟩ : ∃ k, n = k + 1 := ⟨n - 1, by omega⟩
    have h1 : σ.1 v 4 = nI (vN V 5) := h.1
    obtain ⟨a0, a1, a2, a3, a4⟩ := h.2.2 i hlt
    obtain ⟨b0, b1, b2', b3, b4⟩ := hd i hlt
    have h0 := hw.2.1
    rw [wetTo_0f] at a0
    by_cases e : vF V 0 i = s
    · have hwet := X_wet (f := i) (r := r) hv h hw hlt (by rw [wetTo_ge (Nat.le_refl i), wetTo_ge (Nat.le_refl i), wetTo_ge (Nat.le_refl i)]; exact ⟨b2', b3, b4⟩) hr
      have e1 : wet1 (wetTo V s r i) i r = wet1 V i r := by unfold wet1; rw [wetTo_ge (Nat.le_refl i), wetTo_ge (Nat.le_refl i), wetTo_ge (Nat.le_refl i)]
      rw [e1] at hwet
      have hV := VF_wetM (f := i) (x := wet1 V i r) h
      have e2 : vuW (wetTo V s r i) i (wet1 V i r) = wetTo V s r (i + 1) := by rw [wetTo_s, if_pos e]
      rw [e2] at hV
      obtain ⟨τ, t1, t2, t3⟩ := ih (i + 1) n _ (by omega) (by omega) (by omega) hV
      refine ⟨τ, ?_, t2, only2_tr (wetM_only _ _ _ _) t3⟩
      simp (disch := omega) only [g_X8_wetSuit, ↓e_X8_wetSuit_38, ↓e_X8_wetSuit_32, ↓e_X8_wetSuit_2, ↓e_X8_wetSuit_0, ↓h_X8_wetSuit_2, ↓it_s, ↓y_iload, ↓y_lload, ↓y_aload, ↓y_istore, ↓y_lstore, ↓y_astore, ↓y_iinc, ↓y_cI, ↓y_cL, ↓y_bin, ↓y_binL, ↓y_div, ↓y_divL, ↓y_lshl, ↓y_un, ↓y_i2l, ↓y_lneg, ↓y_l2i, ↓y_lcmp, ↓y_dupI, ↓y_dupR, ↓y_dup2, ↓y_pop, ↓y_goto, ↓y_eq0, ↓y_lt0, ↓y_le0, ↓y_eq, ↓y_lt, ↓y_le, ↓y_switch, ↓y_sw0, ↓y_sw1, ↓y_getI, ↓y_getL, ↓y_getR, ↓y_getT, ↓y_putI, ↓y_putZ, ↓y_putL, ↓y_putT, ↓y_iald, ↓y_bald, ↓y_lald, ↓y_aald, ↓y_iast, ↓y_bast, ↓y_last, ↓y_alen, ↓y_iret, ↓y_zret, ↓y_lret, ↓y_vret, ↓y_svI, ↓y_svL, ↓y_svV, ↓y_ivI, ↓y_ivL, ↓y_ivV, ↓y_max, ↓y_min, ↓y_absL, ↓y_cpI, ↓y_cpL, ↓x_n1I, ↓x_n1L, ↓x_n1R, ↓x_n0I, ↓x_n0L, ↓x_n0R, ↓x_s0, ↓x_s1i, ↓x_s1r, ↓x_s1n, ↓x_s2, ↓x_c0, ↓x_c2, ↓x_tk0, ↓x_tk1, ↓x_rcv, x_rI1, x_rL1, x_rV1, x_rIn, x_rLn, x_rVn, x_rIf, x_rLf, x_rVf, x_40, x_41, x_42, x_43, x_44, ↓reduceIte, if_true, if_false, ao_iadd, ao_isub, ao_imul, ao_iand, ao_ior, ao_ishl, ao_ishr, ao_iushr, ao_ladd, ao_lsub, ao_lmul, ao_land, ao_lor, ao_idiv, ao_irem, ao_ldiv, ao_lrem, ao_ineg, ao_i2b, ao_i2s, Nat.reduceAdd, Nat.reduceMul, Nat.reduceSub, Nat.reduceEqDiff, Nat.reduceLeDiff, and_self, true_and, k0, k12, l12, x_lit, x_ofn, x_z0, x_z1, x_inbT, x_ltT, x_ltF, x_leT, x_leF, x_eqF, x_eqT, x_inb, x_lt, x_le, x_eq, x_cl, x_sub, nI_add, pk_mul, x_m1e, x_m1e', x_m1l, x_m1n, x_m1s, Nat.not_lt_zero, x_zb, x_b0, x_b1, decide_eq_false_iff_not, decide_eq_true_eq, Bool.false_eq_true, Bool.true_eq_false, h1, hlt, show i < 6 by omega, a0, e, hwet]
      exact t1
    · have e2 : wetTo V s r i = wetTo V s r (i + 1) := by rw [wetTo_s, if_neg e]
      rw [e2] at h
      obtain ⟨τ, t1, t2, t3⟩ := ih (i + 1) n σ (by omega) (by omega) (by omega) h
      refine ⟨τ, ?_, t2, t3⟩
      simp (disch := omega) only [g_X8_wetSuit, ↓e_X8_wetSuit_38, ↓e_X8_wetSuit_32, ↓e_X8_wetSuit_2, ↓e_X8_wetSuit_0, ↓h_X8_wetSuit_2, ↓it_s, ↓y_iload, ↓y_lload, ↓y_aload, ↓y_istore, ↓y_lstore, ↓y_astore, ↓y_iinc, ↓y_cI, ↓y_cL, ↓y_bin, ↓y_binL, ↓y_div, ↓y_divL, ↓y_lshl, ↓y_un, ↓y_i2l, ↓y_lneg, ↓y_l2i, ↓y_lcmp, ↓y_dupI, ↓y_dupR, ↓y_dup2, ↓y_pop, ↓y_goto, ↓y_eq0, ↓y_lt0, ↓y_le0, ↓y_eq, ↓y_lt, ↓y_le, ↓y_switch, ↓y_sw0, ↓y_sw1, ↓y_getI, ↓y_getL, ↓y_getR, ↓y_getT, ↓y_putI, ↓y_putZ, ↓y_putL, ↓y_putT, ↓y_iald, ↓y_bald, ↓y_lald, ↓y_aald, ↓y_iast, ↓y_bast, ↓y_last, ↓y_alen, ↓y_iret, ↓y_zret, ↓y_lret, ↓y_vret, ↓y_svI, ↓y_svL, ↓y_svV, ↓y_ivI, ↓y_ivL, ↓y_ivV, ↓y_max, ↓y_min, ↓y_absL, ↓y_cpI, ↓y_cpL, ↓x_n1I, ↓x_n1L, ↓x_n1R, ↓x_n0I, ↓x_n0L, ↓x_n0R, ↓x_s0, ↓x_s1i, ↓x_s1r, ↓x_s1n, ↓x_s2, ↓x_c0, ↓x_c2, ↓x_tk0, ↓x_tk1, ↓x_rcv, x_rI1, x_rL1, x_rV1, x_rIn, x_rLn, x_rVn, x_rIf, x_rLf, x_rVf, x_40, x_41, x_42, x_43, x_44, ↓reduceIte, if_true, if_false, ao_iadd, ao_isub, ao_imul, ao_iand, ao_ior, ao_ishl, ao_ishr, ao_iushr, ao_ladd, ao_lsub, ao_lmul, ao_land, ao_lor, ao_idiv, ao_irem, ao_ldiv, ao_lrem, ao_ineg, ao_i2b, ao_i2s, Nat.reduceAdd, Nat.reduceMul, Nat.reduceSub, Nat.reduceEqDiff, Nat.reduceLeDiff, and_self, true_and, k0, k12, l12, x_lit, x_ofn, x_z0, x_z1, x_inbT, x_ltT, x_ltF, x_leT, x_leF, x_eqF, x_eqT, x_inb, x_lt, x_le, x_eq, x_cl, x_sub, nI_add, pk_mul, x_m1e, x_m1e', x_m1l, x_m1n, x_m1s, Nat.not_lt_zero, x_zb, x_b0, x_b1, decide_eq_false_iff_not, decide_eq_true_eq, Bool.false_eq_true, Bool.true_eq_false, h1, hlt, show i < 6 by omega, a0, e]
      exact t1
theorem X_wetSuit {v s r : Nat} {σ : am_M} {V : Vt} (hv : isV v) (h : VF σ v V) (hw : WN V) (hd : WFd V) (hs : s < 2147483648) (hr : r ≤ 99) : ∃ τ, S_X8_wetSuit [.ref v, .int (nI s), .int (nI r)] σ = some (none, τ) ∧ VF τ v (wetAll V s r) ∧ only2 (v + 14) (v + 16) σ τ := by
  have h6 := hw.2.2.2.2.2.1
  obtain ⟨τ, t1, t2, t3⟩ := X_wetSuit_loop hv hw hd hs hr (vN V 5) 0 (am_fuel + 1) σ rfl (by omega) (by unfold am_fuel; omega) (by rw [wetTo_0]; exact h)
  refine ⟨τ, ?_, t2, t3⟩
  rw [← t1]
  rfl
