/-! plans: what a few moves bring, both sides -/
def topN (l : List Nat) : Nat := l.getLast?.getD 0
def mvc (V : Vt) (m : Nat) : Vt := moveC V (m / 10) (m % 10) (topN (vP V (m / 10)))
def gY (set c to : Nat) : Int32 := if to = 7 ∧ set.testBit (c / 6) = true then nI (c % 6 + 1) else nI 0
def gD (set c to : Nat) : Int32 := if to = 7 then (if set.testBit (c / 6) = true then nI (c % 6 + 1) else -nI (c % 6 + 1)) else nI 0
def pickY (b : Int32 × Option Nat) (v : Int32) (m : Nat) : Int32 × Option Nat := if b.2.isSome = true ∧ v ≤ b.1 then b else (v, some m)
def pickD (first : Bool) (b : Option Int32) (v : Int32) : Option Int32 := match b with
  | none => some v
  | some x => some (if (cond first (decide (x < v)) (decide (v < x))) = true then v else x)
def mostF (rec : Vt → Int32) (set : Nat) (V : Vt) (l : List Nat) : Int32 × Option Nat := l.foldl (fun b m => pickY b (gY set (topN (vP V (m / 10))) (m % 10) + rec (mvc V m)) m) (nI 0, none)
def mostV (set : Nat) : Nat → Vt → Int32 × Option Nat
  | 0, _ => (nI 0, none)
  | n + 1, V => mostF (fun U => (mostV set n U).1) set V (mvL V)
def duelF (first : Bool) (rec : Vt → Int32) (set : Nat) (V : Vt) (l : List Nat) : Option Int32 := l.foldl (fun b m => pickD first b (gD set (topN (vP V (m / 10))) (m % 10) + rec (mvc V m))) none
def duelV (set : Nat) : Nat → Bool → Vt → Int32
  | 0, _, _ => nI 0
  | n + 1, first, V => (duelF first (duelV set n (!first)) set V (mvL V)).getD (nI 0)
theorem mostF_s {rec : Vt → Int32} {set : Nat} {V : Vt} {l : List Nat} {i m : Nat} (h : l[i]? = some m) : mostF rec set V (l.take (i + 1)) = pickY (mostF rec set V (l.take i)) (gY set (topN (vP V (m / 10))) (m % 10) + rec (mvc V m)) m := by
  unfold mostF
  rw [List.take_add_one, h, List.foldl_append]
  rfl
theorem duelF_s {first : Bool} {rec : Vt → Int32} {set : Nat} {V : Vt} {l : List Nat} {i m : Nat} (h : l[i]? = some m) : duelF first rec set V (l.take (i + 1)) = pickD first (duelF first rec set V (l.take i)) (gD set (topN (vP V (m / 10))) (m % 10) + rec (mvc V m)) := by
  unfold duelF
  rw [List.take_add_one, h, List.foldl_append]
  rfl
theorem mvL_mem {V : Vt} {m : Nat} (h : m ∈ mvL V) : ∃ f to, m = 10 * f + to ∧ f < 7 ∧ to < 8 ∧ okM V f to = true := by
  unfold mvL mvO mvI at h
  obtain ⟨f, h1, h2⟩ := List.mem_flatMap.mp h
  obtain ⟨to, h3, h4⟩ := List.mem_map.mp h2
  obtain ⟨h5, h6⟩ := List.mem_filter.mp h3
  exact ⟨f, to, h4.symm, List.mem_range.mp h1, List.mem_range.mp h5, h6⟩
theorem mvL_at {V : Vt} {i m : Nat} (h : (mvL V)[i]? = some m) : ∃ f to, m = 10 * f + to ∧ f < 7 ∧ to < 8 ∧ okM V f to = true := mvL_mem (List.mem_of_getElem? h)
theorem mvL_len {V : Vt} (wn : WN V) : (mvL V).length ≤ 49 := mvO_len wn 7
theorem ok_spec {V : Vt} {f to : Nat} (wn : WN V) (hto : to < 8) (h : okM V f to = true) : isFr V f = true ∧ isTo V to = true ∧ canM V f to = true ∧ to ≠ 6 ∧ f ≠ to ∧ ∃ c, (vP V f).getLast? = some c ∧ (to = 7 → vH V (c / 6) = c % 6) ∧ (to ≠ 7 → (vP V to).length < 12) := by
  unfold okM at h
  rw [Bool.and_eq_true, Bool.and_eq_true] at h
  obtain ⟨⟨h1, h2⟩, h3⟩ := h
  obtain ⟨c, c1, c2, c3, c4⟩ := canM_spec h3 hto
  refine ⟨h1, h2, h3, fun e => ?_, c2, c, c1, c3, fun e => bearsC_len (c4 e)⟩
  subst e
  unfold isTo at h2
  have := of_decide_eq_true h2
  have := wn.2.2.2.2.1
  omega
theorem WC_mv {V : Vt} {f to c : Nat} (wn : WN V) (wc : WC V) (hf : f < 7) (hto : to < 8) (h : okM V f to = true) (hc : (vP V f).getLast? = some c) : WC (moveC V f to c) := by
  obtain ⟨h1, h2, h3, h6, hft, d, d1, d2, d3⟩ := ok_spec wn hto h
  rw [hc] at d1
  cases d1
  have hc24 : c < 24 := wc.1 f (by omega) c (List.mem_of_getLast? hc)
  exact WC_moveC wc hf hto h6 hft hc h2 (fun e => by rw [d2 e]; omega) d3
theorem mvc_eq {V : Vt} {f to c : Nat} (hto : to < 8) (hc : (vP V f).getLast? = some c) : mvc V (10 * f + to) = moveC V f to c ∧ topN (vP V ((10 * f + to) / 10)) = c ∧ (10 * f + to) % 10 = to := by
  have e1 : (10 * f + to) / 10 = f := by omega
  have e2 : (10 * f + to) % 10 = to := by omega
  unfold mvc topN
  rw [e1, e2, hc]
  exact ⟨rfl, rfl, rfl⟩
theorem canM_cg {V U : Vt} (h1 : vN U = vN V) (h2 : vP U = vP V) (h3 : vH U = vH V) (f to : Nat) : okM U f to = okM V f to := by
  unfold okM isFr isTo canM bearsC fitsOn
  rw [h1, h2, h3]
theorem mvL_cg {V U : Vt} (h1 : vN U = vN V) (h2 : vP U = vP V) (h3 : vH U = vH V) : mvL U = mvL V := by
  have e : okM U = okM V := by funext f to; exact canM_cg h1 h2 h3 f to
  unfold mvL mvO mvI
  rw [e]
theorem moveC_cg {V U : Vt} (h1 : vN U = vN V) (h2 : vP U = vP V) (h3 : vH U = vH V) (f to c : Nat) : vN (moveC U f to c) = vN (moveC V f to c) ∧ vP (moveC U f to c) = vP (moveC V f to c) ∧ vH (moveC U f to c) = vH (moveC V f to c) := by
  have h2' : U.2.1 = V.2.1 := h2
  have h3' : U.2.2.1 = V.2.2.1 := h3
  rw [moveC_N, moveC_N]
  refine ⟨h1, ?_, ?_⟩
  · unfold moveC
    split
    · show va_up U.2.1 f _ = va_up V.2.1 f _
      simp only [vP, h2']
    · show va_up (va_up U.2.1 f _) to _ = va_up (va_up V.2.1 f _) to _
      simp only [vP, h2']
  · unfold moveC
    split
    · show va_up U.2.2.1 _ _ = va_up V.2.2.1 _ _
      simp only [vH, h3']
    · exact h3'
theorem mostV_cg (set : Nat) : ∀ (n : Nat) (V U : Vt), vN U = vN V → vP U = vP V → vH U = vH V → mostV set n U = mostV set n V
  | 0, _, _, _, _, _ => rfl
  | n + 1, V, U, h1, h2, h3 => by
    unfold mostV mostF
    rw [mvL_cg h1 h2 h3]
    have e : ∀ m, (mostV set n (mvc U m)).1 = (mostV set n (mvc V m)).1 := fun m => by
      have hP : vP U (m / 10) = vP V (m / 10) := by rw [h2]
      unfold mvc
      rw [hP]
      obtain ⟨q1, q2, q3⟩ := moveC_cg h1 h2 h3 (m / 10) (m % 10) (topN (vP V (m / 10)))
      rw [mostV_cg set n _ _ q1 q2 q3]
    simp only [e, h2]
theorem duelV_cg (set : Nat) : ∀ (n : Nat) (first : Bool) (V U : Vt), vN U = vN V → vP U = vP V → vH U = vH V → duelV set n first U = duelV set n first V
  | 0, _, _, _, _, _, _ => rfl
  | n + 1, first, V, U, h1, h2, h3 => by
    unfold duelV duelF
    rw [mvL_cg h1 h2 h3]
    have e : ∀ m, duelV set n (!first) (mvc U m) = duelV set n (!first) (mvc V m) := fun m => by
      have hP : vP U (m / 10) = vP V (m / 10) := by rw [h2]
      unfold mvc
      rw [hP]
      obtain ⟨q1, q2, q3⟩ := moveC_cg h1 h2 h3 (m / 10) (m % 10) (topN (vP V (m / 10)))
      rw [duelV_cg set n _ _ _ q1 q2 q3]
    simp only [e, h2]
/-! the class: cards there and back -/
def frS (t : Nat) (σ τ : am_M) : Prop := τ.2 = σ.2 ∧ ∀ j, j ≠ t + 1 → j ≠ t + 2 → j ≠ t + 4 → τ.1 j = σ.1 j
theorem X_shift {t f to c : Nat} {σ : am_M} {V : Vt} (ht : isT t) (h : TP σ t V) (wn : WN V) (hw : WC V) (hf : f < 7) (hto : to < 8) (hk : okM V f to = true) (hc : (vP V f).getLast? = some c) :
    ∃ τ, S_X6_shift [.ref t, .int (nI f), .int (nI to)] σ = some (some (.int (nI c)), τ) ∧ TP τ t (moveC V f to c) ∧ frS t σ τ := by
  obtain ⟨h1, h2, h3, h6, hft, d, d1, d2, d3⟩ := ok_spec wn hto hk
  rw [hc] at d1
  cases d1
  by_cases e7 : to = 7
  · subst e7
    obtain ⟨τ, a, b, x, y⟩ := X_shiftH ht h hw hf hc
    exact ⟨τ, a, b, x, fun j p q r => y j q r⟩
  · obtain ⟨τ, a, b, x, y⟩ := X_shiftR ht h hw hf (by omega) hft hc (d3 e7)
    exact ⟨τ, a, b, x, fun j p q r => y j p q⟩
theorem X_unshift {t f to c : Nat} {σ : am_M} {V : Vt} (ht : isT t) (wn : WN V) (hw : WC V) (hf : f < 7) (hto : to < 8) (hk : okM V f to = true) (hc : (vP V f).getLast? = some c) (h : TP σ t (moveC V f to c)) :
    ∃ τ, S_X6_unshift [.ref t, .int (nI c), .int (nI f), .int (nI to)] σ = some (none, τ) ∧ TP τ t V ∧ frS t σ τ := by
  obtain ⟨k0, k1, k2, k3, k4, k5, k6, l1, l2, l3, l4, l5, l6⟩ := isT_k ht
  obtain ⟨h1, h2, h3, h6, hft, d, d1, d2, d3⟩ := ok_spec wn hto hk
  rw [hc] at d1
  cases d1
  have hc24 : c < 24 := hw.1 f (by omega) c (List.mem_of_getLast? hc)
  have hs := last_split hc
  have hwm := WC_mv wn hw hf hto hk hc
  have hl0 : (vP V f).length ≤ 24 := hw.len (by omega)
  have hl1 : (vP V f).dropLast.length < 24 := by
    have := congrArg List.length hs
    rw [List.length_append] at this
    simp at this ⊢
    omega
  by_cases e7 : to = 7
  · subst e7
    have eU : moveC V f 7 c = vuH (popP V f) (c / 6) (vH V (c / 6) + 1) := by unfold moveC; rw [if_pos rfl]
    rw [eU] at h
    have hh : σ.1 (t + 4) (c / 6) = nI (vH V (c / 6) + 1) := by
      have := h.2.2.2 (c / 6) (by omega)
      rw [this]
      show nI (va_up V.2.2.1 (c / 6) _ (c / 6)) = _
      rw [up_s]
    have hh6 := hw.2.2.2.2 (c / 6)
    have ed : nI (vH V (c / 6) + 1) + -nI 1 = nI (vH V (c / 6)) := by rw [decI_dec]; rfl
    have hr : S_X6_raise [.ref t, .int (nI (c / 6)), .int (-nI 1)] σ = some (none, am_uI σ (t + 4) (c / 6) (nI (vH V (c / 6)))) := by
      simp (disch := omega) only [g_X6_raise, ↓e_X6_raise_19, ↓e_X6_raise_0, ↓it_s, ↓y_iload, ↓y_lload, ↓y_aload, ↓y_istore, ↓y_lstore, ↓y_astore, ↓y_iinc, ↓y_cI, ↓y_cL, ↓y_bin, ↓y_binL, ↓y_div, ↓y_divL, ↓y_lshl, ↓y_un, ↓y_i2l, ↓y_lneg, ↓y_l2i, ↓y_lcmp, ↓y_dupI, ↓y_dupR, ↓y_dup2, ↓y_pop, ↓y_goto, ↓y_eq0, ↓y_lt0, ↓y_le0, ↓y_eq, ↓y_lt, ↓y_le, ↓y_switch, ↓y_sw0, ↓y_sw1, ↓y_getI, ↓y_getL, ↓y_getR, ↓y_getT, ↓y_putI, ↓y_putZ, ↓y_putL, ↓y_putT, ↓y_iald, ↓y_bald, ↓y_lald, ↓y_aald, ↓y_iast, ↓y_bast, ↓y_last, ↓y_alen, ↓y_iret, ↓y_zret, ↓y_lret, ↓y_vret, ↓y_svI, ↓y_svL, ↓y_svV, ↓y_ivI, ↓y_ivL, ↓y_ivV, ↓y_max, ↓y_min, ↓y_absL, ↓y_cpI, ↓y_cpL, ↓x_n1I, ↓x_n1L, ↓x_n1R, ↓x_n0I, ↓x_n0L, ↓x_n0R, ↓x_s0, ↓x_s1i, ↓x_s1r, ↓x_s1n, ↓x_s2, ↓x_c0, ↓x_c2, ↓x_tk0, ↓x_tk1, ↓x_rcv, x_rI1, x_rL1, x_rV1, x_rIn, x_rLn, x_rVn, x_rIf, x_rLf, x_rVf, x_40, x_41, x_42, x_43, x_44, ↓reduceIte, if_true, if_false, ao_iadd, ao_isub, ao_imul, ao_iand, ao_ior, ao_ishl, ao_ishr, ao_iushr, ao_ladd, ao_lsub, ao_lmul, ao_land, ao_lor, ao_idiv, ao_irem, ao_ldiv, ao_lrem, ao_ineg, ao_i2b, ao_i2s, Nat.reduceAdd, Nat.reduceMul, Nat.reduceSub, Nat.reduceEqDiff, Nat.reduceLeDiff, and_self, true_and, x_lit, x_ltT, x_ltF, x_inbT, x_cl, k0, k4, l4, hh, ed]
    have hP1 := TP_home (s := c / 6) (x := vH V (c / 6)) h (by omega)
    have eP : vP (vuH (vuH (popP V f) (c / 6) (vH V (c / 6) + 1)) (c / 6) (vH V (c / 6))) f = (vP V f).dropLast := vuP_s _ _ _
    have hlay := X_lay (p := f) (c := c) ht hP1 hf (by rw [eP]; exact hl1)
    have hP2 := TP_push (p := f) (c := c) hP1 (fun q hq => by
      by_cases e : q = f
      · subst e; rw [eP]; omega
      · have : vP (vuH (vuH (popP V f) (c / 6) (vH V (c / 6) + 1)) (c / 6) (vH V (c / 6))) q = vP V q := up_n e
        rw [this]; exact hw.len (by omega)) hf (by rw [eP]; exact hl1)
    refine ⟨_, ?_, TP_cg hP2 ?_ ?_, rfl, fun j p q r => ?_⟩
    · simp (disch := omega) only [g_X6_unshift, ↓e_X6_unshift_24, ↓e_X6_unshift_18, ↓e_X6_unshift_0, ↓it_s, ↓y_iload, ↓y_lload, ↓y_aload, ↓y_istore, ↓y_lstore, ↓y_astore, ↓y_iinc, ↓y_cI, ↓y_cL, ↓y_bin, ↓y_binL, ↓y_div, ↓y_divL, ↓y_lshl, ↓y_un, ↓y_i2l, ↓y_lneg, ↓y_l2i, ↓y_lcmp, ↓y_dupI, ↓y_dupR, ↓y_dup2, ↓y_pop, ↓y_goto, ↓y_eq0, ↓y_lt0, ↓y_le0, ↓y_eq, ↓y_lt, ↓y_le, ↓y_switch, ↓y_sw0, ↓y_sw1, ↓y_getI, ↓y_getL, ↓y_getR, ↓y_getT, ↓y_putI, ↓y_putZ, ↓y_putL, ↓y_putT, ↓y_iald, ↓y_bald, ↓y_lald, ↓y_aald, ↓y_iast, ↓y_bast, ↓y_last, ↓y_alen, ↓y_iret, ↓y_zret, ↓y_lret, ↓y_vret, ↓y_svI, ↓y_svL, ↓y_svV, ↓y_ivI, ↓y_ivL, ↓y_ivV, ↓y_max, ↓y_min, ↓y_absL, ↓y_cpI, ↓y_cpL, ↓x_n1I, ↓x_n1L, ↓x_n1R, ↓x_n0I, ↓x_n0L, ↓x_n0R, ↓x_s0, ↓x_s1i, ↓x_s1r, ↓x_s1n, ↓x_s2, ↓x_c0, ↓x_c2, ↓x_tk0, ↓x_tk1, ↓x_rcv, x_rI1, x_rL1, x_rV1, x_rIn, x_rLn, x_rVn, x_rIf, x_rLf, x_rVf, x_40, x_41, x_42, x_43, x_44, ↓reduceIte, if_true, if_false, ao_iadd, ao_isub, ao_imul, ao_iand, ao_ior, ao_ishl, ao_ishr, ao_iushr, ao_ladd, ao_lsub, ao_lmul, ao_land, ao_lor, ao_idiv, ao_irem, ao_ldiv, ao_lrem, ao_ineg, ao_i2b, ao_i2s, Nat.reduceAdd, Nat.reduceMul, Nat.reduceSub, Nat.reduceEqDiff, Nat.reduceLeDiff, and_self, true_and, x_lit, x_ofn, x_z0, x_z1, x_inbT, x_ltT, x_ltF, x_leT, x_leF, x_eqF, x_eqT, x_inb, x_lt, x_le, x_eq, x_cl, x_sub, nI_add, pk_mul, x_m1e, x_m1e', x_m1l, x_m1n, x_m1s, Nat.not_lt_zero, x_zb, x_b0, x_b1, decide_eq_false_iff_not, decide_eq_true_eq, Bool.false_eq_true, Bool.true_eq_false, k0, X_suitOf, hr, hlay]
    · funext q
      rw [eP, ← hs]
      show vP V q = va_up (va_up V.2.1 f (vP V f).dropLast) f (vP V f) q
      by_cases e : q = f
      · subst e; rw [up_s]
      · rw [up_n e, up_n e]
    · funext s
      show vH V s = va_up (va_up V.2.2.1 (c / 6) (vH V (c / 6) + 1)) (c / 6) (vH V (c / 6)) s
      by_cases e : s = c / 6
      · subst e; rw [up_s]
      · rw [up_n e, up_n e]
    · rw [uI_n q, uI_n p, uI_n r]
  · have eU : moveC V f to c = vuP (popP V f) to (vP V to ++ [c]) := by unfold moveC; rw [if_neg e7]
    have eT : vP (moveC V f to c) to = vP V to ++ [c] := by rw [eU]; exact vuP_s _ _ _
    have hg : (vP (moveC V f to c) to).getLast? = some c := by rw [eT]; simp
    have hlift := X_lift (p := to) ht h hwm (by omega) hg
    have hP1 := TP_pop (p := to) h (by omega) (by rw [eT, List.length_append]; simp)
    have eP : vP (vuP (moveC V f to c) to (vP (moveC V f to c) to).dropLast) f = (vP V f).dropLast := by
      show va_up (moveC V f to c).2.1 to _ f = _
      rw [up_n hft, eU]
      show va_up (va_up V.2.1 f _) to _ f = _
      rw [up_n hft, up_s]
    have hlay := X_lay (p := f) (c := c) ht hP1 hf (by rw [eP]; exact hl1)
    have hall : ∀ q, va_up (vP (vuP (moveC V f to c) to (vP (moveC V f to c) to).dropLast)) f ((vP V f).dropLast ++ [c]) q = vP V q := fun q => by
      rw [← hs]
      by_cases e : q = f
      · subst e; rw [up_s]
      · rw [up_n e]
        show va_up (moveC V f to c).2.1 to _ q = _
        by_cases e2 : q = to
        · subst e2; rw [up_s, eT, List.dropLast_concat]
        · rw [up_n e2, eU]
          show va_up (va_up V.2.1 f _) to _ q = _
          rw [up_n e2, up_n e]
    have hP2 := TP_push (p := f) (c := c) hP1 (fun q hq => by
      by_cases e : q = f
      · subst e; rw [eP]; omega
      · have := hall q
        rw [up_n e] at this
        rw [this]; exact hw.len (by omega)) hf (by rw [eP]; exact hl1)
    refine ⟨_, ?_, TP_cg hP2 ?_ ?_, rfl, fun j p q r => ?_⟩
    · simp (disch := omega) only [g_X6_unshift, ↓e_X6_unshift_24, ↓e_X6_unshift_18, ↓e_X6_unshift_0, ↓it_s, ↓y_iload, ↓y_lload, ↓y_aload, ↓y_istore, ↓y_lstore, ↓y_astore, ↓y_iinc, ↓y_cI, ↓y_cL, ↓y_bin, ↓y_binL, ↓y_div, ↓y_divL, ↓y_lshl, ↓y_un, ↓y_i2l, ↓y_lneg, ↓y_l2i, ↓y_lcmp, ↓y_dupI, ↓y_dupR, ↓y_dup2, ↓y_pop, ↓y_goto, ↓y_eq0, ↓y_lt0, ↓y_le0, ↓y_eq, ↓y_lt, ↓y_le, ↓y_switch, ↓y_sw0, ↓y_sw1, ↓y_getI, ↓y_getL, ↓y_getR, ↓y_getT, ↓y_putI, ↓y_putZ, ↓y_putL, ↓y_putT, ↓y_iald, ↓y_bald, ↓y_lald, ↓y_aald, ↓y_iast, ↓y_bast, ↓y_last, ↓y_alen, ↓y_iret, ↓y_zret, ↓y_lret, ↓y_vret, ↓y_svI, ↓y_svL, ↓y_svV, ↓y_ivI, ↓y_ivL, ↓y_ivV, ↓y_max, ↓y_min, ↓y_absL, ↓y_cpI, ↓y_cpL, ↓x_n1I, ↓x_n1L, ↓x_n1R, ↓x_n0I, ↓x_n0L, ↓x_n0R, ↓x_s0, ↓x_s1i, ↓x_s1r, ↓x_s1n, ↓x_s2, ↓x_c0, ↓x_c2, ↓x_tk0, ↓x_tk1, ↓x_rcv, x_rI1, x_rL1, x_rV1, x_rIn, x_rLn, x_rVn, x_rIf, x_rLf, x_rVf, x_40, x_41, x_42, x_43, x_44, ↓reduceIte, if_true, if_false, ao_iadd, ao_isub, ao_imul, ao_iand, ao_ior, ao_ishl, ao_ishr, ao_iushr, ao_ladd, ao_lsub, ao_lmul, ao_land, ao_lor, ao_idiv, ao_irem, ao_ldiv, ao_lrem, ao_ineg, ao_i2b, ao_i2s, Nat.reduceAdd, Nat.reduceMul, Nat.reduceSub, Nat.reduceEqDiff, Nat.reduceLeDiff, and_self, true_and, x_lit, x_ofn, x_z0, x_z1, x_inbT, x_ltT, x_ltF, x_leT, x_leF, x_eqF, x_eqT, x_inb, x_lt, x_le, x_eq, x_cl, x_sub, nI_add, pk_mul, x_m1e, x_m1e', x_m1l, x_m1n, x_m1s, Nat.not_lt_zero, x_zb, x_b0, x_b1, decide_eq_false_iff_not, decide_eq_true_eq, Bool.false_eq_true, Bool.true_eq_false, k0, hlift, hlay]
    · funext q
      rw [eP]
      exact (hall q).symm
    · rw [eU]; rfl
    · rw [uI_n q, uI_n p, uI_n q]
theorem x_neg7 : ∀ r, r < 8 → (nI 0 < -nI r) = False := by
  intro r hr
  have : ∀ r, r < 8 → ¬ (nI 0 < -nI r) := by decide +kernel
  exact eq_false (this r hr)
theorem X_gain {set c to : Nat} (hset : set < 16) (hc : c < 24) (hto : to < 8) (σ : am_M) : S_X2_gain [.int (nI c), .int (nI to), .int (nI set)] σ = some (some (.int (gD set c to)), σ) := by
  have hb := x_bit set hset (c / 6) (by omega)
  unfold gD
  by_cases e7 : to = 7
  · subst e7
    cases e : set.testBit (c / 6)
    · rw [e] at hb
      simp (disch := omega) only [g_X2_gain, ↓e_X2_gain_37, ↓e_X2_gain_32, ↓e_X2_gain_13, ↓e_X2_gain_11, ↓e_X2_gain_0, ↓it_s, ↓y_iload, ↓y_lload, ↓y_aload, ↓y_istore, ↓y_lstore, ↓y_astore, ↓y_iinc, ↓y_cI, ↓y_cL, ↓y_bin, ↓y_binL, ↓y_div, ↓y_divL, ↓y_lshl, ↓y_un, ↓y_i2l, ↓y_lneg, ↓y_l2i, ↓y_lcmp, ↓y_dupI, ↓y_dupR, ↓y_dup2, ↓y_pop, ↓y_goto, ↓y_eq0, ↓y_lt0, ↓y_le0, ↓y_eq, ↓y_lt, ↓y_le, ↓y_switch, ↓y_sw0, ↓y_sw1, ↓y_getI, ↓y_getL, ↓y_getR, ↓y_getT, ↓y_putI, ↓y_putZ, ↓y_putL, ↓y_putT, ↓y_iald, ↓y_bald, ↓y_lald, ↓y_aald, ↓y_iast, ↓y_bast, ↓y_last, ↓y_alen, ↓y_iret, ↓y_zret, ↓y_lret, ↓y_vret, ↓y_svI, ↓y_svL, ↓y_svV, ↓y_ivI, ↓y_ivL, ↓y_ivV, ↓y_max, ↓y_min, ↓y_absL, ↓y_cpI, ↓y_cpL, ↓x_n1I, ↓x_n1L, ↓x_n1R, ↓x_n0I, ↓x_n0L, ↓x_n0R, ↓x_s0, ↓x_s1i, ↓x_s1r, ↓x_s1n, ↓x_s2, ↓x_c0, ↓x_c2, ↓x_tk0, ↓x_tk1, ↓x_rcv, x_rI1, x_rL1, x_rV1, x_rIn, x_rLn, x_rVn, x_rIf, x_rLf, x_rVf, x_40, x_41, x_42, x_43, x_44, ↓reduceIte, if_true, if_false, ao_iadd, ao_isub, ao_imul, ao_iand, ao_ior, ao_ishl, ao_ishr, ao_iushr, ao_ladd, ao_lsub, ao_lmul, ao_land, ao_lor, ao_idiv, ao_irem, ao_ldiv, ao_lrem, ao_ineg, ao_i2b, ao_i2s, Nat.reduceAdd, Nat.reduceMul, Nat.reduceSub, Nat.reduceEqDiff, Nat.reduceLeDiff, and_self, true_and, x_lit, x_ofn, x_z0, x_z1, x_inbT, x_ltT, x_ltF, x_leT, x_leF, x_eqF, x_eqT, x_inb, x_lt, x_le, x_eq, x_cl, x_sub, nI_add, pk_mul, x_m1e, x_m1e', x_m1l, x_m1n, x_m1s, Nat.not_lt_zero, x_zb, x_b0, x_b1, decide_eq_false_iff_not, decide_eq_true_eq, Bool.false_eq_true, Bool.true_eq_false, X_suitOf, X_rankOf, hb, b2_f]
    · rw [e] at hb
      simp (disch := omega) only [g_X2_gain, ↓e_X2_gain_37, ↓e_X2_gain_32, ↓e_X2_gain_13, ↓e_X2_gain_11, ↓e_X2_gain_0, ↓it_s, ↓y_iload, ↓y_lload, ↓y_aload, ↓y_istore, ↓y_lstore, ↓y_astore, ↓y_iinc, ↓y_cI, ↓y_cL, ↓y_bin, ↓y_binL, ↓y_div, ↓y_divL, ↓y_lshl, ↓y_un, ↓y_i2l, ↓y_lneg, ↓y_l2i, ↓y_lcmp, ↓y_dupI, ↓y_dupR, ↓y_dup2, ↓y_pop, ↓y_goto, ↓y_eq0, ↓y_lt0, ↓y_le0, ↓y_eq, ↓y_lt, ↓y_le, ↓y_switch, ↓y_sw0, ↓y_sw1, ↓y_getI, ↓y_getL, ↓y_getR, ↓y_getT, ↓y_putI, ↓y_putZ, ↓y_putL, ↓y_putT, ↓y_iald, ↓y_bald, ↓y_lald, ↓y_aald, ↓y_iast, ↓y_bast, ↓y_last, ↓y_alen, ↓y_iret, ↓y_zret, ↓y_lret, ↓y_vret, ↓y_svI, ↓y_svL, ↓y_svV, ↓y_ivI, ↓y_ivL, ↓y_ivV, ↓y_max, ↓y_min, ↓y_absL, ↓y_cpI, ↓y_cpL, ↓x_n1I, ↓x_n1L, ↓x_n1R, ↓x_n0I, ↓x_n0L, ↓x_n0R, ↓x_s0, ↓x_s1i, ↓x_s1r, ↓x_s1n, ↓x_s2, ↓x_c0, ↓x_c2, ↓x_tk0, ↓x_tk1, ↓x_rcv, x_rI1, x_rL1, x_rV1, x_rIn, x_rLn, x_rVn, x_rIf, x_rLf, x_rVf, x_40, x_41, x_42, x_43, x_44, ↓reduceIte, if_true, if_false, ao_iadd, ao_isub, ao_imul, ao_iand, ao_ior, ao_ishl, ao_ishr, ao_iushr, ao_ladd, ao_lsub, ao_lmul, ao_land, ao_lor, ao_idiv, ao_irem, ao_ldiv, ao_lrem, ao_ineg, ao_i2b, ao_i2s, Nat.reduceAdd, Nat.reduceMul, Nat.reduceSub, Nat.reduceEqDiff, Nat.reduceLeDiff, and_self, true_and, x_lit, x_ofn, x_z0, x_z1, x_inbT, x_ltT, x_ltF, x_leT, x_leF, x_eqF, x_eqT, x_inb, x_lt, x_le, x_eq, x_cl, x_sub, nI_add, pk_mul, x_m1e, x_m1e', x_m1l, x_m1n, x_m1s, Nat.not_lt_zero, x_zb, x_b0, x_b1, decide_eq_false_iff_not, decide_eq_true_eq, Bool.false_eq_true, Bool.true_eq_false, X_suitOf, X_rankOf, hb, b2_t]
  · simp (disch := omega) only [g_X2_gain, ↓e_X2_gain_37, ↓e_X2_gain_32, ↓e_X2_gain_13, ↓e_X2_gain_11, ↓e_X2_gain_0, ↓it_s, ↓y_iload, ↓y_lload, ↓y_aload, ↓y_istore, ↓y_lstore, ↓y_astore, ↓y_iinc, ↓y_cI, ↓y_cL, ↓y_bin, ↓y_binL, ↓y_div, ↓y_divL, ↓y_lshl, ↓y_un, ↓y_i2l, ↓y_lneg, ↓y_l2i, ↓y_lcmp, ↓y_dupI, ↓y_dupR, ↓y_dup2, ↓y_pop, ↓y_goto, ↓y_eq0, ↓y_lt0, ↓y_le0, ↓y_eq, ↓y_lt, ↓y_le, ↓y_switch, ↓y_sw0, ↓y_sw1, ↓y_getI, ↓y_getL, ↓y_getR, ↓y_getT, ↓y_putI, ↓y_putZ, ↓y_putL, ↓y_putT, ↓y_iald, ↓y_bald, ↓y_lald, ↓y_aald, ↓y_iast, ↓y_bast, ↓y_last, ↓y_alen, ↓y_iret, ↓y_zret, ↓y_lret, ↓y_vret, ↓y_svI, ↓y_svL, ↓y_svV, ↓y_ivI, ↓y_ivL, ↓y_ivV, ↓y_max, ↓y_min, ↓y_absL, ↓y_cpI, ↓y_cpL, ↓x_n1I, ↓x_n1L, ↓x_n1R, ↓x_n0I, ↓x_n0L, ↓x_n0R, ↓x_s0, ↓x_s1i, ↓x_s1r, ↓x_s1n, ↓x_s2, ↓x_c0, ↓x_c2, ↓x_tk0, ↓x_tk1, ↓x_rcv, x_rI1, x_rL1, x_rV1, x_rIn, x_rLn, x_rVn, x_rIf, x_rLf, x_rVf, x_40, x_41, x_42, x_43, x_44, ↓reduceIte, if_true, if_false, ao_iadd, ao_isub, ao_imul, ao_iand, ao_ior, ao_ishl, ao_ishr, ao_iushr, ao_ladd, ao_lsub, ao_lmul, ao_land, ao_lor, ao_idiv, ao_irem, ao_ldiv, ao_lrem, ao_ineg, ao_i2b, ao_i2s, Nat.reduceAdd, Nat.reduceMul, Nat.reduceSub, Nat.reduceEqDiff, Nat.reduceLeDiff, and_self, true_and, x_lit, x_ofn, x_z0, x_z1, x_inbT, x_ltT, x_ltF, x_leT, x_leF, x_eqF, x_eqT, x_inb, x_lt, x_le, x_eq, x_cl, x_sub, nI_add, pk_mul, x_m1e, x_m1e', x_m1l, x_m1n, x_m1s, Nat.not_lt_zero, x_zb, x_b0, x_b1, decide_eq_false_iff_not, decide_eq_true_eq, Bool.false_eq_true, Bool.true_eq_false, e7]
theorem gD_max (set c to : Nat) : (if nI 0 < gD set c to then gD set c to else nI 0) = gY set c to := by
  unfold gD gY
  by_cases e7 : to = 7
  · cases e : set.testBit (c / 6)
    · simp only [e7, if_true, Bool.false_eq_true, if_false, and_false]
      rw [if_neg (by rw [x_neg7 _ (by omega)]; exact fun h => h)]
    · simp only [e7, if_true, and_self]
      rw [if_pos ((nI_ltI (by omega) (by omega)).mpr (by omega))]
  · simp only [e7, if_false, false_and]
    split <;> rfl
def frR (t k : Nat) (σ τ : am_M) : Prop := τ.2 = σ.2 ∧ (∀ j, j ≠ t + 1 → j ≠ t + 2 → j ≠ t + 4 → j ≠ 51 → j ≠ 52 → τ.1 j = σ.1 j) ∧ (∀ i, k * 49 + 49 ≤ i → τ.1 51 i = σ.1 51 i) ∧ ∀ i, k < i → τ.1 52 i = σ.1 52 i
theorem frR_rf (t k : Nat) (σ : am_M) : frR t k σ σ := ⟨rfl, fun _ _ _ _ _ _ => rfl, fun _ _ => rfl, fun _ _ => rfl⟩
theorem frR_tr {t k : Nat} {a b c : am_M} (h1 : frR t k a b) (h2 : frR t k b c) : frR t k a c := ⟨h2.1.trans h1.1, fun j p q r s u => (h2.2.1 j p q r s u).trans (h1.2.1 j p q r s u), fun i hi => (h2.2.2.1 i hi).trans (h1.2.2.1 i hi), fun i hi => (h2.2.2.2 i hi).trans (h1.2.2.2 i hi)⟩
theorem isT_5 {t : Nat} (h : isT t) : ∀ i, i < 7 → t + i ≠ 51 ∧ t + i ≠ 52 := by
  intro i hi
  rcases h with rfl | rfl | rfl | rfl | rfl | rfl <;> omega
theorem frR_S {t k : Nat} {a b : am_M} (ht : isT t) (h : frS t a b) : frR t k a b := by
  have h51 := isT_5 ht
  have a1 := h51 1 (by omega)
  have a2 := h51 2 (by omega)
  have a4 := h51 4 (by omega)
  exact ⟨h.1, fun j p q r s u => h.2 j p q r, fun i hi => by rw [h.2 51 (by omega) (by omega) (by omega)], fun i hi => by rw [h.2 52 (by omega) (by omega) (by omega)]⟩
theorem frR_mono {t k l : Nat} {a b : am_M} (h : frR t k a b) (hkl : k ≤ l) : frR t l a b := ⟨h.1, h.2.1, fun i hi => h.2.2.1 i (by omega), fun i hi => h.2.2.2 i (by omega)⟩
theorem X_reach {t set : Nat} (ht : isT t) (hset : set < 16) : ∀ (k n : Nat) (V : Vt) (σ : am_M), k ≤ 3 → k < n → WN V → WC V → TN σ t V → TP σ t V →
    ∃ τ, S_X2_reach n [.ref 50, .ref t, .int (nI set), .int (nI k)] σ = some (some (.int (mostV set k V).1), τ) ∧ TP τ t V ∧ frR t k σ τ ∧ (1 ≤ k → τ.1 52 k = optI (mostV set k V).2) := by
  obtain ⟨k0, k1, k2, k3, k4, k5, k6, l1, l2, l3, l4, l5, l6⟩ := isT_k ht
  have h5 := isT_5 ht
  intro k
  induction k with
  | zero =>
    intro n V σ hk hn wn wc hN hP
    obtain ⟨n, rfl⟩ : ∃ q, n = q + 1 := ⟨n - 1, by omega⟩
    refine ⟨σ, ?_, hP, frR_rf _ _ _, fun h => by omega⟩
    show F_X2_reach (S_X2_reach n) _ _ = _
    simp (disch := omega) only [g_X2_reach, ↓e_X2_reach_0, ↓e_X2_reach_10, ↓it_s, ↓y_iload, ↓y_lload, ↓y_aload, ↓y_istore, ↓y_lstore, ↓y_astore, ↓y_iinc, ↓y_cI, ↓y_cL, ↓y_bin, ↓y_binL, ↓y_div, ↓y_divL, ↓y_lshl, ↓y_un, ↓y_i2l, ↓y_lneg, ↓y_l2i, ↓y_lcmp, ↓y_dupI, ↓y_dupR, ↓y_dup2, ↓y_pop, ↓y_goto, ↓y_eq0, ↓y_lt0, ↓y_le0, ↓y_eq, ↓y_lt, ↓y_le, ↓y_switch, ↓y_sw0, ↓y_sw1, ↓y_getI, ↓y_getL, ↓y_getR, ↓y_getT, ↓y_putI, ↓y_putZ, ↓y_putL, ↓y_putT, ↓y_iald, ↓y_bald, ↓y_lald, ↓y_aald, ↓y_iast, ↓y_bast, ↓y_last, ↓y_alen, ↓y_iret, ↓y_zret, ↓y_lret, ↓y_vret, ↓y_svI, ↓y_svL, ↓y_svV, ↓y_ivI, ↓y_ivL, ↓y_ivV, ↓y_max, ↓y_min, ↓y_absL, ↓y_cpI, ↓y_cpL, ↓x_n1I, ↓x_n1L, ↓x_n1R, ↓x_n0I, ↓x_n0L, ↓x_n0R, ↓x_s0, ↓x_s1i, ↓x_s1r, ↓x_s1n, ↓x_s2, ↓x_c0, ↓x_c2, ↓x_tk0, ↓x_tk1, ↓x_rcv, x_rI1, x_rL1, x_rV1, x_rIn, x_rLn, x_rVn, x_rIf, x_rLf, x_rVf, x_40, x_41, x_42, x_43, x_44, ↓reduceIte, if_true, if_false, ao_iadd, ao_isub, ao_imul, ao_iand, ao_ior, ao_ishl, ao_ishr, ao_iushr, ao_ladd, ao_lsub, ao_lmul, ao_land, ao_lor, ao_idiv, ao_irem, ao_ldiv, ao_lrem, ao_ineg, ao_i2b, ao_i2s, Nat.reduceAdd, Nat.reduceMul, Nat.reduceSub, Nat.reduceEqDiff, Nat.reduceLeDiff, and_self, true_and, x_lit, x_ofn, x_z0, x_z1, x_inbT, x_ltT, x_ltF, x_leT, x_leF, x_eqF, x_eqT, x_inb, x_lt, x_le, x_eq, x_cl, x_sub, nI_add, pk_mul, x_m1e, x_m1e', x_m1l, x_m1n, x_m1s, Nat.not_lt_zero, x_zb, x_b0, x_b1, decide_eq_false_iff_not, decide_eq_true_eq, Bool.false_eq_true, Bool.true_eq_false]
    rfl
  | succ k ih =>
    intro n V σ hk hn wn wc hN hP
    obtain ⟨n, rfl⟩ : ∃ q, n = q + 1 := ⟨n - 1, by omega⟩
    obtain ⟨E, eE⟩ : ∃ E, E = S_X2_reach n := ⟨_, rfl⟩
    have hlen := mvL_len wn
    obtain ⟨σ1, a1, a2, a3⟩ := X_listMoves (h := 51) (start := (k + 1) * 49) ht ⟨by omega, rfl, by show (k + 1) * 49 + 49 ≤ 196; omega, Nat.le_refl _⟩ wn wc hN hP
    have hne : ∀ i, i < 7 → t + i ≠ 51 := fun i hi => (h5 i hi).1
    have hne2 : ∀ i, i < 7 → t + i ≠ 52 := fun i hi => (h5 i hi).2
    have hP1 : TP σ1 t V := TP_fr hP (fun j q1 q2 => a3.2.1 j (by have := hne (j - t) (by omega); omega))
    obtain ⟨σ2, e2⟩ : ∃ s, s = am_uI σ1 52 (k + 1) (-nI 1) := ⟨_, rfl⟩
    have hF2 : frR t (k + 1) σ σ2 := by
      rw [e2]
      refine ⟨a3.1, fun j p q r s u => by rw [uI_n u]; exact a3.2.1 j s, fun i hi => by rw [uI_n (by omega)]; exact a3.2.2 i (by omega), fun i hi => ?_⟩
      rw [uI_s, up_n (by omega), a3.2.1 52 (by omega)]
    have hP2 : TP σ2 t V := by rw [e2]; exact TP_fr hP1 (fun j q1 q2 => uI_n (by have := hne2 (j - t) (by omega); omega))
    have hL2 : seg (σ2.1 51) ((k + 1) * 49) (mvL V) := by rw [e2, uI_n (by omega)]; exact a2
    obtain ⟨⟨b, x7, x8, x9⟩, σ3, ⟨b1, b2', b3, b4, b5, b6⟩, hr⟩ := rch_for (hd := hd_X2_reach E) (p := 39) (n := (mvL V).length) (C := 1)
      (fun i (a : (Int32 × Option Nat) × Option Value × Option Value × Option Value) => [some (.ref 50), some (.ref t), some (.int (nI set)), some (.int (nI (k + 1))), some (.int (nI (mvL V).length)), some (.int a.1.1), some (.int (nI i)), a.2.1, a.2.2.1, a.2.2.2])
      (fun i a τ => TP τ t V ∧ seg (τ.1 51) ((k + 1) * 49) (mvL V) ∧ a.1 = mostF (fun U => (mostV set k U).1) set V ((mvL V).take i) ∧ τ.1 52 (k + 1) = optI a.1.2 ∧ (∀ m, a.1.2 = some m → m < 100) ∧ frR t (k + 1) σ τ)
      (fun i a τ hi hI => by
        obtain ⟨⟨bv, bo⟩, x7, x8, x9⟩ := a
        obtain ⟨i1, i2, i3, i4, i5, i6⟩ := hI
        dsimp only at i3 i4 i5
        have hm : (mvL V)[i]? = some (mvL V)[i] := List.getElem?_eq_getElem hi
        obtain ⟨f, to, em, hf, hto, hok⟩ := mvL_at hm
        rw [em] at hm
        obtain ⟨o1, o2, o3, o4, o5, c, hc, o6, o7⟩ := ok_spec wn hto hok
        obtain ⟨q1, q2, q3⟩ := mvc_eq hto hc
        have hc24 : c < 24 := wc.1 f (by omega) c (List.mem_of_getLast? hc)
        have hcode := i2 _ _ hm
        have hNτ : TN τ t V := TN_fr hN (i6.2.1 t (by omega) (by omega) (by omega) (hne 0 (by omega)) (hne2 0 (by omega)))
        obtain ⟨τ1, s1, s2, s3⟩ := X_shift ht i1 wn wc hf hto hok hc
        have hwm := WC_mv wn wc hf hto hok hc
        have hN1 : TN τ1 t (moveC V f to c) := TN_cg (TN_fr hNτ (s3.2 t (by omega) (by omega) (by omega))) (moveC_N _ _ _ _)
        have hwn : WN (moveC V f to c) := by unfold WN; rw [moveC_N]; exact wn
        obtain ⟨τ2, r1, r2, r3, -⟩ := ih n (moveC V f to c) τ1 (by omega) (by omega) hwn hwm hN1 s2
        rw [← eE] at r1
        obtain ⟨τ3, u1, u2, u3⟩ := X_unshift ht wn wc hf hto hok hc r2
        have hF3 : frR t k τ τ3 := frR_tr (frR_S ht s3) (frR_tr r3 (frR_S ht u3))
        have h52 : τ3.1 52 (k + 1) = optI bo := by rw [hF3.2.2.2 (k + 1) (by omega)]; exact i4
        have h51 : seg (τ3.1 51) ((k + 1) * 49) (mvL V) := seg_cg i2 (fun j hj => hF3.2.2.1 _ (by omega))
        have hstep := mostF_s (rec := fun U => (mostV set k U).1) (set := set) (V := V) hm
        rw [q1, q2, q3, ← i3] at hstep
        obtain ⟨v, ev⟩ : ∃ v, v = gY set c to + (mostV set k (moveC V f to c)).1 := ⟨_, rfl⟩
        rw [← ev] at hstep
        have hq10 : nI (10 * f + to) / nI 10 = nI f := by rw [x_div (by omega) (by omega) (by omega)]; congr 1; omega
        have hr10 : 10 * f + to - f * 10 = to := by omega
        by_cases hup : bo.isSome = true ∧ v ≤ bv
        · refine ⟨((bv, bo), some (.int (nI (10 * f + to))), some (.int (nI c)), some (.int v)), τ3, ⟨u2, h51, ?_, h52, i5, frR_tr i6 (frR_mono hF3 (by omega))⟩, rch_1 fun B => ?_⟩
          · rw [hstep]; unfold pickY; rw [if_pos hup]
          · obtain ⟨m0, em0⟩ := Option.isSome_iff_exists.mp hup.1
            have hm0 := i5 m0 em0
            rw [em0] at h52
            have h52' : τ3.1 52 (k + 1) = nI m0 := h52
            have hle := hup.2
            rw [ev] at hle ⊢
            simp (disch := omega) only [↓e_X2_reach_39, ↓e_X2_reach_155, ↓h_X2_reach_39, ↓it_s, ↓y_iload, ↓y_lload, ↓y_aload, ↓y_istore, ↓y_lstore, ↓y_astore, ↓y_iinc, ↓y_cI, ↓y_cL, ↓y_bin, ↓y_binL, ↓y_div, ↓y_divL, ↓y_lshl, ↓y_un, ↓y_i2l, ↓y_lneg, ↓y_l2i, ↓y_lcmp, ↓y_dupI, ↓y_dupR, ↓y_dup2, ↓y_pop, ↓y_goto, ↓y_eq0, ↓y_lt0, ↓y_le0, ↓y_eq, ↓y_lt, ↓y_le, ↓y_switch, ↓y_sw0, ↓y_sw1, ↓y_getI, ↓y_getL, ↓y_getR, ↓y_getT, ↓y_putI, ↓y_putZ, ↓y_putL, ↓y_putT, ↓y_iald, ↓y_bald, ↓y_lald, ↓y_aald, ↓y_iast, ↓y_bast, ↓y_last, ↓y_alen, ↓y_iret, ↓y_zret, ↓y_lret, ↓y_vret, ↓y_svI, ↓y_svL, ↓y_svV, ↓y_ivI, ↓y_ivL, ↓y_ivV, ↓y_max, ↓y_min, ↓y_absL, ↓y_cpI, ↓y_cpL, ↓x_n1I, ↓x_n1L, ↓x_n1R, ↓x_n0I, ↓x_n0L, ↓x_n0R, ↓x_s0, ↓x_s1i, ↓x_s1r, ↓x_s1n, ↓x_s2, ↓x_c0, ↓x_c2, ↓x_tk0, ↓x_tk1, ↓x_rcv, x_rI1, x_rL1, x_rV1, x_rIn, x_rLn, x_rVn, x_rIf, x_rLf, x_rVf, x_40, x_41, x_42, x_43, x_44, ↓reduceIte, if_true, if_false, ao_iadd, ao_isub, ao_imul, ao_iand, ao_ior, ao_ishl, ao_ishr, ao_iushr, ao_ladd, ao_lsub, ao_lmul, ao_land, ao_lor, ao_idiv, ao_irem, ao_ldiv, ao_lrem, ao_ineg, ao_i2b, ao_i2s, Nat.reduceAdd, Nat.reduceMul, Nat.reduceSub, Nat.reduceEqDiff, Nat.reduceLeDiff, and_self, true_and, x_lit, x_ofn, x_z0, x_z1, x_inbT, x_ltT, x_ltF, x_leT, x_leF, x_eqF, x_eqT, x_inb, x_lt, x_le, x_eq, x_cl, x_sub, nI_add, pk_mul, x_m1e, x_m1e', x_m1l, x_m1n, x_m1s, Nat.not_lt_zero, x_zb, x_b0, x_b1, decide_eq_false_iff_not, decide_eq_true_eq, Bool.false_eq_true, Bool.true_eq_false, k0, hcode, hq10, hr10, s1, X_gain hset hc24 hto, gD_max, Nat.add_sub_cancel, r1, u1, h52', hle, kd_50, kd_51, kd_52, ln_51, ln_52]
        · refine ⟨((v, some (10 * f + to)), some (.int (nI (10 * f + to))), some (.int (nI c)), some (.int v)), am_uI τ3 52 (k + 1) (nI (10 * f + to)), ⟨?_, ?_, ?_, by rw [uI_s, up_s]; rfl, fun m e => ?_, frR_tr i6 (frR_tr (frR_mono hF3 (by omega)) ?_)⟩, rch_1 fun B => ?_⟩
          · exact TP_fr u2 (fun j q1 q2 => uI_n (by have := hne2 (j - t) (by omega); omega))
          · rw [uI_n (by omega)]; exact h51
          · rw [hstep]; unfold pickY; rw [if_neg hup]
          · cases e; omega
          · exact ⟨rfl, fun j p q r s u => uI_n u, fun i hi => by rw [uI_n (by omega)], fun i hi => by rw [uI_s, up_n (by omega)]⟩
          · cases bo with
            | none =>
              have h52' : τ3.1 52 (k + 1) = -nI 1 := h52
              rw [ev]
              simp (disch := omega) only [↓e_X2_reach_39, ↓e_X2_reach_143, ↓e_X2_reach_155, ↓h_X2_reach_39, ↓it_s, ↓y_iload, ↓y_lload, ↓y_aload, ↓y_istore, ↓y_lstore, ↓y_astore, ↓y_iinc, ↓y_cI, ↓y_cL, ↓y_bin, ↓y_binL, ↓y_div, ↓y_divL, ↓y_lshl, ↓y_un, ↓y_i2l, ↓y_lneg, ↓y_l2i, ↓y_lcmp, ↓y_dupI, ↓y_dupR, ↓y_dup2, ↓y_pop, ↓y_goto, ↓y_eq0, ↓y_lt0, ↓y_le0, ↓y_eq, ↓y_lt, ↓y_le, ↓y_switch, ↓y_sw0, ↓y_sw1, ↓y_getI, ↓y_getL, ↓y_getR, ↓y_getT, ↓y_putI, ↓y_putZ, ↓y_putL, ↓y_putT, ↓y_iald, ↓y_bald, ↓y_lald, ↓y_aald, ↓y_iast, ↓y_bast, ↓y_last, ↓y_alen, ↓y_iret, ↓y_zret, ↓y_lret, ↓y_vret, ↓y_svI, ↓y_svL, ↓y_svV, ↓y_ivI, ↓y_ivL, ↓y_ivV, ↓y_max, ↓y_min, ↓y_absL, ↓y_cpI, ↓y_cpL, ↓x_n1I, ↓x_n1L, ↓x_n1R, ↓x_n0I, ↓x_n0L, ↓x_n0R, ↓x_s0, ↓x_s1i, ↓x_s1r, ↓x_s1n, ↓x_s2, ↓x_c0, ↓x_c2, ↓x_tk0, ↓x_tk1, ↓x_rcv, x_rI1, x_rL1, x_rV1, x_rIn, x_rLn, x_rVn, x_rIf, x_rLf, x_rVf, x_40, x_41, x_42, x_43, x_44, ↓reduceIte, if_true, if_false, ao_iadd, ao_isub, ao_imul, ao_iand, ao_ior, ao_ishl, ao_ishr, ao_iushr, ao_ladd, ao_lsub, ao_lmul, ao_land, ao_lor, ao_idiv, ao_irem, ao_ldiv, ao_lrem, ao_ineg, ao_i2b, ao_i2s, Nat.reduceAdd, Nat.reduceMul, Nat.reduceSub, Nat.reduceEqDiff, Nat.reduceLeDiff, and_self, true_and, x_lit, x_ofn, x_z0, x_z1, x_inbT, x_ltT, x_ltF, x_leT, x_leF, x_eqF, x_eqT, x_inb, x_lt, x_le, x_eq, x_cl, x_sub, nI_add, pk_mul, x_m1e, x_m1e', x_m1l, x_m1n, x_m1s, Nat.not_lt_zero, x_zb, x_b0, x_b1, decide_eq_false_iff_not, decide_eq_true_eq, Bool.false_eq_true, Bool.true_eq_false, k0, hcode, hq10, hr10, s1, X_gain hset hc24 hto, gD_max, Nat.add_sub_cancel, r1, u1, h52', kd_50, kd_51, kd_52, ln_51, ln_52]
            | some m0 =>
              have hm0 := i5 m0 rfl
              have h52' : τ3.1 52 (k + 1) = nI m0 := h52
              have hle : ¬ v ≤ bv := fun e => hup ⟨rfl, e⟩
              rw [ev] at hle ⊢
              simp (disch := omega) only [↓e_X2_reach_39, ↓e_X2_reach_143, ↓e_X2_reach_155, ↓h_X2_reach_39, ↓it_s, ↓y_iload, ↓y_lload, ↓y_aload, ↓y_istore, ↓y_lstore, ↓y_astore, ↓y_iinc, ↓y_cI, ↓y_cL, ↓y_bin, ↓y_binL, ↓y_div, ↓y_divL, ↓y_lshl, ↓y_un, ↓y_i2l, ↓y_lneg, ↓y_l2i, ↓y_lcmp, ↓y_dupI, ↓y_dupR, ↓y_dup2, ↓y_pop, ↓y_goto, ↓y_eq0, ↓y_lt0, ↓y_le0, ↓y_eq, ↓y_lt, ↓y_le, ↓y_switch, ↓y_sw0, ↓y_sw1, ↓y_getI, ↓y_getL, ↓y_getR, ↓y_getT, ↓y_putI, ↓y_putZ, ↓y_putL, ↓y_putT, ↓y_iald, ↓y_bald, ↓y_lald, ↓y_aald, ↓y_iast, ↓y_bast, ↓y_last, ↓y_alen, ↓y_iret, ↓y_zret, ↓y_lret, ↓y_vret, ↓y_svI, ↓y_svL, ↓y_svV, ↓y_ivI, ↓y_ivL, ↓y_ivV, ↓y_max, ↓y_min, ↓y_absL, ↓y_cpI, ↓y_cpL, ↓x_n1I, ↓x_n1L, ↓x_n1R, ↓x_n0I, ↓x_n0L, ↓x_n0R, ↓x_s0, ↓x_s1i, ↓x_s1r, ↓x_s1n, ↓x_s2, ↓x_c0, ↓x_c2, ↓x_tk0, ↓x_tk1, ↓x_rcv, x_rI1, x_rL1, x_rV1, x_rIn, x_rLn, x_rVn, x_rIf, x_rLf, x_rVf, x_40, x_41, x_42, x_43, x_44, ↓reduceIte, if_true, if_false, ao_iadd, ao_isub, ao_imul, ao_iand, ao_ior, ao_ishl, ao_ishr, ao_iushr, ao_ladd, ao_lsub, ao_lmul, ao_land, ao_lor, ao_idiv, ao_irem, ao_ldiv, ao_lrem, ao_ineg, ao_i2b, ao_i2s, Nat.reduceAdd, Nat.reduceMul, Nat.reduceSub, Nat.reduceEqDiff, Nat.reduceLeDiff, and_self, true_and, x_lit, x_ofn, x_z0, x_z1, x_inbT, x_ltT, x_ltF, x_leT, x_leF, x_eqF, x_eqT, x_inb, x_lt, x_le, x_eq, x_cl, x_sub, nI_add, pk_mul, x_m1e, x_m1e', x_m1l, x_m1n, x_m1s, Nat.not_lt_zero, x_zb, x_b0, x_b1, decide_eq_false_iff_not, decide_eq_true_eq, Bool.false_eq_true, Bool.true_eq_false, k0, hcode, hq10, hr10, s1, X_gain hset hc24 hto, gD_max, Nat.add_sub_cancel, r1, u1, h52', hle, kd_50, kd_51, kd_52, ln_51, ln_52])
      (mvL V).length 0 ((nI 0, none), none, none, none) σ2 (by omega) ⟨hP2, hL2, rfl, by rw [e2, uI_s, up_s]; rfl, fun m e => (by cases e), hF2⟩
    dsimp only at b3 b4 b5 hr
    rw [List.take_length] at b3
    have eV : mostV set (k + 1) V = b := by rw [b3]; rfl
    refine ⟨σ3, ?_, b1, b6, fun _ => by rw [b4, eV]⟩
    have hf := rch_fin hr (fin_0 (r := some (some (.int b.1), σ3)) fun B => by
      simp (disch := omega) only [↓e_X2_reach_39, ↓e_X2_reach_161, ↓h_X2_reach_39, ↓it_s, ↓y_iload, ↓y_lload, ↓y_aload, ↓y_istore, ↓y_lstore, ↓y_astore, ↓y_iinc, ↓y_cI, ↓y_cL, ↓y_bin, ↓y_binL, ↓y_div, ↓y_divL, ↓y_lshl, ↓y_un, ↓y_i2l, ↓y_lneg, ↓y_l2i, ↓y_lcmp, ↓y_dupI, ↓y_dupR, ↓y_dup2, ↓y_pop, ↓y_goto, ↓y_eq0, ↓y_lt0, ↓y_le0, ↓y_eq, ↓y_lt, ↓y_le, ↓y_switch, ↓y_sw0, ↓y_sw1, ↓y_getI, ↓y_getL, ↓y_getR, ↓y_getT, ↓y_putI, ↓y_putZ, ↓y_putL, ↓y_putT, ↓y_iald, ↓y_bald, ↓y_lald, ↓y_aald, ↓y_iast, ↓y_bast, ↓y_last, ↓y_alen, ↓y_iret, ↓y_zret, ↓y_lret, ↓y_vret, ↓y_svI, ↓y_svL, ↓y_svV, ↓y_ivI, ↓y_ivL, ↓y_ivV, ↓y_max, ↓y_min, ↓y_absL, ↓y_cpI, ↓y_cpL, ↓x_n1I, ↓x_n1L, ↓x_n1R, ↓x_n0I, ↓x_n0L, ↓x_n0R, ↓x_s0, ↓x_s1i, ↓x_s1r, ↓x_s1n, ↓x_s2, ↓x_c0, ↓x_c2, ↓x_tk0, ↓x_tk1, ↓x_rcv, x_rI1, x_rL1, x_rV1, x_rIn, x_rLn, x_rVn, x_rIf, x_rLf, x_rVf, x_40, x_41, x_42, x_43, x_44, ↓reduceIte, if_true, if_false, ao_iadd, ao_isub, ao_imul, ao_iand, ao_ior, ao_ishl, ao_ishr, ao_iushr, ao_ladd, ao_lsub, ao_lmul, ao_land, ao_lor, ao_idiv, ao_irem, ao_ldiv, ao_lrem, ao_ineg, ao_i2b, ao_i2s, Nat.reduceAdd, Nat.reduceMul, Nat.reduceSub, Nat.reduceEqDiff, Nat.reduceLeDiff, and_self, true_and, x_lit, x_ofn, x_z0, x_z1, x_inbT, x_ltT, x_ltF, x_leT, x_leF, x_eqF, x_eqT, x_inb, x_lt, x_le, x_eq, x_cl, x_sub, nI_add, pk_mul, x_m1e, x_m1e', x_m1l, x_m1n, x_m1s, Nat.not_lt_zero, x_zb, x_b0, x_b1, decide_eq_false_iff_not, decide_eq_true_eq, Bool.false_eq_true, Bool.true_eq_false])
    show F_X2_reach (S_X2_reach n) _ _ = _
    rw [← eE, eV, ← fin_run hf (by unfold am_fuel; omega), e2]
    simp (disch := omega) only [g_X2_reach, ↓e_X2_reach_0, ↓e_X2_reach_12, ↓h_X2_reach_39, ↓it_s, ↓y_iload, ↓y_lload, ↓y_aload, ↓y_istore, ↓y_lstore, ↓y_astore, ↓y_iinc, ↓y_cI, ↓y_cL, ↓y_bin, ↓y_binL, ↓y_div, ↓y_divL, ↓y_lshl, ↓y_un, ↓y_i2l, ↓y_lneg, ↓y_l2i, ↓y_lcmp, ↓y_dupI, ↓y_dupR, ↓y_dup2, ↓y_pop, ↓y_goto, ↓y_eq0, ↓y_lt0, ↓y_le0, ↓y_eq, ↓y_lt, ↓y_le, ↓y_switch, ↓y_sw0, ↓y_sw1, ↓y_getI, ↓y_getL, ↓y_getR, ↓y_getT, ↓y_putI, ↓y_putZ, ↓y_putL, ↓y_putT, ↓y_iald, ↓y_bald, ↓y_lald, ↓y_aald, ↓y_iast, ↓y_bast, ↓y_last, ↓y_alen, ↓y_iret, ↓y_zret, ↓y_lret, ↓y_vret, ↓y_svI, ↓y_svL, ↓y_svV, ↓y_ivI, ↓y_ivL, ↓y_ivV, ↓y_max, ↓y_min, ↓y_absL, ↓y_cpI, ↓y_cpL, ↓x_n1I, ↓x_n1L, ↓x_n1R, ↓x_n0I, ↓x_n0L, ↓x_n0R, ↓x_s0, ↓x_s1i, ↓x_s1r, ↓x_s1n, ↓x_s2, ↓x_c0, ↓x_c2, ↓x_tk0, ↓x_tk1, ↓x_rcv, x_rI1, x_rL1, x_rV1, x_rIn, x_rLn, x_rVn, x_rIf, x_rLf, x_rVf, x_40, x_41, x_42, x_43, x_44, ↓reduceIte, if_true, if_false, ao_iadd, ao_isub, ao_imul, ao_iand, ao_ior, ao_ishl, ao_ishr, ao_iushr, ao_ladd, ao_lsub, ao_lmul, ao_land, ao_lor, ao_idiv, ao_irem, ao_ldiv, ao_lrem, ao_ineg, ao_i2b, ao_i2s, Nat.reduceAdd, Nat.reduceMul, Nat.reduceSub, Nat.reduceEqDiff, Nat.reduceLeDiff, and_self, true_and, x_lit, x_ofn, x_z0, x_z1, x_inbT, x_ltT, x_ltF, x_leT, x_leF, x_eqF, x_eqT, x_inb, x_lt, x_le, x_eq, x_cl, x_sub, nI_add, pk_mul, x_m1e, x_m1e', x_m1l, x_m1n, x_m1s, Nat.not_lt_zero, x_zb, x_b0, x_b1, decide_eq_false_iff_not, decide_eq_true_eq, Bool.false_eq_true, Bool.true_eq_false, k0, a1, kd_50, kd_51, kd_52, ln_51, ln_52]
