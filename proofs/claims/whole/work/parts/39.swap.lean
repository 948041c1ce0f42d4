/-! two cards change places -/
def setC (V : Vt) (p k x : Nat) : Vt := vuP V p ((vP V p).set k x)
def swV (V : Vt) (r k r' j : Nat) : Vt := setC (setC V r k ((vP V r').getD j 0)) r' j ((vP V r).getD k 0)
theorem vuP_n {V : Vt} {p q : Nat} {l : List Nat} (h : q ≠ p) : vP (vuP V p l) q = vP V q := up_n h
theorem setC_len (V : Vt) (p k x q : Nat) : (vP (setC V p k x) q).length = (vP V q).length := by
  unfold setC
  by_cases e : q = p
  · subst e; rw [vuP_s, List.length_set]
  · rw [vuP_n e]
theorem setC_get {V : Vt} {p k x : Nat} (hk : k < (vP V p).length) (q i : Nat) : (vP (setC V p k x) q)[i]? = if q = p ∧ i = k then some x else (vP V q)[i]? := by
  unfold setC
  by_cases e : q = p
  · subst e
    rw [vuP_s, List.getElem?_set]
    by_cases e2 : i = k
    · subst e2
      rw [if_pos rfl, if_pos hk, if_pos ⟨rfl, rfl⟩]
    · rw [if_neg (fun z => e2 z.symm), if_neg (fun z => e2 z.2)]
  · rw [vuP_n e, if_neg (fun z => e z.1)]
theorem swV_len (V : Vt) (r k r' j q : Nat) : (vP (swV V r k r' j) q).length = (vP V q).length := by unfold swV; rw [setC_len, setC_len]
theorem swV_get {V : Vt} {r k r' j : Nat} (hk : k < (vP V r).length) (hj : j < (vP V r').length) (q i : Nat) : (vP (swV V r k r' j) q)[i]? = if q = r' ∧ i = j then some ((vP V r).getD k 0) else if q = r ∧ i = k then some ((vP V r').getD j 0) else (vP V q)[i]? := by
  unfold swV
  rw [setC_get (by rw [setC_len]; exact hj), setC_get hk]
theorem getD_at {l : List Nat} {k : Nat} (h : k < l.length) : l[k]? = some (l.getD k 0) := by simp [h]
theorem setC_cnt {V : Vt} {p k x : Nat} (hp : p < 8) (hk : k < (vP V p).length) (a : Nat) : cnt (setC V p k x) a + (if (vP V p).getD k 0 = a then 1 else 0) = cnt V a + (if x = a then 1 else 0) := by
  have h1 := cnt_up (V := V) (p := p) (l := (vP V p).set k x) hp a
  have h2 := List.count_set (a := x) (b := a) hk
  have e1 : (vP V p).getD k 0 = (vP V p)[k] := by simp [hk]
  have h3 : (vP V p)[k] = a → 0 < (vP V p).count a := fun e => List.count_pos_iff.mpr (e ▸ List.getElem_mem hk)
  unfold setC
  rw [e1]
  simp only [beq_iff_eq] at h2
  by_cases ha : (vP V p)[k] = a
  · have := h3 ha
    rw [if_pos ha] at h2 ⊢
    omega
  · rw [if_neg ha] at h2 ⊢
    omega
theorem WC_sw {V : Vt} {r k r' j : Nat} (wc : WC V) (hr : r < 6) (hr' : r' < 6) (hk : k < (vP V r).length) (hj : j < (vP V r').length) : WC (swV V r k r' j) := by
  refine ⟨fun p hp c hc => ?_, ?_, fun p hp => ?_, fun p hp hR => ?_, fun s => wc.2.2.2.2 s⟩
  · obtain ⟨i, hi⟩ := List.mem_iff_getElem?.mp hc
    rw [swV_get hk hj] at hi
    split at hi
    · cases hi
      exact wc.1 r (by omega) _ (List.mem_of_getElem? (getD_at hk))
    · split at hi
      · cases hi
        exact wc.1 r' (by omega) _ (List.mem_of_getElem? (getD_at hj))
      · exact wc.1 p hp c (List.mem_of_getElem? hi)
  · rw [List.nodup_iff_count]
    intro a
    rw [allC_count]
    have h0 := wc.cnt a
    have h1 := setC_cnt (V := V) (x := (vP V r').getD j 0) (show r < 8 by omega) hk a
    have h2 := setC_cnt (V := setC V r k ((vP V r').getD j 0)) (p := r') (k := j) (x := (vP V r).getD k 0) (by omega) (by rw [setC_len]; exact hj) a
    have h3 : (vP (setC V r k ((vP V r').getD j 0)) r').getD j 0 = (vP V r').getD j 0 := by
      have := getD_at (l := vP (setC V r k ((vP V r').getD j 0)) r') (k := j) (by rw [setC_len]; exact hj)
      rw [setC_get hk] at this
      split at this
      · exact (Option.some.inj this).symm
      · rw [getD_at hj] at this
        exact (Option.some.inj this).symm
    rw [h3] at h2
    unfold swV
    omega
  · rw [swV_len]; exact wc.2.2.1 p hp
  · have := wc.2.2.2.1 p hp hR
    have h := swV_len V r k r' j p
    rw [this] at h
    exact List.length_eq_zero_iff.mp h
theorem WG_sw {V : Vt} {r k r' j : Nat} (hw : WG V) (hr : r < 6) (hr' : r' < 6) (hk : k < (vP V r).length) (hj : j < (vP V r').length) : WG (swV V r k r' j) := ⟨hw.1, WC_sw hw.2.1 hr hr' hk hj, hw.2.2⟩
def swA (f : Nat → Int32) (i j : Nat) : Nat → Int32 := va_up (va_up f i (f j)) j (f i)
theorem swA_at (f : Nat → Int32) (i j x : Nat) : swA f i j x = if x = j then f i else if x = i then f j else f x := by
  unfold swA
  by_cases e : x = j
  · subst e; rw [up_s, if_pos rfl]
  · rw [up_n e, if_neg e]
    by_cases e2 : x = i
    · subst e2; rw [up_s, if_pos rfl]
    · rw [up_n e2, if_neg e2]
theorem swA_inv (f : Nat → Int32) (i j : Nat) : swA (swA f i j) i j = f := by
  funext x
  rw [swA_at]
  by_cases e : x = j
  · subst e
    rw [if_pos rfl, swA_at]
    by_cases e2 : i = x
    · subst e2; rw [if_pos rfl]
    · rw [if_neg e2, if_pos rfl]
  · rw [if_neg e]
    by_cases e2 : x = i
    · subst e2; rw [if_pos rfl, swA_at, if_pos rfl]
    · rw [if_neg e2, swA_at, if_neg e, if_neg e2]
theorem swA_out {f : Nat → Int32} {i j x : Nat} (h1 : x ≠ i) (h2 : x ≠ j) : swA f i j x = f x := by rw [swA_at, if_neg h2, if_neg h1]
theorem swV_7 {V : Vt} {r k r' j q : Nat} (h1 : q ≠ r) (h2 : q ≠ r') : vP (swV V r k r' j) q = vP V q := by
  unfold swV setC
  rw [vuP_n h2, vuP_n h1]
/-- a stretch of rows of a width, two of whose cards have changed places -/
theorem seg_sw {f : Nat → Int32} {V : Vt} {r k r' j w o : Nat} (hk : k < (vP V r).length) (hj : j < (vP V r').length) (hw : ∀ p, (vP V p).length ≤ w ∨ (p ≠ r ∧ p ≠ r' ∧ w ≤ w)) (hlr : (vP V r).length ≤ w) (hlr' : (vP V r').length ≤ w) (hR : seg f (o + w * r) (vP V r)) (hR' : seg f (o + w * r') (vP V r')) {p : Nat} (hl : (vP V p).length ≤ w) (h : seg f (o + w * p) (vP V p)) : seg (swA f (o + w * r + k) (o + w * r' + j)) (o + w * p) (vP (swV V r k r' j) p) := by
  intro i c hi
  rw [swV_get hk hj] at hi
  have key : ∀ a b x y : Nat, x < w → y < w → o + w * a + x = o + w * b + y → a = b ∧ x = y := by
    intro a b x y hx hy e
    have e' : w * a + x = w * b + y := by omega
    have h1 : (w * a + x) / w = a := by rw [Nat.mul_add_div (by omega), Nat.div_eq_of_lt hx]; rfl
    have h2 : (w * b + y) / w = b := by rw [Nat.mul_add_div (by omega), Nat.div_eq_of_lt hy]; rfl
    have h3 : a = b := by rw [← h1, ← h2, e']
    subst h3
    exact ⟨rfl, by omega⟩
  rw [swA_at]
  split at hi
  · rename_i e
    obtain ⟨e1, e2⟩ := e
    subst e1; subst e2
    rw [if_pos rfl]
    cases hi
    exact hR k _ (getD_at hk)
  · rename_i e
    split at hi
    · rename_i e3
      obtain ⟨e1, e2⟩ := e3
      subst e1; subst e2
      rw [if_neg (fun z => e (key _ _ _ _ (by omega) (by omega) z)), if_pos rfl]
      cases hi
      exact hR' j _ (getD_at hj)
    · rename_i e3
      have hi2 := (List.getElem?_eq_some_iff.mp hi).1
      rw [if_neg (fun z => e (key _ _ _ _ (by omega) (by omega) z)), if_neg (fun z => e3 (key _ _ _ _ (by omega) (by omega) z))]
      exact h i c hi
theorem TP_swap {t r k r' j : Nat} {σ : am_M} {V : Vt} (h : TP σ t V) (wc : WC V) (hr : r < 6) (hr' : r' < 6) (hk : k < (vP V r).length) (hj : j < (vP V r').length) : TP (am_uA σ (t + 1) (swA (σ.1 (t + 1)) (r * 24 + k) (r' * 24 + j))) t (swV V r k r' j) := by
  obtain ⟨h1, h2, ⟨sf, h3, h4, h5, h6⟩, h7⟩ := h
  have e7 : vP (swV V r k r' j) 7 = vP V 7 := swV_7 (by omega) (by omega)
  have l1 := wc.len (p := r) (by omega)
  have l2 := wc.len (p := r') (by omega)
  refine ⟨fun p hp => ?_, fun p hp => ?_, ⟨sf, ?_, ?_, ?_, ?_⟩, fun s hs => ?_⟩
  · rw [uA_n (by omega), swV_len]; exact h1 p hp
  · rw [uA_s]
    have q1 := h2 r (by omega)
    have q2 := h2 r' (by omega)
    have q3 := h2 p hp
    have := seg_sw (f := σ.1 (t + 1)) (V := V) (w := 24) (o := 0) hk hj (fun q => by
      by_cases e : (vP V q).length ≤ 24
      · exact Or.inl e
      · exact Or.inr ⟨fun z => e (z ▸ l1), fun z => e (z ▸ l2), Nat.le_refl _⟩) l1 l2 (by rw [Nat.zero_add, Nat.mul_comm]; exact q1) (by rw [Nat.zero_add, Nat.mul_comm]; exact q2) (p := p) (wc.len (by omega)) (by rw [Nat.zero_add, Nat.mul_comm]; exact q3)
    rw [Nat.zero_add, Nat.zero_add, Nat.zero_add, Nat.mul_comm 24 r, Nat.mul_comm 24 r', Nat.mul_comm 24 p] at this
    exact this
  · rw [uA_n (by omega)]; exact h3
  · rw [uA_n (by omega), e7]; exact h4
  · rw [e7]; exact h5
  · rw [uA_n (by omega), e7]; exact h6
  · rw [uA_n (by omega)]; exact h7 s hs
theorem MC_swap {r k r' j : Nat} {f : Nat → Int32} {V : Vt} (h : MC f 0 V) (wc : WC V) (hr : r < 6) (hr' : r' < 6) (hk : k < (vP V r).length) (hj : j < (vP V r').length) : MC (swA f (20 + 12 * r + k) (20 + 12 * r' + j)) 0 (swV V r k r' j) := by
  obtain ⟨m1, m2, m3, m4, m5, m6⟩ := MC_0 h
  have l1 := wc.2.2.1 r hr
  have l2 := wc.2.2.1 r' hr'
  have e7 : vP (swV V r k r' j) 7 = vP V 7 := swV_7 (by omega) (by omega)
  have e6 : vP (swV V r k r' j) 6 = vP V 6 := swV_7 (by omega) (by omega)
  have n7 := wc.len (p := 7) (by omega)
  have n6 := wc.len (p := 6) (by omega)
  have so : ∀ (b : Nat) (l : List Nat), 92 ≤ b → seg f b l → seg (swA f (20 + 12 * r + k) (20 + 12 * r' + j)) b l := fun b l hb hs => seg_cg hs (fun q hq => swA_out (by omega) (by omega))
  unfold MC
  simp only [Nat.add_zero]
  refine ⟨fun q hq => ?_, ⟨?_, ?_⟩, ⟨?_, ?_⟩, fun s hs => ?_, fun p hp => ⟨?_, ?_⟩, fun w i hw hi => ?_⟩
  · rw [swA_out (by omega) (by omega)]; exact m1 q hq
  · rw [swA_out (by omega) (by omega), e7]; exact m2.1
  · rw [e7]; exact so 92 _ (by omega) m2.2
  · rw [swA_out (by omega) (by omega), e6]; exact m3.1
  · rw [e6]; exact so 116 _ (by omega) m3.2
  · rw [swA_out (by omega) (by omega)]; exact m4 s hs
  · rw [swA_out (by omega) (by omega), swV_len]; exact (m5 p hp).1
  · exact seg_sw (f := f) (V := V) (w := 12) (o := 20) hk hj (fun q => by
      by_cases e : (vP V q).length ≤ 12
      · exact Or.inl e
      · exact Or.inr ⟨fun z => e (z ▸ l1), fun z => e (z ▸ l2), Nat.le_refl _⟩) l1 l2 (m5 r hr).2 (m5 r' hr').2 (wc.2.2.1 p hp) (m5 p hp).2
  · rw [swA_out (by omega) (by omega)]; exact m6 w i hw hi
theorem X_swap {t r k r' j : Nat} {σ : am_M} {V : Vt} (ht : isT t) (hP : TP σ t V) (wc : WC V) (hr : r < 6) (hr' : r' < 6) (hk : k < (vP V r).length) (hj : j < (vP V r').length) : S_X6_swap [.ref t, .int (nI r), .int (nI k), .int (nI r'), .int (nI j)] σ = some (none, am_uA σ (t + 1) (swA (σ.1 (t + 1)) (r * 24 + k) (r' * 24 + j))) := by
  obtain ⟨k0, k1, k2, k3, k4, k5, k6, l1, l2, l3, l4, l5, l6⟩ := isT_k ht
  have n1 := wc.len (p := r) (by omega)
  have n2 := wc.len (p := r') (by omega)
  have a1 := X_cardAt (p := r) (k := k) ht hP wc (by omega) (by omega)
  have a2 := X_cardAt (p := r') (k := j) ht hP wc (by omega) (by omega)
  rw [cardI_some (getD_at hk)] at a1
  rw [cardI_some (getD_at hj)] at a2
  obtain ⟨c, ec⟩ : ∃ c, c = (vP V r).getD k 0 := ⟨_, rfl⟩
  obtain ⟨d, ed⟩ : ∃ d, d = (vP V r').getD j 0 := ⟨_, rfl⟩
  have hc : c < 24 := by rw [ec]; exact wc.1 r (by omega) _ (List.mem_of_getElem? (getD_at hk))
  have hd : d < 24 := by rw [ed]; exact wc.1 r' (by omega) _ (List.mem_of_getElem? (getD_at hj))
  have f1 : σ.1 (t + 1) (r * 24 + k) = nI c := by rw [ec]; exact hP.2.1 r (by omega) k _ (getD_at hk)
  have f2 : σ.1 (t + 1) (r' * 24 + j) = nI d := by rw [ed]; exact hP.2.1 r' (by omega) j _ (getD_at hj)
  rw [← ec] at a1
  rw [← ed] at a2
  unfold swA
  rw [f1, f2]
  simp (disch := omega) only [g_X6_swap, ↓e_X6_swap_30, ↓e_X6_swap_29, ↓e_X6_swap_0, ↓it_s, ↓y_iload, ↓y_lload, ↓y_aload, ↓y_istore, ↓y_lstore, ↓y_astore, ↓y_iinc, ↓y_cI, ↓y_cL, ↓y_bin, ↓y_binL, ↓y_div, ↓y_divL, ↓y_lshl, ↓y_un, ↓y_i2l, ↓y_lneg, ↓y_l2i, ↓y_lcmp, ↓y_dupI, ↓y_dupR, ↓y_dup2, ↓y_pop, ↓y_goto, ↓y_eq0, ↓y_lt0, ↓y_le0, ↓y_eq, ↓y_lt, ↓y_le, ↓y_switch, ↓y_sw0, ↓y_sw1, ↓y_getI, ↓y_getL, ↓y_getR, ↓y_getT, ↓y_putI, ↓y_putZ, ↓y_putL, ↓y_putT, ↓y_iald, ↓y_bald, ↓y_lald, ↓y_aald, ↓y_iast, ↓y_bast, ↓y_last, ↓y_alen, ↓y_iret, ↓y_zret, ↓y_lret, ↓y_vret, ↓y_svI, ↓y_svL, ↓y_svV, ↓y_ivI, ↓y_ivL, ↓y_ivV, ↓y_max, ↓y_min, ↓y_absL, ↓y_cpI, ↓y_cpL, ↓x_n1I, ↓x_n1L, ↓x_n1R, ↓x_n0I, ↓x_n0L, ↓x_n0R, ↓x_s0, ↓x_s1i, ↓x_s1r, ↓x_s1n, ↓x_s2, ↓x_c0, ↓x_c2, ↓x_tk0, ↓x_tk1, ↓x_rcv, x_rI1, x_rL1, x_rV1, x_rIn, x_rLn, x_rVn, x_rIf, x_rLf, x_rVf, x_40, x_41, x_42, x_43, x_44, ↓reduceIte, if_true, if_false, ao_iadd, ao_isub, ao_imul, ao_iand, ao_ior, ao_ishl, ao_ishr, ao_iushr, ao_ladd, ao_lsub, ao_lmul, ao_land, ao_lor, ao_idiv, ao_irem, ao_ldiv, ao_lrem, ao_ineg, ao_i2b, ao_i2s, Nat.reduceAdd, Nat.reduceMul, Nat.reduceSub, Nat.reduceEqDiff, Nat.reduceLeDiff, and_self, true_and, x_lit, x_ofn, x_z0, x_z1, x_inbT, x_ltT, x_ltF, x_leT, x_leF, x_eqF, x_eqT, x_inb, x_lt, x_le, x_eq, x_cl, x_sub, nI_add, pk_mul, x_m1e, x_m1e', x_m1l, x_m1n, x_m1s, Nat.not_lt_zero, x_zb, x_b0, x_b1, decide_eq_false_iff_not, decide_eq_true_eq, Bool.false_eq_true, Bool.true_eq_false, k0, k1, l1, a1, a2]
  simp only [uI_uA, uA_uA, uA_s]
theorem M_exchanges {r k r' j : Nat} {σ : am_M} (hr : r < 6) (hr' : r' < 6) (hk : k < 12) (hj : j < 12) : S_X11_exchanges [.ref 123, .int (nI (100 * r + k)), .int (nI (100 * r' + j))] σ = some (none, am_uA σ 128 (swA (σ.1 128) (20 + 12 * r + k) (20 + 12 * r' + j))) := by
  have q1 : nI (100 * r + k) / nI 100 = nI r := by rw [x_div (by omega) (by omega) (by omega)]; congr 1; omega
  have q2 : nI (100 * r' + j) / nI 100 = nI r' := by rw [x_div (by omega) (by omega) (by omega)]; congr 1; omega
  have s1 : 100 * r + k - r * 100 = k := by omega
  have s2 : 100 * r' + j - r' * 100 = j := by omega
  unfold swA
  obtain ⟨x, ex⟩ : ∃ x, x = σ.1 128 (20 + 12 * r + k) := ⟨_, rfl⟩
  obtain ⟨y, ey⟩ : ∃ y, y = σ.1 128 (20 + 12 * r' + j) := ⟨_, rfl⟩
  rw [← ex, ← ey]
  have ex' := ex.symm
  have ey' := ey.symm
  simp (disch := omega) only [g_X11_exchanges, ↓e_X11_exchanges_0, ↓it_s, ↓y_iload, ↓y_lload, ↓y_aload, ↓y_istore, ↓y_lstore, ↓y_astore, ↓y_iinc, ↓y_cI, ↓y_cL, ↓y_bin, ↓y_binL, ↓y_div, ↓y_divL, ↓y_lshl, ↓y_un, ↓y_i2l, ↓y_lneg, ↓y_l2i, ↓y_lcmp, ↓y_dupI, ↓y_dupR, ↓y_dup2, ↓y_pop, ↓y_goto, ↓y_eq0, ↓y_lt0, ↓y_le0, ↓y_eq, ↓y_lt, ↓y_le, ↓y_switch, ↓y_sw0, ↓y_sw1, ↓y_getI, ↓y_getL, ↓y_getR, ↓y_getT, ↓y_putI, ↓y_putZ, ↓y_putL, ↓y_putT, ↓y_iald, ↓y_bald, ↓y_lald, ↓y_aald, ↓y_iast, ↓y_bast, ↓y_last, ↓y_alen, ↓y_iret, ↓y_zret, ↓y_lret, ↓y_vret, ↓y_svI, ↓y_svL, ↓y_svV, ↓y_ivI, ↓y_ivL, ↓y_ivV, ↓y_max, ↓y_min, ↓y_absL, ↓y_cpI, ↓y_cpL, ↓x_n1I, ↓x_n1L, ↓x_n1R, ↓x_n0I, ↓x_n0L, ↓x_n0R, ↓x_s0, ↓x_s1i, ↓x_s1r, ↓x_s1n, ↓x_s2, ↓x_c0, ↓x_c2, ↓x_tk0, ↓x_tk1, ↓x_rcv, x_rI1, x_rL1, x_rV1, x_rIn, x_rLn, x_rVn, x_rIf, x_rLf, x_rVf, x_40, x_41, x_42, x_43, x_44, ↓reduceIte, if_true, if_false, ao_iadd, ao_isub, ao_imul, ao_iand, ao_ior, ao_ishl, ao_ishr, ao_iushr, ao_ladd, ao_lsub, ao_lmul, ao_land, ao_lor, ao_idiv, ao_irem, ao_ldiv, ao_lrem, ao_ineg, ao_i2b, ao_i2s, Nat.reduceAdd, Nat.reduceMul, Nat.reduceSub, Nat.reduceEqDiff, Nat.reduceLeDiff, and_self, true_and, x_lit, x_ofn, x_z0, x_z1, x_inbT, x_ltT, x_ltF, x_leT, x_leF, x_eqF, x_eqT, x_inb, x_lt, x_le, x_eq, x_cl, x_sub, nI_add, pk_mul, x_m1e, x_m1e', x_m1l, x_m1n, x_m1s, Nat.not_lt_zero, x_zb, x_b0, x_b1, decide_eq_false_iff_not, decide_eq_true_eq, Bool.false_eq_true, Bool.true_eq_false, q1, q2, s1, s2, kd_123, kd_128, ln_128, ex', ey']
  simp only [uI_uA, uA_uA, uA_s]
def isP (V : Vt) (b : Nat) : Bool := decide (b / 100 < vN V 4 ∧ b % 100 < (vP V (b / 100)).length)
theorem M_isPlace {b : Nat} {σ : am_M} {V : Vt} (h : MC (σ.1 128) 0 V) (wn : WN V) (wc : WC V) (hb : b < 2000) : S_X11_isPlace [.ref 123, .int (nI b)] σ = some (some (.int (nI (b2 (isP V b)))), σ) := by
  obtain ⟨m1, m2, m3, m4, m5, m6⟩ := MC_0 h
  have h4 := m1 4 (by omega)
  have hR := wn.2.2.2.2.1
  have q1 : nI b / nI 100 = nI (b / 100) := x_div (by omega) (by omega) (by omega)
  have q2 : b - b / 100 * 100 = b % 100 := by omega
  unfold isP
  by_cases e1 : b / 100 < vN V 4
  · have h14 := (m5 (b / 100) (by omega)).1
    have hl := wc.2.2.1 (b / 100) (by omega)
    by_cases e2 : b % 100 < (vP V (b / 100)).length
    · simp (disch := omega) only [g_X11_isPlace, ↓e_X11_isPlace_37, ↓e_X11_isPlace_36, ↓e_X11_isPlace_0, ↓it_s, ↓y_iload, ↓y_lload, ↓y_aload, ↓y_istore, ↓y_lstore, ↓y_astore, ↓y_iinc, ↓y_cI, ↓y_cL, ↓y_bin, ↓y_binL, ↓y_div, ↓y_divL, ↓y_lshl, ↓y_un, ↓y_i2l, ↓y_lneg, ↓y_l2i, ↓y_lcmp, ↓y_dupI, ↓y_dupR, ↓y_dup2, ↓y_pop, ↓y_goto, ↓y_eq0, ↓y_lt0, ↓y_le0, ↓y_eq, ↓y_lt, ↓y_le, ↓y_switch, ↓y_sw0, ↓y_sw1, ↓y_getI, ↓y_getL, ↓y_getR, ↓y_getT, ↓y_putI, ↓y_putZ, ↓y_putL, ↓y_putT, ↓y_iald, ↓y_bald, ↓y_lald, ↓y_aald, ↓y_iast, ↓y_bast, ↓y_last, ↓y_alen, ↓y_iret, ↓y_zret, ↓y_lret, ↓y_vret, ↓y_svI, ↓y_svL, ↓y_svV, ↓y_ivI, ↓y_ivL, ↓y_ivV, ↓y_max, ↓y_min, ↓y_absL, ↓y_cpI, ↓y_cpL, ↓x_n1I, ↓x_n1L, ↓x_n1R, ↓x_n0I, ↓x_n0L, ↓x_n0R, ↓x_s0, ↓x_s1i, ↓x_s1r, ↓x_s1n, ↓x_s2, ↓x_c0, ↓x_c2, ↓x_tk0, ↓x_tk1, ↓x_rcv, x_rI1, x_rL1, x_rV1, x_rIn, x_rLn, x_rVn, x_rIf, x_rLf, x_rVf, x_40, x_41, x_42, x_43, x_44, ↓reduceIte, if_true, if_false, ao_iadd, ao_isub, ao_imul, ao_iand, ao_ior, ao_ishl, ao_ishr, ao_iushr, ao_ladd, ao_lsub, ao_lmul, ao_land, ao_lor, ao_idiv, ao_irem, ao_ldiv, ao_lrem, ao_ineg, ao_i2b, ao_i2s, Nat.reduceAdd, Nat.reduceMul, Nat.reduceSub, Nat.reduceEqDiff, Nat.reduceLeDiff, and_self, true_and, x_lit, x_ofn, x_z0, x_z1, x_inbT, x_ltT, x_ltF, x_leT, x_leF, x_eqF, x_eqT, x_inb, x_lt, x_le, x_eq, x_cl, x_sub, nI_add, pk_mul, x_m1e, x_m1e', x_m1l, x_m1n, x_m1s, Nat.not_lt_zero, x_zb, x_b0, x_b1, decide_eq_false_iff_not, decide_eq_true_eq, Bool.false_eq_true, Bool.true_eq_false, q1, q2, kd_123, kd_128, ln_128, h4, h14, e1, e2]
      simp [b2]
    · simp (disch := omega) only [g_X11_isPlace, ↓e_X11_isPlace_37, ↓e_X11_isPlace_36, ↓e_X11_isPlace_0, ↓it_s, ↓y_iload, ↓y_lload, ↓y_aload, ↓y_istore, ↓y_lstore, ↓y_astore, ↓y_iinc, ↓y_cI, ↓y_cL, ↓y_bin, ↓y_binL, ↓y_div, ↓y_divL, ↓y_lshl, ↓y_un, ↓y_i2l, ↓y_lneg, ↓y_l2i, ↓y_lcmp, ↓y_dupI, ↓y_dupR, ↓y_dup2, ↓y_pop, ↓y_goto, ↓y_eq0, ↓y_lt0, ↓y_le0, ↓y_eq, ↓y_lt, ↓y_le, ↓y_switch, ↓y_sw0, ↓y_sw1, ↓y_getI, ↓y_getL, ↓y_getR, ↓y_getT, ↓y_putI, ↓y_putZ, ↓y_putL, ↓y_putT, ↓y_iald, ↓y_bald, ↓y_lald, ↓y_aald, ↓y_iast, ↓y_bast, ↓y_last, ↓y_alen, ↓y_iret, ↓y_zret, ↓y_lret, ↓y_vret, ↓y_svI, ↓y_svL, ↓y_svV, ↓y_ivI, ↓y_ivL, ↓y_ivV, ↓y_max, ↓y_min, ↓y_absL, ↓y_cpI, ↓y_cpL, ↓x_n1I, ↓x_n1L, ↓x_n1R, ↓x_n0I, ↓x_n0L, ↓x_n0R, ↓x_s0, ↓x_s1i, ↓x_s1r, ↓x_s1n, ↓x_s2, ↓x_c0, ↓x_c2, ↓x_tk0, ↓x_tk1, ↓x_rcv, x_rI1, x_rL1, x_rV1, x_rIn, x_rLn, x_rVn, x_rIf, x_rLf, x_rVf, x_40, x_41, x_42, x_43, x_44, ↓reduceIte, if_true, if_false, ao_iadd, ao_isub, ao_imul, ao_iand, ao_ior, ao_ishl, ao_ishr, ao_iushr, ao_ladd, ao_lsub, ao_lmul, ao_land, ao_lor, ao_idiv, ao_irem, ao_ldiv, ao_lrem, ao_ineg, ao_i2b, ao_i2s, Nat.reduceAdd, Nat.reduceMul, Nat.reduceSub, Nat.reduceEqDiff, Nat.reduceLeDiff, and_self, true_and, x_lit, x_ofn, x_z0, x_z1, x_inbT, x_ltT, x_ltF, x_leT, x_leF, x_eqF, x_eqT, x_inb, x_lt, x_le, x_eq, x_cl, x_sub, nI_add, pk_mul, x_m1e, x_m1e', x_m1l, x_m1n, x_m1s, Nat.not_lt_zero, x_zb, x_b0, x_b1, decide_eq_false_iff_not, decide_eq_true_eq, Bool.false_eq_true, Bool.true_eq_false, q1, q2, kd_123, kd_128, ln_128, h4, h14, e1, e2]
      simp [b2]
  · simp (disch := omega) only [g_X11_isPlace, ↓e_X11_isPlace_37, ↓e_X11_isPlace_36, ↓e_X11_isPlace_0, ↓it_s, ↓y_iload, ↓y_lload, ↓y_aload, ↓y_istore, ↓y_lstore, ↓y_astore, ↓y_iinc, ↓y_cI, ↓y_cL, ↓y_bin, ↓y_binL, ↓y_div, ↓y_divL, ↓y_lshl, ↓y_un, ↓y_i2l, ↓y_lneg, ↓y_l2i, ↓y_lcmp, ↓y_dupI, ↓y_dupR, ↓y_dup2, ↓y_pop, ↓y_goto, ↓y_eq0, ↓y_lt0, ↓y_le0, ↓y_eq, ↓y_lt, ↓y_le, ↓y_switch, ↓y_sw0, ↓y_sw1, ↓y_getI, ↓y_getL, ↓y_getR, ↓y_getT, ↓y_putI, ↓y_putZ, ↓y_putL, ↓y_putT, ↓y_iald, ↓y_bald, ↓y_lald, ↓y_aald, ↓y_iast, ↓y_bast, ↓y_last, ↓y_alen, ↓y_iret, ↓y_zret, ↓y_lret, ↓y_vret, ↓y_svI, ↓y_svL, ↓y_svV, ↓y_ivI, ↓y_ivL, ↓y_ivV, ↓y_max, ↓y_min, ↓y_absL, ↓y_cpI, ↓y_cpL, ↓x_n1I, ↓x_n1L, ↓x_n1R, ↓x_n0I, ↓x_n0L, ↓x_n0R, ↓x_s0, ↓x_s1i, ↓x_s1r, ↓x_s1n, ↓x_s2, ↓x_c0, ↓x_c2, ↓x_tk0, ↓x_tk1, ↓x_rcv, x_rI1, x_rL1, x_rV1, x_rIn, x_rLn, x_rVn, x_rIf, x_rLf, x_rVf, x_40, x_41, x_42, x_43, x_44, ↓reduceIte, if_true, if_false, ao_iadd, ao_isub, ao_imul, ao_iand, ao_ior, ao_ishl, ao_ishr, ao_iushr, ao_ladd, ao_lsub, ao_lmul, ao_land, ao_lor, ao_idiv, ao_irem, ao_ldiv, ao_lrem, ao_ineg, ao_i2b, ao_i2s, Nat.reduceAdd, Nat.reduceMul, Nat.reduceSub, Nat.reduceEqDiff, Nat.reduceLeDiff, and_self, true_and, x_lit, x_ofn, x_z0, x_z1, x_inbT, x_ltT, x_ltF, x_leT, x_leF, x_eqF, x_eqT, x_inb, x_lt, x_le, x_eq, x_cl, x_sub, nI_add, pk_mul, x_m1e, x_m1e', x_m1l, x_m1n, x_m1s, Nat.not_lt_zero, x_zb, x_b0, x_b1, decide_eq_false_iff_not, decide_eq_true_eq, Bool.false_eq_true, Bool.true_eq_false, q1, q2, kd_123, kd_128, ln_128, h4, e1]
    simp [b2]
theorem rise_le {V : Vt} (wc : WC V) {ps : List Nat} (h : runL V ps = some (runT V)) (s : Nat) : rise V s ≤ 21 := sumR_le ((runL_WC ps V _ wc h).2.2.2.2 s)
theorem M_runFor {σ : am_M} {V : Vt} {s : Nat} (h : MC (σ.1 128) 0 V) (hw : WG V) (hs : s < 4) : ∃ τ, S_X11_runFor [.ref 123, .int (nI s)] σ = some (some (.int (nI (rise V s))), τ) ∧ τ.1 128 = σ.1 128 ∧ τ.2 = σ.2 ∧ (∀ j, j ≠ 128 → j ≠ 129 → j ≠ 132 → τ.1 j = σ.1 j) ∧ rise V s ≤ 21 := by
  obtain ⟨ps, σ1, σ2, σ3, a1, a2, a3, a4, a5, a6, a7, a8, a9⟩ := M_kra h hw
  refine ⟨σ3, ?_, a4, a8, a9, rise_le hw.2.1 a6 s⟩
  have h5 := a5 s hs
  simp (disch := omega) only [g_X11_runFor, ↓e_X11_runFor_0, ↓it_s, ↓y_iload, ↓y_lload, ↓y_aload, ↓y_istore, ↓y_lstore, ↓y_astore, ↓y_iinc, ↓y_cI, ↓y_cL, ↓y_bin, ↓y_binL, ↓y_div, ↓y_divL, ↓y_lshl, ↓y_un, ↓y_i2l, ↓y_lneg, ↓y_l2i, ↓y_lcmp, ↓y_dupI, ↓y_dupR, ↓y_dup2, ↓y_pop, ↓y_goto, ↓y_eq0, ↓y_lt0, ↓y_le0, ↓y_eq, ↓y_lt, ↓y_le, ↓y_switch, ↓y_sw0, ↓y_sw1, ↓y_getI, ↓y_getL, ↓y_getR, ↓y_getT, ↓y_putI, ↓y_putZ, ↓y_putL, ↓y_putT, ↓y_iald, ↓y_bald, ↓y_lald, ↓y_aald, ↓y_iast, ↓y_bast, ↓y_last, ↓y_alen, ↓y_iret, ↓y_zret, ↓y_lret, ↓y_vret, ↓y_svI, ↓y_svL, ↓y_svV, ↓y_ivI, ↓y_ivL, ↓y_ivV, ↓y_max, ↓y_min, ↓y_absL, ↓y_cpI, ↓y_cpL, ↓x_n1I, ↓x_n1L, ↓x_n1R, ↓x_n0I, ↓x_n0L, ↓x_n0R, ↓x_s0, ↓x_s1i, ↓x_s1r, ↓x_s1n, ↓x_s2, ↓x_c0, ↓x_c2, ↓x_tk0, ↓x_tk1, ↓x_rcv, x_rI1, x_rL1, x_rV1, x_rIn, x_rLn, x_rVn, x_rIf, x_rLf, x_rVf, x_40, x_41, x_42, x_43, x_44, ↓reduceIte, if_true, if_false, ao_iadd, ao_isub, ao_imul, ao_iand, ao_ior, ao_ishl, ao_ishr, ao_iushr, ao_ladd, ao_lsub, ao_lmul, ao_land, ao_lor, ao_idiv, ao_irem, ao_ldiv, ao_lrem, ao_ineg, ao_i2b, ao_i2s, Nat.reduceAdd, Nat.reduceMul, Nat.reduceSub, Nat.reduceEqDiff, Nat.reduceLeDiff, and_self, true_and, x_lit, x_ofn, x_z0, x_z1, x_inbT, x_ltT, x_ltF, x_leT, x_leF, x_eqF, x_eqT, x_inb, x_lt, x_le, x_eq, x_cl, x_sub, nI_add, pk_mul, x_m1e, x_m1e', x_m1l, x_m1n, x_m1s, Nat.not_lt_zero, x_zb, x_b0, x_b1, decide_eq_false_iff_not, decide_eq_true_eq, Bool.false_eq_true, Bool.true_eq_false, a1, a2, a3, h5, kd_123, kd_132, ln_132]
theorem X_riseRanks2 {t s a b : Nat} {σ : am_M} (ht : isT t) (hs : s < 4) (h4 : σ.1 (t + 4) s = nI a) (h6 : σ.1 (t + 6) s = nI b) (hab : a ≤ b) (hb : b ≤ 6) : S_X6_riseRanks [.ref t, .int (nI s)] σ = some (some (.int (nI (sumR a b))), σ) := by
  obtain ⟨k0, k1, k2, k3, k4, k5, k6, l1, l2, l3, l4, l5, l6⟩ := isT_k ht
  have h5 := tri_mono hab
  simp (disch := omega) only [g_X6_riseRanks, ↓e_X6_riseRanks_11, ↓e_X6_riseRanks_9, ↓e_X6_riseRanks_0, ↓it_s, ↓y_iload, ↓y_lload, ↓y_aload, ↓y_istore, ↓y_lstore, ↓y_astore, ↓y_iinc, ↓y_cI, ↓y_cL, ↓y_bin, ↓y_binL, ↓y_div, ↓y_divL, ↓y_lshl, ↓y_un, ↓y_i2l, ↓y_lneg, ↓y_l2i, ↓y_lcmp, ↓y_dupI, ↓y_dupR, ↓y_dup2, ↓y_pop, ↓y_goto, ↓y_eq0, ↓y_lt0, ↓y_le0, ↓y_eq, ↓y_lt, ↓y_le, ↓y_switch, ↓y_sw0, ↓y_sw1, ↓y_getI, ↓y_getL, ↓y_getR, ↓y_getT, ↓y_putI, ↓y_putZ, ↓y_putL, ↓y_putT, ↓y_iald, ↓y_bald, ↓y_lald, ↓y_aald, ↓y_iast, ↓y_bast, ↓y_last, ↓y_alen, ↓y_iret, ↓y_zret, ↓y_lret, ↓y_vret, ↓y_svI, ↓y_svL, ↓y_svV, ↓y_ivI, ↓y_ivL, ↓y_ivV, ↓y_max, ↓y_min, ↓y_absL, ↓y_cpI, ↓y_cpL, ↓x_n1I, ↓x_n1L, ↓x_n1R, ↓x_n0I, ↓x_n0L, ↓x_n0R, ↓x_s0, ↓x_s1i, ↓x_s1r, ↓x_s1n, ↓x_s2, ↓x_c0, ↓x_c2, ↓x_tk0, ↓x_tk1, ↓x_rcv, x_rI1, x_rL1, x_rV1, x_rIn, x_rLn, x_rVn, x_rIf, x_rLf, x_rVf, x_40, x_41, x_42, x_43, x_44, ↓reduceIte, if_true, if_false, ao_iadd, ao_isub, ao_imul, ao_iand, ao_ior, ao_ishl, ao_ishr, ao_iushr, ao_ladd, ao_lsub, ao_lmul, ao_land, ao_lor, ao_idiv, ao_irem, ao_ldiv, ao_lrem, ao_ineg, ao_i2b, ao_i2s, Nat.reduceAdd, Nat.reduceMul, Nat.reduceSub, Nat.reduceEqDiff, Nat.reduceLeDiff, and_self, true_and, x_lit, x_ofn, x_z0, x_z1, x_inbT, x_ltT, x_ltF, x_leT, x_leF, x_eqF, x_eqT, x_inb, x_lt, x_le, x_eq, x_cl, x_sub, nI_add, pk_mul, x_m1e, x_m1e', x_m1l, x_m1n, x_m1s, Nat.not_lt_zero, x_zb, x_b0, x_b1, decide_eq_false_iff_not, decide_eq_true_eq, Bool.false_eq_true, Bool.true_eq_false, k0, k4, k6, l4, l6, h4, h6, X_ranksUpTo hb, X_ranksUpTo (show a ≤ 6 by omega)]
  rfl
