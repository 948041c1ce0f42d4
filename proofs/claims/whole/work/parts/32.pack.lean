/-! packs: the cards in order, mixed, dealt -/
def stirN (d : Nat) : Nat := (d * 2971 + 10711) % 65536
theorem stirN_lt (d : Nat) : stirN d < 65536 := Nat.mod_lt _ (by omega)
def swapL (l : List Nat) (i j : Nat) : List Nat := (l.set i (l.getD j 0)).set j (l.getD i 0)
theorem swapL_len (l : List Nat) (i j : Nat) : (swapL l i j).length = l.length := by unfold swapL; simp
theorem swapL_count {l : List Nat} {i j : Nat} (hi : i < l.length) (hj : j < l.length) (a : Nat) : (swapL l i j).count a = l.count a := by
  have e1 : l.getD j 0 = l[j] := by simp [hj]
  have e2 : l.getD i 0 = l[i] := by simp [hi]
  unfold swapL
  rw [e1, e2, List.count_set (by simpa using hj), List.count_set hi, List.getElem_set]
  have h1 : l[i] = a → 0 < l.count a := fun e => List.count_pos_iff.mpr (e ▸ List.getElem_mem hi)
  have h2 : (if i = j then l[j] else l[j]) = l[j] := by split <;> rfl
  rw [h2]
  by_cases ha : l[i] = a
  · have := h1 ha
    by_cases hb : l[j] = a
    · simp [ha, hb]; omega
    · simp [ha, hb]; omega
  · by_cases hb : l[j] = a
    · simp [ha, hb]
    · simp [ha, hb]
theorem seg_swap {f : Nat → Int32} {l : List Nat} {i j : Nat} (h : seg f 0 l) (hi : i < l.length) (hj : j < l.length) : seg (va_up (va_up f i (f j)) j (f i)) 0 (swapL l i j) := by
  have e1 : l.getD j 0 = l[j] := by simp [hj]
  have e2 : l.getD i 0 = l[i] := by simp [hi]
  have hfi : f i = nI l[i] := by have := h i l[i] (List.getElem?_eq_getElem hi); rwa [Nat.zero_add] at this
  have hfj : f j = nI l[j] := by have := h j l[j] (List.getElem?_eq_getElem hj); rwa [Nat.zero_add] at this
  intro k c hk
  rw [Nat.zero_add]
  unfold swapL at hk
  rw [e1, e2, List.getElem?_set] at hk
  by_cases ej : j = k
  · subst ej
    rw [up_s]
    rw [if_pos rfl, if_pos (by simpa using hj)] at hk
    cases hk
    exact hfi
  · rw [up_n (fun e => ej e.symm)]
    rw [if_neg ej, List.getElem?_set] at hk
    by_cases ei : i = k
    · subst ei
      rw [up_s]
      rw [if_pos rfl, if_pos hi] at hk
      cases hk
      exact hfj
    · rw [up_n (fun e => ei e.symm)]
      rw [if_neg ei] at hk
      have := h k c hk
      rwa [Nat.zero_add] at this
def deck0 (n r : Nat) : List Nat := (List.range n).map fun k => 6 * (k / r) + k % r
theorem deck0_s (n r : Nat) : deck0 (n + 1) r = deck0 n r ++ [6 * (n / r) + n % r] := by
  unfold deck0
  rw [List.range_succ, List.map_append]; rfl
theorem deck0_len (n r : Nat) : (deck0 n r).length = n := by unfold deck0; simp
theorem deck0_ok : ∀ s, s < 5 → ∀ r, r < 7 → 1 ≤ r → (deck0 (s * r) r).Nodup ∧ ∀ c ∈ deck0 (s * r) r, c < 24 := by decide +kernel
/-- mixing from place k down -/
def mixD : Nat → Nat → List Nat → List Nat
  | 0, _, l => l
  | k + 1, d, l => mixD k (stirN d) (swapL l (k + 1) (stirN d / 8 % (k + 2)))
theorem mixD_len : ∀ (k d : Nat) (l : List Nat), (mixD k d l).length = l.length
  | 0, _, _ => rfl
  | k + 1, d, l => by unfold mixD; rw [mixD_len k, swapL_len]
theorem mixD_count : ∀ (k d : Nat) (l : List Nat) (a : Nat), (k = 0 ∨ k < l.length) → (mixD k d l).count a = l.count a
  | 0, _, _, _, _ => rfl
  | k + 1, d, l, a, h => by
    have : stirN d / 8 % (k + 2) < k + 2 := Nat.mod_lt _ (by omega)
    unfold mixD
    rw [mixD_count k _ _ a (by rw [swapL_len]; omega), swapL_count (by omega) (by omega)]
def packD (V : Vt) (seed : Nat) : List Nat := mixD (vN V 1 * vN V 0 - 1) seed (deck0 (vN V 1 * vN V 0) (vN V 0))
theorem packN_le {V : Vt} (wn : WN V) : vN V 1 * vN V 0 ≤ 24 := by
  have h1 := wn.2.1
  have h2 := wn.1.2
  have := Nat.mul_le_mul h1 h2
  omega
theorem packD_len (V : Vt) (seed : Nat) : (packD V seed).length = vN V 1 * vN V 0 := by unfold packD; rw [mixD_len, deck0_len]
theorem packD_ok {V : Vt} (wn : WN V) (seed : Nat) : (packD V seed).Nodup ∧ ∀ c ∈ packD V seed, c < 24 := by
  have h := deck0_ok (vN V 1) (by have := wn.2.1; omega) (vN V 0) (by have := wn.1.2; omega) wn.1.1
  have hc : ∀ a, (packD V seed).count a = (deck0 (vN V 1 * vN V 0) (vN V 0)).count a := fun a => by
    unfold packD
    exact mixD_count _ _ _ _ (by rw [deck0_len]; omega)
  constructor
  · rw [List.nodup_iff_count]
    intro a
    rw [hc]
    exact List.nodup_iff_count.mp h.1 a
  · intro c hm
    have := List.count_pos_iff.mpr hm
    rw [hc] at this
    exact h.2 c (List.count_pos_iff.mp this)
/-- how many cards lie in the rows before r -/
def pst (n : Nat) : Nat → Nat
  | 0 => 0
  | r + 1 => pst n r + min (r + 1) (n - pst n r)
theorem pst_le (n : Nat) : ∀ r, pst n r ≤ n
  | 0 => Nat.zero_le _
  | r + 1 => by have := pst_le n r; unfold pst; omega
def packV (V : Vt) (D : List Nat) : Vt := (V.1, (fun p => if p < vN V 4 then (D.drop (pst D.length p)).take (p + 1) else if p = 7 then D.drop (pst D.length (vN V 4)) else []), (fun _ => 0), V.2.2.2)
theorem pk_join (D : List Nat) (r : Nat) : (D.drop (pst D.length r)).take (r + 1) ++ D.drop (pst D.length (r + 1)) = D.drop (pst D.length r) := by
  have e : D.drop (pst D.length (r + 1)) = (D.drop (pst D.length r)).drop (r + 1) := by
    rw [List.drop_drop]
    have := pst_le D.length r
    show D.drop (pst D.length r + min (r + 1) (D.length - pst D.length r)) = _
    by_cases h : r + 1 ≤ D.length - pst D.length r
    · rw [Nat.min_eq_left h]
    · rw [List.drop_eq_nil_of_le (by omega), List.drop_eq_nil_of_le (by omega)]
  rw [e, List.take_append_drop]
theorem packV_all {V : Vt} {D : List Nat} (wn : WN V) : allC (packV V D) = D := by
  have h4 := wn.2.2.2.2.1
  have j0 := pk_join D 0
  have j1 := pk_join D 1
  have j2 := pk_join D 2
  have j3 := pk_join D 3
  have j4 := pk_join D 4
  have j5 := pk_join D 5
  simp only [Nat.reduceAdd] at j0 j1 j2 j3 j4 j5
  have e : ∀ p, vP (packV V D) p = if p < vN V 4 then (D.drop (pst D.length p)).take (p + 1) else if p = 7 then D.drop (pst D.length (vN V 4)) else [] := fun p => rfl
  have z : D.drop (pst D.length 0) = D := rfl
  unfold allC
  simp only [List.range, List.range.loop, List.flatMap_cons, List.flatMap_nil, List.append_nil, e]
  have : vN V 4 = 0 ∨ vN V 4 = 1 ∨ vN V 4 = 2 ∨ vN V 4 = 3 ∨ vN V 4 = 4 ∨ vN V 4 = 5 ∨ vN V 4 = 6 := by omega
  rcases this with h | h | h | h | h | h | h <;> rw [h] <;> simp only [Nat.reduceLT, Nat.reduceEqDiff, if_true, if_false, List.nil_append, Nat.lt_irrefl, Nat.reduceAdd, Nat.not_lt_zero, Nat.reduceLeDiff, j0, j1, j2, j3, j4, j5] <;> exact z
theorem WC_pack {V : Vt} {D : List Nat} (wn : WN V) (h1 : D.Nodup) (h2 : ∀ c ∈ D, c < 24) : WC (packV V D) := by
  have h4 := wn.2.2.2.2.1
  refine ⟨fun p hp c hc => ?_, ?_, fun p hp => ?_, fun p hp hr => ?_, fun s => Nat.zero_le _⟩
  · refine h2 c ?_
    have : c ∈ (if p < vN V 4 then (D.drop (pst D.length p)).take (p + 1) else if p = 7 then D.drop (pst D.length (vN V 4)) else []) := hc
    split at this
    · exact List.mem_of_mem_drop (List.mem_of_mem_take this)
    · split at this
      · exact List.mem_of_mem_drop this
      · cases this
  · rw [packV_all wn]; exact h1
  · show (if p < vN V 4 then (D.drop (pst D.length p)).take (p + 1) else if p = 7 then D.drop (pst D.length (vN V 4)) else []).length ≤ 12
    rw [if_neg (show ¬ p = 7 by omega)]
    split
    · rw [List.length_take]; omega
    · simp
  · show (if p < vN V 4 then (D.drop (pst D.length p)).take (p + 1) else if p = 7 then D.drop (pst D.length (vN V 4)) else []) = []
    rw [if_neg (by have : vN (packV V D) 4 = vN V 4 := rfl
                   omega), if_neg (by omega)]
/-! the class: filling, mixing -/
theorem X_fill {h : Nat} (hk : am_kd h = 20) (hn : am_ln h ≤ 1000) (σ : am_M) : ∃ g, S_J7_fill_53178 [.ref h, .int (nI 0)] σ = some (none, am_uA σ h g) ∧ ∀ i, i < am_ln h → g i = nI 0 := by
  have hk2 : (20 ≤ am_kd h ∧ am_kd h ≤ 24) = True := by rw [hk]; simp
  obtain ⟨g, τ, ⟨e, hg⟩, hr⟩ := rch_for (hd := hd_J7_fill_53178) (p := 5) (n := am_ln h) (C := 1) (fun i (_ : Nat → Int32) => [some (.ref h), some (.int (nI 0)), some (.int (nI i)), some (.int (nI (am_ln h)))]) (fun i g τ => τ = am_uA σ h g ∧ ∀ j, j < i → g j = nI 0)
    (fun i g τ hi hI => by
      obtain ⟨e, hI⟩ := hI
      subst e
      refine ⟨va_up g i (nI 0), am_uA σ h (va_up g i (nI 0)), ⟨rfl, fun j hj => ?_⟩, rch_1 fun B => ?_⟩
      · by_cases e : j = i
        · subst e; rw [up_s]
        · rw [up_n e]; exact hI j (by omega)
      · simp (disch := omega) only [↓e_J7_fill_53178_20, ↓e_J7_fill_53178_5, ↓e_J7_fill_53178_0, ↓h_J7_fill_53178_5, ↓it_s, ↓y_iload, ↓y_lload, ↓y_aload, ↓y_istore, ↓y_lstore, ↓y_astore, ↓y_iinc, ↓y_cI, ↓y_cL, ↓y_bin, ↓y_binL, ↓y_div, ↓y_divL, ↓y_lshl, ↓y_un, ↓y_i2l, ↓y_lneg, ↓y_l2i, ↓y_lcmp, ↓y_dupI, ↓y_dupR, ↓y_dup2, ↓y_pop, ↓y_goto, ↓y_eq0, ↓y_lt0, ↓y_le0, ↓y_eq, ↓y_lt, ↓y_le, ↓y_switch, ↓y_sw0, ↓y_sw1, ↓y_getI, ↓y_getL, ↓y_getR, ↓y_getT, ↓y_putI, ↓y_putZ, ↓y_putL, ↓y_putT, ↓y_iald, ↓y_bald, ↓y_lald, ↓y_aald, ↓y_iast, ↓y_bast, ↓y_last, ↓y_alen, ↓y_iret, ↓y_zret, ↓y_lret, ↓y_vret, ↓y_svI, ↓y_svL, ↓y_svV, ↓y_ivI, ↓y_ivL, ↓y_ivV, ↓y_max, ↓y_min, ↓y_absL, ↓y_cpI, ↓y_cpL, ↓x_n1I, ↓x_n1L, ↓x_n1R, ↓x_n0I, ↓x_n0L, ↓x_n0R, ↓x_s0, ↓x_s1i, ↓x_s1r, ↓x_s1n, ↓x_s2, ↓x_c0, ↓x_c2, ↓x_tk0, ↓x_tk1, ↓x_rcv, x_rI1, x_rL1, x_rV1, x_rIn, x_rLn, x_rVn, x_rIf, x_rLf, x_rVf, x_40, x_41, x_42, x_43, x_44, ↓reduceIte, if_true, if_false, ao_iadd, ao_isub, ao_imul, ao_iand, ao_ior, ao_ishl, ao_ishr, ao_iushr, ao_ladd, ao_lsub, ao_lmul, ao_land, ao_lor, ao_idiv, ao_irem, ao_ldiv, ao_lrem, ao_ineg, ao_i2b, ao_i2s, Nat.reduceAdd, Nat.reduceMul, Nat.reduceSub, Nat.reduceEqDiff, Nat.reduceLeDiff, and_self, true_and, x_lit, x_ofn, x_z0, x_z1, x_inbT, x_ltT, x_ltF, x_leT, x_leF, x_eqF, x_eqT, x_inb, x_lt, x_le, x_eq, x_cl, x_sub, nI_add, pk_mul, x_m1e, x_m1e', x_m1l, x_m1n, x_m1s, Nat.not_lt_zero, x_zb, x_b0, x_b1, decide_eq_false_iff_not, decide_eq_true_eq, Bool.false_eq_true, Bool.true_eq_false, hk, hi, uI_uA, uA_uA, uA_s])
    (am_ln h) 0 (σ.1 h) σ (by omega) ⟨(uA_id rfl).symm, fun j hj => by omega⟩
  subst e
  refine ⟨g, ?_, hg⟩
  have hf : fin hd_J7_fill_53178 (1 * am_ln h + 0) 5 [some (.ref h), some (.int (nI 0)), some (.int (nI 0)), some (.int (nI (am_ln h)))] σ (some (none, am_uA σ h g)) := rch_fin hr (fin_0 fun B => by simp (disch := omega) only [↓e_J7_fill_53178_20, ↓e_J7_fill_53178_5, ↓e_J7_fill_53178_0, ↓h_J7_fill_53178_5, ↓it_s, ↓y_iload, ↓y_lload, ↓y_aload, ↓y_istore, ↓y_lstore, ↓y_astore, ↓y_iinc, ↓y_cI, ↓y_cL, ↓y_bin, ↓y_binL, ↓y_div, ↓y_divL, ↓y_lshl, ↓y_un, ↓y_i2l, ↓y_lneg, ↓y_l2i, ↓y_lcmp, ↓y_dupI, ↓y_dupR, ↓y_dup2, ↓y_pop, ↓y_goto, ↓y_eq0, ↓y_lt0, ↓y_le0, ↓y_eq, ↓y_lt, ↓y_le, ↓y_switch, ↓y_sw0, ↓y_sw1, ↓y_getI, ↓y_getL, ↓y_getR, ↓y_getT, ↓y_putI, ↓y_putZ, ↓y_putL, ↓y_putT, ↓y_iald, ↓y_bald, ↓y_lald, ↓y_aald, ↓y_iast, ↓y_bast, ↓y_last, ↓y_alen, ↓y_iret, ↓y_zret, ↓y_lret, ↓y_vret, ↓y_svI, ↓y_svL, ↓y_svV, ↓y_ivI, ↓y_ivL, ↓y_ivV, ↓y_max, ↓y_min, ↓y_absL, ↓y_cpI, ↓y_cpL, ↓x_n1I, ↓x_n1L, ↓x_n1R, ↓x_n0I, ↓x_n0L, ↓x_n0R, ↓x_s0, ↓x_s1i, ↓x_s1r, ↓x_s1n, ↓x_s2, ↓x_c0, ↓x_c2, ↓x_tk0, ↓x_tk1, ↓x_rcv, x_rI1, x_rL1, x_rV1, x_rIn, x_rLn, x_rVn, x_rIf, x_rLf, x_rVf, x_40, x_41, x_42, x_43, x_44, ↓reduceIte, if_true, if_false, ao_iadd, ao_isub, ao_imul, ao_iand, ao_ior, ao_ishl, ao_ishr, ao_iushr, ao_ladd, ao_lsub, ao_lmul, ao_land, ao_lor, ao_idiv, ao_irem, ao_ldiv, ao_lrem, ao_ineg, ao_i2b, ao_i2s, Nat.reduceAdd, Nat.reduceMul, Nat.reduceSub, Nat.reduceEqDiff, Nat.reduceLeDiff, and_self, true_and, x_lit, x_ofn, x_z0, x_z1, x_inbT, x_ltT, x_ltF, x_leT, x_leF, x_eqF, x_eqT, x_inb, x_lt, x_le, x_eq, x_cl, x_sub, nI_add, pk_mul, x_m1e, x_m1e', x_m1l, x_m1n, x_m1s, Nat.not_lt_zero, x_zb, x_b0, x_b1, decide_eq_false_iff_not, decide_eq_true_eq, Bool.false_eq_true, Bool.true_eq_false])
  rw [← fin_run hf (by unfold am_fuel; omega)]
  simp (disch := omega) only [g_J7_fill_53178, ↓e_J7_fill_53178_0, ↓h_J7_fill_53178_5, ↓it_s, ↓y_iload, ↓y_lload, ↓y_aload, ↓y_istore, ↓y_lstore, ↓y_astore, ↓y_iinc, ↓y_cI, ↓y_cL, ↓y_bin, ↓y_binL, ↓y_div, ↓y_divL, ↓y_lshl, ↓y_un, ↓y_i2l, ↓y_lneg, ↓y_l2i, ↓y_lcmp, ↓y_dupI, ↓y_dupR, ↓y_dup2, ↓y_pop, ↓y_goto, ↓y_eq0, ↓y_lt0, ↓y_le0, ↓y_eq, ↓y_lt, ↓y_le, ↓y_switch, ↓y_sw0, ↓y_sw1, ↓y_getI, ↓y_getL, ↓y_getR, ↓y_getT, ↓y_putI, ↓y_putZ, ↓y_putL, ↓y_putT, ↓y_iald, ↓y_bald, ↓y_lald, ↓y_aald, ↓y_iast, ↓y_bast, ↓y_last, ↓y_alen, ↓y_iret, ↓y_zret, ↓y_lret, ↓y_vret, ↓y_svI, ↓y_svL, ↓y_svV, ↓y_ivI, ↓y_ivL, ↓y_ivV, ↓y_max, ↓y_min, ↓y_absL, ↓y_cpI, ↓y_cpL, ↓x_n1I, ↓x_n1L, ↓x_n1R, ↓x_n0I, ↓x_n0L, ↓x_n0R, ↓x_s0, ↓x_s1i, ↓x_s1r, ↓x_s1n, ↓x_s2, ↓x_c0, ↓x_c2, ↓x_tk0, ↓x_tk1, ↓x_rcv, x_rI1, x_rL1, x_rV1, x_rIn, x_rLn, x_rVn, x_rIf, x_rLf, x_rVf, x_40, x_41, x_42, x_43, x_44, ↓reduceIte, if_true, if_false, ao_iadd, ao_isub, ao_imul, ao_iand, ao_ior, ao_ishl, ao_ishr, ao_iushr, ao_ladd, ao_lsub, ao_lmul, ao_land, ao_lor, ao_idiv, ao_irem, ao_ldiv, ao_lrem, ao_ineg, ao_i2b, ao_i2s, Nat.reduceAdd, Nat.reduceMul, Nat.reduceSub, Nat.reduceEqDiff, Nat.reduceLeDiff, and_self, true_and, x_lit, x_ofn, hk2]
theorem X_stir {d : Nat} (hd : d < 65536) (σ : am_M) : S_X10_stir [.int (nI d)] σ = some (some (.int (nI (stirN d))), σ) := by
  simp (disch := omega) only [g_X10_stir, ↓e_X10_stir_0, ↓it_s, ↓y_iload, ↓y_lload, ↓y_aload, ↓y_istore, ↓y_lstore, ↓y_astore, ↓y_iinc, ↓y_cI, ↓y_cL, ↓y_bin, ↓y_binL, ↓y_div, ↓y_divL, ↓y_lshl, ↓y_un, ↓y_i2l, ↓y_lneg, ↓y_l2i, ↓y_lcmp, ↓y_dupI, ↓y_dupR, ↓y_dup2, ↓y_pop, ↓y_goto, ↓y_eq0, ↓y_lt0, ↓y_le0, ↓y_eq, ↓y_lt, ↓y_le, ↓y_switch, ↓y_sw0, ↓y_sw1, ↓y_getI, ↓y_getL, ↓y_getR, ↓y_getT, ↓y_putI, ↓y_putZ, ↓y_putL, ↓y_putT, ↓y_iald, ↓y_bald, ↓y_lald, ↓y_aald, ↓y_iast, ↓y_bast, ↓y_last, ↓y_alen, ↓y_iret, ↓y_zret, ↓y_lret, ↓y_vret, ↓y_svI, ↓y_svL, ↓y_svV, ↓y_ivI, ↓y_ivL, ↓y_ivV, ↓y_max, ↓y_min, ↓y_absL, ↓y_cpI, ↓y_cpL, ↓x_n1I, ↓x_n1L, ↓x_n1R, ↓x_n0I, ↓x_n0L, ↓x_n0R, ↓x_s0, ↓x_s1i, ↓x_s1r, ↓x_s1n, ↓x_s2, ↓x_c0, ↓x_c2, ↓x_tk0, ↓x_tk1, ↓x_rcv, x_rI1, x_rL1, x_rV1, x_rIn, x_rLn, x_rVn, x_rIf, x_rLf, x_rVf, x_40, x_41, x_42, x_43, x_44, ↓reduceIte, if_true, if_false, ao_iadd, ao_isub, ao_imul, ao_iand, ao_ior, ao_ishl, ao_ishr, ao_iushr, ao_ladd, ao_lsub, ao_lmul, ao_land, ao_lor, ao_idiv, ao_irem, ao_ldiv, ao_lrem, ao_ineg, ao_i2b, ao_i2s, Nat.reduceAdd, Nat.reduceMul, Nat.reduceSub, Nat.reduceEqDiff, Nat.reduceLeDiff, and_self, true_and, x_lit, x_eq, x_rem, nI_add, pk_mul]
  rfl
theorem XMx {t n sd : Nat} (hn : n ≤ 24) : ∀ (k d : Nat) (l : List Nat) (σ : am_M) (d6 d7 : Option Value), l.length = n → k < n → d < 65536 → seg (σ.1 61) 0 l →
    ∃ g, fin hd_X1_mix k 71 [some (.ref 53), some (.ref t), some (.int (nI sd)), some (.int (nI n)), some (.int (nI d)), some (.int (nI k)), d6, d7] σ (some (some (.int (nI n)), am_uA σ 61 g)) ∧ seg g 0 (mixD k d l) := by
  intro k
  induction k with
  | zero =>
    intro d l σ d6 d7 hl hk hd h
    refine ⟨σ.1 61, fin_0 fun B => ?_, h⟩
    rw [uA_id rfl]
    simp (disch := omega) only [↓e_X1_mix_146, ↓e_X1_mix_140, ↓e_X1_mix_71, ↓e_X1_mix_63, ↓e_X1_mix_57, ↓e_X1_mix_17, ↓e_X1_mix_5, ↓e_X1_mix_0, ↓h_X1_mix_5, ↓h_X1_mix_17, ↓h_X1_mix_71, ↓it_s, ↓y_iload, ↓y_lload, ↓y_aload, ↓y_istore, ↓y_lstore, ↓y_astore, ↓y_iinc, ↓y_cI, ↓y_cL, ↓y_bin, ↓y_binL, ↓y_div, ↓y_divL, ↓y_lshl, ↓y_un, ↓y_i2l, ↓y_lneg, ↓y_l2i, ↓y_lcmp, ↓y_dupI, ↓y_dupR, ↓y_dup2, ↓y_pop, ↓y_goto, ↓y_eq0, ↓y_lt0, ↓y_le0, ↓y_eq, ↓y_lt, ↓y_le, ↓y_switch, ↓y_sw0, ↓y_sw1, ↓y_getI, ↓y_getL, ↓y_getR, ↓y_getT, ↓y_putI, ↓y_putZ, ↓y_putL, ↓y_putT, ↓y_iald, ↓y_bald, ↓y_lald, ↓y_aald, ↓y_iast, ↓y_bast, ↓y_last, ↓y_alen, ↓y_iret, ↓y_zret, ↓y_lret, ↓y_vret, ↓y_svI, ↓y_svL, ↓y_svV, ↓y_ivI, ↓y_ivL, ↓y_ivV, ↓y_max, ↓y_min, ↓y_absL, ↓y_cpI, ↓y_cpL, ↓x_n1I, ↓x_n1L, ↓x_n1R, ↓x_n0I, ↓x_n0L, ↓x_n0R, ↓x_s0, ↓x_s1i, ↓x_s1r, ↓x_s1n, ↓x_s2, ↓x_c0, ↓x_c2, ↓x_tk0, ↓x_tk1, ↓x_rcv, x_rI1, x_rL1, x_rV1, x_rIn, x_rLn, x_rVn, x_rIf, x_rLf, x_rVf, x_40, x_41, x_42, x_43, x_44, ↓reduceIte, if_true, if_false, ao_iadd, ao_isub, ao_imul, ao_iand, ao_ior, ao_ishl, ao_ishr, ao_iushr, ao_ladd, ao_lsub, ao_lmul, ao_land, ao_lor, ao_idiv, ao_irem, ao_ldiv, ao_lrem, ao_ineg, ao_i2b, ao_i2s, Nat.reduceAdd, Nat.reduceMul, Nat.reduceSub, Nat.reduceEqDiff, Nat.reduceLeDiff, and_self, true_and, x_lit, x_ofn, x_z0, x_z1, x_inbT, x_ltT, x_ltF, x_leT, x_leF, x_eqF, x_eqT, x_inb, x_lt, x_le, x_eq, x_cl, x_sub, nI_add, pk_mul, x_m1e, x_m1e', x_m1l, x_m1n, x_m1s, Nat.not_lt_zero, x_zb, x_b0, x_b1, decide_eq_false_iff_not, decide_eq_true_eq, Bool.false_eq_true, Bool.true_eq_false]
  | succ k ih =>
    intro d l σ d6 d7 hl hk hd h
    have hp : stirN d / 8 % (k + 2) < k + 2 := Nat.mod_lt _ (by omega)
    have hs := stirN_lt d
    obtain ⟨j, ej⟩ : ∃ j, j = stirN d / 8 % (k + 2) := ⟨_, rfl⟩
    have hst := X_stir hd
    obtain ⟨g, a1, a2⟩ := ih (stirN d) (swapL l (k + 1) j) (am_uA σ 61 (va_up (va_up (σ.1 61) (k + 1) (σ.1 61 j)) j (σ.1 61 (k + 1)))) (some (.int (nI j))) (some (.int (σ.1 61 (k + 1)))) (by rw [swapL_len]; exact hl) (by omega) hs (by rw [uA_s]; exact seg_swap h (by omega) (by omega))
    rw [uA_uA] at a1
    refine ⟨g, ?_, ?_⟩
    · have hr : rch hd_X1_mix 1 71 [some (.ref 53), some (.ref t), some (.int (nI sd)), some (.int (nI n)), some (.int (nI d)), some (.int (nI (k + 1))), d6, d7] σ 71 [some (.ref 53), some (.ref t), some (.int (nI sd)), some (.int (nI n)), some (.int (nI (stirN d))), some (.int (nI k)), some (.int (nI j)), some (.int (σ.1 61 (k + 1)))] (am_uA σ 61 (va_up (va_up (σ.1 61) (k + 1) (σ.1 61 j)) j (σ.1 61 (k + 1)))) := rch_1 fun B => by
        have e8 : nI (stirN d) / nI 8 = nI (stirN d / 8) := x_div (by omega) (by omega) (by omega)
        have er : nI (stirN d / 8) - nI (stirN d / 8) / nI (k + 1 + 1) * nI (k + 1 + 1) = nI j := by rw [x_rem (by omega) (by omega) (by omega), ej]
        have ek : nI (k + 1) + -nI 1 = nI k := by rw [decI_dec]; rfl
        simp (disch := omega) only [↓e_X1_mix_71, ↓e_X1_mix_140, ↓h_X1_mix_71, ↓it_s, ↓y_iload, ↓y_lload, ↓y_aload, ↓y_istore, ↓y_lstore, ↓y_astore, ↓y_iinc, ↓y_cI, ↓y_cL, ↓y_bin, ↓y_binL, ↓y_div, ↓y_divL, ↓y_lshl, ↓y_un, ↓y_i2l, ↓y_lneg, ↓y_l2i, ↓y_lcmp, ↓y_dupI, ↓y_dupR, ↓y_dup2, ↓y_pop, ↓y_goto, ↓y_eq0, ↓y_lt0, ↓y_le0, ↓y_eq, ↓y_lt, ↓y_le, ↓y_switch, ↓y_sw0, ↓y_sw1, ↓y_getI, ↓y_getL, ↓y_getR, ↓y_getT, ↓y_putI, ↓y_putZ, ↓y_putL, ↓y_putT, ↓y_iald, ↓y_bald, ↓y_lald, ↓y_aald, ↓y_bast, ↓y_last, ↓y_alen, ↓y_iret, ↓y_zret, ↓y_lret, ↓y_vret, ↓y_svI, ↓y_svL, ↓y_svV, ↓y_ivI, ↓y_ivL, ↓y_ivV, ↓y_max, ↓y_min, ↓y_absL, ↓y_cpI, ↓y_cpL, ↓x_n1I, ↓x_n1L, ↓x_n1R, ↓x_n0I, ↓x_n0L, ↓x_n0R, ↓x_s0, ↓x_s1i, ↓x_s1r, ↓x_s1n, ↓x_s2, ↓x_c0, ↓x_c2, ↓x_tk0, ↓x_tk1, ↓x_rcv, x_rI1, x_rL1, x_rV1, x_rIn, x_rLn, x_rVn, x_rIf, x_rLf, x_rVf, x_40, x_41, x_42, x_43, x_44, ↓reduceIte, if_true, if_false, ao_iadd, ao_isub, ao_imul, ao_iand, ao_ior, ao_ishl, ao_ishr, ao_iushr, ao_ladd, ao_lsub, ao_lmul, ao_land, ao_lor, ao_idiv, ao_irem, ao_ldiv, ao_lrem, ao_ineg, ao_i2b, ao_i2s, Nat.reduceAdd, Nat.reduceMul, Nat.reduceSub, Nat.reduceEqDiff, Nat.reduceLeDiff, and_self, true_and, x_lit, x_ofn, x_z0, x_z1, x_inbT, x_ltT, x_ltF, x_leT, x_leF, x_eqF, x_eqT, x_inb, x_lt, x_le, x_eq, x_cl, x_sub, nI_add, pk_mul, x_m1e, x_m1e', x_m1l, x_m1n, x_m1s, Nat.not_lt_zero, x_zb, x_b0, x_b1, decide_eq_false_iff_not, decide_eq_true_eq, Bool.false_eq_true, Bool.true_eq_false, hst, e8, er, ek, kd_53, kd_61, ln_61]
        rw [y_iast]
        simp (disch := omega) only [kd_61, ln_61, x_inbT, x_cl, if_true]
        obtain ⟨ρ, eρ⟩ : ∃ ρ, ρ = am_uI σ 61 (k + 1) (σ.1 61 j) := ⟨_, rfl⟩
        rw [← eρ]
        simp (disch := omega) only [↓e_X1_mix_140, ↓it_s, ↓y_iload, ↓y_lload, ↓y_aload, ↓y_istore, ↓y_lstore, ↓y_astore, ↓y_iinc, ↓y_cI, ↓y_cL, ↓y_bin, ↓y_binL, ↓y_div, ↓y_divL, ↓y_lshl, ↓y_un, ↓y_i2l, ↓y_lneg, ↓y_l2i, ↓y_lcmp, ↓y_dupI, ↓y_dupR, ↓y_dup2, ↓y_pop, ↓y_goto, ↓y_eq0, ↓y_lt0, ↓y_le0, ↓y_eq, ↓y_lt, ↓y_le, ↓y_switch, ↓y_sw0, ↓y_sw1, ↓y_getI, ↓y_getL, ↓y_getR, ↓y_getT, ↓y_putI, ↓y_putZ, ↓y_putL, ↓y_putT, ↓y_iald, ↓y_bald, ↓y_lald, ↓y_aald, ↓y_iast, ↓y_bast, ↓y_last, ↓y_alen, ↓y_iret, ↓y_zret, ↓y_lret, ↓y_vret, ↓y_svI, ↓y_svL, ↓y_svV, ↓y_ivI, ↓y_ivL, ↓y_ivV, ↓y_max, ↓y_min, ↓y_absL, ↓y_cpI, ↓y_cpL, ↓x_n1I, ↓x_n1L, ↓x_n1R, ↓x_n0I, ↓x_n0L, ↓x_n0R, ↓x_s0, ↓x_s1i, ↓x_s1r, ↓x_s1n, ↓x_s2, ↓x_c0, ↓x_c2, ↓x_tk0, ↓x_tk1, ↓x_rcv, x_rI1, x_rL1, x_rV1, x_rIn, x_rLn, x_rVn, x_rIf, x_rLf, x_rVf, x_40, x_41, x_42, x_43, x_44, ↓reduceIte, if_true, if_false, ao_iadd, ao_isub, ao_imul, ao_iand, ao_ior, ao_ishl, ao_ishr, ao_iushr, ao_ladd, ao_lsub, ao_lmul, ao_land, ao_lor, ao_idiv, ao_irem, ao_ldiv, ao_lrem, ao_ineg, ao_i2b, ao_i2s, Nat.reduceAdd, Nat.reduceMul, Nat.reduceSub, Nat.reduceEqDiff, Nat.reduceLeDiff, and_self, true_and, x_lit, x_ofn, x_z0, x_z1, x_inbT, x_ltT, x_ltF, x_leT, x_leF, x_eqF, x_eqT, x_inb, x_lt, x_le, x_eq, x_cl, x_sub, nI_add, pk_mul, x_m1e, x_m1e', x_m1l, x_m1n, x_m1s, Nat.not_lt_zero, x_zb, x_b0, x_b1, decide_eq_false_iff_not, decide_eq_true_eq, Bool.false_eq_true, Bool.true_eq_false, ek, kd_53, kd_61, ln_61]
        rw [eρ]
        simp only [uI_uA, uA_uA, uA_s]
      exact fin_mono (rch_fin hr a1) (by omega)
    · unfold mixD; rw [← ej]; exact a2
theorem XMx_init {t s r n sd : Nat} {σ : am_M} {d6 d7 : Option Value} (ht : isT t) (hr : 1 ≤ r) (h6 : σ.1 t 6 = nI r) (h7 : σ.1 t 7 = nI s) (hn : s * r = n) (hn24 : n ≤ 24) (hs4 : s ≤ 4) (hr6 : r ≤ 6) : ∃ (g : Nat → Int32) (d5 : Option Value), rch hd_X1_mix (8 * s) 5 [some (.ref 53), some (.ref t), some (.int (nI sd)), some (.int (nI 0)), some (.int (nI 0)), none, d6, d7] σ 5 [some (.ref 53), some (.ref t), some (.int (nI sd)), some (.int (nI n)), some (.int (nI s)), d5, d6, d7] (am_uA σ 61 g) ∧ seg g 0 (deck0 n r) := by
  obtain ⟨k0, -⟩ := isT_k ht
  have htl := isT_le ht
  have h61 : t ≠ 61 := by rcases ht with rfl | rfl | rfl | rfl | rfl | rfl <;> omega
  obtain ⟨⟨g, d5⟩, τ, ⟨e, hg⟩, hR⟩ := rch_for (hd := hd_X1_mix) (p := 5) (n := s) (C := 8) (fun i (a : (Nat → Int32) × Option Value) => [some (.ref 53), some (.ref t), some (.int (nI sd)), some (.int (nI (i * r))), some (.int (nI i)), a.2, d6, d7]) (fun i a τ => τ = am_uA σ 61 a.1 ∧ seg a.1 0 (deck0 (i * r) r))
    (fun i a τ hi hI => by
      obtain ⟨g, d5⟩ := a
      obtain ⟨e, hI⟩ := hI
      dsimp only at e hI
      have hir : i * r + r ≤ n := by
        rw [← hn, ← Nat.succ_mul]
        exact Nat.mul_le_mul_right r hi
      obtain ⟨g2, τ2, ⟨e2, hg2⟩, hR2⟩ := rch_for (hd := hd_X1_mix) (p := 17) (n := r) (C := 1) (fun k (_ : Nat → Int32) => [some (.ref 53), some (.ref t), some (.int (nI sd)), some (.int (nI (i * r + k))), some (.int (nI i)), some (.int (nI (k + 1))), d6, d7]) (fun k g τ => τ = am_uA σ 61 g ∧ seg g 0 (deck0 (i * r + k) r))
        (fun k g τ hk hI => by
          obtain ⟨e, hI⟩ := hI
          refine ⟨va_up g (i * r + k) (nI (6 * i + k)), am_uA σ 61 (va_up g (i * r + k) (nI (6 * i + k))), ⟨rfl, ?_⟩, rch_1 fun B => ?_⟩
          · rw [← Nat.add_assoc, deck0_s]
            have e1 : (i * r + k) / r = i := by rw [Nat.mul_comm, Nat.mul_add_div (by omega), Nat.div_eq_of_lt hk]; rfl
            have e2 : (i * r + k) % r = k := by rw [Nat.mul_comm, Nat.mul_add_mod, Nat.mod_eq_of_lt hk]
            rw [e1, e2]
            exact seg_push hI _ (by rw [deck0_len]; omega)
          · subst e
            have h6' : (am_uA σ 61 g).1 t 6 = nI r := by rw [uA_n h61]; exact h6
            simp (disch := omega) only [↓e_X1_mix_17, ↓h_X1_mix_17, ↓it_s, ↓y_iload, ↓y_lload, ↓y_aload, ↓y_istore, ↓y_lstore, ↓y_astore, ↓y_iinc, ↓y_cI, ↓y_cL, ↓y_bin, ↓y_binL, ↓y_div, ↓y_divL, ↓y_lshl, ↓y_un, ↓y_i2l, ↓y_lneg, ↓y_l2i, ↓y_lcmp, ↓y_dupI, ↓y_dupR, ↓y_dup2, ↓y_pop, ↓y_goto, ↓y_eq0, ↓y_lt0, ↓y_le0, ↓y_eq, ↓y_lt, ↓y_le, ↓y_switch, ↓y_sw0, ↓y_sw1, ↓y_getI, ↓y_getL, ↓y_getR, ↓y_getT, ↓y_putI, ↓y_putZ, ↓y_putL, ↓y_putT, ↓y_iald, ↓y_bald, ↓y_lald, ↓y_aald, ↓y_iast, ↓y_bast, ↓y_last, ↓y_alen, ↓y_iret, ↓y_zret, ↓y_lret, ↓y_vret, ↓y_svI, ↓y_svL, ↓y_svV, ↓y_ivI, ↓y_ivL, ↓y_ivV, ↓y_max, ↓y_min, ↓y_absL, ↓y_cpI, ↓y_cpL, ↓x_n1I, ↓x_n1L, ↓x_n1R, ↓x_n0I, ↓x_n0L, ↓x_n0R, ↓x_s0, ↓x_s1i, ↓x_s1r, ↓x_s1n, ↓x_s2, ↓x_c0, ↓x_c2, ↓x_tk0, ↓x_tk1, ↓x_rcv, x_rI1, x_rL1, x_rV1, x_rIn, x_rLn, x_rVn, x_rIf, x_rLf, x_rVf, x_40, x_41, x_42, x_43, x_44, ↓reduceIte, if_true, if_false, ao_iadd, ao_isub, ao_imul, ao_iand, ao_ior, ao_ishl, ao_ishr, ao_iushr, ao_ladd, ao_lsub, ao_lmul, ao_land, ao_lor, ao_idiv, ao_irem, ao_ldiv, ao_lrem, ao_ineg, ao_i2b, ao_i2s, Nat.reduceAdd, Nat.reduceMul, Nat.reduceSub, Nat.reduceEqDiff, Nat.reduceLeDiff, and_self, true_and, x_lit, x_ofn, x_z0, x_z1, x_inbT, x_ltT, x_ltF, x_leT, x_leF, x_eqF, x_eqT, x_inb, x_lt, x_le, x_eq, x_cl, x_sub, nI_add, pk_mul, x_m1e, x_m1e', x_m1l, x_m1n, x_m1s, Nat.not_lt_zero, x_zb, x_b0, x_b1, decide_eq_false_iff_not, decide_eq_true_eq, Bool.false_eq_true, Bool.true_eq_false, k0, h6', kd_53, kd_61, ln_61, uI_uA, uA_uA, uA_s]
            rw [show 6 * i + (k + 1) - 1 = 6 * i + k by omega]
            rfl)
        r 0 g τ (by omega) ⟨e, by rw [Nat.add_zero]; exact hI⟩
      refine ⟨(g2, some (.int (nI (r + 1)))), τ2, ⟨e2, ?_⟩, ?_⟩
      · show seg g2 0 (deck0 ((i + 1) * r) r)
        rw [Nat.succ_mul]; exact hg2
      · have r1 : rch hd_X1_mix 0 5 [some (.ref 53), some (.ref t), some (.int (nI sd)), some (.int (nI (i * r))), some (.int (nI i)), d5, d6, d7] τ 17 [some (.ref 53), some (.ref t), some (.int (nI sd)), some (.int (nI (i * r + 0))), some (.int (nI i)), some (.int (nI (0 + 1))), d6, d7] τ := rch_0 fun B => by
          have h7' : τ.1 t 7 = nI s := by rw [e, uA_n h61]; exact h7
          simp (disch := omega) only [↓e_X1_mix_5, ↓h_X1_mix_5, ↓h_X1_mix_17, ↓it_s, ↓y_iload, ↓y_lload, ↓y_aload, ↓y_istore, ↓y_lstore, ↓y_astore, ↓y_iinc, ↓y_cI, ↓y_cL, ↓y_bin, ↓y_binL, ↓y_div, ↓y_divL, ↓y_lshl, ↓y_un, ↓y_i2l, ↓y_lneg, ↓y_l2i, ↓y_lcmp, ↓y_dupI, ↓y_dupR, ↓y_dup2, ↓y_pop, ↓y_goto, ↓y_eq0, ↓y_lt0, ↓y_le0, ↓y_eq, ↓y_lt, ↓y_le, ↓y_switch, ↓y_sw0, ↓y_sw1, ↓y_getI, ↓y_getL, ↓y_getR, ↓y_getT, ↓y_putI, ↓y_putZ, ↓y_putL, ↓y_putT, ↓y_iald, ↓y_bald, ↓y_lald, ↓y_aald, ↓y_iast, ↓y_bast, ↓y_last, ↓y_alen, ↓y_iret, ↓y_zret, ↓y_lret, ↓y_vret, ↓y_svI, ↓y_svL, ↓y_svV, ↓y_ivI, ↓y_ivL, ↓y_ivV, ↓y_max, ↓y_min, ↓y_absL, ↓y_cpI, ↓y_cpL, ↓x_n1I, ↓x_n1L, ↓x_n1R, ↓x_n0I, ↓x_n0L, ↓x_n0R, ↓x_s0, ↓x_s1i, ↓x_s1r, ↓x_s1n, ↓x_s2, ↓x_c0, ↓x_c2, ↓x_tk0, ↓x_tk1, ↓x_rcv, x_rI1, x_rL1, x_rV1, x_rIn, x_rLn, x_rVn, x_rIf, x_rLf, x_rVf, x_40, x_41, x_42, x_43, x_44, ↓reduceIte, if_true, if_false, ao_iadd, ao_isub, ao_imul, ao_iand, ao_ior, ao_ishl, ao_ishr, ao_iushr, ao_ladd, ao_lsub, ao_lmul, ao_land, ao_lor, ao_idiv, ao_irem, ao_ldiv, ao_lrem, ao_ineg, ao_i2b, ao_i2s, Nat.reduceAdd, Nat.reduceMul, Nat.reduceSub, Nat.reduceEqDiff, Nat.reduceLeDiff, and_self, true_and, x_lit, x_ofn, x_z0, x_z1, x_inbT, x_ltT, x_ltF, x_leT, x_leF, x_eqF, x_eqT, x_inb, x_lt, x_le, x_eq, x_cl, x_sub, nI_add, pk_mul, x_m1e, x_m1e', x_m1l, x_m1n, x_m1s, Nat.not_lt_zero, x_zb, x_b0, x_b1, decide_eq_false_iff_not, decide_eq_true_eq, Bool.false_eq_true, Bool.true_eq_false, k0, h7', Nat.add_zero, Nat.zero_add]
        have r2 : rch hd_X1_mix 1 17 [some (.ref 53), some (.ref t), some (.int (nI sd)), some (.int (nI (i * r + r))), some (.int (nI i)), some (.int (nI (r + 1))), d6, d7] τ2 5 [some (.ref 53), some (.ref t), some (.int (nI sd)), some (.int (nI ((i + 1) * r))), some (.int (nI (i + 1))), some (.int (nI (r + 1))), d6, d7] τ2 := rch_1 fun B => by
          have h6' : τ2.1 t 6 = nI r := by rw [e2, uA_n h61]; exact h6
          simp (disch := omega) only [↓e_X1_mix_17, ↓e_X1_mix_57, ↓h_X1_mix_17, ↓it_s, ↓y_iload, ↓y_lload, ↓y_aload, ↓y_istore, ↓y_lstore, ↓y_astore, ↓y_iinc, ↓y_cI, ↓y_cL, ↓y_bin, ↓y_binL, ↓y_div, ↓y_divL, ↓y_lshl, ↓y_un, ↓y_i2l, ↓y_lneg, ↓y_l2i, ↓y_lcmp, ↓y_dupI, ↓y_dupR, ↓y_dup2, ↓y_pop, ↓y_goto, ↓y_eq0, ↓y_lt0, ↓y_le0, ↓y_eq, ↓y_lt, ↓y_le, ↓y_switch, ↓y_sw0, ↓y_sw1, ↓y_getI, ↓y_getL, ↓y_getR, ↓y_getT, ↓y_putI, ↓y_putZ, ↓y_putL, ↓y_putT, ↓y_iald, ↓y_bald, ↓y_lald, ↓y_aald, ↓y_iast, ↓y_bast, ↓y_last, ↓y_alen, ↓y_iret, ↓y_zret, ↓y_lret, ↓y_vret, ↓y_svI, ↓y_svL, ↓y_svV, ↓y_ivI, ↓y_ivL, ↓y_ivV, ↓y_max, ↓y_min, ↓y_absL, ↓y_cpI, ↓y_cpL, ↓x_n1I, ↓x_n1L, ↓x_n1R, ↓x_n0I, ↓x_n0L, ↓x_n0R, ↓x_s0, ↓x_s1i, ↓x_s1r, ↓x_s1n, ↓x_s2, ↓x_c0, ↓x_c2, ↓x_tk0, ↓x_tk1, ↓x_rcv, x_rI1, x_rL1, x_rV1, x_rIn, x_rLn, x_rVn, x_rIf, x_rLf, x_rVf, x_40, x_41, x_42, x_43, x_44, ↓reduceIte, if_true, if_false, ao_iadd, ao_isub, ao_imul, ao_iand, ao_ior, ao_ishl, ao_ishr, ao_iushr, ao_ladd, ao_lsub, ao_lmul, ao_land, ao_lor, ao_idiv, ao_irem, ao_ldiv, ao_lrem, ao_ineg, ao_i2b, ao_i2s, Nat.reduceAdd, Nat.reduceMul, Nat.reduceSub, Nat.reduceEqDiff, Nat.reduceLeDiff, and_self, true_and, x_lit, x_ofn, x_z0, x_z1, x_inbT, x_ltT, x_ltF, x_leT, x_leF, x_eqF, x_eqT, x_inb, x_lt, x_le, x_eq, x_cl, x_sub, nI_add, pk_mul, x_m1e, x_m1e', x_m1l, x_m1n, x_m1s, Nat.not_lt_zero, x_zb, x_b0, x_b1, decide_eq_false_iff_not, decide_eq_true_eq, Bool.false_eq_true, Bool.true_eq_false, k0, h6', Nat.succ_mul]
        exact rch_mono (rch_tr r1 (rch_tr hR2 r2)) (by omega))
    s 0 (σ.1 61, none) σ (by omega) ⟨(uA_id rfl).symm, by rw [Nat.zero_mul]; exact seg_nil⟩
  refine ⟨g, d5, ?_, ?_⟩
  · dsimp only at e hR
    rw [Nat.zero_mul, hn, e] at hR
    exact hR
  · rw [← hn]; exact hg
theorem X_mix {t seed : Nat} {σ : am_M} {V : Vt} (ht : isT t) (h6 : σ.1 t 6 = nI (vN V 0)) (h7 : σ.1 t 7 = nI (vN V 1)) (wn : WN V) (hs : seed < 65536) : ∃ g, S_X1_mix [.ref 53, .ref t, .int (nI seed)] σ = some (some (.int (nI (packD V seed).length)), am_uA σ 61 g) ∧ seg g 0 (packD V seed) := by
  obtain ⟨k0, -⟩ := isT_k ht
  have h61 : t ≠ 61 := by rcases ht with rfl | rfl | rfl | rfl | rfl | rfl <;> omega
  have hn24 := packN_le wn
  have hs4 := wn.2.1
  have hr6 := wn.1.2
  obtain ⟨n, en⟩ : ∃ n, n = vN V 1 * vN V 0 := ⟨_, rfl⟩
  obtain ⟨g, d5, a1, a2⟩ := XMx_init (σ := σ) (sd := seed) (d6 := none) (d7 := none) ht wn.1.1 h6 h7 en.symm (by omega) hs4 hr6
  have h7' : (am_uA σ 61 g).1 t 7 = nI (vN V 1) := by rw [uA_n h61]; exact h7
  rw [packD_len, ← en]
  unfold packD
  rw [← en]
  by_cases h0 : n = 0
  · refine ⟨g, ?_, by rw [h0]; rw [h0] at a2; exact a2⟩
    have hf : fin hd_X1_mix (8 * vN V 1 + 0) 5 [some (.ref 53), some (.ref t), some (.int (nI seed)), some (.int (nI 0)), some (.int (nI 0)), none, none, none] σ (some (some (.int (nI n)), am_uA σ 61 g)) := rch_fin a1 (fin_0 fun B => by
      have ed : nI n - nI 1 = -nI 1 := by rw [h0]; decide +kernel
      have el : (-nI 1 < nI 1) = True := by decide +kernel
      simp (disch := omega) only [↓e_X1_mix_5, ↓e_X1_mix_63, ↓e_X1_mix_71, ↓e_X1_mix_146, ↓h_X1_mix_5, ↓it_s, ↓y_iload, ↓y_lload, ↓y_aload, ↓y_istore, ↓y_lstore, ↓y_astore, ↓y_iinc, ↓y_cI, ↓y_cL, ↓y_bin, ↓y_binL, ↓y_div, ↓y_divL, ↓y_lshl, ↓y_un, ↓y_i2l, ↓y_lneg, ↓y_l2i, ↓y_lcmp, ↓y_dupI, ↓y_dupR, ↓y_dup2, ↓y_pop, ↓y_goto, ↓y_eq0, ↓y_lt0, ↓y_le0, ↓y_eq, ↓y_lt, ↓y_le, ↓y_switch, ↓y_sw0, ↓y_sw1, ↓y_getI, ↓y_getL, ↓y_getR, ↓y_getT, ↓y_putI, ↓y_putZ, ↓y_putL, ↓y_putT, ↓y_iald, ↓y_bald, ↓y_lald, ↓y_aald, ↓y_iast, ↓y_bast, ↓y_last, ↓y_alen, ↓y_iret, ↓y_zret, ↓y_lret, ↓y_vret, ↓y_svI, ↓y_svL, ↓y_svV, ↓y_ivI, ↓y_ivL, ↓y_ivV, ↓y_max, ↓y_min, ↓y_absL, ↓y_cpI, ↓y_cpL, ↓x_n1I, ↓x_n1L, ↓x_n1R, ↓x_n0I, ↓x_n0L, ↓x_n0R, ↓x_s0, ↓x_s1i, ↓x_s1r, ↓x_s1n, ↓x_s2, ↓x_c0, ↓x_c2, ↓x_tk0, ↓x_tk1, ↓x_rcv, x_rI1, x_rL1, x_rV1, x_rIn, x_rLn, x_rVn, x_rIf, x_rLf, x_rVf, x_40, x_41, x_42, x_43, x_44, ↓reduceIte, if_true, if_false, ao_iadd, ao_isub, ao_imul, ao_iand, ao_ior, ao_ishl, ao_ishr, ao_iushr, ao_ladd, ao_lsub, ao_lmul, ao_land, ao_lor, ao_idiv, ao_irem, ao_ldiv, ao_lrem, ao_ineg, ao_i2b, ao_i2s, Nat.reduceAdd, Nat.reduceMul, Nat.reduceSub, Nat.reduceEqDiff, Nat.reduceLeDiff, and_self, true_and, x_lit, x_ltF, x_ltT, ed, el, k0, h7'])
    rw [← fin_run hf (by unfold am_fuel; omega)]
    simp (disch := omega) only [g_X1_mix, ↓e_X1_mix_0, ↓h_X1_mix_5, ↓it_s, ↓y_iload, ↓y_lload, ↓y_aload, ↓y_istore, ↓y_lstore, ↓y_astore, ↓y_iinc, ↓y_cI, ↓y_cL, ↓y_bin, ↓y_binL, ↓y_div, ↓y_divL, ↓y_lshl, ↓y_un, ↓y_i2l, ↓y_lneg, ↓y_l2i, ↓y_lcmp, ↓y_dupI, ↓y_dupR, ↓y_dup2, ↓y_pop, ↓y_goto, ↓y_eq0, ↓y_lt0, ↓y_le0, ↓y_eq, ↓y_lt, ↓y_le, ↓y_switch, ↓y_sw0, ↓y_sw1, ↓y_getI, ↓y_getL, ↓y_getR, ↓y_getT, ↓y_putI, ↓y_putZ, ↓y_putL, ↓y_putT, ↓y_iald, ↓y_bald, ↓y_lald, ↓y_aald, ↓y_iast, ↓y_bast, ↓y_last, ↓y_alen, ↓y_iret, ↓y_zret, ↓y_lret, ↓y_vret, ↓y_svI, ↓y_svL, ↓y_svV, ↓y_ivI, ↓y_ivL, ↓y_ivV, ↓y_max, ↓y_min, ↓y_absL, ↓y_cpI, ↓y_cpL, ↓x_n1I, ↓x_n1L, ↓x_n1R, ↓x_n0I, ↓x_n0L, ↓x_n0R, ↓x_s0, ↓x_s1i, ↓x_s1r, ↓x_s1n, ↓x_s2, ↓x_c0, ↓x_c2, ↓x_tk0, ↓x_tk1, ↓x_rcv, x_rI1, x_rL1, x_rV1, x_rIn, x_rLn, x_rVn, x_rIf, x_rLf, x_rVf, x_40, x_41, x_42, x_43, x_44, ↓reduceIte, if_true, if_false, ao_iadd, ao_isub, ao_imul, ao_iand, ao_ior, ao_ishl, ao_ishr, ao_iushr, ao_ladd, ao_lsub, ao_lmul, ao_land, ao_lor, ao_idiv, ao_irem, ao_ldiv, ao_lrem, ao_ineg, ao_i2b, ao_i2s, Nat.reduceAdd, Nat.reduceMul, Nat.reduceSub, Nat.reduceEqDiff, Nat.reduceLeDiff, and_self, true_and, x_lit]
  · obtain ⟨g2, b1, b2'⟩ := XMx (t := t) (n := n) (sd := seed) (by omega) (n - 1) seed (deck0 n (vN V 0)) (am_uA σ 61 g) none none (by rw [deck0_len]) (by omega) hs (by rw [uA_s]; exact a2)
    rw [uA_uA] at b1
    refine ⟨g2, ?_, b2'⟩
    have r1 : rch hd_X1_mix 0 5 [some (.ref 53), some (.ref t), some (.int (nI seed)), some (.int (nI n)), some (.int (nI (vN V 1))), d5, none, none] (am_uA σ 61 g) 71 [some (.ref 53), some (.ref t), some (.int (nI seed)), some (.int (nI n)), some (.int (nI seed)), some (.int (nI (n - 1))), none, none] (am_uA σ 61 g) := rch_0 fun B => by
      simp (disch := omega) only [↓e_X1_mix_5, ↓e_X1_mix_63, ↓h_X1_mix_5, ↓h_X1_mix_71, ↓it_s, ↓y_iload, ↓y_lload, ↓y_aload, ↓y_istore, ↓y_lstore, ↓y_astore, ↓y_iinc, ↓y_cI, ↓y_cL, ↓y_bin, ↓y_binL, ↓y_div, ↓y_divL, ↓y_lshl, ↓y_un, ↓y_i2l, ↓y_lneg, ↓y_l2i, ↓y_lcmp, ↓y_dupI, ↓y_dupR, ↓y_dup2, ↓y_pop, ↓y_goto, ↓y_eq0, ↓y_lt0, ↓y_le0, ↓y_eq, ↓y_lt, ↓y_le, ↓y_switch, ↓y_sw0, ↓y_sw1, ↓y_getI, ↓y_getL, ↓y_getR, ↓y_getT, ↓y_putI, ↓y_putZ, ↓y_putL, ↓y_putT, ↓y_iald, ↓y_bald, ↓y_lald, ↓y_aald, ↓y_iast, ↓y_bast, ↓y_last, ↓y_alen, ↓y_iret, ↓y_zret, ↓y_lret, ↓y_vret, ↓y_svI, ↓y_svL, ↓y_svV, ↓y_ivI, ↓y_ivL, ↓y_ivV, ↓y_max, ↓y_min, ↓y_absL, ↓y_cpI, ↓y_cpL, ↓x_n1I, ↓x_n1L, ↓x_n1R, ↓x_n0I, ↓x_n0L, ↓x_n0R, ↓x_s0, ↓x_s1i, ↓x_s1r, ↓x_s1n, ↓x_s2, ↓x_c0, ↓x_c2, ↓x_tk0, ↓x_tk1, ↓x_rcv, x_rI1, x_rL1, x_rV1, x_rIn, x_rLn, x_rVn, x_rIf, x_rLf, x_rVf, x_40, x_41, x_42, x_43, x_44, ↓reduceIte, if_true, if_false, ao_iadd, ao_isub, ao_imul, ao_iand, ao_ior, ao_ishl, ao_ishr, ao_iushr, ao_ladd, ao_lsub, ao_lmul, ao_land, ao_lor, ao_idiv, ao_irem, ao_ldiv, ao_lrem, ao_ineg, ao_i2b, ao_i2s, Nat.reduceAdd, Nat.reduceMul, Nat.reduceSub, Nat.reduceEqDiff, Nat.reduceLeDiff, and_self, true_and, x_lit, x_ofn, x_z0, x_z1, x_inbT, x_ltT, x_ltF, x_leT, x_leF, x_eqF, x_eqT, x_inb, x_lt, x_le, x_eq, x_cl, x_sub, nI_add, pk_mul, x_m1e, x_m1e', x_m1l, x_m1n, x_m1s, Nat.not_lt_zero, x_zb, x_b0, x_b1, decide_eq_false_iff_not, decide_eq_true_eq, Bool.false_eq_true, Bool.true_eq_false, k0, h7']
    have hf := rch_fin a1 (rch_fin r1 b1)
    rw [← fin_run hf (by unfold am_fuel; omega)]
    simp (disch := omega) only [g_X1_mix, ↓e_X1_mix_0, ↓h_X1_mix_5, ↓it_s, ↓y_iload, ↓y_lload, ↓y_aload, ↓y_istore, ↓y_lstore, ↓y_astore, ↓y_iinc, ↓y_cI, ↓y_cL, ↓y_bin, ↓y_binL, ↓y_div, ↓y_divL, ↓y_lshl, ↓y_un, ↓y_i2l, ↓y_lneg, ↓y_l2i, ↓y_lcmp, ↓y_dupI, ↓y_dupR, ↓y_dup2, ↓y_pop, ↓y_goto, ↓y_eq0, ↓y_lt0, ↓y_le0, ↓y_eq, ↓y_lt, ↓y_le, ↓y_switch, ↓y_sw0, ↓y_sw1, ↓y_getI, ↓y_getL, ↓y_getR, ↓y_getT, ↓y_putI, ↓y_putZ, ↓y_putL, ↓y_putT, ↓y_iald, ↓y_bald, ↓y_lald, ↓y_aald, ↓y_iast, ↓y_bast, ↓y_last, ↓y_alen, ↓y_iret, ↓y_zret, ↓y_lret, ↓y_vret, ↓y_svI, ↓y_svL, ↓y_svV, ↓y_ivI, ↓y_ivL, ↓y_ivV, ↓y_max, ↓y_min, ↓y_absL, ↓y_cpI, ↓y_cpL, ↓x_n1I, ↓x_n1L, ↓x_n1R, ↓x_n0I, ↓x_n0L, ↓x_n0R, ↓x_s0, ↓x_s1i, ↓x_s1r, ↓x_s1n, ↓x_s2, ↓x_c0, ↓x_c2, ↓x_tk0, ↓x_tk1, ↓x_rcv, x_rI1, x_rL1, x_rV1, x_rIn, x_rLn, x_rVn, x_rIf, x_rLf, x_rVf, x_40, x_41, x_42, x_43, x_44, ↓reduceIte, if_true, if_false, ao_iadd, ao_isub, ao_imul, ao_iand, ao_ior, ao_ishl, ao_ishr, ao_iushr, ao_ladd, ao_lsub, ao_lmul, ao_land, ao_lor, ao_idiv, ao_irem, ao_ldiv, ao_lrem, ao_ineg, ao_i2b, ao_i2s, Nat.reduceAdd, Nat.reduceMul, Nat.reduceSub, Nat.reduceEqDiff, Nat.reduceLeDiff, and_self, true_and, x_lit]
