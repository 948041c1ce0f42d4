/-! the class: a pack is dealt -/
theorem vuP_s (V : Vt) (p : Nat) (l : List Nat) : vP (vuP V p l) p = l := by
  show va_up V.2.1 p l p = l
  exact up_s _ _ _
theorem TN_fr2 {σ τ : am_M} {t : Nat} {V : Vt} (h : TN σ t V) (e : ∀ k, 6 ≤ k → τ.1 t k = σ.1 t k) : TN τ t V := by
  unfold TN at *
  rw [e 6 (by omega), e 7 (by omega), e 9 (by omega), e 10 (by omega), e 11 (by omega), e 8 (by omega)]
  exact h
def frP (t : Nat) (σ τ : am_M) : Prop := τ.2 = σ.2 ∧ (∀ j, (j < t ∨ t + 5 ≤ j) → τ.1 j = σ.1 j) ∧ ∀ k, 6 ≤ k → τ.1 t k = σ.1 t k
theorem frP_rf (t : Nat) (σ : am_M) : frP t σ σ := ⟨rfl, fun _ _ => rfl, fun _ _ => rfl⟩
theorem frP_tr {t : Nat} {a b c : am_M} (h1 : frP t a b) (h2 : frP t b c) : frP t a c := ⟨h2.1.trans h1.1, fun j hj => (h2.2.1 j hj).trans (h1.2.1 j hj), fun i hi => (h2.2.2 i hi).trans (h1.2.2 i hi)⟩
theorem frP_uI {t : Nat} {a b : am_M} {h k : Nat} {v : Int32} (h1 : frP t a b) (hl : t < h) (hh : h < t + 5) : frP t a (am_uI b h k v) := ⟨h1.1, fun j hj => (uI_n (by omega)).trans (h1.2.1 j hj), fun i hi => by rw [uI_n (by omega)]; exact h1.2.2 i hi⟩
theorem frP_uA {t : Nat} {a b : am_M} {h : Nat} {f : Nat → Int32} (h1 : frP t a b) (hl : t < h) (hh : h < t + 5) : frP t a (am_uA b h f) := ⟨h1.1, fun j hj => (uA_n (by omega)).trans (h1.2.1 j hj), fun i hi => by rw [uA_n (by omega)]; exact h1.2.2 i hi⟩
theorem frP_u0 {t : Nat} {a b : am_M} {k : Nat} {v : Int32} (h1 : frP t a b) (hk : k < 6) : frP t a (am_uI b t k v) := ⟨h1.1, fun j hj => (uI_n (by omega)).trans (h1.2.1 j hj), fun i hi => by rw [uI_s, up_n (by omega)]; exact h1.2.2 i hi⟩
theorem X_sweep {t : Nat} {σ : am_M} (ht : isT t) : ∃ τ, S_X6_sweep [.ref t] σ = some (none, τ) ∧ frP t σ τ ∧ (∀ p, p < 7 → τ.1 (t + 2) p = nI 0) ∧ (∀ s, s < 4 → τ.1 (t + 4) s = nI 0) ∧ τ.1 t 3 = nI 0 ∧ τ.1 t 4 = nI 0 := by
  obtain ⟨k0, k1, k2, k3, k4, k5, k6, l1, l2, l3, l4, l5, l6⟩ := isT_k ht
  obtain ⟨g, a1, a2⟩ := X_fill (h := t + 2) k2 (by omega) σ
  obtain ⟨f, b1, b2'⟩ := X_fill (h := t + 4) k4 (by omega) (am_uA σ (t + 2) g)
  refine ⟨am_uI (am_uI (am_uA (am_uA σ (t + 2) g) (t + 4) f) t 3 (nI 0)) t 4 (nI 0), ?_, ?_, fun p hp => ?_, fun s hs => ?_, ?_, ?_⟩
  · simp (disch := omega) only [g_X6_sweep, ↓e_X6_sweep_0, ↓it_s, ↓y_iload, ↓y_lload, ↓y_aload, ↓y_istore, ↓y_lstore, ↓y_astore, ↓y_iinc, ↓y_cI, ↓y_cL, ↓y_bin, ↓y_binL, ↓y_div, ↓y_divL, ↓y_lshl, ↓y_un, ↓y_i2l, ↓y_lneg, ↓y_l2i, ↓y_lcmp, ↓y_dupI, ↓y_dupR, ↓y_dup2, ↓y_pop, ↓y_goto, ↓y_eq0, ↓y_lt0, ↓y_le0, ↓y_eq, ↓y_lt, ↓y_le, ↓y_switch, ↓y_sw0, ↓y_sw1, ↓y_getI, ↓y_getL, ↓y_getR, ↓y_getT, ↓y_putI, ↓y_putZ, ↓y_putL, ↓y_putT, ↓y_iald, ↓y_bald, ↓y_lald, ↓y_aald, ↓y_iast, ↓y_bast, ↓y_last, ↓y_alen, ↓y_iret, ↓y_zret, ↓y_lret, ↓y_vret, ↓y_svI, ↓y_svL, ↓y_svV, ↓y_ivI, ↓y_ivL, ↓y_ivV, ↓y_max, ↓y_min, ↓y_absL, ↓y_cpI, ↓y_cpL, ↓x_n1I, ↓x_n1L, ↓x_n1R, ↓x_n0I, ↓x_n0L, ↓x_n0R, ↓x_s0, ↓x_s1i, ↓x_s1r, ↓x_s1n, ↓x_s2, ↓x_c0, ↓x_c2, ↓x_tk0, ↓x_tk1, ↓x_rcv, x_rI1, x_rL1, x_rV1, x_rIn, x_rLn, x_rVn, x_rIf, x_rLf, x_rVf, x_40, x_41, x_42, x_43, x_44, ↓reduceIte, if_true, if_false, ao_iadd, ao_isub, ao_imul, ao_iand, ao_ior, ao_ishl, ao_ishr, ao_iushr, ao_ladd, ao_lsub, ao_lmul, ao_land, ao_lor, ao_idiv, ao_irem, ao_ldiv, ao_lrem, ao_ineg, ao_i2b, ao_i2s, Nat.reduceAdd, Nat.reduceMul, Nat.reduceSub, Nat.reduceEqDiff, Nat.reduceLeDiff, and_self, true_and, x_lit, x_ofn, x_z0, x_z1, x_inbT, x_ltT, x_ltF, x_leT, x_leF, x_eqF, x_eqT, x_inb, x_lt, x_le, x_eq, x_cl, x_sub, nI_add, pk_mul, x_m1e, x_m1e', x_m1l, x_m1n, x_m1s, Nat.not_lt_zero, x_zb, x_b0, x_b1, decide_eq_false_iff_not, decide_eq_true_eq, Bool.false_eq_true, Bool.true_eq_false, k0, a1, b1]
  · exact frP_u0 (frP_u0 (frP_uA (frP_uA (frP_rf _ _) (by omega) (by omega)) (by omega) (by omega)) (by omega)) (by omega)
  · rw [uI_n (by omega), uI_n (by omega), uA_n (by omega), uA_s]; exact a2 p (by omega)
  · rw [uI_n (by omega), uI_n (by omega), uA_s]; exact b2' s (by omega)
  · rw [uI_s, up_n (by omega), uI_s, up_s]
  · rw [uI_s, up_s]
/-- r rows are dealt, and k cards of the next -/
def packS (V : Vt) (D : List Nat) (r k : Nat) : Vt := (V.1, (fun p => if p < r then (D.drop (pst D.length p)).take (p + 1) else if p = r then (D.drop (pst D.length r)).take k else []), (fun _ => 0), V.2.2.2)
theorem packS_P (V : Vt) (D : List Nat) (r k p : Nat) : vP (packS V D r k) p = if p < r then (D.drop (pst D.length p)).take (p + 1) else if p = r then (D.drop (pst D.length r)).take k else [] := rfl
theorem packS_s {V : Vt} {D : List Nat} {r k c : Nat} (hc : D[pst D.length r + k]? = some c) : vuP (packS V D r k) r (vP (packS V D r k) r ++ [c]) = packS V D r (k + 1) := by
  unfold vuP
  rw [packS_P, if_neg (Nat.lt_irrefl r), if_pos rfl]
  unfold packS
  simp only [Prod.mk.injEq, true_and, and_true]
  funext p
  by_cases e : p = r
  · subst e
    rw [up_s, if_neg (Nat.lt_irrefl p), if_pos rfl, List.take_add_one, List.getElem?_drop, hc]
    rfl
  · rw [up_n e, if_neg e, if_neg e]
theorem packS_nx {V : Vt} {D : List Nat} {r k : Nat} (hk : k = min (r + 1) (D.length - pst D.length r)) : packS V D r k = packS V D (r + 1) 0 := by
  unfold packS
  simp only [Prod.mk.injEq, true_and, and_true]
  funext p
  by_cases e1 : p < r
  · rw [if_pos e1, if_pos (by omega)]
  · rw [if_neg e1]
    by_cases e2 : p = r
    · subst e2
      rw [if_pos rfl, if_pos (by omega)]
      by_cases h : p + 1 ≤ D.length - pst D.length p
      · rw [hk, Nat.min_eq_left h]
      · rw [List.take_of_length_le (by rw [List.length_drop]; omega), List.take_of_length_le (by rw [List.length_drop]; omega)]
    · rw [if_neg e2, if_neg (by omega), List.take_zero]
      split <;> rfl
theorem packS_len (V : Vt) (D : List Nat) (r k q : Nat) : (vP (packS V D r k) q).length ≤ D.length := by
  rw [packS_P]
  split
  · rw [List.length_take, List.length_drop]; omega
  · split
    · rw [List.length_take, List.length_drop]; omega
    · exact Nat.zero_le _
theorem TP_stock {t c : Nat} {σ : am_M} {V : Vt} (h : TP σ t V) (h0 : σ.1 t 3 = nI 0) (hl : (vP V 7).length < 24) : σ.1 t 4 = nI (vP V 7).length ∧ TP (am_uI (am_uI σ (t + 3) (vP V 7).length (nI c)) t 4 (nI ((vP V 7).length + 1))) t (vuP V 7 (vP V 7 ++ [c])) := by
  obtain ⟨h1, h2, ⟨sf, h3, h4, h5, h6⟩, h7⟩ := h
  have e0 : sf = 0 := (nI_eq (by omega) (by omega)).mp (h3.symm.trans h0)
  subst e0
  rw [Nat.zero_add] at h4 h5
  have e7 : vP (vuP V 7 (vP V 7 ++ [c])) 7 = vP V 7 ++ [c] := vuP_s _ _ _
  have eq : ∀ q, q ≠ 7 → vP (vuP V 7 (vP V 7 ++ [c])) q = vP V q := fun q hq => up_n hq
  refine ⟨h4, fun q hq => ?_, fun q hq => ?_, ⟨0, ?_, ?_, ?_, ?_⟩, fun s hs => ?_⟩
  · rw [uI_n (by omega), uI_n (by omega), eq q (by omega)]; exact h1 q hq
  · rw [uI_n (by omega), uI_n (by omega), eq q (by omega)]; exact h2 q hq
  · rw [uI_s, up_n (by omega), uI_n (by omega)]; exact h0
  · rw [uI_s, up_s, e7, List.length_append, Nat.zero_add]; rfl
  · rw [e7, List.length_append]; simp; omega
  · rw [uI_n (by omega), uI_s, e7]
    exact seg_push h6 c (by omega)
  · rw [uI_n (by omega), uI_n (by omega)]; exact h7 s hs
theorem vuP_vuP (V : Vt) (p : Nat) (l m : List Nat) : vuP (vuP V p l) p m = vuP V p m := by
  unfold vuP
  simp only [Prod.mk.injEq, true_and, and_true]
  funext q
  by_cases e : q = p
  · subst e; rw [up_s, up_s]
  · rw [up_n e, up_n e, up_n e]
theorem packT_end {V : Vt} {D : List Nat} (wn : WN V) : vuP (packS V D (vN V 4) 0) 7 (D.drop (pst D.length (vN V 4))) = packV V D := by
  have h4 := wn.2.2.2.2.1
  unfold vuP packS packV
  simp only [Prod.mk.injEq, true_and, and_true]
  funext p
  by_cases e : p = 7
  · subst e
    rw [up_s, if_neg (by omega), if_pos rfl]
  · rw [up_n e, if_neg e, List.take_zero]
    split
    · rfl
    · split <;> rfl
theorem vuP_id {V : Vt} {p : Nat} {l : List Nat} (h : vP V p = l) : vuP V p l = V := by
  unfold vuP
  rw [up_id h]
theorem X_dealOut {t seed : Nat} {σ : am_M} {V : Vt} (ht : isT t) (h6 : σ.1 t 6 = nI (vN V 0)) (h7 : σ.1 t 7 = nI (vN V 1)) (h11 : σ.1 t 11 = nI (vN V 4)) (wn : WN V) (hs : seed < 65536) :
    ∃ (g : Nat → Int32) (τ : am_M), S_X1_dealOut [.ref 53, .ref t, .int (nI seed)] σ = some (none, τ) ∧ TP τ t (packV V (packD V seed)) ∧ frP t (am_uA σ 61 g) τ := by
  obtain ⟨k0, k1, k2, k3, k4, k5, k6, l1, l2, l3, l4, l5, l6⟩ := isT_k ht
  have h61 : ∀ j, t ≤ j → j < t + 5 → j ≠ 61 := by intro j h1 h2; rcases ht with rfl | rfl | rfl | rfl | rfl | rfl <;> omega
  have h61' : (61 < t ∨ t + 5 ≤ 61) := by rcases ht with rfl | rfl | rfl | rfl | rfl | rfl <;> omega
  obtain ⟨g, a1, a2⟩ := X_mix ht h6 h7 wn hs
  obtain ⟨D, eD⟩ : ∃ D, D = packD V seed := ⟨_, rfl⟩
  have hlen : D.length ≤ 24 := by rw [eD, packD_len]; exact packN_le wn
  rw [← eD] at a1 a2 ⊢
  obtain ⟨σ1, b1, b2', b3, b4, b5, b6⟩ := X_sweep (σ := am_uA σ 61 g) ht
  have hR := wn.2.2.2.2.1
  have hpst := pst_le D.length
  have hP0 : TP σ1 t (packS V D 0 0) := by
    have e : ∀ p, vP (packS V D 0 0) p = [] := fun p => by
      rw [packS_P, if_neg (Nat.not_lt_zero _), List.take_zero]
      split <;> rfl
    refine ⟨fun p hp => ?_, fun p hp => ?_, ⟨0, ?_, ?_, ?_, ?_⟩, fun s hs => ?_⟩
    · rw [e]; exact b3 p hp
    · rw [e]; exact seg_nil
    · exact b5
    · rw [e]; exact b6
    · rw [e]; simp
    · rw [e]; exact seg_nil
    · exact b4 s hs
  -- rows
  obtain ⟨d6, σ2, ⟨hP2, hF2, h32⟩, hr2⟩ := rch_for (hd := hd_X1_dealOut) (p := 17) (n := vN V 4) (C := 8) (fun i (d6 : Option Value) => [some (.ref 53), some (.ref t), some (.int (nI seed)), some (.int (nI D.length)), some (.int (nI (pst D.length i))), some (.int (nI i)), d6]) (fun i _ τ => TP τ t (packS V D i 0) ∧ frP t (am_uA σ 61 g) τ ∧ τ.1 t 3 = nI 0)
    (fun i d6 τ hi hI => by
      obtain ⟨hP, hF, h3⟩ := hI
      obtain ⟨K, eK⟩ : ∃ K, K = min (i + 1) (D.length - pst D.length i) := ⟨_, rfl⟩
      have hpi := hpst i
      have h11' : τ.1 t 11 = nI (vN V 4) := by rw [hF.2.2 11 (by omega), uA_n (h61 t (by omega) (by omega))]; exact h11
      obtain ⟨-, τ2, ⟨hP2, hF2, h32⟩, hr2⟩ := rch_for (hd := hd_X1_dealOut) (p := 36) (n := K) (C := 1) (fun k (_ : Unit) => [some (.ref 53), some (.ref t), some (.int (nI seed)), some (.int (nI D.length)), some (.int (nI (pst D.length i + k))), some (.int (nI i)), some (.int (nI k))]) (fun k _ τ => TP τ t (packS V D i k) ∧ frP t (am_uA σ 61 g) τ ∧ τ.1 t 3 = nI 0)
        (fun k _ τ hk hI => by
          obtain ⟨hP, hF, h3⟩ := hI
          have hlt : pst D.length i + k < D.length := by omega
          have hc : D[pst D.length i + k]? = some D[pst D.length i + k] := List.getElem?_eq_getElem hlt
          obtain ⟨c, ec⟩ : ∃ c, c = D[pst D.length i + k] := ⟨_, rfl⟩
          rw [← ec] at hc
          have hlen2 : (vP (packS V D i k) i).length < 24 := by
            rw [packS_P, if_neg (Nat.lt_irrefl i), if_pos rfl, List.length_take]; omega
          have hlay := X_lay (p := i) (c := c) ht hP (by omega) hlen2
          have hpush := TP_push (p := i) (c := c) hP (fun q hq => by have := packS_len V D i k q; omega) (by omega) hlen2
          rw [packS_s hc] at hpush
          have h61c : τ.1 61 (pst D.length i + k) = nI c := by
            rw [hF.2.1 61 h61', uA_s]
            have := a2 _ _ hc
            rwa [Nat.zero_add] at this
          refine ⟨(), _, ⟨hpush, frP_uI (frP_uI hF (by omega) (by omega)) (by omega) (by omega), by rw [uI_n (by omega), uI_n (by omega)]; exact h3⟩, rch_1 fun B => ?_⟩
          simp (disch := omega) only [↓e_X1_dealOut_36, ↓h_X1_dealOut_36, ↓it_s, ↓y_iload, ↓y_lload, ↓y_aload, ↓y_istore, ↓y_lstore, ↓y_astore, ↓y_iinc, ↓y_cI, ↓y_cL, ↓y_bin, ↓y_binL, ↓y_div, ↓y_divL, ↓y_lshl, ↓y_un, ↓y_i2l, ↓y_lneg, ↓y_l2i, ↓y_lcmp, ↓y_dupI, ↓y_dupR, ↓y_dup2, ↓y_pop, ↓y_goto, ↓y_eq0, ↓y_lt0, ↓y_le0, ↓y_eq, ↓y_lt, ↓y_le, ↓y_switch, ↓y_sw0, ↓y_sw1, ↓y_getI, ↓y_getL, ↓y_getR, ↓y_getT, ↓y_putI, ↓y_putZ, ↓y_putL, ↓y_putT, ↓y_iald, ↓y_bald, ↓y_lald, ↓y_aald, ↓y_iast, ↓y_bast, ↓y_last, ↓y_alen, ↓y_iret, ↓y_zret, ↓y_lret, ↓y_vret, ↓y_svI, ↓y_svL, ↓y_svV, ↓y_ivI, ↓y_ivL, ↓y_ivV, ↓y_max, ↓y_min, ↓y_absL, ↓y_cpI, ↓y_cpL, ↓x_n1I, ↓x_n1L, ↓x_n1R, ↓x_n0I, ↓x_n0L, ↓x_n0R, ↓x_s0, ↓x_s1i, ↓x_s1r, ↓x_s1n, ↓x_s2, ↓x_c0, ↓x_c2, ↓x_tk0, ↓x_tk1, ↓x_rcv, x_rI1, x_rL1, x_rV1, x_rIn, x_rLn, x_rVn, x_rIf, x_rLf, x_rVf, x_40, x_41, x_42, x_43, x_44, ↓reduceIte, if_true, if_false, ao_iadd, ao_isub, ao_imul, ao_iand, ao_ior, ao_ishl, ao_ishr, ao_iushr, ao_ladd, ao_lsub, ao_lmul, ao_land, ao_lor, ao_idiv, ao_irem, ao_ldiv, ao_lrem, ao_ineg, ao_i2b, ao_i2s, Nat.reduceAdd, Nat.reduceMul, Nat.reduceSub, Nat.reduceEqDiff, Nat.reduceLeDiff, and_self, true_and, x_lit, x_ofn, x_z0, x_z1, x_inbT, x_ltT, x_ltF, x_leT, x_leF, x_eqF, x_eqT, x_inb, x_lt, x_le, x_eq, x_cl, x_sub, nI_add, pk_mul, x_m1e, x_m1e', x_m1l, x_m1n, x_m1s, Nat.not_lt_zero, x_zb, x_b0, x_b1, decide_eq_false_iff_not, decide_eq_true_eq, Bool.false_eq_true, Bool.true_eq_false, k0, hlay, h61c, kd_53, kd_61, ln_61, Nat.add_assoc])
        K 0 () τ (by omega) ⟨hP, hF, h3⟩
      rw [packS_nx eK] at hP2
      refine ⟨some (.int (nI K)), τ2, ⟨hP2, hF2, h32⟩, ?_⟩
      have r1 : rch hd_X1_dealOut 0 17 [some (.ref 53), some (.ref t), some (.int (nI seed)), some (.int (nI D.length)), some (.int (nI (pst D.length i))), some (.int (nI i)), d6] τ 36 [some (.ref 53), some (.ref t), some (.int (nI seed)), some (.int (nI D.length)), some (.int (nI (pst D.length i + 0))), some (.int (nI i)), some (.int (nI 0))] τ := rch_0 fun B => by
        simp (disch := omega) only [↓e_X1_dealOut_17, ↓h_X1_dealOut_17, ↓h_X1_dealOut_36, ↓it_s, ↓y_iload, ↓y_lload, ↓y_aload, ↓y_istore, ↓y_lstore, ↓y_astore, ↓y_iinc, ↓y_cI, ↓y_cL, ↓y_bin, ↓y_binL, ↓y_div, ↓y_divL, ↓y_lshl, ↓y_un, ↓y_i2l, ↓y_lneg, ↓y_l2i, ↓y_lcmp, ↓y_dupI, ↓y_dupR, ↓y_dup2, ↓y_pop, ↓y_goto, ↓y_eq0, ↓y_lt0, ↓y_le0, ↓y_eq, ↓y_lt, ↓y_le, ↓y_switch, ↓y_sw0, ↓y_sw1, ↓y_getI, ↓y_getL, ↓y_getR, ↓y_getT, ↓y_putI, ↓y_putZ, ↓y_putL, ↓y_putT, ↓y_iald, ↓y_bald, ↓y_lald, ↓y_aald, ↓y_iast, ↓y_bast, ↓y_last, ↓y_alen, ↓y_iret, ↓y_zret, ↓y_lret, ↓y_vret, ↓y_svI, ↓y_svL, ↓y_svV, ↓y_ivI, ↓y_ivL, ↓y_ivV, ↓y_max, ↓y_min, ↓y_absL, ↓y_cpI, ↓y_cpL, ↓x_n1I, ↓x_n1L, ↓x_n1R, ↓x_n0I, ↓x_n0L, ↓x_n0R, ↓x_s0, ↓x_s1i, ↓x_s1r, ↓x_s1n, ↓x_s2, ↓x_c0, ↓x_c2, ↓x_tk0, ↓x_tk1, ↓x_rcv, x_rI1, x_rL1, x_rV1, x_rIn, x_rLn, x_rVn, x_rIf, x_rLf, x_rVf, x_40, x_41, x_42, x_43, x_44, ↓reduceIte, if_true, if_false, ao_iadd, ao_isub, ao_imul, ao_iand, ao_ior, ao_ishl, ao_ishr, ao_iushr, ao_ladd, ao_lsub, ao_lmul, ao_land, ao_lor, ao_idiv, ao_irem, ao_ldiv, ao_lrem, ao_ineg, ao_i2b, ao_i2s, Nat.reduceAdd, Nat.reduceMul, Nat.reduceSub, Nat.reduceEqDiff, Nat.reduceLeDiff, and_self, true_and, x_lit, x_ofn, x_z0, x_z1, x_inbT, x_ltT, x_ltF, x_leT, x_leF, x_eqF, x_eqT, x_inb, x_lt, x_le, x_eq, x_cl, x_sub, nI_add, pk_mul, x_m1e, x_m1e', x_m1l, x_m1n, x_m1s, Nat.not_lt_zero, x_zb, x_b0, x_b1, decide_eq_false_iff_not, decide_eq_true_eq, Bool.false_eq_true, Bool.true_eq_false, k0, h11', Nat.add_zero]
      have r2 : rch hd_X1_dealOut 1 36 [some (.ref 53), some (.ref t), some (.int (nI seed)), some (.int (nI D.length)), some (.int (nI (pst D.length i + K))), some (.int (nI i)), some (.int (nI K))] τ2 17 [some (.ref 53), some (.ref t), some (.int (nI seed)), some (.int (nI D.length)), some (.int (nI (pst D.length (i + 1)))), some (.int (nI (i + 1))), some (.int (nI K))] τ2 := rch_1 fun B => by
        have ep : pst D.length (i + 1) = pst D.length i + K := by rw [eK]; rfl
        rw [ep]
        by_cases hK : K = i + 1
        · simp (disch := omega) only [↓e_X1_dealOut_36, ↓e_X1_dealOut_78, ↓h_X1_dealOut_36, ↓it_s, ↓y_iload, ↓y_lload, ↓y_aload, ↓y_istore, ↓y_lstore, ↓y_astore, ↓y_iinc, ↓y_cI, ↓y_cL, ↓y_bin, ↓y_binL, ↓y_div, ↓y_divL, ↓y_lshl, ↓y_un, ↓y_i2l, ↓y_lneg, ↓y_l2i, ↓y_lcmp, ↓y_dupI, ↓y_dupR, ↓y_dup2, ↓y_pop, ↓y_goto, ↓y_eq0, ↓y_lt0, ↓y_le0, ↓y_eq, ↓y_lt, ↓y_le, ↓y_switch, ↓y_sw0, ↓y_sw1, ↓y_getI, ↓y_getL, ↓y_getR, ↓y_getT, ↓y_putI, ↓y_putZ, ↓y_putL, ↓y_putT, ↓y_iald, ↓y_bald, ↓y_lald, ↓y_aald, ↓y_iast, ↓y_bast, ↓y_last, ↓y_alen, ↓y_iret, ↓y_zret, ↓y_lret, ↓y_vret, ↓y_svI, ↓y_svL, ↓y_svV, ↓y_ivI, ↓y_ivL, ↓y_ivV, ↓y_max, ↓y_min, ↓y_absL, ↓y_cpI, ↓y_cpL, ↓x_n1I, ↓x_n1L, ↓x_n1R, ↓x_n0I, ↓x_n0L, ↓x_n0R, ↓x_s0, ↓x_s1i, ↓x_s1r, ↓x_s1n, ↓x_s2, ↓x_c0, ↓x_c2, ↓x_tk0, ↓x_tk1, ↓x_rcv, x_rI1, x_rL1, x_rV1, x_rIn, x_rLn, x_rVn, x_rIf, x_rLf, x_rVf, x_40, x_41, x_42, x_43, x_44, ↓reduceIte, if_true, if_false, ao_iadd, ao_isub, ao_imul, ao_iand, ao_ior, ao_ishl, ao_ishr, ao_iushr, ao_ladd, ao_lsub, ao_lmul, ao_land, ao_lor, ao_idiv, ao_irem, ao_ldiv, ao_lrem, ao_ineg, ao_i2b, ao_i2s, Nat.reduceAdd, Nat.reduceMul, Nat.reduceSub, Nat.reduceEqDiff, Nat.reduceLeDiff, and_self, true_and, x_lit, x_ofn, x_z0, x_z1, x_inbT, x_ltT, x_ltF, x_leT, x_leF, x_eqF, x_eqT, x_inb, x_lt, x_le, x_eq, x_cl, x_sub, nI_add, pk_mul, x_m1e, x_m1e', x_m1l, x_m1n, x_m1s, Nat.not_lt_zero, x_zb, x_b0, x_b1, decide_eq_false_iff_not, decide_eq_true_eq, Bool.false_eq_true, Bool.true_eq_false]
        · have : pst D.length i + K = D.length := by omega
          simp (disch := omega) only [↓e_X1_dealOut_36, ↓e_X1_dealOut_78, ↓h_X1_dealOut_36, ↓it_s, ↓y_iload, ↓y_lload, ↓y_aload, ↓y_istore, ↓y_lstore, ↓y_astore, ↓y_iinc, ↓y_cI, ↓y_cL, ↓y_bin, ↓y_binL, ↓y_div, ↓y_divL, ↓y_lshl, ↓y_un, ↓y_i2l, ↓y_lneg, ↓y_l2i, ↓y_lcmp, ↓y_dupI, ↓y_dupR, ↓y_dup2, ↓y_pop, ↓y_goto, ↓y_eq0, ↓y_lt0, ↓y_le0, ↓y_eq, ↓y_lt, ↓y_le, ↓y_switch, ↓y_sw0, ↓y_sw1, ↓y_getI, ↓y_getL, ↓y_getR, ↓y_getT, ↓y_putI, ↓y_putZ, ↓y_putL, ↓y_putT, ↓y_iald, ↓y_bald, ↓y_lald, ↓y_aald, ↓y_iast, ↓y_bast, ↓y_last, ↓y_alen, ↓y_iret, ↓y_zret, ↓y_lret, ↓y_vret, ↓y_svI, ↓y_svL, ↓y_svV, ↓y_ivI, ↓y_ivL, ↓y_ivV, ↓y_max, ↓y_min, ↓y_absL, ↓y_cpI, ↓y_cpL, ↓x_n1I, ↓x_n1L, ↓x_n1R, ↓x_n0I, ↓x_n0L, ↓x_n0R, ↓x_s0, ↓x_s1i, ↓x_s1r, ↓x_s1n, ↓x_s2, ↓x_c0, ↓x_c2, ↓x_tk0, ↓x_tk1, ↓x_rcv, x_rI1, x_rL1, x_rV1, x_rIn, x_rLn, x_rVn, x_rIf, x_rLf, x_rVf, x_40, x_41, x_42, x_43, x_44, ↓reduceIte, if_true, if_false, ao_iadd, ao_isub, ao_imul, ao_iand, ao_ior, ao_ishl, ao_ishr, ao_iushr, ao_ladd, ao_lsub, ao_lmul, ao_land, ao_lor, ao_idiv, ao_irem, ao_ldiv, ao_lrem, ao_ineg, ao_i2b, ao_i2s, Nat.reduceAdd, Nat.reduceMul, Nat.reduceSub, Nat.reduceEqDiff, Nat.reduceLeDiff, and_self, true_and, x_lit, x_ofn, x_z0, x_z1, x_inbT, x_ltT, x_ltF, x_leT, x_leF, x_eqF, x_eqT, x_inb, x_lt, x_le, x_eq, x_cl, x_sub, nI_add, pk_mul, x_m1e, x_m1e', x_m1l, x_m1n, x_m1s, Nat.not_lt_zero, x_zb, x_b0, x_b1, decide_eq_false_iff_not, decide_eq_true_eq, Bool.false_eq_true, Bool.true_eq_false]
      exact rch_mono (rch_tr r1 (rch_tr hr2 r2)) (by omega))
    (vN V 4) 0 none σ1 (by omega) ⟨hP0, b2', b5⟩
  -- the stock
  have h11' : σ2.1 t 11 = nI (vN V 4) := by rw [hF2.2.2 11 (by omega), uA_n (h61 t (by omega) (by omega))]; exact h11
  have hpR := hpst (vN V 4)
  have e70 : vP (packS V D (vN V 4) 0) 7 = [] := by rw [packS_P, if_neg (by omega), if_neg (by omega)]
  obtain ⟨-, σ3, ⟨hP3, hF3, -⟩, hr3⟩ := rch_for (hd := hd_X1_dealOut) (p := 88) (n := D.length - pst D.length (vN V 4)) (C := 1) (fun k (_ : Unit) => [some (.ref 53), some (.ref t), some (.int (nI seed)), some (.int (nI D.length)), some (.int (nI (pst D.length (vN V 4)))), some (.int (nI (pst D.length (vN V 4) + k))), d6]) (fun k _ τ => TP τ t (vuP (packS V D (vN V 4) 0) 7 ((D.drop (pst D.length (vN V 4))).take k)) ∧ frP t (am_uA σ 61 g) τ ∧ τ.1 t 3 = nI 0)
    (fun k _ τ hk hI => by
      obtain ⟨hP, hF, h3⟩ := hI
      have hlt : pst D.length (vN V 4) + k < D.length := by omega
      have hc : D[pst D.length (vN V 4) + k]? = some D[pst D.length (vN V 4) + k] := List.getElem?_eq_getElem hlt
      obtain ⟨c, ec⟩ : ∃ c, c = D[pst D.length (vN V 4) + k] := ⟨_, rfl⟩
      rw [← ec] at hc
      have e7 : vP (vuP (packS V D (vN V 4) 0) 7 ((D.drop (pst D.length (vN V 4))).take k)) 7 = (D.drop (pst D.length (vN V 4))).take k := vuP_s _ _ _
      have el : (vP (vuP (packS V D (vN V 4) 0) 7 ((D.drop (pst D.length (vN V 4))).take k)) 7).length = k := by rw [e7, List.length_take, List.length_drop]; omega
      obtain ⟨q1, q2⟩ := TP_stock (c := c) hP h3 (by rw [el]; omega)
      rw [el] at q1 q2
      rw [e7, vuP_vuP] at q2
      have et : (D.drop (pst D.length (vN V 4))).take k ++ [c] = (D.drop (pst D.length (vN V 4))).take (k + 1) := by
        rw [List.take_add_one, List.getElem?_drop, hc]; rfl
      rw [et] at q2
      have hlay := X_layInStock (c := c) ht q1 (by omega)
      have h61c : τ.1 61 (pst D.length (vN V 4) + k) = nI c := by
        rw [hF.2.1 61 h61', uA_s]
        have := a2 _ _ hc
        rwa [Nat.zero_add] at this
      refine ⟨(), _, ⟨q2, frP_u0 (frP_uI hF (by omega) (by omega)) (by omega), by rw [uI_s, up_n (by omega), uI_n (by omega)]; exact h3⟩, rch_1 fun B => ?_⟩
      simp (disch := omega) only [↓e_X1_dealOut_88, ↓h_X1_dealOut_88, ↓it_s, ↓y_iload, ↓y_lload, ↓y_aload, ↓y_istore, ↓y_lstore, ↓y_astore, ↓y_iinc, ↓y_cI, ↓y_cL, ↓y_bin, ↓y_binL, ↓y_div, ↓y_divL, ↓y_lshl, ↓y_un, ↓y_i2l, ↓y_lneg, ↓y_l2i, ↓y_lcmp, ↓y_dupI, ↓y_dupR, ↓y_dup2, ↓y_pop, ↓y_goto, ↓y_eq0, ↓y_lt0, ↓y_le0, ↓y_eq, ↓y_lt, ↓y_le, ↓y_switch, ↓y_sw0, ↓y_sw1, ↓y_getI, ↓y_getL, ↓y_getR, ↓y_getT, ↓y_putI, ↓y_putZ, ↓y_putL, ↓y_putT, ↓y_iald, ↓y_bald, ↓y_lald, ↓y_aald, ↓y_iast, ↓y_bast, ↓y_last, ↓y_alen, ↓y_iret, ↓y_zret, ↓y_lret, ↓y_vret, ↓y_svI, ↓y_svL, ↓y_svV, ↓y_ivI, ↓y_ivL, ↓y_ivV, ↓y_max, ↓y_min, ↓y_absL, ↓y_cpI, ↓y_cpL, ↓x_n1I, ↓x_n1L, ↓x_n1R, ↓x_n0I, ↓x_n0L, ↓x_n0R, ↓x_s0, ↓x_s1i, ↓x_s1r, ↓x_s1n, ↓x_s2, ↓x_c0, ↓x_c2, ↓x_tk0, ↓x_tk1, ↓x_rcv, x_rI1, x_rL1, x_rV1, x_rIn, x_rLn, x_rVn, x_rIf, x_rLf, x_rVf, x_40, x_41, x_42, x_43, x_44, ↓reduceIte, if_true, if_false, ao_iadd, ao_isub, ao_imul, ao_iand, ao_ior, ao_ishl, ao_ishr, ao_iushr, ao_ladd, ao_lsub, ao_lmul, ao_land, ao_lor, ao_idiv, ao_irem, ao_ldiv, ao_lrem, ao_ineg, ao_i2b, ao_i2s, Nat.reduceAdd, Nat.reduceMul, Nat.reduceSub, Nat.reduceEqDiff, Nat.reduceLeDiff, and_self, true_and, x_lit, x_ofn, x_z0, x_z1, x_inbT, x_ltT, x_ltF, x_leT, x_leF, x_eqF, x_eqT, x_inb, x_lt, x_le, x_eq, x_cl, x_sub, nI_add, pk_mul, x_m1e, x_m1e', x_m1l, x_m1n, x_m1s, Nat.not_lt_zero, x_zb, x_b0, x_b1, decide_eq_false_iff_not, decide_eq_true_eq, Bool.false_eq_true, Bool.true_eq_false, k0, hlay, h61c, kd_53, kd_61, ln_61, Nat.add_assoc])
    (D.length - pst D.length (vN V 4)) 0 () σ2 (by omega) ⟨by rw [List.take_zero, vuP_id e70]; exact hP2, hF2, h32⟩
  rw [List.take_of_length_le (by rw [List.length_drop]; omega), packT_end wn] at hP3
  refine ⟨g, σ3, ?_, hP3, hF3⟩
  have r1 : rch hd_X1_dealOut 0 17 [some (.ref 53), some (.ref t), some (.int (nI seed)), some (.int (nI D.length)), some (.int (nI (pst D.length (vN V 4)))), some (.int (nI (vN V 4))), d6] σ2 88 [some (.ref 53), some (.ref t), some (.int (nI seed)), some (.int (nI D.length)), some (.int (nI (pst D.length (vN V 4)))), some (.int (nI (pst D.length (vN V 4) + 0))), d6] σ2 := rch_0 fun B => by
    simp (disch := omega) only [↓e_X1_dealOut_17, ↓e_X1_dealOut_84, ↓h_X1_dealOut_17, ↓h_X1_dealOut_88, ↓it_s, ↓y_iload, ↓y_lload, ↓y_aload, ↓y_istore, ↓y_lstore, ↓y_astore, ↓y_iinc, ↓y_cI, ↓y_cL, ↓y_bin, ↓y_binL, ↓y_div, ↓y_divL, ↓y_lshl, ↓y_un, ↓y_i2l, ↓y_lneg, ↓y_l2i, ↓y_lcmp, ↓y_dupI, ↓y_dupR, ↓y_dup2, ↓y_pop, ↓y_goto, ↓y_eq0, ↓y_lt0, ↓y_le0, ↓y_eq, ↓y_lt, ↓y_le, ↓y_switch, ↓y_sw0, ↓y_sw1, ↓y_getI, ↓y_getL, ↓y_getR, ↓y_getT, ↓y_putI, ↓y_putZ, ↓y_putL, ↓y_putT, ↓y_iald, ↓y_bald, ↓y_lald, ↓y_aald, ↓y_iast, ↓y_bast, ↓y_last, ↓y_alen, ↓y_iret, ↓y_zret, ↓y_lret, ↓y_vret, ↓y_svI, ↓y_svL, ↓y_svV, ↓y_ivI, ↓y_ivL, ↓y_ivV, ↓y_max, ↓y_min, ↓y_absL, ↓y_cpI, ↓y_cpL, ↓x_n1I, ↓x_n1L, ↓x_n1R, ↓x_n0I, ↓x_n0L, ↓x_n0R, ↓x_s0, ↓x_s1i, ↓x_s1r, ↓x_s1n, ↓x_s2, ↓x_c0, ↓x_c2, ↓x_tk0, ↓x_tk1, ↓x_rcv, x_rI1, x_rL1, x_rV1, x_rIn, x_rLn, x_rVn, x_rIf, x_rLf, x_rVf, x_40, x_41, x_42, x_43, x_44, ↓reduceIte, if_true, if_false, ao_iadd, ao_isub, ao_imul, ao_iand, ao_ior, ao_ishl, ao_ishr, ao_iushr, ao_ladd, ao_lsub, ao_lmul, ao_land, ao_lor, ao_idiv, ao_irem, ao_ldiv, ao_lrem, ao_ineg, ao_i2b, ao_i2s, Nat.reduceAdd, Nat.reduceMul, Nat.reduceSub, Nat.reduceEqDiff, Nat.reduceLeDiff, and_self, true_and, x_lit, x_ofn, x_z0, x_z1, x_inbT, x_ltT, x_ltF, x_leT, x_leF, x_eqF, x_eqT, x_inb, x_lt, x_le, x_eq, x_cl, x_sub, nI_add, pk_mul, x_m1e, x_m1e', x_m1l, x_m1n, x_m1s, Nat.not_lt_zero, x_zb, x_b0, x_b1, decide_eq_false_iff_not, decide_eq_true_eq, Bool.false_eq_true, Bool.true_eq_false, k0, h11', Nat.add_zero]
  have hf := rch_fin hr2 (rch_fin r1 (rch_fin hr3 (fin_0 (r := some (none, σ3)) fun B => by
    simp (disch := omega) only [↓e_X1_dealOut_88, ↓e_X1_dealOut_118, ↓h_X1_dealOut_88, ↓it_s, ↓y_iload, ↓y_lload, ↓y_aload, ↓y_istore, ↓y_lstore, ↓y_astore, ↓y_iinc, ↓y_cI, ↓y_cL, ↓y_bin, ↓y_binL, ↓y_div, ↓y_divL, ↓y_lshl, ↓y_un, ↓y_i2l, ↓y_lneg, ↓y_l2i, ↓y_lcmp, ↓y_dupI, ↓y_dupR, ↓y_dup2, ↓y_pop, ↓y_goto, ↓y_eq0, ↓y_lt0, ↓y_le0, ↓y_eq, ↓y_lt, ↓y_le, ↓y_switch, ↓y_sw0, ↓y_sw1, ↓y_getI, ↓y_getL, ↓y_getR, ↓y_getT, ↓y_putI, ↓y_putZ, ↓y_putL, ↓y_putT, ↓y_iald, ↓y_bald, ↓y_lald, ↓y_aald, ↓y_iast, ↓y_bast, ↓y_last, ↓y_alen, ↓y_iret, ↓y_zret, ↓y_lret, ↓y_vret, ↓y_svI, ↓y_svL, ↓y_svV, ↓y_ivI, ↓y_ivL, ↓y_ivV, ↓y_max, ↓y_min, ↓y_absL, ↓y_cpI, ↓y_cpL, ↓x_n1I, ↓x_n1L, ↓x_n1R, ↓x_n0I, ↓x_n0L, ↓x_n0R, ↓x_s0, ↓x_s1i, ↓x_s1r, ↓x_s1n, ↓x_s2, ↓x_c0, ↓x_c2, ↓x_tk0, ↓x_tk1, ↓x_rcv, x_rI1, x_rL1, x_rV1, x_rIn, x_rLn, x_rVn, x_rIf, x_rLf, x_rVf, x_40, x_41, x_42, x_43, x_44, ↓reduceIte, if_true, if_false, ao_iadd, ao_isub, ao_imul, ao_iand, ao_ior, ao_ishl, ao_ishr, ao_iushr, ao_ladd, ao_lsub, ao_lmul, ao_land, ao_lor, ao_idiv, ao_irem, ao_ldiv, ao_lrem, ao_ineg, ao_i2b, ao_i2s, Nat.reduceAdd, Nat.reduceMul, Nat.reduceSub, Nat.reduceEqDiff, Nat.reduceLeDiff, and_self, true_and, x_lit, x_ofn, x_z0, x_z1, x_inbT, x_ltT, x_ltF, x_leT, x_leF, x_eqF, x_eqT, x_inb, x_lt, x_le, x_eq, x_cl, x_sub, nI_add, pk_mul, x_m1e, x_m1e', x_m1l, x_m1n, x_m1s, Nat.not_lt_zero, x_zb, x_b0, x_b1, decide_eq_false_iff_not, decide_eq_true_eq, Bool.false_eq_true, Bool.true_eq_false])))
  rw [← fin_run hf (by unfold am_fuel; omega)]
  simp (disch := omega) only [g_X1_dealOut, ↓e_X1_dealOut_0, ↓h_X1_dealOut_17, ↓it_s, ↓y_iload, ↓y_lload, ↓y_aload, ↓y_istore, ↓y_lstore, ↓y_astore, ↓y_iinc, ↓y_cI, ↓y_cL, ↓y_bin, ↓y_binL, ↓y_div, ↓y_divL, ↓y_lshl, ↓y_un, ↓y_i2l, ↓y_lneg, ↓y_l2i, ↓y_lcmp, ↓y_dupI, ↓y_dupR, ↓y_dup2, ↓y_pop, ↓y_goto, ↓y_eq0, ↓y_lt0, ↓y_le0, ↓y_eq, ↓y_lt, ↓y_le, ↓y_switch, ↓y_sw0, ↓y_sw1, ↓y_getI, ↓y_getL, ↓y_getR, ↓y_getT, ↓y_putI, ↓y_putZ, ↓y_putL, ↓y_putT, ↓y_iald, ↓y_bald, ↓y_lald, ↓y_aald, ↓y_iast, ↓y_bast, ↓y_last, ↓y_alen, ↓y_iret, ↓y_zret, ↓y_lret, ↓y_vret, ↓y_svI, ↓y_svL, ↓y_svV, ↓y_ivI, ↓y_ivL, ↓y_ivV, ↓y_max, ↓y_min, ↓y_absL, ↓y_cpI, ↓y_cpL, ↓x_n1I, ↓x_n1L, ↓x_n1R, ↓x_n0I, ↓x_n0L, ↓x_n0R, ↓x_s0, ↓x_s1i, ↓x_s1r, ↓x_s1n, ↓x_s2, ↓x_c0, ↓x_c2, ↓x_tk0, ↓x_tk1, ↓x_rcv, x_rI1, x_rL1, x_rV1, x_rIn, x_rLn, x_rVn, x_rIf, x_rLf, x_rVf, x_40, x_41, x_42, x_43, x_44, ↓reduceIte, if_true, if_false, ao_iadd, ao_isub, ao_imul, ao_iand, ao_ior, ao_ishl, ao_ishr, ao_iushr, ao_ladd, ao_lsub, ao_lmul, ao_land, ao_lor, ao_idiv, ao_irem, ao_ldiv, ao_lrem, ao_ineg, ao_i2b, ao_i2s, Nat.reduceAdd, Nat.reduceMul, Nat.reduceSub, Nat.reduceEqDiff, Nat.reduceLeDiff, and_self, true_and, x_lit, k0, a1, b1, kd_53]
  rfl
/-! what a run leaves -/
noncomputable def runT (V : Vt) : Vt := Classical.epsilon (fun T => ∃ ps, runL V ps = some T ∧ NF T)
theorem runT_eq {V T : Vt} {ps : List Nat} (wc : WC V) (h : runL V ps = some T) (hn : NF T) : runT V = T := by
  have h1 : ∃ qs, runL V qs = some (runT V) ∧ NF (runT V) := Classical.epsilon_spec (p := fun T => ∃ ps, runL V ps = some T ∧ NF T) ⟨T, ps, h, hn⟩
  obtain ⟨qs, h2, h3⟩ := h1
  exact (run_uniq qs V _ T ps wc h2 h3 h hn).1
/-- the ranks of a suit that a run brings home -/
noncomputable def rise (V : Vt) (s : Nat) : Nat := sumR (vH V s) (vH (runT V) s)
theorem X_tryOut {t seed : Nat} {σ : am_M} {V : Vt} (ht : isT t) (h54 : t ≠ 54) (h6 : σ.1 t 6 = nI (vN V 0)) (h7 : σ.1 t 7 = nI (vN V 1)) (h11 : σ.1 t 11 = nI (vN V 4)) (wn : WN V) (hs : seed < 65536) :
    ∃ τ, S_X1_tryOut [.ref 53, .ref t, .int (nI seed)] σ = some (none, τ) ∧ TP τ 54 (packV V (packD V seed)) ∧ RX τ 54 (packV V (packD V seed)) (runT (packV V (packD V seed))) ∧ (∀ s, vH (packV V (packD V seed)) s ≤ vH (runT (packV V (packD V seed))) s) ∧ τ.2 = σ.2 ∧ ∀ j, (j < 54 ∨ 62 ≤ j) → τ.1 j = σ.1 j := by
  have t54 : isT 54 := Or.inr (Or.inr (Or.inl rfl))
  obtain ⟨k0, -⟩ := isT_k ht
  obtain ⟨p1, p2⟩ := packD_ok wn seed
  have wc := WC_pack wn p1 p2
  obtain ⟨σ1, e1⟩ : ∃ σ1, σ1 = am_uI (am_uI (am_uI σ 54 6 (nI (vN V 0))) 54 7 (nI (vN V 1))) 54 11 (nI (vN V 4)) := ⟨_, rfl⟩
  have hc : S_X6_copyShape [.ref 54, .ref t] σ = some (none, σ1) := by
    rw [e1]
    simp (disch := omega) only [g_X6_copyShape, ↓e_X6_copyShape_0, ↓it_s, ↓y_iload, ↓y_lload, ↓y_aload, ↓y_istore, ↓y_lstore, ↓y_astore, ↓y_iinc, ↓y_cI, ↓y_cL, ↓y_bin, ↓y_binL, ↓y_div, ↓y_divL, ↓y_lshl, ↓y_un, ↓y_i2l, ↓y_lneg, ↓y_l2i, ↓y_lcmp, ↓y_dupI, ↓y_dupR, ↓y_dup2, ↓y_pop, ↓y_goto, ↓y_eq0, ↓y_lt0, ↓y_le0, ↓y_eq, ↓y_lt, ↓y_le, ↓y_switch, ↓y_sw0, ↓y_sw1, ↓y_getI, ↓y_getL, ↓y_getR, ↓y_getT, ↓y_putI, ↓y_putZ, ↓y_putL, ↓y_putT, ↓y_iald, ↓y_bald, ↓y_lald, ↓y_aald, ↓y_iast, ↓y_bast, ↓y_last, ↓y_alen, ↓y_iret, ↓y_zret, ↓y_lret, ↓y_vret, ↓y_svI, ↓y_svL, ↓y_svV, ↓y_ivI, ↓y_ivL, ↓y_ivV, ↓y_max, ↓y_min, ↓y_absL, ↓y_cpI, ↓y_cpL, ↓x_n1I, ↓x_n1L, ↓x_n1R, ↓x_n0I, ↓x_n0L, ↓x_n0R, ↓x_s0, ↓x_s1i, ↓x_s1r, ↓x_s1n, ↓x_s2, ↓x_c0, ↓x_c2, ↓x_tk0, ↓x_tk1, ↓x_rcv, x_rI1, x_rL1, x_rV1, x_rIn, x_rLn, x_rVn, x_rIf, x_rLf, x_rVf, x_40, x_41, x_42, x_43, x_44, ↓reduceIte, if_true, if_false, ao_iadd, ao_isub, ao_imul, ao_iand, ao_ior, ao_ishl, ao_ishr, ao_iushr, ao_ladd, ao_lsub, ao_lmul, ao_land, ao_lor, ao_idiv, ao_irem, ao_ldiv, ao_lrem, ao_ineg, ao_i2b, ao_i2s, Nat.reduceAdd, Nat.reduceMul, Nat.reduceSub, Nat.reduceEqDiff, Nat.reduceLeDiff, and_self, true_and, x_lit, x_ofn, x_z0, x_z1, x_inbT, x_ltT, x_ltF, x_leT, x_leF, x_eqF, x_eqT, x_inb, x_lt, x_le, x_eq, x_cl, x_sub, nI_add, pk_mul, x_m1e, x_m1e', x_m1l, x_m1n, x_m1s, Nat.not_lt_zero, x_zb, x_b0, x_b1, decide_eq_false_iff_not, decide_eq_true_eq, Bool.false_eq_true, Bool.true_eq_false, k0, kd_54, uI_n, h6, h7, h11]
  obtain ⟨g, σ2, a1, a2, a3⟩ := X_dealOut (t := 54) (σ := σ1) (V := V) t54 (by rw [e1, uI_s, up_n (by omega), uI_s, up_n (by omega), uI_s, up_s]) (by rw [e1, uI_s, up_n (by omega), uI_s, up_s]) (by rw [e1, uI_s, up_s]) wn hs
  obtain ⟨ps, T, σ3, b1, b2', b3, b4, b5⟩ := X_ripen t54 wc a2
  have eT := runT_eq wc b2' b3
  refine ⟨σ3, ?_, TP_fr a2 (fun j q1 q2 => b5.2 j (by omega) (by omega)), by rw [eT]; exact b4, fun s => by rw [eT]; exact (runL_hsum ps _ _ wc b2').2 s, ?_, fun j hj => ?_⟩
  · simp (disch := omega) only [g_X1_tryOut, ↓e_X1_tryOut_0, ↓it_s, ↓y_iload, ↓y_lload, ↓y_aload, ↓y_istore, ↓y_lstore, ↓y_astore, ↓y_iinc, ↓y_cI, ↓y_cL, ↓y_bin, ↓y_binL, ↓y_div, ↓y_divL, ↓y_lshl, ↓y_un, ↓y_i2l, ↓y_lneg, ↓y_l2i, ↓y_lcmp, ↓y_dupI, ↓y_dupR, ↓y_dup2, ↓y_pop, ↓y_goto, ↓y_eq0, ↓y_lt0, ↓y_le0, ↓y_eq, ↓y_lt, ↓y_le, ↓y_switch, ↓y_sw0, ↓y_sw1, ↓y_getI, ↓y_getL, ↓y_getR, ↓y_getT, ↓y_putI, ↓y_putZ, ↓y_putL, ↓y_putT, ↓y_iald, ↓y_bald, ↓y_lald, ↓y_aald, ↓y_iast, ↓y_bast, ↓y_last, ↓y_alen, ↓y_iret, ↓y_zret, ↓y_lret, ↓y_vret, ↓y_svI, ↓y_svL, ↓y_svV, ↓y_ivI, ↓y_ivL, ↓y_ivV, ↓y_max, ↓y_min, ↓y_absL, ↓y_cpI, ↓y_cpL, ↓x_n1I, ↓x_n1L, ↓x_n1R, ↓x_n0I, ↓x_n0L, ↓x_n0R, ↓x_s0, ↓x_s1i, ↓x_s1r, ↓x_s1n, ↓x_s2, ↓x_c0, ↓x_c2, ↓x_tk0, ↓x_tk1, ↓x_rcv, x_rI1, x_rL1, x_rV1, x_rIn, x_rLn, x_rVn, x_rIf, x_rLf, x_rVf, x_40, x_41, x_42, x_43, x_44, ↓reduceIte, if_true, if_false, ao_iadd, ao_isub, ao_imul, ao_iand, ao_ior, ao_ishl, ao_ishr, ao_iushr, ao_ladd, ao_lsub, ao_lmul, ao_land, ao_lor, ao_idiv, ao_irem, ao_ldiv, ao_lrem, ao_ineg, ao_i2b, ao_i2s, Nat.reduceAdd, Nat.reduceMul, Nat.reduceSub, Nat.reduceEqDiff, Nat.reduceLeDiff, and_self, true_and, x_lit, x_ofn, x_z0, x_z1, x_inbT, x_ltT, x_ltF, x_leT, x_leF, x_eqF, x_eqT, x_inb, x_lt, x_le, x_eq, x_cl, x_sub, nI_add, pk_mul, x_m1e, x_m1e', x_m1l, x_m1n, x_m1s, Nat.not_lt_zero, x_zb, x_b0, x_b1, decide_eq_false_iff_not, decide_eq_true_eq, Bool.false_eq_true, Bool.true_eq_false, kd_53, kd_54, hc, a1, b1]
  · rw [b5.1, a3.1, e1]; rfl
  · rw [b5.2 j (by omega) (by omega), a3.2.1 j (by omega), uA_n (by omega), e1, uI_n (by omega), uI_n (by omega), uI_n (by omega)]
theorem X_wetsOf {s : Nat} {τ : am_M} {P : Vt} (hs : s < 4) (wc : WC P) (hP : TP τ 54 P) (hR : RX τ 54 P (runT P)) (hle : ∀ s, vH P s ≤ vH (runT P) s) : S_X1_wetsOf [.ref 53, .int (nI s)] τ = some (some (.int (nI (rise P s))), τ) := by
  have t54 : isT 54 := Or.inr (Or.inr (Or.inl rfl))
  have h := X_riseRanks t54 wc hP hR hs (hle s)
  simp (disch := omega) only [g_X1_wetsOf, ↓e_X1_wetsOf_0, ↓it_s, ↓y_iload, ↓y_lload, ↓y_aload, ↓y_istore, ↓y_lstore, ↓y_astore, ↓y_iinc, ↓y_cI, ↓y_cL, ↓y_bin, ↓y_binL, ↓y_div, ↓y_divL, ↓y_lshl, ↓y_un, ↓y_i2l, ↓y_lneg, ↓y_l2i, ↓y_lcmp, ↓y_dupI, ↓y_dupR, ↓y_dup2, ↓y_pop, ↓y_goto, ↓y_eq0, ↓y_lt0, ↓y_le0, ↓y_eq, ↓y_lt, ↓y_le, ↓y_switch, ↓y_sw0, ↓y_sw1, ↓y_getI, ↓y_getL, ↓y_getR, ↓y_getT, ↓y_putI, ↓y_putZ, ↓y_putL, ↓y_putT, ↓y_iald, ↓y_bald, ↓y_lald, ↓y_aald, ↓y_iast, ↓y_bast, ↓y_last, ↓y_alen, ↓y_iret, ↓y_zret, ↓y_lret, ↓y_vret, ↓y_svI, ↓y_svL, ↓y_svV, ↓y_ivI, ↓y_ivL, ↓y_ivV, ↓y_max, ↓y_min, ↓y_absL, ↓y_cpI, ↓y_cpL, ↓x_n1I, ↓x_n1L, ↓x_n1R, ↓x_n0I, ↓x_n0L, ↓x_n0R, ↓x_s0, ↓x_s1i, ↓x_s1r, ↓x_s1n, ↓x_s2, ↓x_c0, ↓x_c2, ↓x_tk0, ↓x_tk1, ↓x_rcv, x_rI1, x_rL1, x_rV1, x_rIn, x_rLn, x_rVn, x_rIf, x_rLf, x_rVf, x_40, x_41, x_42, x_43, x_44, ↓reduceIte, if_true, if_false, ao_iadd, ao_isub, ao_imul, ao_iand, ao_ior, ao_ishl, ao_ishr, ao_iushr, ao_ladd, ao_lsub, ao_lmul, ao_land, ao_lor, ao_idiv, ao_irem, ao_ldiv, ao_lrem, ao_ineg, ao_i2b, ao_i2s, Nat.reduceAdd, Nat.reduceMul, Nat.reduceSub, Nat.reduceEqDiff, Nat.reduceLeDiff, and_self, true_and, x_lit, x_ofn, x_z0, x_z1, x_inbT, x_ltT, x_ltF, x_leT, x_leF, x_eqF, x_eqT, x_inb, x_lt, x_le, x_eq, x_cl, x_sub, nI_add, pk_mul, x_m1e, x_m1e', x_m1l, x_m1n, x_m1s, Nat.not_lt_zero, x_zb, x_b0, x_b1, decide_eq_false_iff_not, decide_eq_true_eq, Bool.false_eq_true, Bool.true_eq_false, kd_53, kd_54, h]
  rfl
