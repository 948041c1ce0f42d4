/-! the model: a pack is mixed and dealt -/
theorem M_mix {σ : am_M} {d m : Nat} (h : σ.1 123 31 = nI d) (hd : d < 65536) (hm : 0 < m) (hm2 : m < 1000) : S_X11_mix [.ref 123, .int (nI m)] σ = some (some (.int (nI (stirN d / 8 % m))), am_uI σ 123 31 (nI (stirN d))) := by
  have hs := stirN_lt d
  have e1 : nI d * nI 2971 + nI 10711 - (nI d * nI 2971 + nI 10711) / nI 65536 * nI 65536 = nI (stirN d) := by
    rw [pk_mul, nI_add, x_rem (by omega) (by omega) (by omega)]; rfl
  have e8 : nI (stirN d) / nI 8 = nI (stirN d / 8) := x_div (by omega) (by omega) (by omega)
  have er : nI (stirN d / 8) - nI (stirN d / 8) / nI m * nI m = nI (stirN d / 8 % m) := x_rem (by omega) hm (by omega)
  simp (disch := omega) only [g_X11_mix, ↓e_X11_mix_0, ↓it_s, ↓y_iload, ↓y_lload, ↓y_aload, ↓y_istore, ↓y_lstore, ↓y_astore, ↓y_iinc, ↓y_cI, ↓y_cL, ↓y_bin, ↓y_binL, ↓y_div, ↓y_divL, ↓y_lshl, ↓y_un, ↓y_i2l, ↓y_lneg, ↓y_l2i, ↓y_lcmp, ↓y_dupI, ↓y_dupR, ↓y_dup2, ↓y_pop, ↓y_goto, ↓y_eq0, ↓y_lt0, ↓y_le0, ↓y_eq, ↓y_lt, ↓y_le, ↓y_switch, ↓y_sw0, ↓y_sw1, ↓y_getI, ↓y_getL, ↓y_getR, ↓y_getT, ↓y_putI, ↓y_putZ, ↓y_putL, ↓y_putT, ↓y_iald, ↓y_bald, ↓y_lald, ↓y_aald, ↓y_iast, ↓y_bast, ↓y_last, ↓y_alen, ↓y_iret, ↓y_zret, ↓y_lret, ↓y_vret, ↓y_svI, ↓y_svL, ↓y_svV, ↓y_ivI, ↓y_ivL, ↓y_ivV, ↓y_max, ↓y_min, ↓y_absL, ↓y_cpI, ↓y_cpL, ↓x_n1I, ↓x_n1L, ↓x_n1R, ↓x_n0I, ↓x_n0L, ↓x_n0R, ↓x_s0, ↓x_s1i, ↓x_s1r, ↓x_s1n, ↓x_s2, ↓x_c0, ↓x_c2, ↓x_tk0, ↓x_tk1, ↓x_rcv, x_rI1, x_rL1, x_rV1, x_rIn, x_rLn, x_rVn, x_rIf, x_rLf, x_rVf, x_40, x_41, x_42, x_43, x_44, ↓reduceIte, if_true, if_false, ao_iadd, ao_isub, ao_imul, ao_iand, ao_ior, ao_ishl, ao_ishr, ao_iushr, ao_ladd, ao_lsub, ao_lmul, ao_land, ao_lor, ao_idiv, ao_irem, ao_ldiv, ao_lrem, ao_ineg, ao_i2b, ao_i2s, Nat.reduceAdd, Nat.reduceMul, Nat.reduceSub, Nat.reduceEqDiff, Nat.reduceLeDiff, and_self, true_and, x_lit, x_eqF, kd_123, h, e1, uI_s, up_s, e8, er]
def frK (σ τ : am_M) : Prop := τ.2 = σ.2 ∧ (∀ j, j ≠ 123 → j ≠ 128 → j ≠ 133 → τ.1 j = σ.1 j) ∧ ∀ i, i ≠ 31 → τ.1 123 i = σ.1 123 i
theorem frK_rf (σ : am_M) : frK σ σ := ⟨rfl, fun _ _ _ _ => rfl, fun _ _ => rfl⟩
theorem frK_tr {a b c : am_M} (h1 : frK a b) (h2 : frK b c) : frK a c := ⟨h2.1.trans h1.1, fun j p q r => (h2.2.1 j p q r).trans (h1.2.1 j p q r), fun i hi => (h2.2.2 i hi).trans (h1.2.2 i hi)⟩
theorem frK_c {a b : am_M} {k : Nat} {v : Int32} (h1 : frK a b) : frK a (am_uI b 128 k v) := ⟨h1.1, fun j p q r => (uI_n q).trans (h1.2.1 j p q r), fun i hi => by rw [uI_n (by omega)]; exact h1.2.2 i hi⟩
theorem frK_p {a b : am_M} {k : Nat} {v : Int32} (h1 : frK a b) : frK a (am_uI b 133 k v) := ⟨h1.1, fun j p q r => (uI_n r).trans (h1.2.1 j p q r), fun i hi => by rw [uI_n (by omega)]; exact h1.2.2 i hi⟩
theorem frK_m {a b : am_M} {v : Int32} (h1 : frK a b) : frK a (am_uI b 123 31 v) := ⟨h1.1, fun j p q r => (uI_n p).trans (h1.2.1 j p q r), fun i hi => by rw [uI_s, up_n hi]; exact h1.2.2 i hi⟩
theorem MPk_init {seed n r : Nat} {σ : am_M} (h0 : σ.1 128 0 = nI r) (hr : 1 ≤ r) (hr6 : r ≤ 6) (hn : n ≤ 24) : ∃ τ, rch hd_X11_packs n 16 [some (.ref 123), some (.int (nI seed)), some (.int (nI n)), some (.int (nI 0)), none, none] σ 16 [some (.ref 123), some (.int (nI seed)), some (.int (nI n)), some (.int (nI n)), none, none] τ ∧ frK σ τ ∧ τ.1 128 = σ.1 128 ∧ seg (τ.1 133) 0 (deck0 n r) := by
  obtain ⟨-, τ, ⟨a, b, c⟩, h⟩ := rch_for (hd := hd_X11_packs) (p := 16) (n := n) (C := 1) (fun k (_ : Unit) => [some (.ref 123), some (.int (nI seed)), some (.int (nI n)), some (.int (nI k)), none, none]) (fun k _ τ => frK σ τ ∧ τ.1 128 = σ.1 128 ∧ seg (τ.1 133) 0 (deck0 k r))
    (fun k _ τ hk hI => by
      obtain ⟨a, b, c⟩ := hI
      have h0' : τ.1 128 0 = nI r := by rw [b]; exact h0
      have hq : nI k / nI r = nI (k / r) := x_div (by omega) (by omega) (by omega)
      have hrm : nI k - nI (k / r * r) = nI (k % r) := by rw [← pk_mul, ← hq]; exact x_rem (by omega) (by omega) (by omega)
      have hk1 : k / r ≤ k := Nat.div_le_self k r
      have hk2 : k % r < r := Nat.mod_lt _ (by omega)
      refine ⟨(), am_uI τ 133 k (nI (6 * (k / r) + k % r)), ⟨frK_p a, by rw [uI_n (by omega)]; exact b, ?_⟩, rch_1 fun B => ?_⟩
      · rw [uI_s, deck0_s]
        exact seg_push c _ (by rw [deck0_len]; omega)
      · simp (disch := omega) only [↓e_X11_packs_16, ↓h_X11_packs_16, ↓it_s, ↓y_iload, ↓y_lload, ↓y_aload, ↓y_istore, ↓y_lstore, ↓y_astore, ↓y_iinc, ↓y_cI, ↓y_cL, ↓y_bin, ↓y_binL, ↓y_div, ↓y_divL, ↓y_lshl, ↓y_un, ↓y_i2l, ↓y_lneg, ↓y_l2i, ↓y_lcmp, ↓y_dupI, ↓y_dupR, ↓y_dup2, ↓y_pop, ↓y_goto, ↓y_eq0, ↓y_lt0, ↓y_le0, ↓y_eq, ↓y_lt, ↓y_le, ↓y_switch, ↓y_sw0, ↓y_sw1, ↓y_getI, ↓y_getL, ↓y_getR, ↓y_getT, ↓y_putI, ↓y_putZ, ↓y_putL, ↓y_putT, ↓y_iald, ↓y_bald, ↓y_lald, ↓y_aald, ↓y_iast, ↓y_bast, ↓y_last, ↓y_alen, ↓y_iret, ↓y_zret, ↓y_lret, ↓y_vret, ↓y_svI, ↓y_svL, ↓y_svV, ↓y_ivI, ↓y_ivL, ↓y_ivV, ↓y_max, ↓y_min, ↓y_absL, ↓y_cpI, ↓y_cpL, ↓x_n1I, ↓x_n1L, ↓x_n1R, ↓x_n0I, ↓x_n0L, ↓x_n0R, ↓x_s0, ↓x_s1i, ↓x_s1r, ↓x_s1n, ↓x_s2, ↓x_c0, ↓x_c2, ↓x_tk0, ↓x_tk1, ↓x_rcv, x_rI1, x_rL1, x_rV1, x_rIn, x_rLn, x_rVn, x_rIf, x_rLf, x_rVf, x_40, x_41, x_42, x_43, x_44, ↓reduceIte, if_true, if_false, ao_iadd, ao_isub, ao_imul, ao_iand, ao_ior, ao_ishl, ao_ishr, ao_iushr, ao_ladd, ao_lsub, ao_lmul, ao_land, ao_lor, ao_idiv, ao_irem, ao_ldiv, ao_lrem, ao_ineg, ao_i2b, ao_i2s, Nat.reduceAdd, Nat.reduceMul, Nat.reduceSub, Nat.reduceEqDiff, Nat.reduceLeDiff, and_self, true_and, x_lit, x_ofn, x_z0, x_z1, x_inbT, x_ltT, x_ltF, x_leT, x_leF, x_eqF, x_eqT, x_inb, x_lt, x_le, x_eq, x_cl, x_sub, nI_add, pk_mul, x_m1e, x_m1e', x_m1l, x_m1n, x_m1s, Nat.not_lt_zero, x_zb, x_b0, x_b1, decide_eq_false_iff_not, decide_eq_true_eq, Bool.false_eq_true, Bool.true_eq_false, kd_123, kd_128, kd_133, ln_128, ln_133, h0', hq, hrm])
    n 0 () σ (by omega) ⟨frK_rf _, rfl, seg_nil⟩
  exact ⟨τ, by rw [Nat.one_mul] at h; exact h, a, b, c⟩
theorem MPk_mix {seed n : Nat} (hn : n ≤ 24) : ∀ (k d : Nat) (l : List Nat) (σ : am_M) (d4 d5 : Option Value), l.length = n → k < n → d < 65536 → σ.1 123 31 = nI d → seg (σ.1 133) 0 l →
    ∃ (τ : am_M) (d4' d5' : Option Value), rch hd_X11_packs k 62 [some (.ref 123), some (.int (nI seed)), some (.int (nI n)), some (.int (nI k)), d4, d5] σ 62 [some (.ref 123), some (.int (nI seed)), some (.int (nI n)), some (.int (nI 0)), d4', d5'] τ ∧ frK σ τ ∧ τ.1 128 = σ.1 128 ∧ seg (τ.1 133) 0 (mixD k d l) := by
  intro k
  induction k with
  | zero =>
    intro d l σ d4 d5 hl hk hd hm h
    exact ⟨σ, d4, d5, rch_rf _ _ _ _, frK_rf _, rfl, h⟩
  | succ k ih =>
    intro d l σ d4 d5 hl hk hd hm h
    have hs := stirN_lt d
    have hp : stirN d / 8 % (k + 1 + 1) < k + 1 + 1 := Nat.mod_lt _ (by omega)
    have hM := M_mix (m := k + 1 + 1) hm hd (by omega) (by omega)
    obtain ⟨j, ej⟩ : ∃ j, j = stirN d / 8 % (k + 1 + 1) := ⟨_, rfl⟩
    rw [← ej] at hM hp
    obtain ⟨σ1, e1⟩ : ∃ σ1, σ1 = am_uI (am_uI (am_uI σ 123 31 (nI (stirN d))) 133 (k + 1) (σ.1 133 j)) 133 j (σ.1 133 (k + 1)) := ⟨_, rfl⟩
    obtain ⟨τ, d4', d5', a1, a2, a3, a4⟩ := ih (stirN d) (swapL l (k + 1) j) σ1 (some (.int (nI j))) (some (.int (σ.1 133 (k + 1)))) (by rw [swapL_len]; exact hl) (by omega) hs (by rw [e1, uI_n (by omega), uI_n (by omega), uI_s, up_s]) (by rw [e1, uI_s, uI_s, uI_n (by omega)]; exact seg_swap h (by omega) (by omega))
    refine ⟨τ, d4', d5', ?_, frK_tr ?_ a2, ?_, ?_⟩
    · have hr : rch hd_X11_packs 1 62 [some (.ref 123), some (.int (nI seed)), some (.int (nI n)), some (.int (nI (k + 1))), d4, d5] σ 62 [some (.ref 123), some (.int (nI seed)), some (.int (nI n)), some (.int (nI k)), some (.int (nI j)), some (.int (σ.1 133 (k + 1)))] σ1 := rch_1 fun B => by
        have ek : nI (k + 1) + -nI 1 = nI k := by rw [decI_dec]; rfl
        rw [e1]
        simp (disch := omega) only [↓e_X11_packs_62, ↓h_X11_packs_62, ↓it_s, ↓y_iload, ↓y_lload, ↓y_aload, ↓y_istore, ↓y_lstore, ↓y_astore, ↓y_iinc, ↓y_cI, ↓y_cL, ↓y_bin, ↓y_binL, ↓y_div, ↓y_divL, ↓y_lshl, ↓y_un, ↓y_i2l, ↓y_lneg, ↓y_l2i, ↓y_lcmp, ↓y_dupI, ↓y_dupR, ↓y_dup2, ↓y_pop, ↓y_goto, ↓y_eq0, ↓y_lt0, ↓y_le0, ↓y_eq, ↓y_lt, ↓y_le, ↓y_switch, ↓y_sw0, ↓y_sw1, ↓y_getI, ↓y_getL, ↓y_getR, ↓y_getT, ↓y_putI, ↓y_putZ, ↓y_putL, ↓y_putT, ↓y_iald, ↓y_bald, ↓y_lald, ↓y_aald, ↓y_iast, ↓y_bast, ↓y_last, ↓y_alen, ↓y_iret, ↓y_zret, ↓y_lret, ↓y_vret, ↓y_svI, ↓y_svL, ↓y_svV, ↓y_ivI, ↓y_ivL, ↓y_ivV, ↓y_max, ↓y_min, ↓y_absL, ↓y_cpI, ↓y_cpL, ↓x_n1I, ↓x_n1L, ↓x_n1R, ↓x_n0I, ↓x_n0L, ↓x_n0R, ↓x_s0, ↓x_s1i, ↓x_s1r, ↓x_s1n, ↓x_s2, ↓x_c0, ↓x_c2, ↓x_tk0, ↓x_tk1, ↓x_rcv, x_rI1, x_rL1, x_rV1, x_rIn, x_rLn, x_rVn, x_rIf, x_rLf, x_rVf, x_40, x_41, x_42, x_43, x_44, ↓reduceIte, if_true, if_false, ao_iadd, ao_isub, ao_imul, ao_iand, ao_ior, ao_ishl, ao_ishr, ao_iushr, ao_ladd, ao_lsub, ao_lmul, ao_land, ao_lor, ao_idiv, ao_irem, ao_ldiv, ao_lrem, ao_ineg, ao_i2b, ao_i2s, Nat.reduceAdd, Nat.reduceMul, Nat.reduceSub, Nat.reduceEqDiff, Nat.reduceLeDiff, and_self, true_and, x_lit, x_ofn, x_z0, x_z1, x_inbT, x_ltT, x_ltF, x_leT, x_leF, x_eqF, x_eqT, x_inb, x_lt, x_le, x_eq, x_cl, x_sub, nI_add, pk_mul, x_m1e, x_m1e', x_m1l, x_m1n, x_m1s, Nat.not_lt_zero, x_zb, x_b0, x_b1, decide_eq_false_iff_not, decide_eq_true_eq, Bool.false_eq_true, Bool.true_eq_false, kd_123, kd_128, kd_133, ln_128, ln_133, hM, ek, uI_n]
      exact rch_mono (rch_tr hr a1) (by omega)
    · rw [e1]; exact frK_p (frK_p (frK_m (frK_rf _)))
    · rw [a3, e1, uI_n (by omega), uI_n (by omega), uI_n (by omega)]
    · unfold mixD
      have : stirN d / 8 % (k + 2) = j := ej.symm
      rw [this]; exact a4
def PkR (g : Nat → Int32) (D : List Nat) (r : Nat) : Prop := (∀ s, s < 4 → g (10 + s) = nI 0) ∧ g 9 = nI 0 ∧ ∀ p, p < r → g (14 + p) = nI ((D.drop (pst D.length p)).take (p + 1)).length ∧ seg g (20 + 12 * p) ((D.drop (pst D.length p)).take (p + 1))
def PkI (f0 g : Nat → Int32) (D : List Nat) (r : Nat) : Prop := PkR g D r ∧ ∀ j, (j < 8 ∨ (14 + r ≤ j ∧ j < 20) ∨ 140 ≤ j) → g j = f0 j
def PkJ (f0 g : Nat → Int32) (D : List Nat) (r K k : Nat) : Prop := PkR g D r ∧ g (14 + r) = nI K ∧ seg g (20 + 12 * r) ((D.drop (pst D.length r)).take k) ∧ ∀ j, (j < 8 ∨ (15 + r ≤ j ∧ j < 20) ∨ 140 ≤ j) → g j = f0 j
theorem PkR_up {g : Nat → Int32} {D : List Nat} {r i : Nat} {v : Int32} (h : PkR g D r) (hr : r ≤ 6) (hi : i = 8 ∨ (14 + r ≤ i ∧ i < 20) ∨ 20 + 12 * r ≤ i) : PkR (va_up g i v) D r := by
  obtain ⟨h1, h2, h3⟩ := h
  refine ⟨fun s hs => ?_, ?_, fun p hp => ⟨?_, ?_⟩⟩
  · rw [up_n (by omega)]; exact h1 s hs
  · rw [up_n (by omega)]; exact h2
  · rw [up_n (by omega)]; exact (h3 p hp).1
  · refine seg_out (h3 p hp).2 ?_
    rw [List.length_take]; omega
theorem MPk_row {seed : Nat} {D : List Nat} {f0 : Nat → Int32} {σ : am_M} {i R : Nat} {d5 : Option Value} (hlen : D.length ≤ 24) (hR : R ≤ 6) (hi : i < R) (h4 : f0 4 = nI R) (hI : PkI f0 (σ.1 128) D i) (hD : seg (σ.1 133) 0 D) :
    ∃ (τ : am_M) (d5' : Option Value), rch hd_X11_packs 8 147 [some (.ref 123), some (.int (nI seed)), some (.int (nI D.length)), some (.int (nI (pst D.length i))), some (.int (nI i)), d5] σ 147 [some (.ref 123), some (.int (nI seed)), some (.int (nI D.length)), some (.int (nI (pst D.length (i + 1)))), some (.int (nI (i + 1))), d5'] τ ∧ frK σ τ ∧ τ.1 133 = σ.1 133 ∧ PkI f0 (τ.1 128) D (i + 1) ∧ ∀ q, q ≠ 31 → τ.1 123 q = σ.1 123 q := by
  have hpi := pst_le D.length i
  obtain ⟨K, eK⟩ : ∃ K, K = min (i + 1) (D.length - pst D.length i) := ⟨_, rfl⟩
  obtain ⟨hPR, hun⟩ := hI
  have h4' : σ.1 128 4 = nI R := by rw [hun 4 (by omega)]; exact h4
  obtain ⟨σ1, e1⟩ : ∃ σ1, σ1 = am_uI σ 128 (14 + i) (nI K) := ⟨_, rfl⟩
  have hJ0 : PkJ f0 (σ1.1 128) D i K 0 := by
    rw [e1, uI_s]
    refine ⟨PkR_up hPR (by omega) (by omega), up_s _ _ _, by rw [List.take_zero]; exact seg_nil, fun j hj => ?_⟩
    rw [up_n (by omega)]; exact hun j (by omega)
  have r1 : rch hd_X11_packs 0 147 [some (.ref 123), some (.int (nI seed)), some (.int (nI D.length)), some (.int (nI (pst D.length i))), some (.int (nI i)), d5] σ 181 [some (.ref 123), some (.int (nI seed)), some (.int (nI D.length)), some (.int (nI (pst D.length i))), some (.int (nI i)), some (.int (nI 0))] σ1 := rch_0 fun B => by
    rw [e1]
    by_cases hK : D.length - pst D.length i < i + 1
    · have : K = D.length - pst D.length i := by omega
      rw [this]
      simp (disch := omega) only [↓e_X11_packs_147, ↓h_X11_packs_147, ↓h_X11_packs_181, ↓it_s, ↓y_iload, ↓y_lload, ↓y_aload, ↓y_istore, ↓y_lstore, ↓y_astore, ↓y_iinc, ↓y_cI, ↓y_cL, ↓y_bin, ↓y_binL, ↓y_div, ↓y_divL, ↓y_lshl, ↓y_un, ↓y_i2l, ↓y_lneg, ↓y_l2i, ↓y_lcmp, ↓y_dupI, ↓y_dupR, ↓y_dup2, ↓y_pop, ↓y_goto, ↓y_eq0, ↓y_lt0, ↓y_le0, ↓y_eq, ↓y_lt, ↓y_le, ↓y_switch, ↓y_sw0, ↓y_sw1, ↓y_getI, ↓y_getL, ↓y_getR, ↓y_getT, ↓y_putI, ↓y_putZ, ↓y_putL, ↓y_putT, ↓y_iald, ↓y_bald, ↓y_lald, ↓y_aald, ↓y_iast, ↓y_bast, ↓y_last, ↓y_alen, ↓y_iret, ↓y_zret, ↓y_lret, ↓y_vret, ↓y_svI, ↓y_svL, ↓y_svV, ↓y_ivI, ↓y_ivL, ↓y_ivV, ↓y_max, ↓y_min, ↓y_absL, ↓y_cpI, ↓y_cpL, ↓x_n1I, ↓x_n1L, ↓x_n1R, ↓x_n0I, ↓x_n0L, ↓x_n0R, ↓x_s0, ↓x_s1i, ↓x_s1r, ↓x_s1n, ↓x_s2, ↓x_c0, ↓x_c2, ↓x_tk0, ↓x_tk1, ↓x_rcv, x_rI1, x_rL1, x_rV1, x_rIn, x_rLn, x_rVn, x_rIf, x_rLf, x_rVf, x_40, x_41, x_42, x_43, x_44, ↓reduceIte, if_true, if_false, ao_iadd, ao_isub, ao_imul, ao_iand, ao_ior, ao_ishl, ao_ishr, ao_iushr, ao_ladd, ao_lsub, ao_lmul, ao_land, ao_lor, ao_idiv, ao_irem, ao_ldiv, ao_lrem, ao_ineg, ao_i2b, ao_i2s, Nat.reduceAdd, Nat.reduceMul, Nat.reduceSub, Nat.reduceEqDiff, Nat.reduceLeDiff, and_self, true_and, x_lit, x_ofn, x_z0, x_z1, x_inbT, x_ltT, x_ltF, x_leT, x_leF, x_eqF, x_eqT, x_inb, x_lt, x_le, x_eq, x_cl, x_sub, nI_add, pk_mul, x_m1e, x_m1e', x_m1l, x_m1n, x_m1s, Nat.not_lt_zero, x_zb, x_b0, x_b1, decide_eq_false_iff_not, decide_eq_true_eq, Bool.false_eq_true, Bool.true_eq_false, kd_123, kd_128, kd_133, ln_128, ln_133, h4']
    · have : K = i + 1 := by omega
      rw [this]
      simp (disch := omega) only [↓e_X11_packs_147, ↓h_X11_packs_147, ↓h_X11_packs_181, ↓it_s, ↓y_iload, ↓y_lload, ↓y_aload, ↓y_istore, ↓y_lstore, ↓y_astore, ↓y_iinc, ↓y_cI, ↓y_cL, ↓y_bin, ↓y_binL, ↓y_div, ↓y_divL, ↓y_lshl, ↓y_un, ↓y_i2l, ↓y_lneg, ↓y_l2i, ↓y_lcmp, ↓y_dupI, ↓y_dupR, ↓y_dup2, ↓y_pop, ↓y_goto, ↓y_eq0, ↓y_lt0, ↓y_le0, ↓y_eq, ↓y_lt, ↓y_le, ↓y_switch, ↓y_sw0, ↓y_sw1, ↓y_getI, ↓y_getL, ↓y_getR, ↓y_getT, ↓y_putI, ↓y_putZ, ↓y_putL, ↓y_putT, ↓y_iald, ↓y_bald, ↓y_lald, ↓y_aald, ↓y_iast, ↓y_bast, ↓y_last, ↓y_alen, ↓y_iret, ↓y_zret, ↓y_lret, ↓y_vret, ↓y_svI, ↓y_svL, ↓y_svV, ↓y_ivI, ↓y_ivL, ↓y_ivV, ↓y_max, ↓y_min, ↓y_absL, ↓y_cpI, ↓y_cpL, ↓x_n1I, ↓x_n1L, ↓x_n1R, ↓x_n0I, ↓x_n0L, ↓x_n0R, ↓x_s0, ↓x_s1i, ↓x_s1r, ↓x_s1n, ↓x_s2, ↓x_c0, ↓x_c2, ↓x_tk0, ↓x_tk1, ↓x_rcv, x_rI1, x_rL1, x_rV1, x_rIn, x_rLn, x_rVn, x_rIf, x_rLf, x_rVf, x_40, x_41, x_42, x_43, x_44, ↓reduceIte, if_true, if_false, ao_iadd, ao_isub, ao_imul, ao_iand, ao_ior, ao_ishl, ao_ishr, ao_iushr, ao_ladd, ao_lsub, ao_lmul, ao_land, ao_lor, ao_idiv, ao_irem, ao_ldiv, ao_lrem, ao_ineg, ao_i2b, ao_i2s, Nat.reduceAdd, Nat.reduceMul, Nat.reduceSub, Nat.reduceEqDiff, Nat.reduceLeDiff, and_self, true_and, x_lit, x_ofn, x_z0, x_z1, x_inbT, x_ltT, x_ltF, x_leT, x_leF, x_eqF, x_eqT, x_inb, x_lt, x_le, x_eq, x_cl, x_sub, nI_add, pk_mul, x_m1e, x_m1e', x_m1l, x_m1n, x_m1s, Nat.not_lt_zero, x_zb, x_b0, x_b1, decide_eq_false_iff_not, decide_eq_true_eq, Bool.false_eq_true, Bool.true_eq_false, kd_123, kd_128, kd_133, ln_128, ln_133, h4']
  have hF1 : frK σ σ1 := by rw [e1]; exact frK_c (frK_rf _)
  have hD1 : σ1.1 133 = σ.1 133 := by rw [e1, uI_n (by omega)]
  obtain ⟨-, τ, ⟨a, b, c⟩, h⟩ := rch_for (hd := hd_X11_packs) (p := 181) (n := K) (C := 1) (fun k (_ : Unit) => [some (.ref 123), some (.int (nI seed)), some (.int (nI D.length)), some (.int (nI (pst D.length i))), some (.int (nI i)), some (.int (nI k))]) (fun k _ τ => frK σ τ ∧ τ.1 133 = σ.1 133 ∧ PkJ f0 (τ.1 128) D i K k)
    (fun k _ τ hk hI => by
      obtain ⟨a, b, c1, c2, c3, c4⟩ := hI
      have hlt : pst D.length i + k < D.length := by omega
      have hc : D[pst D.length i + k]? = some D[pst D.length i + k] := List.getElem?_eq_getElem hlt
      obtain ⟨c, ec⟩ : ∃ c, c = D[pst D.length i + k] := ⟨_, rfl⟩
      rw [← ec] at hc
      have hpk : τ.1 133 (pst D.length i + k) = nI c := by
        rw [b]
        have := hD _ _ hc
        rwa [Nat.zero_add] at this
      refine ⟨(), am_uI τ 128 (20 + 12 * i + k) (nI c), ⟨frK_c a, by rw [uI_n (by omega)]; exact b, ?_⟩, rch_1 fun B => ?_⟩
      · rw [uI_s]
        refine ⟨PkR_up c1 (by omega) (by omega), by rw [up_n (by omega)]; exact c2, ?_, fun j hj => ?_⟩
        · rw [List.take_add_one, List.getElem?_drop, hc]
          refine seg_push c3 c ?_
          rw [List.length_take, List.length_drop]; omega
        · rw [up_n (by omega)]; exact c4 j hj
      · simp (disch := omega) only [↓e_X11_packs_181, ↓h_X11_packs_181, ↓it_s, ↓y_iload, ↓y_lload, ↓y_aload, ↓y_istore, ↓y_lstore, ↓y_astore, ↓y_iinc, ↓y_cI, ↓y_cL, ↓y_bin, ↓y_binL, ↓y_div, ↓y_divL, ↓y_lshl, ↓y_un, ↓y_i2l, ↓y_lneg, ↓y_l2i, ↓y_lcmp, ↓y_dupI, ↓y_dupR, ↓y_dup2, ↓y_pop, ↓y_goto, ↓y_eq0, ↓y_lt0, ↓y_le0, ↓y_eq, ↓y_lt, ↓y_le, ↓y_switch, ↓y_sw0, ↓y_sw1, ↓y_getI, ↓y_getL, ↓y_getR, ↓y_getT, ↓y_putI, ↓y_putZ, ↓y_putL, ↓y_putT, ↓y_iald, ↓y_bald, ↓y_lald, ↓y_aald, ↓y_iast, ↓y_bast, ↓y_last, ↓y_alen, ↓y_iret, ↓y_zret, ↓y_lret, ↓y_vret, ↓y_svI, ↓y_svL, ↓y_svV, ↓y_ivI, ↓y_ivL, ↓y_ivV, ↓y_max, ↓y_min, ↓y_absL, ↓y_cpI, ↓y_cpL, ↓x_n1I, ↓x_n1L, ↓x_n1R, ↓x_n0I, ↓x_n0L, ↓x_n0R, ↓x_s0, ↓x_s1i, ↓x_s1r, ↓x_s1n, ↓x_s2, ↓x_c0, ↓x_c2, ↓x_tk0, ↓x_tk1, ↓x_rcv, x_rI1, x_rL1, x_rV1, x_rIn, x_rLn, x_rVn, x_rIf, x_rLf, x_rVf, x_40, x_41, x_42, x_43, x_44, ↓reduceIte, if_true, if_false, ao_iadd, ao_isub, ao_imul, ao_iand, ao_ior, ao_ishl, ao_ishr, ao_iushr, ao_ladd, ao_lsub, ao_lmul, ao_land, ao_lor, ao_idiv, ao_irem, ao_ldiv, ao_lrem, ao_ineg, ao_i2b, ao_i2s, Nat.reduceAdd, Nat.reduceMul, Nat.reduceSub, Nat.reduceEqDiff, Nat.reduceLeDiff, and_self, true_and, x_lit, x_ofn, x_z0, x_z1, x_inbT, x_ltT, x_ltF, x_leT, x_leF, x_eqF, x_eqT, x_inb, x_lt, x_le, x_eq, x_cl, x_sub, nI_add, pk_mul, x_m1e, x_m1e', x_m1l, x_m1n, x_m1s, Nat.not_lt_zero, x_zb, x_b0, x_b1, decide_eq_false_iff_not, decide_eq_true_eq, Bool.false_eq_true, Bool.true_eq_false, kd_123, kd_128, kd_133, ln_128, ln_133, c2, hpk])
    K 0 () σ1 (by omega) ⟨hF1, hD1, hJ0⟩
  obtain ⟨c1, c2, c3, c4⟩ := c
  have hend : (D.drop (pst D.length i)).take K = (D.drop (pst D.length i)).take (i + 1) := by
    by_cases h : i + 1 ≤ D.length - pst D.length i
    · rw [eK, Nat.min_eq_left h]
    · rw [List.take_of_length_le (by rw [List.length_drop]; omega), List.take_of_length_le (by rw [List.length_drop]; omega)]
  rw [hend] at c3
  have r2 : rch hd_X11_packs 1 181 [some (.ref 123), some (.int (nI seed)), some (.int (nI D.length)), some (.int (nI (pst D.length i))), some (.int (nI i)), some (.int (nI K))] τ 147 [some (.ref 123), some (.int (nI seed)), some (.int (nI D.length)), some (.int (nI (pst D.length (i + 1)))), some (.int (nI (i + 1))), some (.int (nI K))] τ := rch_1 fun B => by
    have ep : pst D.length (i + 1) = pst D.length i + K := by rw [eK]; rfl
    rw [ep]
    simp (disch := omega) only [↓e_X11_packs_181, ↓e_X11_packs_227, ↓h_X11_packs_181, ↓it_s, ↓y_iload, ↓y_lload, ↓y_aload, ↓y_istore, ↓y_lstore, ↓y_astore, ↓y_iinc, ↓y_cI, ↓y_cL, ↓y_bin, ↓y_binL, ↓y_div, ↓y_divL, ↓y_lshl, ↓y_un, ↓y_i2l, ↓y_lneg, ↓y_l2i, ↓y_lcmp, ↓y_dupI, ↓y_dupR, ↓y_dup2, ↓y_pop, ↓y_goto, ↓y_eq0, ↓y_lt0, ↓y_le0, ↓y_eq, ↓y_lt, ↓y_le, ↓y_switch, ↓y_sw0, ↓y_sw1, ↓y_getI, ↓y_getL, ↓y_getR, ↓y_getT, ↓y_putI, ↓y_putZ, ↓y_putL, ↓y_putT, ↓y_iald, ↓y_bald, ↓y_lald, ↓y_aald, ↓y_iast, ↓y_bast, ↓y_last, ↓y_alen, ↓y_iret, ↓y_zret, ↓y_lret, ↓y_vret, ↓y_svI, ↓y_svL, ↓y_svV, ↓y_ivI, ↓y_ivL, ↓y_ivV, ↓y_max, ↓y_min, ↓y_absL, ↓y_cpI, ↓y_cpL, ↓x_n1I, ↓x_n1L, ↓x_n1R, ↓x_n0I, ↓x_n0L, ↓x_n0R, ↓x_s0, ↓x_s1i, ↓x_s1r, ↓x_s1n, ↓x_s2, ↓x_c0, ↓x_c2, ↓x_tk0, ↓x_tk1, ↓x_rcv, x_rI1, x_rL1, x_rV1, x_rIn, x_rLn, x_rVn, x_rIf, x_rLf, x_rVf, x_40, x_41, x_42, x_43, x_44, ↓reduceIte, if_true, if_false, ao_iadd, ao_isub, ao_imul, ao_iand, ao_ior, ao_ishl, ao_ishr, ao_iushr, ao_ladd, ao_lsub, ao_lmul, ao_land, ao_lor, ao_idiv, ao_irem, ao_ldiv, ao_lrem, ao_ineg, ao_i2b, ao_i2s, Nat.reduceAdd, Nat.reduceMul, Nat.reduceSub, Nat.reduceEqDiff, Nat.reduceLeDiff, and_self, true_and, x_lit, x_ofn, x_z0, x_z1, x_inbT, x_ltT, x_ltF, x_leT, x_leF, x_eqF, x_eqT, x_inb, x_lt, x_le, x_eq, x_cl, x_sub, nI_add, pk_mul, x_m1e, x_m1e', x_m1l, x_m1n, x_m1s, Nat.not_lt_zero, x_zb, x_b0, x_b1, decide_eq_false_iff_not, decide_eq_true_eq, Bool.false_eq_true, Bool.true_eq_false, kd_123, kd_128, kd_133, ln_128, ln_133, c2]
  refine ⟨τ, some (.int (nI K)), rch_mono (rch_tr r1 (rch_tr h r2)) (by omega), a, b, ⟨⟨c1.1, c1.2.1, fun p hp => ?_⟩, fun j hj => c4 j (by omega)⟩, a.2.2⟩
  by_cases e : p = i
  · subst e
    refine ⟨?_, c3⟩
    rw [c2, List.length_take, List.length_drop, eK]
  · exact c1.2.2 p (by omega)
theorem M_packs {σ : am_M} {V : Vt} {seed : Nat} (hM : MC (σ.1 128) 0 V) (wn : WN V) (wc : WC V) (hs : seed < 65536) :
    ∃ τ, S_X11_packs [.ref 123, .int (nI seed)] σ = some (some (.int (nI (packD V seed).length)), τ) ∧ MC (τ.1 128) 0 (packV V (packD V seed)) ∧ frK σ τ ∧ ∀ i, 170 ≤ i → τ.1 128 i = σ.1 128 i := by
  obtain ⟨m1, m2, m3, m4, m5, m6⟩ := MC_0 hM
  have h0 := m1 0 (by omega)
  have h1 := m1 1 (by omega)
  have h4 := m1 4 (by omega)
  have hR := wn.2.2.2.2.1
  obtain ⟨n, en⟩ : ∃ n, n = vN V 1 * vN V 0 := ⟨_, rfl⟩
  have hn : n ≤ 24 := by rw [en]; exact packN_le wn
  obtain ⟨σ1, a1, a2, a3, a4⟩ := MPk_init (seed := seed) (n := n) h0 wn.1.1 wn.1.2 hn
  obtain ⟨D, eD⟩ : ∃ D, D = packD V seed := ⟨_, rfl⟩
  have hDn : D.length = n := by rw [eD, packD_len, en]
  have hD' : mixD (n - 1) seed (deck0 n (vN V 0)) = D := by rw [eD, en]; rfl
  rw [← eD]
  -- mixing
  obtain ⟨σ1', e1'⟩ : ∃ s, s = am_uI σ1 123 31 (nI seed) := ⟨_, rfl⟩
  have hmix : ∃ (σ2 : am_M) (k3 : Int32) (d4 d5 : Option Value), rch hd_X11_packs 24 16 [some (.ref 123), some (.int (nI seed)), some (.int (nI n)), some (.int (nI n)), none, none] σ1 62 [some (.ref 123), some (.int (nI seed)), some (.int (nI n)), some (.int k3), d4, d5] σ2 ∧ k3 ≤ nI 0 ∧ frK σ1 σ2 ∧ σ2.1 128 = σ1.1 128 ∧ seg (σ2.1 133) 0 D := by
    by_cases hz : n = 0
    · refine ⟨σ1', -nI 1, none, none, rch_mono (rch_0 fun B => ?_) (Nat.zero_le _), by decide +kernel, by rw [e1']; exact frK_m (frK_rf _), by rw [e1', uI_n (by omega)], ?_⟩
      · rw [e1', hz]
        have ed : nI 0 - nI 1 = -nI 1 := by decide +kernel
        simp (disch := omega) only [↓e_X11_packs_16, ↓e_X11_packs_53, ↓h_X11_packs_16, ↓h_X11_packs_62, ↓it_s, ↓y_iload, ↓y_lload, ↓y_aload, ↓y_istore, ↓y_lstore, ↓y_astore, ↓y_iinc, ↓y_cI, ↓y_cL, ↓y_bin, ↓y_binL, ↓y_div, ↓y_divL, ↓y_lshl, ↓y_un, ↓y_i2l, ↓y_lneg, ↓y_l2i, ↓y_lcmp, ↓y_dupI, ↓y_dupR, ↓y_dup2, ↓y_pop, ↓y_goto, ↓y_eq0, ↓y_lt0, ↓y_le0, ↓y_eq, ↓y_lt, ↓y_le, ↓y_switch, ↓y_sw0, ↓y_sw1, ↓y_getI, ↓y_getL, ↓y_getR, ↓y_getT, ↓y_putI, ↓y_putZ, ↓y_putL, ↓y_putT, ↓y_iald, ↓y_bald, ↓y_lald, ↓y_aald, ↓y_iast, ↓y_bast, ↓y_last, ↓y_alen, ↓y_iret, ↓y_zret, ↓y_lret, ↓y_vret, ↓y_svI, ↓y_svL, ↓y_svV, ↓y_ivI, ↓y_ivL, ↓y_ivV, ↓y_max, ↓y_min, ↓y_absL, ↓y_cpI, ↓y_cpL, ↓x_n1I, ↓x_n1L, ↓x_n1R, ↓x_n0I, ↓x_n0L, ↓x_n0R, ↓x_s0, ↓x_s1i, ↓x_s1r, ↓x_s1n, ↓x_s2, ↓x_c0, ↓x_c2, ↓x_tk0, ↓x_tk1, ↓x_rcv, x_rI1, x_rL1, x_rV1, x_rIn, x_rLn, x_rVn, x_rIf, x_rLf, x_rVf, x_40, x_41, x_42, x_43, x_44, ↓reduceIte, if_true, if_false, ao_iadd, ao_isub, ao_imul, ao_iand, ao_ior, ao_ishl, ao_ishr, ao_iushr, ao_ladd, ao_lsub, ao_lmul, ao_land, ao_lor, ao_idiv, ao_irem, ao_ldiv, ao_lrem, ao_ineg, ao_i2b, ao_i2s, Nat.reduceAdd, Nat.reduceMul, Nat.reduceSub, Nat.reduceEqDiff, Nat.reduceLeDiff, and_self, true_and, x_lit, x_ltF, ed, kd_123]
      · have : D = [] := List.length_eq_zero_iff.mp (by omega)
        rw [this]; exact seg_nil
    · obtain ⟨σ2, d4, d5, b1, b2', b3, b4⟩ := MPk_mix (seed := seed) hn (n - 1) seed (deck0 n (vN V 0)) σ1' none none (deck0_len _ _) (by omega) hs (by rw [e1', uI_s, up_s]) (by rw [e1', uI_n (by omega)]; exact a4)
      rw [hD'] at b4
      refine ⟨σ2, nI 0, d4, d5, ?_, by decide +kernel, frK_tr (by rw [e1']; exact frK_m (frK_rf _)) b2', by rw [b3, e1', uI_n (by omega)], b4⟩
      have r0 : rch hd_X11_packs 0 16 [some (.ref 123), some (.int (nI seed)), some (.int (nI n)), some (.int (nI n)), none, none] σ1 62 [some (.ref 123), some (.int (nI seed)), some (.int (nI n)), some (.int (nI (n - 1))), none, none] σ1' := rch_0 fun B => by
        rw [e1']
        simp (disch := omega) only [↓e_X11_packs_16, ↓e_X11_packs_53, ↓h_X11_packs_16, ↓h_X11_packs_62, ↓it_s, ↓y_iload, ↓y_lload, ↓y_aload, ↓y_istore, ↓y_lstore, ↓y_astore, ↓y_iinc, ↓y_cI, ↓y_cL, ↓y_bin, ↓y_binL, ↓y_div, ↓y_divL, ↓y_lshl, ↓y_un, ↓y_i2l, ↓y_lneg, ↓y_l2i, ↓y_lcmp, ↓y_dupI, ↓y_dupR, ↓y_dup2, ↓y_pop, ↓y_goto, ↓y_eq0, ↓y_lt0, ↓y_le0, ↓y_eq, ↓y_lt, ↓y_le, ↓y_switch, ↓y_sw0, ↓y_sw1, ↓y_getI, ↓y_getL, ↓y_getR, ↓y_getT, ↓y_putI, ↓y_putZ, ↓y_putL, ↓y_putT, ↓y_iald, ↓y_bald, ↓y_lald, ↓y_aald, ↓y_iast, ↓y_bast, ↓y_last, ↓y_alen, ↓y_iret, ↓y_zret, ↓y_lret, ↓y_vret, ↓y_svI, ↓y_svL, ↓y_svV, ↓y_ivI, ↓y_ivL, ↓y_ivV, ↓y_max, ↓y_min, ↓y_absL, ↓y_cpI, ↓y_cpL, ↓x_n1I, ↓x_n1L, ↓x_n1R, ↓x_n0I, ↓x_n0L, ↓x_n0R, ↓x_s0, ↓x_s1i, ↓x_s1r, ↓x_s1n, ↓x_s2, ↓x_c0, ↓x_c2, ↓x_tk0, ↓x_tk1, ↓x_rcv, x_rI1, x_rL1, x_rV1, x_rIn, x_rLn, x_rVn, x_rIf, x_rLf, x_rVf, x_40, x_41, x_42, x_43, x_44, ↓reduceIte, if_true, if_false, ao_iadd, ao_isub, ao_imul, ao_iand, ao_ior, ao_ishl, ao_ishr, ao_iushr, ao_ladd, ao_lsub, ao_lmul, ao_land, ao_lor, ao_idiv, ao_irem, ao_ldiv, ao_lrem, ao_ineg, ao_i2b, ao_i2s, Nat.reduceAdd, Nat.reduceMul, Nat.reduceSub, Nat.reduceEqDiff, Nat.reduceLeDiff, and_self, true_and, x_lit, x_ofn, x_z0, x_z1, x_inbT, x_ltT, x_ltF, x_leT, x_leF, x_eqF, x_eqT, x_inb, x_lt, x_le, x_eq, x_cl, x_sub, nI_add, pk_mul, x_m1e, x_m1e', x_m1l, x_m1n, x_m1s, Nat.not_lt_zero, x_zb, x_b0, x_b1, decide_eq_false_iff_not, decide_eq_true_eq, Bool.false_eq_true, Bool.true_eq_false, kd_123]
      exact rch_mono (rch_tr r0 b1) (by omega)
  obtain ⟨σ2, k3, d4, d5, b1, bk, b2', b3, b4⟩ := hmix
  have h2c : σ2.1 128 = σ.1 128 := b3.trans a3
  have hF2 : frK σ σ2 := frK_tr a2 b2'
  -- home piles
  have r3 : rch hd_X11_packs 0 62 [some (.ref 123), some (.int (nI seed)), some (.int (nI n)), some (.int k3), d4, d5] σ2 113 [some (.ref 123), some (.int (nI seed)), some (.int (nI n)), some (.int (nI 0)), d4, d5] σ2 := rch_0 fun B => by
    simp (disch := omega) only [↓e_X11_packs_62, ↓e_X11_packs_111, ↓h_X11_packs_62, ↓h_X11_packs_113, ↓it_s, ↓y_iload, ↓y_lload, ↓y_aload, ↓y_istore, ↓y_lstore, ↓y_astore, ↓y_iinc, ↓y_cI, ↓y_cL, ↓y_bin, ↓y_binL, ↓y_div, ↓y_divL, ↓y_lshl, ↓y_un, ↓y_i2l, ↓y_lneg, ↓y_l2i, ↓y_lcmp, ↓y_dupI, ↓y_dupR, ↓y_dup2, ↓y_pop, ↓y_goto, ↓y_eq0, ↓y_lt0, ↓y_le0, ↓y_eq, ↓y_lt, ↓y_le, ↓y_switch, ↓y_sw0, ↓y_sw1, ↓y_getI, ↓y_getL, ↓y_getR, ↓y_getT, ↓y_putI, ↓y_putZ, ↓y_putL, ↓y_putT, ↓y_iald, ↓y_bald, ↓y_lald, ↓y_aald, ↓y_iast, ↓y_bast, ↓y_last, ↓y_alen, ↓y_iret, ↓y_zret, ↓y_lret, ↓y_vret, ↓y_svI, ↓y_svL, ↓y_svV, ↓y_ivI, ↓y_ivL, ↓y_ivV, ↓y_max, ↓y_min, ↓y_absL, ↓y_cpI, ↓y_cpL, ↓x_n1I, ↓x_n1L, ↓x_n1R, ↓x_n0I, ↓x_n0L, ↓x_n0R, ↓x_s0, ↓x_s1i, ↓x_s1r, ↓x_s1n, ↓x_s2, ↓x_c0, ↓x_c2, ↓x_tk0, ↓x_tk1, ↓x_rcv, x_rI1, x_rL1, x_rV1, x_rIn, x_rLn, x_rVn, x_rIf, x_rLf, x_rVf, x_40, x_41, x_42, x_43, x_44, ↓reduceIte, if_true, if_false, ao_iadd, ao_isub, ao_imul, ao_iand, ao_ior, ao_ishl, ao_ishr, ao_iushr, ao_ladd, ao_lsub, ao_lmul, ao_land, ao_lor, ao_idiv, ao_irem, ao_ldiv, ao_lrem, ao_ineg, ao_i2b, ao_i2s, Nat.reduceAdd, Nat.reduceMul, Nat.reduceSub, Nat.reduceEqDiff, Nat.reduceLeDiff, and_self, true_and, x_lit, bk]
  obtain ⟨-, σ3, ⟨c1, c2, c3, c4⟩, c5⟩ := rch_for (hd := hd_X11_packs) (p := 113) (n := 4) (C := 1) (fun k (_ : Unit) => [some (.ref 123), some (.int (nI seed)), some (.int (nI n)), some (.int (nI k)), d4, d5]) (fun k _ τ => frK σ τ ∧ τ.1 133 = σ2.1 133 ∧ (∀ s, s < k → τ.1 128 (10 + s) = nI 0) ∧ ∀ j, (j < 10 ∨ 14 ≤ j) → τ.1 128 j = σ.1 128 j)
    (fun k _ τ hk hI => by
      obtain ⟨i1, i2, i3, i4⟩ := hI
      refine ⟨(), am_uI τ 128 (10 + k) (nI 0), ⟨frK_c i1, by rw [uI_n (by omega)]; exact i2, fun s hs => ?_, fun j hj => ?_⟩, rch_1 fun B => ?_⟩
      · rw [uI_s]
        by_cases e : s = k
        · subst e; rw [up_s]
        · rw [up_n (by omega)]; exact i3 s (by omega)
      · rw [uI_s, up_n (by omega)]; exact i4 j hj
      · simp (disch := omega) only [↓e_X11_packs_113, ↓h_X11_packs_113, ↓it_s, ↓y_iload, ↓y_lload, ↓y_aload, ↓y_istore, ↓y_lstore, ↓y_astore, ↓y_iinc, ↓y_cI, ↓y_cL, ↓y_bin, ↓y_binL, ↓y_div, ↓y_divL, ↓y_lshl, ↓y_un, ↓y_i2l, ↓y_lneg, ↓y_l2i, ↓y_lcmp, ↓y_dupI, ↓y_dupR, ↓y_dup2, ↓y_pop, ↓y_goto, ↓y_eq0, ↓y_lt0, ↓y_le0, ↓y_eq, ↓y_lt, ↓y_le, ↓y_switch, ↓y_sw0, ↓y_sw1, ↓y_getI, ↓y_getL, ↓y_getR, ↓y_getT, ↓y_putI, ↓y_putZ, ↓y_putL, ↓y_putT, ↓y_iald, ↓y_bald, ↓y_lald, ↓y_aald, ↓y_iast, ↓y_bast, ↓y_last, ↓y_alen, ↓y_iret, ↓y_zret, ↓y_lret, ↓y_vret, ↓y_svI, ↓y_svL, ↓y_svV, ↓y_ivI, ↓y_ivL, ↓y_ivV, ↓y_max, ↓y_min, ↓y_absL, ↓y_cpI, ↓y_cpL, ↓x_n1I, ↓x_n1L, ↓x_n1R, ↓x_n0I, ↓x_n0L, ↓x_n0R, ↓x_s0, ↓x_s1i, ↓x_s1r, ↓x_s1n, ↓x_s2, ↓x_c0, ↓x_c2, ↓x_tk0, ↓x_tk1, ↓x_rcv, x_rI1, x_rL1, x_rV1, x_rIn, x_rLn, x_rVn, x_rIf, x_rLf, x_rVf, x_40, x_41, x_42, x_43, x_44, ↓reduceIte, if_true, if_false, ao_iadd, ao_isub, ao_imul, ao_iand, ao_ior, ao_ishl, ao_ishr, ao_iushr, ao_ladd, ao_lsub, ao_lmul, ao_land, ao_lor, ao_idiv, ao_irem, ao_ldiv, ao_lrem, ao_ineg, ao_i2b, ao_i2s, Nat.reduceAdd, Nat.reduceMul, Nat.reduceSub, Nat.reduceEqDiff, Nat.reduceLeDiff, and_self, true_and, x_lit, x_ofn, x_z0, x_z1, x_inbT, x_ltT, x_ltF, x_leT, x_leF, x_eqF, x_eqT, x_inb, x_lt, x_le, x_eq, x_cl, x_sub, nI_add, pk_mul, x_m1e, x_m1e', x_m1l, x_m1n, x_m1s, Nat.not_lt_zero, x_zb, x_b0, x_b1, decide_eq_false_iff_not, decide_eq_true_eq, Bool.false_eq_true, Bool.true_eq_false, kd_123, kd_128, ln_128])
    4 0 () σ2 (by omega) ⟨hF2, rfl, fun s hs => by omega, fun j hj => by rw [h2c]⟩
  obtain ⟨σ4, e4⟩ : ∃ s, s = am_uI σ3 128 9 (nI 0) := ⟨_, rfl⟩
  have r5 : rch hd_X11_packs 0 113 [some (.ref 123), some (.int (nI seed)), some (.int (nI n)), some (.int (nI 4)), d4, d5] σ3 147 [some (.ref 123), some (.int (nI seed)), some (.int (nI n)), some (.int (nI 0)), some (.int (nI 0)), d5] σ4 := rch_0 fun B => by
    rw [e4]
    simp (disch := omega) only [↓e_X11_packs_113, ↓e_X11_packs_134, ↓h_X11_packs_113, ↓h_X11_packs_147, ↓it_s, ↓y_iload, ↓y_lload, ↓y_aload, ↓y_istore, ↓y_lstore, ↓y_astore, ↓y_iinc, ↓y_cI, ↓y_cL, ↓y_bin, ↓y_binL, ↓y_div, ↓y_divL, ↓y_lshl, ↓y_un, ↓y_i2l, ↓y_lneg, ↓y_l2i, ↓y_lcmp, ↓y_dupI, ↓y_dupR, ↓y_dup2, ↓y_pop, ↓y_goto, ↓y_eq0, ↓y_lt0, ↓y_le0, ↓y_eq, ↓y_lt, ↓y_le, ↓y_switch, ↓y_sw0, ↓y_sw1, ↓y_getI, ↓y_getL, ↓y_getR, ↓y_getT, ↓y_putI, ↓y_putZ, ↓y_putL, ↓y_putT, ↓y_iald, ↓y_bald, ↓y_lald, ↓y_aald, ↓y_iast, ↓y_bast, ↓y_last, ↓y_alen, ↓y_iret, ↓y_zret, ↓y_lret, ↓y_vret, ↓y_svI, ↓y_svL, ↓y_svV, ↓y_ivI, ↓y_ivL, ↓y_ivV, ↓y_max, ↓y_min, ↓y_absL, ↓y_cpI, ↓y_cpL, ↓x_n1I, ↓x_n1L, ↓x_n1R, ↓x_n0I, ↓x_n0L, ↓x_n0R, ↓x_s0, ↓x_s1i, ↓x_s1r, ↓x_s1n, ↓x_s2, ↓x_c0, ↓x_c2, ↓x_tk0, ↓x_tk1, ↓x_rcv, x_rI1, x_rL1, x_rV1, x_rIn, x_rLn, x_rVn, x_rIf, x_rLf, x_rVf, x_40, x_41, x_42, x_43, x_44, ↓reduceIte, if_true, if_false, ao_iadd, ao_isub, ao_imul, ao_iand, ao_ior, ao_ishl, ao_ishr, ao_iushr, ao_ladd, ao_lsub, ao_lmul, ao_land, ao_lor, ao_idiv, ao_irem, ao_ldiv, ao_lrem, ao_ineg, ao_i2b, ao_i2s, Nat.reduceAdd, Nat.reduceMul, Nat.reduceSub, Nat.reduceEqDiff, Nat.reduceLeDiff, and_self, true_and, x_lit, x_ofn, x_z0, x_z1, x_inbT, x_ltT, x_ltF, x_leT, x_leF, x_eqF, x_eqT, x_inb, x_lt, x_le, x_eq, x_cl, x_sub, nI_add, pk_mul, x_m1e, x_m1e', x_m1l, x_m1n, x_m1s, Nat.not_lt_zero, x_zb, x_b0, x_b1, decide_eq_false_iff_not, decide_eq_true_eq, Bool.false_eq_true, Bool.true_eq_false, kd_123, kd_128, ln_128]
  have hI4 : PkI (σ.1 128) (σ4.1 128) D 0 := by
    rw [e4, uI_s]
    refine ⟨⟨fun s hs => ?_, up_s _ _ _, fun p hp => by omega⟩, fun j hj => ?_⟩
    · rw [up_n (by omega)]; exact c3 s hs
    · rw [up_n (by omega)]; exact c4 j (by omega)
  have hD4 : seg (σ4.1 133) 0 D := by rw [e4, uI_n (by omega), c2]; exact b4
  have hF4 : frK σ σ4 := by rw [e4]; exact frK_c c1
  -- rows
  obtain ⟨d5r, σ5, ⟨f1, f2, f3⟩, f5⟩ := rch_for (hd := hd_X11_packs) (p := 147) (n := vN V 4) (C := 8) (fun i (d5 : Option Value) => [some (.ref 123), some (.int (nI seed)), some (.int (nI D.length)), some (.int (nI (pst D.length i))), some (.int (nI i)), d5]) (fun i _ τ => frK σ τ ∧ seg (τ.1 133) 0 D ∧ PkI (σ.1 128) (τ.1 128) D i)
    (fun i d5 τ hi hI => by
      obtain ⟨i1, i2, i3⟩ := hI
      obtain ⟨ρ, d5', x1, x2, x3, x4, -⟩ := MPk_row (seed := seed) (d5 := d5) (by omega) hR hi h4 i3 i2
      exact ⟨d5', ρ, ⟨frK_tr i1 x2, by rw [x3]; exact i2, x4⟩, x1⟩)
    (vN V 4) 0 d5 σ4 (by omega) ⟨hF4, hD4, hI4⟩
  obtain ⟨g1, g2⟩ := f3
  have hpR := pst_le D.length (vN V 4)
  obtain ⟨a, ea⟩ : ∃ a, a = pst D.length (vN V 4) := ⟨_, rfl⟩
  rw [← ea] at hpR f5
  have h54 : σ5.1 128 4 = nI (vN V 4) := by rw [g2 4 (by omega)]; exact h4
  obtain ⟨σ6, e6⟩ : ∃ s, s = am_uI σ5 128 8 (nI (D.length - a)) := ⟨_, rfl⟩
  have r6 : rch hd_X11_packs 0 147 [some (.ref 123), some (.int (nI seed)), some (.int (nI D.length)), some (.int (nI a)), some (.int (nI (vN V 4))), d5r] σ5 259 [some (.ref 123), some (.int (nI seed)), some (.int (nI D.length)), some (.int (nI a)), some (.int (nI 0)), d5r] σ6 := rch_0 fun B => by
    rw [e6]
    simp (disch := omega) only [↓e_X11_packs_147, ↓e_X11_packs_246, ↓h_X11_packs_147, ↓h_X11_packs_259, ↓it_s, ↓y_iload, ↓y_lload, ↓y_aload, ↓y_istore, ↓y_lstore, ↓y_astore, ↓y_iinc, ↓y_cI, ↓y_cL, ↓y_bin, ↓y_binL, ↓y_div, ↓y_divL, ↓y_lshl, ↓y_un, ↓y_i2l, ↓y_lneg, ↓y_l2i, ↓y_lcmp, ↓y_dupI, ↓y_dupR, ↓y_dup2, ↓y_pop, ↓y_goto, ↓y_eq0, ↓y_lt0, ↓y_le0, ↓y_eq, ↓y_lt, ↓y_le, ↓y_switch, ↓y_sw0, ↓y_sw1, ↓y_getI, ↓y_getL, ↓y_getR, ↓y_getT, ↓y_putI, ↓y_putZ, ↓y_putL, ↓y_putT, ↓y_iald, ↓y_bald, ↓y_lald, ↓y_aald, ↓y_iast, ↓y_bast, ↓y_last, ↓y_alen, ↓y_iret, ↓y_zret, ↓y_lret, ↓y_vret, ↓y_svI, ↓y_svL, ↓y_svV, ↓y_ivI, ↓y_ivL, ↓y_ivV, ↓y_max, ↓y_min, ↓y_absL, ↓y_cpI, ↓y_cpL, ↓x_n1I, ↓x_n1L, ↓x_n1R, ↓x_n0I, ↓x_n0L, ↓x_n0R, ↓x_s0, ↓x_s1i, ↓x_s1r, ↓x_s1n, ↓x_s2, ↓x_c0, ↓x_c2, ↓x_tk0, ↓x_tk1, ↓x_rcv, x_rI1, x_rL1, x_rV1, x_rIn, x_rLn, x_rVn, x_rIf, x_rLf, x_rVf, x_40, x_41, x_42, x_43, x_44, ↓reduceIte, if_true, if_false, ao_iadd, ao_isub, ao_imul, ao_iand, ao_ior, ao_ishl, ao_ishr, ao_iushr, ao_ladd, ao_lsub, ao_lmul, ao_land, ao_lor, ao_idiv, ao_irem, ao_ldiv, ao_lrem, ao_ineg, ao_i2b, ao_i2s, Nat.reduceAdd, Nat.reduceMul, Nat.reduceSub, Nat.reduceEqDiff, Nat.reduceLeDiff, and_self, true_and, x_lit, x_ofn, x_z0, x_z1, x_inbT, x_ltT, x_ltF, x_leT, x_leF, x_eqF, x_eqT, x_inb, x_lt, x_le, x_eq, x_cl, x_sub, nI_add, pk_mul, x_m1e, x_m1e', x_m1l, x_m1n, x_m1s, Nat.not_lt_zero, x_zb, x_b0, x_b1, decide_eq_false_iff_not, decide_eq_true_eq, Bool.false_eq_true, Bool.true_eq_false, kd_123, kd_128, ln_128, h54]
  have hPR6 : PkR (σ6.1 128) D (vN V 4) := by rw [e6, uI_s]; exact PkR_up g1 hR (by omega)
  obtain ⟨-, σ7, ⟨k1, k2, k3', k4, k5, k6⟩, k7⟩ := rch_for (hd := hd_X11_packs) (p := 259) (n := D.length - a) (C := 1) (fun k (_ : Unit) => [some (.ref 123), some (.int (nI seed)), some (.int (nI D.length)), some (.int (nI a)), some (.int (nI k)), d5r]) (fun k _ τ => frK σ τ ∧ τ.1 133 = σ5.1 133 ∧ PkR (τ.1 128) D (vN V 4) ∧ τ.1 128 8 = nI (D.length - a) ∧ seg (τ.1 128) 92 ((D.drop a).take k) ∧ ∀ j, (j < 8 ∨ (14 + vN V 4 ≤ j ∧ j < 20) ∨ 140 ≤ j) → τ.1 128 j = σ.1 128 j)
    (fun k _ τ hk hI => by
      obtain ⟨i1, i2, i3, i4, i5, i6⟩ := hI
      have hlt : a + k < D.length := by omega
      have hc : D[a + k]? = some D[a + k] := List.getElem?_eq_getElem hlt
      obtain ⟨c, ec⟩ : ∃ c, c = D[a + k] := ⟨_, rfl⟩
      rw [← ec] at hc
      have hpk : τ.1 133 (a + k) = nI c := by
        rw [i2]
        have := f2 _ _ hc
        rwa [Nat.zero_add] at this
      refine ⟨(), am_uI τ 128 (92 + k) (nI c), ⟨frK_c i1, by rw [uI_n (by omega)]; exact i2, ?_, ?_, ?_, fun j hj => ?_⟩, rch_1 fun B => ?_⟩
      · rw [uI_s]; exact PkR_up i3 hR (by omega)
      · rw [uI_s, up_n (by omega)]; exact i4
      · rw [uI_s, List.take_add_one, List.getElem?_drop, hc]
        refine seg_push i5 c ?_
        rw [List.length_take, List.length_drop]; omega
      · rw [uI_s, up_n (by omega)]; exact i6 j hj
      · simp (disch := omega) only [↓e_X11_packs_259, ↓h_X11_packs_259, ↓it_s, ↓y_iload, ↓y_lload, ↓y_aload, ↓y_istore, ↓y_lstore, ↓y_astore, ↓y_iinc, ↓y_cI, ↓y_cL, ↓y_bin, ↓y_binL, ↓y_div, ↓y_divL, ↓y_lshl, ↓y_un, ↓y_i2l, ↓y_lneg, ↓y_l2i, ↓y_lcmp, ↓y_dupI, ↓y_dupR, ↓y_dup2, ↓y_pop, ↓y_goto, ↓y_eq0, ↓y_lt0, ↓y_le0, ↓y_eq, ↓y_lt, ↓y_le, ↓y_switch, ↓y_sw0, ↓y_sw1, ↓y_getI, ↓y_getL, ↓y_getR, ↓y_getT, ↓y_putI, ↓y_putZ, ↓y_putL, ↓y_putT, ↓y_iald, ↓y_bald, ↓y_lald, ↓y_aald, ↓y_iast, ↓y_bast, ↓y_last, ↓y_alen, ↓y_iret, ↓y_zret, ↓y_lret, ↓y_vret, ↓y_svI, ↓y_svL, ↓y_svV, ↓y_ivI, ↓y_ivL, ↓y_ivV, ↓y_max, ↓y_min, ↓y_absL, ↓y_cpI, ↓y_cpL, ↓x_n1I, ↓x_n1L, ↓x_n1R, ↓x_n0I, ↓x_n0L, ↓x_n0R, ↓x_s0, ↓x_s1i, ↓x_s1r, ↓x_s1n, ↓x_s2, ↓x_c0, ↓x_c2, ↓x_tk0, ↓x_tk1, ↓x_rcv, x_rI1, x_rL1, x_rV1, x_rIn, x_rLn, x_rVn, x_rIf, x_rLf, x_rVf, x_40, x_41, x_42, x_43, x_44, ↓reduceIte, if_true, if_false, ao_iadd, ao_isub, ao_imul, ao_iand, ao_ior, ao_ishl, ao_ishr, ao_iushr, ao_ladd, ao_lsub, ao_lmul, ao_land, ao_lor, ao_idiv, ao_irem, ao_ldiv, ao_lrem, ao_ineg, ao_i2b, ao_i2s, Nat.reduceAdd, Nat.reduceMul, Nat.reduceSub, Nat.reduceEqDiff, Nat.reduceLeDiff, and_self, true_and, x_lit, x_ofn, x_z0, x_z1, x_inbT, x_ltT, x_ltF, x_leT, x_leF, x_eqF, x_eqT, x_inb, x_lt, x_le, x_eq, x_cl, x_sub, nI_add, pk_mul, x_m1e, x_m1e', x_m1l, x_m1n, x_m1s, Nat.not_lt_zero, x_zb, x_b0, x_b1, decide_eq_false_iff_not, decide_eq_true_eq, Bool.false_eq_true, Bool.true_eq_false, kd_123, kd_128, kd_133, ln_128, ln_133, hpk])
    (D.length - a) 0 () σ6 (by omega) ⟨by rw [e6]; exact frK_c f1, by rw [e6, uI_n (by omega)], hPR6, by rw [e6, uI_s, up_s], by rw [List.take_zero]; exact seg_nil, fun j hj => by rw [e6, uI_s, up_n (by omega)]; exact g2 j hj⟩
  rw [List.take_of_length_le (by rw [List.length_drop]; omega)] at k5
  refine ⟨σ7, ?_, ?_, k1, fun i hi => k6 i (by omega)⟩
  · have hf := rch_fin a1 (rch_fin b1 (rch_fin r3 (rch_fin c5 (rch_fin r5 (by
      rw [← hDn]
      exact rch_fin f5 (rch_fin r6 (rch_fin k7 (fin_0 (r := some (some (.int (nI D.length)), σ7)) fun B => by
        simp (disch := omega) only [↓e_X11_packs_259, ↓e_X11_packs_292, ↓h_X11_packs_259, ↓it_s, ↓y_iload, ↓y_lload, ↓y_aload, ↓y_istore, ↓y_lstore, ↓y_astore, ↓y_iinc, ↓y_cI, ↓y_cL, ↓y_bin, ↓y_binL, ↓y_div, ↓y_divL, ↓y_lshl, ↓y_un, ↓y_i2l, ↓y_lneg, ↓y_l2i, ↓y_lcmp, ↓y_dupI, ↓y_dupR, ↓y_dup2, ↓y_pop, ↓y_goto, ↓y_eq0, ↓y_lt0, ↓y_le0, ↓y_eq, ↓y_lt, ↓y_le, ↓y_switch, ↓y_sw0, ↓y_sw1, ↓y_getI, ↓y_getL, ↓y_getR, ↓y_getT, ↓y_putI, ↓y_putZ, ↓y_putL, ↓y_putT, ↓y_iald, ↓y_bald, ↓y_lald, ↓y_aald, ↓y_iast, ↓y_bast, ↓y_last, ↓y_alen, ↓y_iret, ↓y_zret, ↓y_lret, ↓y_vret, ↓y_svI, ↓y_svL, ↓y_svV, ↓y_ivI, ↓y_ivL, ↓y_ivV, ↓y_max, ↓y_min, ↓y_absL, ↓y_cpI, ↓y_cpL, ↓x_n1I, ↓x_n1L, ↓x_n1R, ↓x_n0I, ↓x_n0L, ↓x_n0R, ↓x_s0, ↓x_s1i, ↓x_s1r, ↓x_s1n, ↓x_s2, ↓x_c0, ↓x_c2, ↓x_tk0, ↓x_tk1, ↓x_rcv, x_rI1, x_rL1, x_rV1, x_rIn, x_rLn, x_rVn, x_rIf, x_rLf, x_rVf, x_40, x_41, x_42, x_43, x_44, ↓reduceIte, if_true, if_false, ao_iadd, ao_isub, ao_imul, ao_iand, ao_ior, ao_ishl, ao_ishr, ao_iushr, ao_ladd, ao_lsub, ao_lmul, ao_land, ao_lor, ao_idiv, ao_irem, ao_ldiv, ao_lrem, ao_ineg, ao_i2b, ao_i2s, Nat.reduceAdd, Nat.reduceMul, Nat.reduceSub, Nat.reduceEqDiff, Nat.reduceLeDiff, and_self, true_and, x_lit, x_ofn, x_z0, x_z1, x_inbT, x_ltT, x_ltF, x_leT, x_leF, x_eqF, x_eqT, x_inb, x_lt, x_le, x_eq, x_cl, x_sub, nI_add, pk_mul, x_m1e, x_m1e', x_m1l, x_m1n, x_m1s, Nat.not_lt_zero, x_zb, x_b0, x_b1, decide_eq_false_iff_not, decide_eq_true_eq, Bool.false_eq_true, Bool.true_eq_false]))))))))
    rw [← fin_run hf (by unfold am_fuel; omega)]
    simp (disch := omega) only [g_X11_packs, ↓e_X11_packs_0, ↓h_X11_packs_16, ↓it_s, ↓y_iload, ↓y_lload, ↓y_aload, ↓y_istore, ↓y_lstore, ↓y_astore, ↓y_iinc, ↓y_cI, ↓y_cL, ↓y_bin, ↓y_binL, ↓y_div, ↓y_divL, ↓y_lshl, ↓y_un, ↓y_i2l, ↓y_lneg, ↓y_l2i, ↓y_lcmp, ↓y_dupI, ↓y_dupR, ↓y_dup2, ↓y_pop, ↓y_goto, ↓y_eq0, ↓y_lt0, ↓y_le0, ↓y_eq, ↓y_lt, ↓y_le, ↓y_switch, ↓y_sw0, ↓y_sw1, ↓y_getI, ↓y_getL, ↓y_getR, ↓y_getT, ↓y_putI, ↓y_putZ, ↓y_putL, ↓y_putT, ↓y_iald, ↓y_bald, ↓y_lald, ↓y_aald, ↓y_iast, ↓y_bast, ↓y_last, ↓y_alen, ↓y_iret, ↓y_zret, ↓y_lret, ↓y_vret, ↓y_svI, ↓y_svL, ↓y_svV, ↓y_ivI, ↓y_ivL, ↓y_ivV, ↓y_max, ↓y_min, ↓y_absL, ↓y_cpI, ↓y_cpL, ↓x_n1I, ↓x_n1L, ↓x_n1R, ↓x_n0I, ↓x_n0L, ↓x_n0R, ↓x_s0, ↓x_s1i, ↓x_s1r, ↓x_s1n, ↓x_s2, ↓x_c0, ↓x_c2, ↓x_tk0, ↓x_tk1, ↓x_rcv, x_rI1, x_rL1, x_rV1, x_rIn, x_rLn, x_rVn, x_rIf, x_rLf, x_rVf, x_40, x_41, x_42, x_43, x_44, ↓reduceIte, if_true, if_false, ao_iadd, ao_isub, ao_imul, ao_iand, ao_ior, ao_ishl, ao_ishr, ao_iushr, ao_ladd, ao_lsub, ao_lmul, ao_land, ao_lor, ao_idiv, ao_irem, ao_ldiv, ao_lrem, ao_ineg, ao_i2b, ao_i2s, Nat.reduceAdd, Nat.reduceMul, Nat.reduceSub, Nat.reduceEqDiff, Nat.reduceLeDiff, and_self, true_and, x_lit, x_ofn, x_z0, x_z1, x_inbT, x_ltT, x_ltF, x_leT, x_leF, x_eqF, x_eqT, x_inb, x_lt, x_le, x_eq, x_cl, x_sub, nI_add, pk_mul, x_m1e, x_m1e', x_m1l, x_m1n, x_m1s, Nat.not_lt_zero, x_zb, x_b0, x_b1, decide_eq_false_iff_not, decide_eq_true_eq, Bool.false_eq_true, Bool.true_eq_false, kd_123, kd_128, ln_128, h0, h1, ← en]
  · have e : ∀ p, vP (packV V D) p = if p < vN V 4 then (D.drop (pst D.length p)).take (p + 1) else if p = 7 then D.drop (pst D.length (vN V 4)) else [] := fun p => rfl
    obtain ⟨p1, p2, p3⟩ := k3'
    unfold MC
    simp only [Nat.add_zero]
    refine ⟨fun k hk => ?_, ⟨?_, ?_⟩, ⟨?_, ?_⟩, fun s hs => p1 s hs, fun p hp => ?_, fun w i hw hi => ?_⟩
    · rw [k6 k (by omega)]; exact m1 k hk
    · rw [e, if_neg (by omega), if_pos rfl, List.length_drop, ← ea]; exact k4
    · rw [e, if_neg (by omega), if_pos rfl, ← ea]; exact k5
    · rw [e, if_neg (by omega), if_neg (by omega)]; exact p2
    · rw [e, if_neg (by omega), if_neg (by omega)]; exact seg_nil
    · rw [e]
      by_cases h : p < vN V 4
      · rw [if_pos h]; exact p3 p h
      · rw [if_neg h, if_neg (by omega)]
        refine ⟨?_, seg_nil⟩
        rw [k6 (14 + p) (by omega), (m5 p hp).1, wc.2.2.2.1 p hp (by omega)]
    · rw [k6 _ (by omega)]; exact m6 w i hw hi
