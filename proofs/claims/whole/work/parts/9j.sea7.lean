/-! the seasons' text: steps within steps -/
def SubR (nf : Nat) (g f : Nat → Int32) : Nat → Nat → Nat → Nat → Nat → Prop
  | 0, _, _, _, _ => False
  | r + 1, l, L, k, K => DpR nf g f r l L k K
theorem DpR_S {nf : Nat} {g f : Nat → Int32} (r l L k K : Nat) : DpR nf g f r l L k K = ∃ n, SqR (SubR nf g f r) nf g f n l L k K := by
  cases r <;> rfl
theorem SubR_le {nf : Nat} {g f : Nat → Int32} (r : Nat) : ∀ l L k K, SubR nf g f r l L k K → l ≤ L ∧ k ≤ K := by
  intro l L k K h
  cases r with
  | zero => exact h.elim
  | succ r => exact DpR_le r l L k K h
theorem SqR_rg {S T : Nat → Nat → Nat → Nat → Prop} {nf : Nat} {g f g' f' : Nat → Int32} (hT : ∀ l L k K, S l L k K → l ≤ L ∧ k ≤ K) (hS : ∀ l L k K, (∀ i, l * 6 ≤ i → i < L * 6 → g' i = g i) → (∀ i, 9 * k ≤ i → i < 9 * K → f' i = f i) → S l L k K → T l L k K) : ∀ (n l L k K : Nat), (∀ i, l * 6 ≤ i → i < L * 6 → g' i = g i) → (∀ i, 9 * k ≤ i → i < 9 * K → f' i = f i) → SqR S nf g f n l L k K → SqR T nf g' f' n l L k K
  | 0, l, L, k, K, _, _, h => h
  | n + 1, l, L, k, K, hg, hf, h => by
    obtain ⟨i, k1, h1, h2⟩ := h
    have a1 := ItR_lt hT h1
    have a2 := SqR_le hT n _ _ _ _ h2
    refine ⟨i, k1, ?_, SqR_rg hT hS n _ _ _ _ (fun j p q => hg j (by omega) q) (fun j p q => hf j (by omega) q) h2⟩
    have gl : ∀ w, w < 6 → g' (l * 6 + w) = g (l * 6 + w) := fun w hw => hg _ (by omega) (by omega)
    have fl : ∀ w, w < 9 → f' (9 * k + w) = f (9 * k + w) := fun w hw => hf _ (by omega) (by omega)
    obtain ⟨e8, h1⟩ := h1
    refine ⟨by rw [fl 8 (by omega)]; exact e8, ?_⟩
    rcases h1 with ⟨c1, c2, c3⟩ | ⟨p, c1, c2, c3, c4, c5, c6, c7⟩
    · refine Or.inl ⟨c1, c2, ?_⟩
      unfold BasR at c3 ⊢
      rw [gl 0 (by omega), gl 1 (by omega), gl 2 (by omega), fl 0 (by omega), fl 1 (by omega), fl 2 (by omega)]
      exact c3
    · have hp := hT _ _ _ _ c6
      refine Or.inr ⟨p, c1, c2, by rw [gl 5 (by omega)]; exact c3, by rw [hg _ (by omega) (by omega)]; exact c4, by rw [hg _ (by omega) (by omega)]; exact c5, hS _ _ _ _ (fun j p q => hg j (by omega) (by omega)) (fun j p q => hf j (by omega) (by omega)) c6, ?_⟩
      unfold TestR at c7 ⊢
      rw [gl 0 (by omega), gl 1 (by omega), gl 2 (by omega), gl 3 (by omega), gl 4 (by omega), fl 0 (by omega), fl 1 (by omega), fl 2 (by omega), fl 6 (by omega), fl 7 (by omega)]
      exact c7
theorem DpR_rg {nf : Nat} {g f g' f' : Nat → Int32} : ∀ (d l L k K : Nat), (∀ i, l * 6 ≤ i → i < L * 6 → g' i = g i) → (∀ i, 9 * k ≤ i → i < 9 * K → f' i = f i) → DpR nf g f d l L k K → DpR nf g' f' d l L k K
  | 0, l, L, k, K, hg, hf, h => by
    obtain ⟨n, h⟩ := h
    exact ⟨n, SqR_rg (fun _ _ _ _ z => z.elim) (fun _ _ _ _ _ _ z => z) n _ _ _ _ hg hf h⟩
  | d + 1, l, L, k, K, hg, hf, h => by
    obtain ⟨n, h⟩ := h
    exact ⟨n, SqR_rg (DpR_le d) (fun l L k K a b z => DpR_rg d l L k K a b z) n _ _ _ _ hg hf h⟩
theorem SubR_rg {nf : Nat} {g f g' f' : Nat → Int32} (r l L k K : Nat) (hg : ∀ i, l * 6 ≤ i → i < L * 6 → g' i = g i) (hf : ∀ i, 9 * k ≤ i → i < 9 * K → f' i = f i) (h : SubR nf g f r l L k K) : SubR nf g' f' r l L k K := by
  cases r with
  | zero => exact h
  | succ r => exact DpR_rg r l L k K hg hf h
theorem SqS_rg {nf : Nat} {g f g' f' : Nat → Int32} (r n l L k K : Nat) (hg : ∀ i, l * 6 ≤ i → i < L * 6 → g' i = g i) (hf : ∀ i, 9 * k ≤ i → i < 9 * K → f' i = f i) (h : SqR (SubR nf g f r) nf g f n l L k K) : SqR (SubR nf g' f' r) nf g' f' n l L k K := SqR_rg (SubR_le r) (fun l L k K a b z => SubR_rg r l L k K a b z) n l L k K hg hf h
theorem SqR_app {S : Nat → Nat → Nat → Nat → Prop} {nf : Nat} {g f : Nat → Int32} : ∀ (n l L k K L2 K2 : Nat), SqR S nf g f n l L k K → ItR S nf g f L L2 K K2 → SqR S nf g f (n + 1) l L2 k K2
  | 0, l, L, k, K, L2, K2, h, hi => by
    obtain ⟨rfl, rfl⟩ := h
    exact ⟨L2, K2, hi, rfl, rfl⟩
  | n + 1, l, L, k, K, L2, K2, h, hi => by
    obtain ⟨i, k1, h1, h2⟩ := h
    exact ⟨i, k1, h1, SqR_app n i L k1 K L2 K2 h2 hi⟩
theorem LineR_cg {nf : Nat} {blk : Bool} {g f g' f' : Nat → Int32} {l k : Nat} (h : LineR nf blk g f l k) (hg : ∀ w, w < 5 → g' (l * 6 + w) = g (l * 6 + w)) (hf : ∀ w, w < 8 → f' (9 * k + w) = f (9 * k + w)) : LineR nf blk g' f' l k := by
  unfold LineR at *
  cases blk with
  | true =>
    simp only [if_true] at h ⊢
    unfold TestR at *
    rw [hg 0 (by omega), hg 1 (by omega), hg 2 (by omega), hg 3 (by omega), hg 4 (by omega), hf 0 (by omega), hf 1 (by omega), hf 2 (by omega), hf 6 (by omega), hf 7 (by omega)]
    exact h
  | false =>
    simp only [Bool.false_eq_true, if_false] at h ⊢
    unfold BasR at *
    rw [hg 0 (by omega), hg 1 (by omega), hg 2 (by omega), hf 0 (by omega), hf 1 (by omega), hf 2 (by omega)]
    exact h
/-! one turn of the class's loop -/
abbrev tk (pt : Nat) (l5 : Option Value) : am_L := [some (.ref 7), some (.ref 3), some (.ref 9), some (.ref 34), some (.int (nI pt)), l5]
theorem X_turn {pt : Nat} {l5 : Option Value} {x : Int32} {σx σ1 τ : am_M} (hp : pt ≤ 300) (hs : S_X3_step [.ref 3] σx = some (some (.int (nI 1)), σ1)) (he : S_X3_isEnd [.ref 3] σ1 = some (some (.int (nI 0)), σ1)) (h9 : σ1.1 3 9 = x) (h21 : ¬ x = nI 21) : (S_X5_takeStep [.ref 7, .ref 3, .ref 9, .ref 34] σ1 = some (some (.int (nI 0)), τ) → fin hd_X5_take 0 17 (tk pt l5) σx (some (some (.int (nI 0)), τ))) ∧ (S_X5_takeStep [.ref 7, .ref 3, .ref 9, .ref 34] σ1 = some (some (.int (nI 1)), τ) → rch hd_X5_take 1 17 (tk pt l5) σx 17 (tk (pt + 1) (some (.int (nI 1)))) τ) := by
  constructor
  · intro h
    refine fin_0 fun B => ?_
    simp (disch := omega) only [tk, ↓e_X5_take_17, ↓e_X5_take_34, ↓e_X5_take_62, ↓e_X5_take_80, ↓e_X5_take_87, ↓h_X5_take_17, ↓it_s, ↓y_iload, ↓y_lload, ↓y_aload, ↓y_istore, ↓y_lstore, ↓y_astore, ↓y_iinc, ↓y_cI, ↓y_cL, ↓y_bin, ↓y_binL, ↓y_div, ↓y_divL, ↓y_lshl, ↓y_un, ↓y_i2l, ↓y_lneg, ↓y_l2i, ↓y_lcmp, ↓y_dupI, ↓y_dupR, ↓y_dup2, ↓y_pop, ↓y_goto, ↓y_eq0, ↓y_lt0, ↓y_le0, ↓y_eq, ↓y_lt, ↓y_le, ↓y_switch, ↓y_sw0, ↓y_sw1, ↓y_getI, ↓y_getL, ↓y_getR, ↓y_getT, ↓y_putI, ↓y_putZ, ↓y_putL, ↓y_putT, ↓y_iald, ↓y_bald, ↓y_lald, ↓y_aald, ↓y_iast, ↓y_bast, ↓y_last, ↓y_alen, ↓y_iret, ↓y_zret, ↓y_lret, ↓y_vret, ↓y_svI, ↓y_svL, ↓y_svV, ↓y_ivI, ↓y_ivL, ↓y_ivV, ↓y_max, ↓y_min, ↓y_absL, ↓y_cpI, ↓y_cpL, ↓x_n1I, ↓x_n1L, ↓x_n1R, ↓x_n0I, ↓x_n0L, ↓x_n0R, ↓x_s0, ↓x_s1i, ↓x_s1r, ↓x_s1n, ↓x_s2, ↓x_c0, ↓x_c2, ↓x_tk0, ↓x_tk1, ↓x_rcv, x_rI1, x_rL1, x_rV1, x_rIn, x_rLn, x_rVn, x_rIf, x_rLf, x_rVf, x_40, x_41, x_42, x_43, x_44, ↓reduceIte, if_true, if_false, ao_iadd, ao_isub, ao_imul, ao_iand, ao_ior, ao_ishl, ao_ishr, ao_iushr, ao_ladd, ao_lsub, ao_lmul, ao_land, ao_lor, ao_idiv, ao_irem, ao_ldiv, ao_lrem, ao_ineg, ao_i2b, ao_i2s, Nat.reduceAdd, Nat.reduceMul, Nat.reduceSub, Nat.reduceEqDiff, Nat.reduceLeDiff, and_self, true_and, x_lit, x_ofn, x_z0, x_z1, x_inbT, x_ltT, x_ltF, x_leT, x_leF, x_eqF, x_eqT, x_inb, x_lt, x_le, x_eq, x_cl, x_sub, nI_add, pk_mul, x_m1e, x_m1e', x_m1l, x_m1n, x_m1s, Nat.not_lt_zero, x_zb, x_b0, x_b1, decide_eq_false_iff_not, decide_eq_true_eq, Bool.false_eq_true, Bool.true_eq_false, hp, hs, he, h9, h21, h, kd_3, kd_7]
  · intro h
    refine rch_1 fun B => ?_
    simp (disch := omega) only [tk, ↓e_X5_take_17, ↓e_X5_take_34, ↓e_X5_take_62, ↓e_X5_take_80, ↓e_X5_take_87, ↓e_X5_take_96, ↓h_X5_take_17, ↓it_s, ↓y_iload, ↓y_lload, ↓y_aload, ↓y_istore, ↓y_lstore, ↓y_astore, ↓y_iinc, ↓y_cI, ↓y_cL, ↓y_bin, ↓y_binL, ↓y_div, ↓y_divL, ↓y_lshl, ↓y_un, ↓y_i2l, ↓y_lneg, ↓y_l2i, ↓y_lcmp, ↓y_dupI, ↓y_dupR, ↓y_dup2, ↓y_pop, ↓y_goto, ↓y_eq0, ↓y_lt0, ↓y_le0, ↓y_eq, ↓y_lt, ↓y_le, ↓y_switch, ↓y_sw0, ↓y_sw1, ↓y_getI, ↓y_getL, ↓y_getR, ↓y_getT, ↓y_putI, ↓y_putZ, ↓y_putL, ↓y_putT, ↓y_iald, ↓y_bald, ↓y_lald, ↓y_aald, ↓y_iast, ↓y_bast, ↓y_last, ↓y_alen, ↓y_iret, ↓y_zret, ↓y_lret, ↓y_vret, ↓y_svI, ↓y_svL, ↓y_svV, ↓y_ivI, ↓y_ivL, ↓y_ivV, ↓y_max, ↓y_min, ↓y_absL, ↓y_cpI, ↓y_cpL, ↓x_n1I, ↓x_n1L, ↓x_n1R, ↓x_n0I, ↓x_n0L, ↓x_n0R, ↓x_s0, ↓x_s1i, ↓x_s1r, ↓x_s1n, ↓x_s2, ↓x_c0, ↓x_c2, ↓x_tk0, ↓x_tk1, ↓x_rcv, x_rI1, x_rL1, x_rV1, x_rIn, x_rLn, x_rVn, x_rIf, x_rLf, x_rVf, x_40, x_41, x_42, x_43, x_44, ↓reduceIte, if_true, if_false, ao_iadd, ao_isub, ao_imul, ao_iand, ao_ior, ao_ishl, ao_ishr, ao_iushr, ao_ladd, ao_lsub, ao_lmul, ao_land, ao_lor, ao_idiv, ao_irem, ao_ldiv, ao_lrem, ao_ineg, ao_i2b, ao_i2s, Nat.reduceAdd, Nat.reduceMul, Nat.reduceSub, Nat.reduceEqDiff, Nat.reduceLeDiff, and_self, true_and, x_lit, x_ofn, x_z0, x_z1, x_inbT, x_ltT, x_ltF, x_leT, x_leF, x_eqF, x_eqT, x_inb, x_lt, x_le, x_eq, x_cl, x_sub, nI_add, pk_mul, x_m1e, x_m1e', x_m1l, x_m1n, x_m1s, Nat.not_lt_zero, x_zb, x_b0, x_b1, decide_eq_false_iff_not, decide_eq_true_eq, Bool.false_eq_true, Bool.true_eq_false, hp, hs, he, h9, h21, h, kd_3, kd_7]
theorem X_turnE {pt : Nat} {l5 : Option Value} {σx σ1 τ : am_M} (hp : pt ≤ 300) (hs : S_X3_step [.ref 3] σx = some (some (.int (nI 1)), σ1)) (he : S_X3_isEnd [.ref 3] σ1 = some (some (.int (nI 0)), σ1)) (h9 : σ1.1 3 9 = nI 21) : (S_X5_takeEnd [.ref 7, .ref 3, .ref 34] σ1 = some (some (.int (nI 0)), τ) → fin hd_X5_take 0 17 (tk pt l5) σx (some (some (.int (nI 0)), τ))) ∧ (S_X5_takeEnd [.ref 7, .ref 3, .ref 34] σ1 = some (some (.int (nI 1)), τ) → rch hd_X5_take 1 17 (tk pt l5) σx 17 (tk (pt + 1) (some (.int (nI 1)))) τ) := by
  constructor
  · intro h
    refine fin_0 fun B => ?_
    simp (disch := omega) only [tk, ↓e_X5_take_17, ↓e_X5_take_34, ↓e_X5_take_62, ↓e_X5_take_87, ↓h_X5_take_17, ↓it_s, ↓y_iload, ↓y_lload, ↓y_aload, ↓y_istore, ↓y_lstore, ↓y_astore, ↓y_iinc, ↓y_cI, ↓y_cL, ↓y_bin, ↓y_binL, ↓y_div, ↓y_divL, ↓y_lshl, ↓y_un, ↓y_i2l, ↓y_lneg, ↓y_l2i, ↓y_lcmp, ↓y_dupI, ↓y_dupR, ↓y_dup2, ↓y_pop, ↓y_goto, ↓y_eq0, ↓y_lt0, ↓y_le0, ↓y_eq, ↓y_lt, ↓y_le, ↓y_switch, ↓y_sw0, ↓y_sw1, ↓y_getI, ↓y_getL, ↓y_getR, ↓y_getT, ↓y_putI, ↓y_putZ, ↓y_putL, ↓y_putT, ↓y_iald, ↓y_bald, ↓y_lald, ↓y_aald, ↓y_iast, ↓y_bast, ↓y_last, ↓y_alen, ↓y_iret, ↓y_zret, ↓y_lret, ↓y_vret, ↓y_svI, ↓y_svL, ↓y_svV, ↓y_ivI, ↓y_ivL, ↓y_ivV, ↓y_max, ↓y_min, ↓y_absL, ↓y_cpI, ↓y_cpL, ↓x_n1I, ↓x_n1L, ↓x_n1R, ↓x_n0I, ↓x_n0L, ↓x_n0R, ↓x_s0, ↓x_s1i, ↓x_s1r, ↓x_s1n, ↓x_s2, ↓x_c0, ↓x_c2, ↓x_tk0, ↓x_tk1, ↓x_rcv, x_rI1, x_rL1, x_rV1, x_rIn, x_rLn, x_rVn, x_rIf, x_rLf, x_rVf, x_40, x_41, x_42, x_43, x_44, ↓reduceIte, if_true, if_false, ao_iadd, ao_isub, ao_imul, ao_iand, ao_ior, ao_ishl, ao_ishr, ao_iushr, ao_ladd, ao_lsub, ao_lmul, ao_land, ao_lor, ao_idiv, ao_irem, ao_ldiv, ao_lrem, ao_ineg, ao_i2b, ao_i2s, Nat.reduceAdd, Nat.reduceMul, Nat.reduceSub, Nat.reduceEqDiff, Nat.reduceLeDiff, and_self, true_and, x_lit, x_ofn, x_z0, x_z1, x_inbT, x_ltT, x_ltF, x_leT, x_leF, x_eqF, x_eqT, x_inb, x_lt, x_le, x_eq, x_cl, x_sub, nI_add, pk_mul, x_m1e, x_m1e', x_m1l, x_m1n, x_m1s, Nat.not_lt_zero, x_zb, x_b0, x_b1, decide_eq_false_iff_not, decide_eq_true_eq, Bool.false_eq_true, Bool.true_eq_false, hp, hs, he, h9, h, kd_3, kd_7]
  · intro h
    refine rch_1 fun B => ?_
    simp (disch := omega) only [tk, ↓e_X5_take_17, ↓e_X5_take_34, ↓e_X5_take_62, ↓e_X5_take_87, ↓e_X5_take_96, ↓h_X5_take_17, ↓it_s, ↓y_iload, ↓y_lload, ↓y_aload, ↓y_istore, ↓y_lstore, ↓y_astore, ↓y_iinc, ↓y_cI, ↓y_cL, ↓y_bin, ↓y_binL, ↓y_div, ↓y_divL, ↓y_lshl, ↓y_un, ↓y_i2l, ↓y_lneg, ↓y_l2i, ↓y_lcmp, ↓y_dupI, ↓y_dupR, ↓y_dup2, ↓y_pop, ↓y_goto, ↓y_eq0, ↓y_lt0, ↓y_le0, ↓y_eq, ↓y_lt, ↓y_le, ↓y_switch, ↓y_sw0, ↓y_sw1, ↓y_getI, ↓y_getL, ↓y_getR, ↓y_getT, ↓y_putI, ↓y_putZ, ↓y_putL, ↓y_putT, ↓y_iald, ↓y_bald, ↓y_lald, ↓y_aald, ↓y_iast, ↓y_bast, ↓y_last, ↓y_alen, ↓y_iret, ↓y_zret, ↓y_lret, ↓y_vret, ↓y_svI, ↓y_svL, ↓y_svV, ↓y_ivI, ↓y_ivL, ↓y_ivV, ↓y_max, ↓y_min, ↓y_absL, ↓y_cpI, ↓y_cpL, ↓x_n1I, ↓x_n1L, ↓x_n1R, ↓x_n0I, ↓x_n0L, ↓x_n0R, ↓x_s0, ↓x_s1i, ↓x_s1r, ↓x_s1n, ↓x_s2, ↓x_c0, ↓x_c2, ↓x_tk0, ↓x_tk1, ↓x_rcv, x_rI1, x_rL1, x_rV1, x_rIn, x_rLn, x_rVn, x_rIf, x_rLf, x_rVf, x_40, x_41, x_42, x_43, x_44, ↓reduceIte, if_true, if_false, ao_iadd, ao_isub, ao_imul, ao_iand, ao_ior, ao_ishl, ao_ishr, ao_iushr, ao_ladd, ao_lsub, ao_lmul, ao_land, ao_lor, ao_idiv, ao_irem, ao_ldiv, ao_lrem, ao_ineg, ao_i2b, ao_i2s, Nat.reduceAdd, Nat.reduceMul, Nat.reduceSub, Nat.reduceEqDiff, Nat.reduceLeDiff, and_self, true_and, x_lit, x_ofn, x_z0, x_z1, x_inbT, x_ltT, x_ltF, x_leT, x_leF, x_eqF, x_eqT, x_inb, x_lt, x_le, x_eq, x_cl, x_sub, nI_add, pk_mul, x_m1e, x_m1e', x_m1l, x_m1n, x_m1s, Nat.not_lt_zero, x_zb, x_b0, x_b1, decide_eq_false_iff_not, decide_eq_true_eq, Bool.false_eq_true, Bool.true_eq_false, hp, hs, he, h9, h, kd_3, kd_7]
/-- faults at a step's word -/
theorem M_stepNo {t : Nat → Nat} {e a d : Nat} {σ : am_M} {E : am_F} (hk : TokM t e a σ) (hae : a ≤ e) (h12 : σ.1 123 12 = nI 0) (hw : stI (twi t e a) = -nI 1) : F_X11_readStep E [.ref 123, .int (nI d)] σ = some (none, bdM σ (amk t e a) (tp t e a)) := by
  have sw := M_stepWord hae hk
  rw [hw] at sw
  have am := M_amiss hk h12
  have b12 := bdM_12 σ (amk t e a) (tp t e a)
  obtain ⟨ak1, ak2⟩ := amk_12 t e a
  obtain ⟨q, eq⟩ : ∃ q, q = amk t e a := ⟨_, rfl⟩
  rw [← eq] at am b12 ak1 ak2 ⊢
  obtain ⟨ρ, er⟩ : ∃ ρ, ρ = bdM σ q (tp t e a) := ⟨_, rfl⟩
  rw [← er] at am b12 ⊢
  have n0 : ¬ q = 0 := by omega
  have n1 : ¬ q ≤ 0 := by omega
  have z5 : ¬ -nI 1 = nI 5 := by decide +kernel
  have z6 : ¬ -nI 1 = nI 6 := by decide +kernel
  have h30 : F_X11_readStep E [.ref 123, .int (nI d)] σ = dn_X11_readStep_30 E (am_it (hd_X11_readStep E) am_fuel) [some (.ref 123), some (.int (nI d)), some (.int (-nI 1)), some (.int (nI 0)), none] [] ρ := by
    simp (disch := omega) only [g_X11_readStep, ↓e_X11_readStep_0, ↓e_X11_readStep_20, ↓e_X11_readStep_21, ↓it_s, ↓y_iload, ↓y_lload, ↓y_aload, ↓y_istore, ↓y_lstore, ↓y_astore, ↓y_iinc, ↓y_cI, ↓y_cL, ↓y_bin, ↓y_binL, ↓y_div, ↓y_divL, ↓y_lshl, ↓y_un, ↓y_i2l, ↓y_lneg, ↓y_l2i, ↓y_lcmp, ↓y_dupI, ↓y_dupR, ↓y_dup2, ↓y_pop, ↓y_goto, ↓y_eq0, ↓y_lt0, ↓y_le0, ↓y_eq, ↓y_lt, ↓y_le, ↓y_switch, ↓y_sw0, ↓y_sw1, ↓y_getI, ↓y_getL, ↓y_getR, ↓y_getT, ↓y_putI, ↓y_putZ, ↓y_putL, ↓y_putT, ↓y_iald, ↓y_bald, ↓y_lald, ↓y_aald, ↓y_iast, ↓y_bast, ↓y_last, ↓y_alen, ↓y_iret, ↓y_zret, ↓y_lret, ↓y_vret, ↓y_svI, ↓y_svL, ↓y_svV, ↓y_ivI, ↓y_ivL, ↓y_ivV, ↓y_max, ↓y_min, ↓y_absL, ↓y_cpI, ↓y_cpL, ↓x_n1I, ↓x_n1L, ↓x_n1R, ↓x_n0I, ↓x_n0L, ↓x_n0R, ↓x_s0, ↓x_s1i, ↓x_s1r, ↓x_s1n, ↓x_s2, ↓x_c0, ↓x_c2, ↓x_tk0, ↓x_tk1, ↓x_rcv, x_rI1, x_rL1, x_rV1, x_rIn, x_rLn, x_rVn, x_rIf, x_rLf, x_rVf, x_40, x_41, x_42, x_43, x_44, ↓reduceIte, if_true, if_false, ao_iadd, ao_isub, ao_imul, ao_iand, ao_ior, ao_ishl, ao_ishr, ao_iushr, ao_ladd, ao_lsub, ao_lmul, ao_land, ao_lor, ao_idiv, ao_irem, ao_ldiv, ao_lrem, ao_ineg, ao_i2b, ao_i2s, Nat.reduceAdd, Nat.reduceMul, Nat.reduceSub, Nat.reduceEqDiff, Nat.reduceLeDiff, and_self, true_and, x_lit, x_ofn, x_z0, x_z1, x_inbT, x_ltT, x_ltF, x_leT, x_leF, x_eqF, x_eqT, x_inb, x_lt, x_le, x_eq, x_cl, x_sub, nI_add, pk_mul, x_m1e, x_m1e', x_m1l, x_m1n, x_m1s, Nat.not_lt_zero, x_zb, x_b0, x_b1, decide_eq_false_iff_not, decide_eq_true_eq, Bool.false_eq_true, Bool.true_eq_false, sw, am, z5, z6, kd_123]
  rw [h30]
  simp (disch := omega) only [↓e_X11_readStep_30, ↓e_X11_readStep_56, ↓e_X11_readStep_82, ↓it_s, ↓y_iload, ↓y_lload, ↓y_aload, ↓y_istore, ↓y_lstore, ↓y_astore, ↓y_iinc, ↓y_cI, ↓y_cL, ↓y_bin, ↓y_binL, ↓y_div, ↓y_divL, ↓y_lshl, ↓y_un, ↓y_i2l, ↓y_lneg, ↓y_l2i, ↓y_lcmp, ↓y_dupI, ↓y_dupR, ↓y_dup2, ↓y_pop, ↓y_goto, ↓y_eq0, ↓y_lt0, ↓y_le0, ↓y_eq, ↓y_lt, ↓y_le, ↓y_switch, ↓y_sw0, ↓y_sw1, ↓y_getI, ↓y_getL, ↓y_getR, ↓y_getT, ↓y_putI, ↓y_putZ, ↓y_putL, ↓y_putT, ↓y_iald, ↓y_bald, ↓y_lald, ↓y_aald, ↓y_iast, ↓y_bast, ↓y_last, ↓y_alen, ↓y_iret, ↓y_zret, ↓y_lret, ↓y_vret, ↓y_svI, ↓y_svL, ↓y_svV, ↓y_ivI, ↓y_ivL, ↓y_ivV, ↓y_max, ↓y_min, ↓y_absL, ↓y_cpI, ↓y_cpL, ↓x_n1I, ↓x_n1L, ↓x_n1R, ↓x_n0I, ↓x_n0L, ↓x_n0R, ↓x_s0, ↓x_s1i, ↓x_s1r, ↓x_s1n, ↓x_s2, ↓x_c0, ↓x_c2, ↓x_tk0, ↓x_tk1, ↓x_rcv, x_rI1, x_rL1, x_rV1, x_rIn, x_rLn, x_rVn, x_rIf, x_rLf, x_rVf, x_40, x_41, x_42, x_43, x_44, ↓reduceIte, if_true, if_false, ao_iadd, ao_isub, ao_imul, ao_iand, ao_ior, ao_ishl, ao_ishr, ao_iushr, ao_ladd, ao_lsub, ao_lmul, ao_land, ao_lor, ao_idiv, ao_irem, ao_ldiv, ao_lrem, ao_ineg, ao_i2b, ao_i2s, Nat.reduceAdd, Nat.reduceMul, Nat.reduceSub, Nat.reduceEqDiff, Nat.reduceLeDiff, and_self, true_and, x_lit, x_ofn, x_z0, x_z1, x_inbT, x_ltT, x_ltF, x_leT, x_leF, x_eqF, x_eqT, x_inb, x_lt, x_le, x_eq, x_cl, x_sub, nI_add, pk_mul, x_m1e, x_m1e', x_m1l, x_m1n, x_m1s, Nat.not_lt_zero, x_zb, x_b0, x_b1, decide_eq_false_iff_not, decide_eq_true_eq, Bool.false_eq_true, Bool.true_eq_false, b12, n0, n1, kd_123]
theorem M_stepMany {t : Nat → Nat} {e a d wd kind : Nat} {blk : Bool} {σ : am_M} {E : am_F} (hst : isSt wd kind blk) (hk : TokM t e a σ) (hae : a ≤ e) (h12 : σ.1 123 12 = nI 0) (htw : twi t e a = some wd) (h28 : σ.1 123 28 = nI 30) : F_X11_readStep E [.ref 123, .int (nI d)] σ = some (none, bdM σ 6 (tp t e a)) := by
  have sw := M_stepWord hae hk
  have sw' : S_X11_stepWord [.ref 123] σ = some (some (.int (nI kind)), σ) := by
    rw [sw, htw]
    rcases hst with ⟨rfl, rfl, rfl⟩ | ⟨rfl, rfl, rfl⟩ | ⟨rfl, rfl, rfl⟩ | ⟨rfl, rfl, rfl⟩ | ⟨rfl, rfl, rfl⟩ | ⟨rfl, rfl, rfl⟩ | ⟨rfl, rfl, rfl⟩ | ⟨rfl, rfl, rfl⟩ <;> rfl
  have h15 := hk.1
  have fl := M_fail0 (k := 6) (p := tp t e a) h12
  have b12 := bdM_12 σ 6 (tp t e a)
  have hkd : kind < 8 := by rcases hst with ⟨a, b, c⟩ | ⟨a, b, c⟩ | ⟨a, b, c⟩ | ⟨a, b, c⟩ | ⟨a, b, c⟩ | ⟨a, b, c⟩ | ⟨a, b, c⟩ | ⟨a, b, c⟩ <;> omega
  by_cases q5 : kind = 5
  · subst q5
    simp (disch := omega) only [g_X11_readStep, ↓e_X11_readStep_0, ↓e_X11_readStep_16, ↓e_X11_readStep_21, ↓e_X11_readStep_30, ↓e_X11_readStep_56, ↓e_X11_readStep_82, ↓it_s, ↓y_iload, ↓y_lload, ↓y_aload, ↓y_istore, ↓y_lstore, ↓y_astore, ↓y_iinc, ↓y_cI, ↓y_cL, ↓y_bin, ↓y_binL, ↓y_div, ↓y_divL, ↓y_lshl, ↓y_un, ↓y_i2l, ↓y_lneg, ↓y_l2i, ↓y_lcmp, ↓y_dupI, ↓y_dupR, ↓y_dup2, ↓y_pop, ↓y_goto, ↓y_eq0, ↓y_lt0, ↓y_le0, ↓y_eq, ↓y_lt, ↓y_le, ↓y_switch, ↓y_sw0, ↓y_sw1, ↓y_getI, ↓y_getL, ↓y_getR, ↓y_getT, ↓y_putI, ↓y_putZ, ↓y_putL, ↓y_putT, ↓y_iald, ↓y_bald, ↓y_lald, ↓y_aald, ↓y_iast, ↓y_bast, ↓y_last, ↓y_alen, ↓y_iret, ↓y_zret, ↓y_lret, ↓y_vret, ↓y_svI, ↓y_svL, ↓y_svV, ↓y_ivI, ↓y_ivL, ↓y_ivV, ↓y_max, ↓y_min, ↓y_absL, ↓y_cpI, ↓y_cpL, ↓x_n1I, ↓x_n1L, ↓x_n1R, ↓x_n0I, ↓x_n0L, ↓x_n0R, ↓x_s0, ↓x_s1i, ↓x_s1r, ↓x_s1n, ↓x_s2, ↓x_c0, ↓x_c2, ↓x_tk0, ↓x_tk1, ↓x_rcv, x_rI1, x_rL1, x_rV1, x_rIn, x_rLn, x_rVn, x_rIf, x_rLf, x_rVf, x_40, x_41, x_42, x_43, x_44, ↓reduceIte, if_true, if_false, ao_iadd, ao_isub, ao_imul, ao_iand, ao_ior, ao_ishl, ao_ishr, ao_iushr, ao_ladd, ao_lsub, ao_lmul, ao_land, ao_lor, ao_idiv, ao_irem, ao_ldiv, ao_lrem, ao_ineg, ao_i2b, ao_i2s, Nat.reduceAdd, Nat.reduceMul, Nat.reduceSub, Nat.reduceEqDiff, Nat.reduceLeDiff, and_self, true_and, x_lit, x_ofn, x_z0, x_z1, x_inbT, x_ltT, x_ltF, x_leT, x_leF, x_eqF, x_eqT, x_inb, x_lt, x_le, x_eq, x_cl, x_sub, nI_add, pk_mul, x_m1e, x_m1e', x_m1l, x_m1n, x_m1s, Nat.not_lt_zero, x_zb, x_b0, x_b1, decide_eq_false_iff_not, decide_eq_true_eq, Bool.false_eq_true, Bool.true_eq_false, sw', h12, h28, h15, fl, b12, kd_123]
  · by_cases q6 : kind = 6
    · subst q6
      simp (disch := omega) only [g_X11_readStep, ↓e_X11_readStep_0, ↓e_X11_readStep_16, ↓e_X11_readStep_21, ↓e_X11_readStep_30, ↓e_X11_readStep_56, ↓e_X11_readStep_82, ↓it_s, ↓y_iload, ↓y_lload, ↓y_aload, ↓y_istore, ↓y_lstore, ↓y_astore, ↓y_iinc, ↓y_cI, ↓y_cL, ↓y_bin, ↓y_binL, ↓y_div, ↓y_divL, ↓y_lshl, ↓y_un, ↓y_i2l, ↓y_lneg, ↓y_l2i, ↓y_lcmp, ↓y_dupI, ↓y_dupR, ↓y_dup2, ↓y_pop, ↓y_goto, ↓y_eq0, ↓y_lt0, ↓y_le0, ↓y_eq, ↓y_lt, ↓y_le, ↓y_switch, ↓y_sw0, ↓y_sw1, ↓y_getI, ↓y_getL, ↓y_getR, ↓y_getT, ↓y_putI, ↓y_putZ, ↓y_putL, ↓y_putT, ↓y_iald, ↓y_bald, ↓y_lald, ↓y_aald, ↓y_iast, ↓y_bast, ↓y_last, ↓y_alen, ↓y_iret, ↓y_zret, ↓y_lret, ↓y_vret, ↓y_svI, ↓y_svL, ↓y_svV, ↓y_ivI, ↓y_ivL, ↓y_ivV, ↓y_max, ↓y_min, ↓y_absL, ↓y_cpI, ↓y_cpL, ↓x_n1I, ↓x_n1L, ↓x_n1R, ↓x_n0I, ↓x_n0L, ↓x_n0R, ↓x_s0, ↓x_s1i, ↓x_s1r, ↓x_s1n, ↓x_s2, ↓x_c0, ↓x_c2, ↓x_tk0, ↓x_tk1, ↓x_rcv, x_rI1, x_rL1, x_rV1, x_rIn, x_rLn, x_rVn, x_rIf, x_rLf, x_rVf, x_40, x_41, x_42, x_43, x_44, ↓reduceIte, if_true, if_false, ao_iadd, ao_isub, ao_imul, ao_iand, ao_ior, ao_ishl, ao_ishr, ao_iushr, ao_ladd, ao_lsub, ao_lmul, ao_land, ao_lor, ao_idiv, ao_irem, ao_ldiv, ao_lrem, ao_ineg, ao_i2b, ao_i2s, Nat.reduceAdd, Nat.reduceMul, Nat.reduceSub, Nat.reduceEqDiff, Nat.reduceLeDiff, and_self, true_and, x_lit, x_ofn, x_z0, x_z1, x_inbT, x_ltT, x_ltF, x_leT, x_leF, x_eqF, x_eqT, x_inb, x_lt, x_le, x_eq, x_cl, x_sub, nI_add, pk_mul, x_m1e, x_m1e', x_m1l, x_m1n, x_m1s, Nat.not_lt_zero, x_zb, x_b0, x_b1, decide_eq_false_iff_not, decide_eq_true_eq, Bool.false_eq_true, Bool.true_eq_false, sw', h12, h28, h15, fl, b12, kd_123]
    · simp (disch := omega) only [g_X11_readStep, ↓e_X11_readStep_0, ↓e_X11_readStep_20, ↓e_X11_readStep_21, ↓e_X11_readStep_30, ↓e_X11_readStep_56, ↓e_X11_readStep_82, ↓it_s, ↓y_iload, ↓y_lload, ↓y_aload, ↓y_istore, ↓y_lstore, ↓y_astore, ↓y_iinc, ↓y_cI, ↓y_cL, ↓y_bin, ↓y_binL, ↓y_div, ↓y_divL, ↓y_lshl, ↓y_un, ↓y_i2l, ↓y_lneg, ↓y_l2i, ↓y_lcmp, ↓y_dupI, ↓y_dupR, ↓y_dup2, ↓y_pop, ↓y_goto, ↓y_eq0, ↓y_lt0, ↓y_le0, ↓y_eq, ↓y_lt, ↓y_le, ↓y_switch, ↓y_sw0, ↓y_sw1, ↓y_getI, ↓y_getL, ↓y_getR, ↓y_getT, ↓y_putI, ↓y_putZ, ↓y_putL, ↓y_putT, ↓y_iald, ↓y_bald, ↓y_lald, ↓y_aald, ↓y_iast, ↓y_bast, ↓y_last, ↓y_alen, ↓y_iret, ↓y_zret, ↓y_lret, ↓y_vret, ↓y_svI, ↓y_svL, ↓y_svV, ↓y_ivI, ↓y_ivL, ↓y_ivV, ↓y_max, ↓y_min, ↓y_absL, ↓y_cpI, ↓y_cpL, ↓x_n1I, ↓x_n1L, ↓x_n1R, ↓x_n0I, ↓x_n0L, ↓x_n0R, ↓x_s0, ↓x_s1i, ↓x_s1r, ↓x_s1n, ↓x_s2, ↓x_c0, ↓x_c2, ↓x_tk0, ↓x_tk1, ↓x_rcv, x_rI1, x_rL1, x_rV1, x_rIn, x_rLn, x_rVn, x_rIf, x_rLf, x_rVf, x_40, x_41, x_42, x_43, x_44, ↓reduceIte, if_true, if_false, ao_iadd, ao_isub, ao_imul, ao_iand, ao_ior, ao_ishl, ao_ishr, ao_iushr, ao_ladd, ao_lsub, ao_lmul, ao_land, ao_lor, ao_idiv, ao_irem, ao_ldiv, ao_lrem, ao_ineg, ao_i2b, ao_i2s, Nat.reduceAdd, Nat.reduceMul, Nat.reduceSub, Nat.reduceEqDiff, Nat.reduceLeDiff, and_self, true_and, x_lit, x_ofn, x_z0, x_z1, x_inbT, x_ltT, x_ltF, x_leT, x_leF, x_eqF, x_eqT, x_inb, x_lt, x_le, x_eq, x_cl, x_sub, nI_add, pk_mul, x_m1e, x_m1e', x_m1l, x_m1n, x_m1s, Nat.not_lt_zero, x_zb, x_b0, x_b1, decide_eq_false_iff_not, decide_eq_true_eq, Bool.false_eq_true, Bool.true_eq_false, sw', q5, q6, h12, h28, h15, fl, b12, kd_123]
theorem M_stepDeep {t : Nat → Nat} {e a k wd kind : Nat} {σ : am_M} {E : am_F} (hst : isSt wd kind true) (hk : TokM t e a σ) (hae : a ≤ e) (h12 : σ.1 123 12 = nI 0) (htw : twi t e a = some wd) (h28 : σ.1 123 28 = nI k) (hk30 : k < 30) : F_X11_readStep E [.ref 123, .int (nI 3)] σ = some (none, bdM σ 7 (tp t e a)) := by
  have sw := M_stepWord hae hk
  have hc : (wd = 17 ∧ kind = 5) ∨ (wd = 20 ∧ kind = 6) := by
    rcases hst with ⟨a, b, c⟩ | ⟨a, b, c⟩ | ⟨a, b, c⟩ | ⟨a, b, c⟩ | ⟨a, b, c⟩ | ⟨a, b, c⟩ | ⟨a, b, c⟩ | ⟨a, b, c⟩ <;> first | omega | cases c
  have h15 := hk.1
  have fl := M_fail0 (k := 7) (p := tp t e a) h12
  have b12 := bdM_12 σ 7 (tp t e a)
  have n30 : ¬ k = 30 := by omega
  rw [htw] at sw
  rcases hc with ⟨rfl, rfl⟩ | ⟨rfl, rfl⟩
  · have sw' : S_X11_stepWord [.ref 123] σ = some (some (.int (nI 5)), σ) := sw
    simp (disch := omega) only [g_X11_readStep, ↓e_X11_readStep_0, ↓e_X11_readStep_16, ↓e_X11_readStep_21, ↓e_X11_readStep_30, ↓e_X11_readStep_56, ↓e_X11_readStep_82, ↓it_s, ↓y_iload, ↓y_lload, ↓y_aload, ↓y_istore, ↓y_lstore, ↓y_astore, ↓y_iinc, ↓y_cI, ↓y_cL, ↓y_bin, ↓y_binL, ↓y_div, ↓y_divL, ↓y_lshl, ↓y_un, ↓y_i2l, ↓y_lneg, ↓y_l2i, ↓y_lcmp, ↓y_dupI, ↓y_dupR, ↓y_dup2, ↓y_pop, ↓y_goto, ↓y_eq0, ↓y_lt0, ↓y_le0, ↓y_eq, ↓y_lt, ↓y_le, ↓y_switch, ↓y_sw0, ↓y_sw1, ↓y_getI, ↓y_getL, ↓y_getR, ↓y_getT, ↓y_putI, ↓y_putZ, ↓y_putL, ↓y_putT, ↓y_iald, ↓y_bald, ↓y_lald, ↓y_aald, ↓y_iast, ↓y_bast, ↓y_last, ↓y_alen, ↓y_iret, ↓y_zret, ↓y_lret, ↓y_vret, ↓y_svI, ↓y_svL, ↓y_svV, ↓y_ivI, ↓y_ivL, ↓y_ivV, ↓y_max, ↓y_min, ↓y_absL, ↓y_cpI, ↓y_cpL, ↓x_n1I, ↓x_n1L, ↓x_n1R, ↓x_n0I, ↓x_n0L, ↓x_n0R, ↓x_s0, ↓x_s1i, ↓x_s1r, ↓x_s1n, ↓x_s2, ↓x_c0, ↓x_c2, ↓x_tk0, ↓x_tk1, ↓x_rcv, x_rI1, x_rL1, x_rV1, x_rIn, x_rLn, x_rVn, x_rIf, x_rLf, x_rVf, x_40, x_41, x_42, x_43, x_44, ↓reduceIte, if_true, if_false, ao_iadd, ao_isub, ao_imul, ao_iand, ao_ior, ao_ishl, ao_ishr, ao_iushr, ao_ladd, ao_lsub, ao_lmul, ao_land, ao_lor, ao_idiv, ao_irem, ao_ldiv, ao_lrem, ao_ineg, ao_i2b, ao_i2s, Nat.reduceAdd, Nat.reduceMul, Nat.reduceSub, Nat.reduceEqDiff, Nat.reduceLeDiff, and_self, true_and, x_lit, x_ofn, x_z0, x_z1, x_inbT, x_ltT, x_ltF, x_leT, x_leF, x_eqF, x_eqT, x_inb, x_lt, x_le, x_eq, x_cl, x_sub, nI_add, pk_mul, x_m1e, x_m1e', x_m1l, x_m1n, x_m1s, Nat.not_lt_zero, x_zb, x_b0, x_b1, decide_eq_false_iff_not, decide_eq_true_eq, Bool.false_eq_true, Bool.true_eq_false, sw', h12, h28, n30, h15, fl, b12, kd_123]
  · have sw' : S_X11_stepWord [.ref 123] σ = some (some (.int (nI 6)), σ) := sw
    simp (disch := omega) only [g_X11_readStep, ↓e_X11_readStep_0, ↓e_X11_readStep_16, ↓e_X11_readStep_21, ↓e_X11_readStep_30, ↓e_X11_readStep_56, ↓e_X11_readStep_82, ↓it_s, ↓y_iload, ↓y_lload, ↓y_aload, ↓y_istore, ↓y_lstore, ↓y_astore, ↓y_iinc, ↓y_cI, ↓y_cL, ↓y_bin, ↓y_binL, ↓y_div, ↓y_divL, ↓y_lshl, ↓y_un, ↓y_i2l, ↓y_lneg, ↓y_l2i, ↓y_lcmp, ↓y_dupI, ↓y_dupR, ↓y_dup2, ↓y_pop, ↓y_goto, ↓y_eq0, ↓y_lt0, ↓y_le0, ↓y_eq, ↓y_lt, ↓y_le, ↓y_switch, ↓y_sw0, ↓y_sw1, ↓y_getI, ↓y_getL, ↓y_getR, ↓y_getT, ↓y_putI, ↓y_putZ, ↓y_putL, ↓y_putT, ↓y_iald, ↓y_bald, ↓y_lald, ↓y_aald, ↓y_iast, ↓y_bast, ↓y_last, ↓y_alen, ↓y_iret, ↓y_zret, ↓y_lret, ↓y_vret, ↓y_svI, ↓y_svL, ↓y_svV, ↓y_ivI, ↓y_ivL, ↓y_ivV, ↓y_max, ↓y_min, ↓y_absL, ↓y_cpI, ↓y_cpL, ↓x_n1I, ↓x_n1L, ↓x_n1R, ↓x_n0I, ↓x_n0L, ↓x_n0R, ↓x_s0, ↓x_s1i, ↓x_s1r, ↓x_s1n, ↓x_s2, ↓x_c0, ↓x_c2, ↓x_tk0, ↓x_tk1, ↓x_rcv, x_rI1, x_rL1, x_rV1, x_rIn, x_rLn, x_rVn, x_rIf, x_rLf, x_rVf, x_40, x_41, x_42, x_43, x_44, ↓reduceIte, if_true, if_false, ao_iadd, ao_isub, ao_imul, ao_iand, ao_ior, ao_ishl, ao_ishr, ao_iushr, ao_ladd, ao_lsub, ao_lmul, ao_land, ao_lor, ao_idiv, ao_irem, ao_ldiv, ao_lrem, ao_ineg, ao_i2b, ao_i2s, Nat.reduceAdd, Nat.reduceMul, Nat.reduceSub, Nat.reduceEqDiff, Nat.reduceLeDiff, and_self, true_and, x_lit, x_ofn, x_z0, x_z1, x_inbT, x_ltT, x_ltF, x_leT, x_leF, x_eqF, x_eqT, x_inb, x_lt, x_le, x_eq, x_cl, x_sub, nI_add, pk_mul, x_m1e, x_m1e', x_m1l, x_m1n, x_m1s, Nat.not_lt_zero, x_zb, x_b0, x_b1, decide_eq_false_iff_not, decide_eq_true_eq, Bool.false_eq_true, Bool.true_eq_false, sw', h12, h28, n30, h15, fl, b12, kd_123]
/-- which words are a step's -/
theorem st_cases {t : Nat → Nat} {e a : Nat} : (∃ wd kind blk, twi t e a = some wd ∧ isSt wd kind blk) ∨ (stI (twi t e a) = -nI 1 ∧ ∀ (σ : am_M), S_X5_isStep [.int (optI (twi t e a))] σ = some (some (.int (nI 0)), σ)) := by
  cases htw : twi t e a with
  | none =>
    refine Or.inr ⟨rfl, fun σ => ?_⟩
    have z1 : -nI 1 < nI 12 := by decide +kernel
    have z2 : ¬ -nI 1 = nI 20 := by decide +kernel
    have z3 : ¬ -nI 1 = nI 22 := by decide +kernel
    show S_X5_isStep [.int (-nI 1)] σ = _
    simp (disch := omega) only [g_X5_isStep, ↓e_X5_isStep_0, ↓e_X5_isStep_12, ↓e_X5_isStep_28, ↓e_X5_isStep_29, ↓it_s, ↓y_iload, ↓y_lload, ↓y_aload, ↓y_istore, ↓y_lstore, ↓y_astore, ↓y_iinc, ↓y_cI, ↓y_cL, ↓y_bin, ↓y_binL, ↓y_div, ↓y_divL, ↓y_lshl, ↓y_un, ↓y_i2l, ↓y_lneg, ↓y_l2i, ↓y_lcmp, ↓y_dupI, ↓y_dupR, ↓y_dup2, ↓y_pop, ↓y_goto, ↓y_eq0, ↓y_lt0, ↓y_le0, ↓y_eq, ↓y_lt, ↓y_le, ↓y_switch, ↓y_sw0, ↓y_sw1, ↓y_getI, ↓y_getL, ↓y_getR, ↓y_getT, ↓y_putI, ↓y_putZ, ↓y_putL, ↓y_putT, ↓y_iald, ↓y_bald, ↓y_lald, ↓y_aald, ↓y_iast, ↓y_bast, ↓y_last, ↓y_alen, ↓y_iret, ↓y_zret, ↓y_lret, ↓y_vret, ↓y_svI, ↓y_svL, ↓y_svV, ↓y_ivI, ↓y_ivL, ↓y_ivV, ↓y_max, ↓y_min, ↓y_absL, ↓y_cpI, ↓y_cpL, ↓x_n1I, ↓x_n1L, ↓x_n1R, ↓x_n0I, ↓x_n0L, ↓x_n0R, ↓x_s0, ↓x_s1i, ↓x_s1r, ↓x_s1n, ↓x_s2, ↓x_c0, ↓x_c2, ↓x_tk0, ↓x_tk1, ↓x_rcv, x_rI1, x_rL1, x_rV1, x_rIn, x_rLn, x_rVn, x_rIf, x_rLf, x_rVf, x_40, x_41, x_42, x_43, x_44, ↓reduceIte, if_true, if_false, ao_iadd, ao_isub, ao_imul, ao_iand, ao_ior, ao_ishl, ao_ishr, ao_iushr, ao_ladd, ao_lsub, ao_lmul, ao_land, ao_lor, ao_idiv, ao_irem, ao_ldiv, ao_lrem, ao_ineg, ao_i2b, ao_i2s, Nat.reduceAdd, Nat.reduceMul, Nat.reduceSub, Nat.reduceEqDiff, Nat.reduceLeDiff, and_self, true_and, x_lit, x_ofn, x_z0, x_z1, x_inbT, x_ltT, x_ltF, x_leT, x_leF, x_eqF, x_eqT, x_inb, x_lt, x_le, x_eq, x_cl, x_sub, nI_add, pk_mul, x_m1e, x_m1e', x_m1l, x_m1n, x_m1s, Nat.not_lt_zero, x_zb, x_b0, x_b1, decide_eq_false_iff_not, decide_eq_true_eq, Bool.false_eq_true, Bool.true_eq_false, z1, z2, z3]
  | some i =>
    have hi := kwi_tw htw
    by_cases h : i = 12 ∨ i = 13 ∨ i = 14 ∨ i = 15 ∨ i = 16 ∨ i = 17 ∨ i = 20 ∨ i = 22
    · left
      rcases h with rfl | rfl | rfl | rfl | rfl | rfl | rfl | rfl
      · exact ⟨12, 0, false, rfl, by unfold isSt; simp⟩
      · exact ⟨13, 1, false, rfl, by unfold isSt; simp⟩
      · exact ⟨14, 2, false, rfl, by unfold isSt; simp⟩
      · exact ⟨15, 3, false, rfl, by unfold isSt; simp⟩
      · exact ⟨16, 4, false, rfl, by unfold isSt; simp⟩
      · exact ⟨17, 5, true, rfl, by unfold isSt; simp⟩
      · exact ⟨20, 6, true, rfl, by unfold isSt; simp⟩
      · exact ⟨22, 7, false, rfl, by unfold isSt; simp⟩
    · right
      refine ⟨?_, fun σ => ?_⟩
      · unfold stI
        split <;> first | rfl | (rename_i hh; cases hh; omega)
      · show S_X5_isStep [.int (nI i)] σ = _
        have z2 : ¬ i = 20 := by omega
        have z3 : ¬ i = 22 := by omega
        by_cases q : i < 12
        · simp (disch := omega) only [g_X5_isStep, ↓e_X5_isStep_0, ↓e_X5_isStep_12, ↓e_X5_isStep_28, ↓e_X5_isStep_29, ↓it_s, ↓y_iload, ↓y_lload, ↓y_aload, ↓y_istore, ↓y_lstore, ↓y_astore, ↓y_iinc, ↓y_cI, ↓y_cL, ↓y_bin, ↓y_binL, ↓y_div, ↓y_divL, ↓y_lshl, ↓y_un, ↓y_i2l, ↓y_lneg, ↓y_l2i, ↓y_lcmp, ↓y_dupI, ↓y_dupR, ↓y_dup2, ↓y_pop, ↓y_goto, ↓y_eq0, ↓y_lt0, ↓y_le0, ↓y_eq, ↓y_lt, ↓y_le, ↓y_switch, ↓y_sw0, ↓y_sw1, ↓y_getI, ↓y_getL, ↓y_getR, ↓y_getT, ↓y_putI, ↓y_putZ, ↓y_putL, ↓y_putT, ↓y_iald, ↓y_bald, ↓y_lald, ↓y_aald, ↓y_iast, ↓y_bast, ↓y_last, ↓y_alen, ↓y_iret, ↓y_zret, ↓y_lret, ↓y_vret, ↓y_svI, ↓y_svL, ↓y_svV, ↓y_ivI, ↓y_ivL, ↓y_ivV, ↓y_max, ↓y_min, ↓y_absL, ↓y_cpI, ↓y_cpL, ↓x_n1I, ↓x_n1L, ↓x_n1R, ↓x_n0I, ↓x_n0L, ↓x_n0R, ↓x_s0, ↓x_s1i, ↓x_s1r, ↓x_s1n, ↓x_s2, ↓x_c0, ↓x_c2, ↓x_tk0, ↓x_tk1, ↓x_rcv, x_rI1, x_rL1, x_rV1, x_rIn, x_rLn, x_rVn, x_rIf, x_rLf, x_rVf, x_40, x_41, x_42, x_43, x_44, ↓reduceIte, if_true, if_false, ao_iadd, ao_isub, ao_imul, ao_iand, ao_ior, ao_ishl, ao_ishr, ao_iushr, ao_ladd, ao_lsub, ao_lmul, ao_land, ao_lor, ao_idiv, ao_irem, ao_ldiv, ao_lrem, ao_ineg, ao_i2b, ao_i2s, Nat.reduceAdd, Nat.reduceMul, Nat.reduceSub, Nat.reduceEqDiff, Nat.reduceLeDiff, and_self, true_and, x_lit, x_ofn, x_z0, x_z1, x_inbT, x_ltT, x_ltF, x_leT, x_leF, x_eqF, x_eqT, x_inb, x_lt, x_le, x_eq, x_cl, x_sub, nI_add, pk_mul, x_m1e, x_m1e', x_m1l, x_m1n, x_m1s, Nat.not_lt_zero, x_zb, x_b0, x_b1, decide_eq_false_iff_not, decide_eq_true_eq, Bool.false_eq_true, Bool.true_eq_false, q, z2, z3]
        · have q2 : ¬ i ≤ 17 := by omega
          simp (disch := omega) only [g_X5_isStep, ↓e_X5_isStep_0, ↓e_X5_isStep_12, ↓e_X5_isStep_28, ↓e_X5_isStep_29, ↓it_s, ↓y_iload, ↓y_lload, ↓y_aload, ↓y_istore, ↓y_lstore, ↓y_astore, ↓y_iinc, ↓y_cI, ↓y_cL, ↓y_bin, ↓y_binL, ↓y_div, ↓y_divL, ↓y_lshl, ↓y_un, ↓y_i2l, ↓y_lneg, ↓y_l2i, ↓y_lcmp, ↓y_dupI, ↓y_dupR, ↓y_dup2, ↓y_pop, ↓y_goto, ↓y_eq0, ↓y_lt0, ↓y_le0, ↓y_eq, ↓y_lt, ↓y_le, ↓y_switch, ↓y_sw0, ↓y_sw1, ↓y_getI, ↓y_getL, ↓y_getR, ↓y_getT, ↓y_putI, ↓y_putZ, ↓y_putL, ↓y_putT, ↓y_iald, ↓y_bald, ↓y_lald, ↓y_aald, ↓y_iast, ↓y_bast, ↓y_last, ↓y_alen, ↓y_iret, ↓y_zret, ↓y_lret, ↓y_vret, ↓y_svI, ↓y_svL, ↓y_svV, ↓y_ivI, ↓y_ivL, ↓y_ivV, ↓y_max, ↓y_min, ↓y_absL, ↓y_cpI, ↓y_cpL, ↓x_n1I, ↓x_n1L, ↓x_n1R, ↓x_n0I, ↓x_n0L, ↓x_n0R, ↓x_s0, ↓x_s1i, ↓x_s1r, ↓x_s1n, ↓x_s2, ↓x_c0, ↓x_c2, ↓x_tk0, ↓x_tk1, ↓x_rcv, x_rI1, x_rL1, x_rV1, x_rIn, x_rLn, x_rVn, x_rIf, x_rLf, x_rVf, x_40, x_41, x_42, x_43, x_44, ↓reduceIte, if_true, if_false, ao_iadd, ao_isub, ao_imul, ao_iand, ao_ior, ao_ishl, ao_ishr, ao_iushr, ao_ladd, ao_lsub, ao_lmul, ao_land, ao_lor, ao_idiv, ao_irem, ao_ldiv, ao_lrem, ao_ineg, ao_i2b, ao_i2s, Nat.reduceAdd, Nat.reduceMul, Nat.reduceSub, Nat.reduceEqDiff, Nat.reduceLeDiff, and_self, true_and, x_lit, x_ofn, x_z0, x_z1, x_inbT, x_ltT, x_ltF, x_leT, x_leF, x_eqF, x_eqT, x_inb, x_lt, x_le, x_eq, x_cl, x_sub, nI_add, pk_mul, x_m1e, x_m1e', x_m1l, x_m1n, x_m1s, Nat.not_lt_zero, x_zb, x_b0, x_b1, decide_eq_false_iff_not, decide_eq_true_eq, Bool.false_eq_true, Bool.true_eq_false, q, q2, z2, z3]
