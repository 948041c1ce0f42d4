/-! the model: a run aside, a pack aside -/
theorem runT_ran {V : Vt} (wc : WC V) {ps : List Nat} {T : Vt} (h : runL V ps = some T) (hn : NF T) : runL V ps = some (runT V) := by rw [runT_eq wc h hn]; exact h
theorem M_kra {σ : am_M} {V : Vt} (h : MC (σ.1 128) 0 V) (hw : WG V) : ∃ (ps : List Nat) (σ1 σ2 σ3 : am_M), S_X11_keeps [.ref 123, .int (nI 0)] σ = some (none, σ1) ∧ S_X11_runsAll [.ref 123] σ1 = some (some (.int (nI ps.length)), σ2) ∧ S_X11_gives [.ref 123, .int (nI 0)] σ2 = some (none, σ3) ∧
    σ3.1 128 = σ.1 128 ∧ (∀ s, s < 4 → σ3.1 132 s = nI (rise V s)) ∧ runL V ps = some (runT V) ∧ NF (runT V) ∧ σ3.2 = σ.2 ∧ ∀ j, j ≠ 128 → j ≠ 129 → j ≠ 132 → σ3.1 j = σ.1 j := by
  obtain ⟨σ1, e1⟩ : ∃ s, s = am_uA σ 129 (va_cpy (σ.1 128) (σ.1 129) 0 (170 * 0) 170) := ⟨_, rfl⟩
  have hk := M_keeps (σ := σ) (lv := 0) (by omega)
  rw [← e1] at hk
  have h1c : σ1.1 128 = σ.1 128 := by rw [e1, uA_n (by omega)]
  obtain ⟨ps, T, g, r, a1, a2, a3, a4⟩ := M_runsAll (σ := σ1) (V := V) (by rw [h1c]; exact h) hw
  have eT := runT_eq hw.2.1 a2 a3
  have hg := M_gives (σ := MR σ1 g r) (lv := 0) (by omega)
  obtain ⟨b1, b2', b3, b4, b5, b6⟩ := a4
  have hback : va_cpy ((MR σ1 g r).1 129) ((MR σ1 g r).1 128) (170 * 0) 0 170 = σ.1 128 := by
    refine gv_kp (fun j hj => ?_) (fun k hk => ?_)
    · rw [MR_c, b5 j hj, h1c]
    · unfold MR
      rw [uA_n (by omega), uA_n (by omega), e1, uA_s, kp_at hk]
  rw [hback] at hg
  refine ⟨ps, σ1, _, _, hk, a1, hg, ?_, fun s hs => ?_, by rw [eT]; exact a2, by rw [eT]; exact a3, ?_, fun j p q o => ?_⟩
  · rw [uA_s]
  · rw [uA_n (by omega), MR_r, b6 s hs]
    unfold rise
    rw [eT]
  · show σ1.2 = σ.2
    rw [e1]; rfl
  · rw [uA_n p]
    unfold MR
    rw [uA_n o, uA_n p, e1, uA_n q]
theorem WG_pack {V : Vt} (hw : WG V) (seed : Nat) : WG (packV V (packD V seed)) := by
  obtain ⟨p1, p2⟩ := packD_ok hw.1 seed
  exact ⟨hw.1, WC_pack hw.1 p1 p2, hw.2.2⟩
theorem M_wetsBy {σ : am_M} {V : Vt} {seed : Nat} (h : MC (σ.1 128) 0 V) (hw : WG V) (hs : seed < 65536) : ∃ τ, S_X11_wetsBy [.ref 123, .int (nI seed)] σ = some (none, τ) ∧
    τ.1 128 = σ.1 128 ∧ (∀ s, s < 4 → τ.1 132 s = nI (rise (packV V (packD V seed)) s)) ∧ τ.2 = σ.2 ∧ (∀ j, j ≠ 123 → j ≠ 128 → j ≠ 129 → j ≠ 132 → j ≠ 133 → τ.1 j = σ.1 j) ∧ ∀ i, i ≠ 31 → τ.1 123 i = σ.1 123 i := by
  obtain ⟨σ1, e1⟩ : ∃ s, s = am_uA σ 129 (va_cpy (σ.1 128) (σ.1 129) 0 (170 * 0) 170) := ⟨_, rfl⟩
  have hk := M_keeps (σ := σ) (lv := 0) (by omega)
  rw [← e1] at hk
  have h1c : σ1.1 128 = σ.1 128 := by rw [e1, uA_n (by omega)]
  obtain ⟨σ2, c1, c2, c3, c4⟩ := M_packs (σ := σ1) (V := V) (seed := seed) (by rw [h1c]; exact h) hw.1 hw.2.1 hs
  have hwp := WG_pack hw seed
  obtain ⟨ps, T, g, r, a1, a2, a3, a4⟩ := M_runsAll (σ := σ2) c2 hwp
  have eT := runT_eq hwp.2.1 a2 a3
  have hg := M_gives (σ := MR σ2 g r) (lv := 0) (by omega)
  obtain ⟨b1, b2', b3, b4, b5, b6⟩ := a4
  have hback : va_cpy ((MR σ2 g r).1 129) ((MR σ2 g r).1 128) (170 * 0) 0 170 = σ.1 128 := by
    refine gv_kp (fun j hj => ?_) (fun k hk => ?_)
    · rw [MR_c, b5 j hj, c4 j hj, h1c]
    · unfold MR
      rw [uA_n (by omega), uA_n (by omega), c3.2.1 129 (by omega) (by omega) (by omega), e1, uA_s, kp_at hk]
  rw [hback] at hg
  refine ⟨am_uA (MR σ2 g r) 128 (σ.1 128), ?_, ?_, fun s hs => ?_, ?_, fun j p q o n m => ?_, fun i hi => ?_⟩
  rotate_left
  · exact uA_s (MR σ2 g r) 128 (σ.1 128)
  · rw [uA_n (by omega), MR_r, b6 s hs]
    unfold rise
    rw [eT]
  · show σ2.2 = σ.2
    rw [c3.1, e1]; rfl
  · rw [uA_n q]
    unfold MR
    rw [uA_n n, uA_n q, c3.2.1 j p q m, e1, uA_n o]
  · rw [uA_n (by omega)]
    unfold MR
    rw [uA_n (by omega), uA_n (by omega), c3.2.2 i hi, e1, uA_n (by omega)]
  · simp (disch := omega) only [g_X11_wetsBy, ↓e_X11_wetsBy_0, ↓it_s, ↓y_iload, ↓y_lload, ↓y_aload, ↓y_istore, ↓y_lstore, ↓y_astore, ↓y_iinc, ↓y_cI, ↓y_cL, ↓y_bin, ↓y_binL, ↓y_div, ↓y_divL, ↓y_lshl, ↓y_un, ↓y_i2l, ↓y_lneg, ↓y_l2i, ↓y_lcmp, ↓y_dupI, ↓y_dupR, ↓y_dup2, ↓y_pop, ↓y_goto, ↓y_eq0, ↓y_lt0, ↓y_le0, ↓y_eq, ↓y_lt, ↓y_le, ↓y_switch, ↓y_sw0, ↓y_sw1, ↓y_getI, ↓y_getL, ↓y_getR, ↓y_getT, ↓y_putI, ↓y_putZ, ↓y_putL, ↓y_putT, ↓y_iald, ↓y_bald, ↓y_lald, ↓y_aald, ↓y_iast, ↓y_bast, ↓y_last, ↓y_alen, ↓y_iret, ↓y_zret, ↓y_lret, ↓y_vret, ↓y_svI, ↓y_svL, ↓y_svV, ↓y_ivI, ↓y_ivL, ↓y_ivV, ↓y_max, ↓y_min, ↓y_absL, ↓y_cpI, ↓y_cpL, ↓x_n1I, ↓x_n1L, ↓x_n1R, ↓x_n0I, ↓x_n0L, ↓x_n0R, ↓x_s0, ↓x_s1i, ↓x_s1r, ↓x_s1n, ↓x_s2, ↓x_c0, ↓x_c2, ↓x_tk0, ↓x_tk1, ↓x_rcv, x_rI1, x_rL1, x_rV1, x_rIn, x_rLn, x_rVn, x_rIf, x_rLf, x_rVf, x_40, x_41, x_42, x_43, x_44, ↓reduceIte, if_true, if_false, ao_iadd, ao_isub, ao_imul, ao_iand, ao_ior, ao_ishl, ao_ishr, ao_iushr, ao_ladd, ao_lsub, ao_lmul, ao_land, ao_lor, ao_idiv, ao_irem, ao_ldiv, ao_lrem, ao_ineg, ao_i2b, ao_i2s, Nat.reduceAdd, Nat.reduceMul, Nat.reduceSub, Nat.reduceEqDiff, Nat.reduceLeDiff, and_self, true_and, x_lit, kd_123, hk, c1, a1, hg]
