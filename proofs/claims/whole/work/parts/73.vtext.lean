/-! the valley's text, from its start to its end -/
theorem WG_V0 : WG V0 := by
  refine ⟨⟨⟨by decide, by decide⟩, by decide, by decide, by decide, by decide, by decide, by decide, by decide⟩, ⟨fun p hp c hc => ?_, ?_, fun p hp => Nat.zero_le _, fun p hp hv => rfl, fun s => Nat.zero_le _⟩, fun f hf => absurd hf (Nat.not_lt_zero _)⟩
  · exact absurd hc (List.not_mem_nil)
  · have : allC V0 = [] := rfl
    rw [this]; exact List.nodup_nil
def fl0 (σ : am_M) : am_M := am_uI (am_uI (am_uI (am_uI (am_uI σ 6 0 (nI 0)) 6 1 (nI 0)) 6 2 (nI 0)) 6 3 (nI 0)) 6 4 (nI 0)
theorem V_text {t : Nat → Nat} {e : Nat} {x : Int32} {σx μ : am_M} (hX : TX σx t e) (h3 : σx.1 3 3 = nI 0) (hM : TM μ t e) (hk : TokM t e 0 μ) (h12 : μ.1 123 12 = nI 0) :
    (∃ τx τm k p, S_X9_take [.ref 6, .ref 3, .ref 26] σx = some (some (.int (nI 0)), τx) ∧ rch (hd_X11_valley) 1400 25 [some (.ref 123), some (.int x), some (.int (nI 0))] μ 73 [some (.ref 123), some (.int x), some (.int (nI 442))] τm ∧ 0 < k ∧ k < 100 ∧ τx.1 3 10 = nI k ∧ τx.1 3 11 = nI p ∧ τm.1 123 12 = nI k ∧ τm.1 123 13 = nI p ∧ fPx σx τx ∧ fPm μ τm) ∨
    (∃ τx τm V Ns Nf rT lT dT cT X b, S_X9_take [.ref 6, .ref 3, .ref 26] σx = some (some (.int (nI 1)), τx) ∧ rch (hd_X11_valley) 1400 25 [some (.ref 123), some (.int x), some (.int (nI 0))] μ 73 [some (.ref 123), some (.int x), some (.int (nI 442))] τm ∧ PS t e τx τm V Ns Nf rT lT dT cT X b ∧ tkd t e b = 0 ∧ τx.1 3 10 = σx.1 3 10 ∧ τx.1 3 11 = σx.1 3 11 ∧ fPx σx τx ∧ fPm μ τm) := by
  obtain ⟨τ0, c1, c2, c3, c4, c5, c6, c7, c8⟩ := X_clear σx
  obtain ⟨ρ, r1, z1⟩ := M_zero (x := x) (σ := μ)
  obtain ⟨mc, mz⟩ := z49_MC z1
  have r2 := M_z49 (x := x) (ρ := ρ)
  obtain ⟨q1, q2, q3, q4⟩ := z1
  have he9 := hX.2.2.1
  obtain ⟨τ1, e1⟩ : ∃ s, s = fl0 τ0 := ⟨_, rfl⟩
  have hf6 : ∀ j, j ≠ 6 → τ1.1 j = τ0.1 j := fun j p => by
    rw [e1]; unfold fl0; rw [uI_n p, uI_n p, uI_n p, uI_n p, uI_n p]
  have h2 : τ1.2 = σx.2 := by rw [e1]; exact c7
  have hX1 : TX τ1 t e := by
    obtain ⟨i1, i2, i3, i4, i5, i6⟩ := hX
    exact ⟨by rw [hf6 3 (by omega), c8 3 (by omega)]; exact i1, by rw [hf6 3 (by omega), c8 3 (by omega)]; exact i2, i3, i4, fun j hj => by rw [hf6 2 (by omega), c8 2 (by omega)]; exact i5 j hj, fun i hi => by rw [h2]; exact i6 i hi⟩
  have h31 : τ1.1 3 = σx.1 3 := by rw [hf6 3 (by omega), c8 3 (by omega)]
  obtain ⟨μ1, em⟩ : ∃ s, s = z49 ρ := ⟨_, rfl⟩
  have hm123 : ∀ i, i < 25 ∨ 27 < i → μ1.1 123 i = μ.1 123 i := fun i hi => by
    rw [em]; unfold z49; rw [uI_s, up_n (by omega), uI_s, up_n (by omega), uI_s, up_n (by omega), uI_n (by omega), q2 123 (by omega)]
  have hm2 : μ1.2 = μ.2 := by rw [em]; exact q1
  have hmo : ∀ j, j ≠ 123 → j ≠ 128 → μ1.1 j = μ.1 j := fun j p q => by
    rw [em]; unfold z49; rw [uI_n p, uI_n p, uI_n p, uI_n q, q2 j q]
  have hM1 : TM μ1 t e := by
    obtain ⟨i1, i2, i3, i4⟩ := hM
    exact ⟨by rw [hm123 9 (by omega)]; exact i1, i2, i3, fun j hj => by rw [hmo 127 (by omega) (by omega)]; exact i4 j hj⟩
  have hk1 : TokM t e 0 μ1 := by
    obtain ⟨i1, i2, i3, i4, i5⟩ := hk
    exact ⟨by rw [hm123 15 (by omega)]; exact i1, by rw [hm123 16 (by omega)]; exact i2, by rw [hm123 14 (by omega)]; exact i3, fun z => by rw [hm123 17 (by omega)]; exact i4 z, fun z => ⟨by rw [hm123 18 (by omega)]; exact (i5 z).1, by rw [hm2]; exact (i5 z).2⟩⟩
  have hPS : PS t e τ1 μ1 V0 [] [] false false false false 0 0 := by
    refine ⟨⟨VG_fr c2 (fun j p q => hf6 j (by omega)), WG_V0, by rw [em]; exact mc⟩, ⟨rfl, rfl, fun r hr => absurd hr (List.not_mem_nil), fun r hr => absurd hr (List.not_mem_nil), fun i r hr => by simp at hr, fun i r hr => by simp at hr, fun i r hr => by simp at hr, fun i r hr => by simp at hr⟩, ⟨?_, ?_, ?_, ?_, ?_, ?_, ?_, ?_⟩, ⟨by omega, fun c hc => ?_⟩, ⟨hX1, hM1, hk1, Nat.zero_le _, by rw [hm123 12 (by omega)]; exact h12⟩, ⟨?_, ?_, ?_, rfl, fun f p q => ?_⟩⟩
    · rw [e1]; unfold fl0; rw [uI_s, up_n (by omega), uI_s, up_n (by omega), uI_s, up_n (by omega), uI_s, up_n (by omega), uI_s, up_s]; rfl
    · rw [e1]; unfold fl0; rw [uI_s, up_n (by omega), uI_s, up_n (by omega), uI_s, up_n (by omega), uI_s, up_s]; rfl
    · rw [e1]; unfold fl0; rw [uI_s, up_n (by omega), uI_s, up_n (by omega), uI_s, up_s]; rfl
    · rw [e1]; unfold fl0; rw [uI_s, up_n (by omega), uI_s, up_s]; rfl
    · rw [e1]; unfold fl0; rw [uI_s, up_s]
    · rw [em]; unfold z49; rw [uI_s, up_n (by omega), uI_s, up_n (by omega), uI_s, up_s]; rfl
    · rw [em]; unfold z49; rw [uI_s, up_n (by omega), uI_s, up_s]
    · rw [em]; unfold z49; rw [uI_s, up_s]; rfl
    · have : allC V0 = [] := rfl
      rw [this, Nat.zero_testBit]; simp
    · rw [hf6 27 (by omega)]; exact c3
    · rw [hf6 34 (by omega)]; exact c6
    · rw [em]; exact mz 170 (by omega) (by omega)
    · rw [em, show 1932 + f = 1768 + (164 + f) by omega]; exact mz (164 + f) (by omega) (by omega)
  have hfx : fPx σx τ1 := fun j p q r => ⟨by rw [hf6 j q, c8 j (by omega)], by rw [h2]⟩
  have hfm : fPm μ μ1 := by
    refine ⟨fun j p q r => ⟨hmo j p q, by rw [hm2]⟩, fun i p q => hm123 i (by omega), fun i p => by rw [hm2], fun i p => ?_, fun i p => by rw [hm2]⟩
    rw [em]; unfold z49; rw [uI_n (by omega), uI_n (by omega), uI_n (by omega), uI_s, up_n (by omega)]; exact q4 i (by omega)
  have hcx : S_X9_take [.ref 6, .ref 3, .ref 26] σx = hd_X9_take (am_it (hd_X9_take) am_fuel) 31 [some (.ref 6), some (.ref 3), some (.ref 26), some (.int (nI 0)), none] [] τ1 := by
    rw [e1]; unfold fl0
    simp (disch := omega) only [g_X9_take, ↓e_X9_take_0, ↓h_X9_take_31, ↓it_s, ↓y_iload, ↓y_lload, ↓y_aload, ↓y_istore, ↓y_lstore, ↓y_astore, ↓y_iinc, ↓y_cI, ↓y_cL, ↓y_bin, ↓y_binL, ↓y_div, ↓y_divL, ↓y_lshl, ↓y_un, ↓y_i2l, ↓y_lneg, ↓y_l2i, ↓y_lcmp, ↓y_dupI, ↓y_dupR, ↓y_dup2, ↓y_pop, ↓y_goto, ↓y_eq0, ↓y_lt0, ↓y_le0, ↓y_eq, ↓y_lt, ↓y_le, ↓y_switch, ↓y_sw0, ↓y_sw1, ↓y_getI, ↓y_getL, ↓y_getR, ↓y_getT, ↓y_putI, ↓y_putZ, ↓y_putL, ↓y_putT, ↓y_iald, ↓y_bald, ↓y_lald, ↓y_aald, ↓y_iast, ↓y_bast, ↓y_last, ↓y_alen, ↓y_iret, ↓y_zret, ↓y_lret, ↓y_vret, ↓y_svI, ↓y_svL, ↓y_svV, ↓y_ivI, ↓y_ivL, ↓y_ivV, ↓y_max, ↓y_min, ↓y_absL, ↓y_cpI, ↓y_cpL, ↓x_n1I, ↓x_n1L, ↓x_n1R, ↓x_n0I, ↓x_n0L, ↓x_n0R, ↓x_s0, ↓x_s1i, ↓x_s1r, ↓x_s1n, ↓x_s2, ↓x_c0, ↓x_c2, ↓x_tk0, ↓x_tk1, ↓x_rcv, x_rI1, x_rL1, x_rV1, x_rIn, x_rLn, x_rVn, x_rIf, x_rLf, x_rVf, x_40, x_41, x_42, x_43, x_44, ↓reduceIte, if_true, if_false, ao_iadd, ao_isub, ao_imul, ao_iand, ao_ior, ao_ishl, ao_ishr, ao_iushr, ao_ladd, ao_lsub, ao_lmul, ao_land, ao_lor, ao_idiv, ao_irem, ao_ldiv, ao_lrem, ao_ineg, ao_i2b, ao_i2s, Nat.reduceAdd, Nat.reduceMul, Nat.reduceSub, Nat.reduceEqDiff, Nat.reduceLeDiff, and_self, true_and, x_lit, x_ofn, x_z0, x_z1, x_inbT, x_ltT, x_ltF, x_leT, x_leF, x_eqF, x_eqT, x_inb, x_lt, x_le, x_eq, x_cl, x_sub, nI_add, pk_mul, x_m1e, x_m1e', x_m1l, x_m1n, x_m1s, Nat.not_lt_zero, x_zb, x_b0, x_b1, decide_eq_false_iff_not, decide_eq_true_eq, Bool.false_eq_true, Bool.true_eq_false, c1, kd_3, kd_6, kd_26]
  rw [← em] at r2
  rcases V_loop (t := t) (e := e) (x1 := some (.int x)) (x2 := some (.int (nI 442))) 901 (mn := 0) (y4 := none) (by omega) hPS (by rw [h31]; exact h3) (Nat.le_refl _) with ⟨τx, τm, k, p, j1, j2, j3, j4, j5, j6, j7, j8, j9, j10⟩ | ⟨τx, τm, V', Ns', Nf', rT', lT', dT', cT', X', b', j1, j2, j3, j4, j5, j6, j7, j8⟩
  · have hf := fin_run j1 (by unfold am_fuel; omega)
    exact Or.inl ⟨τx, τm, k, p, hcx.trans hf, rch_mono (rch_tr r1 (rch_tr r2 j2)) (by omega), j3, j4, j5, j6, j7, j8, fPx_tr hfx j9, fPm_tr hfm j10⟩
  · have hf := fin_run j1 (by unfold am_fuel; omega)
    exact Or.inr ⟨τx, τm, V', Ns', Nf', rT', lT', dT', cT', X', b', hcx.trans hf, rch_mono (rch_tr r1 (rch_tr r2 j2)) (by omega), j3, j4, by rw [j5, h31], by rw [j6, h31], fPx_tr hfx j7, fPm_tr hfm j8⟩
