/-! a field is told, both sides -/
def addF (V : Vt) (k s dr wa hi : Nat) : Vt := (va_up V.1 5 (k + 1), V.2.1, V.2.2.1, (fun w f => if f = k then (if w = 0 then s else if w = 1 then dr else if w = 2 then wa else if w = 3 then hi else 0) else vF V w f), V.2.2.2.2)
theorem addF_N {V : Vt} {k s dr wa hi j : Nat} (h : j ≠ 5) : vN (addF V k s dr wa hi) j = vN V j := up_n h
theorem addF_5 (V : Vt) (k s dr wa hi : Nat) : vN (addF V k s dr wa hi) 5 = k + 1 := by
  show va_up V.1 5 (k + 1) 5 = k + 1
  exact up_s _ _ _
theorem addF_k (V : Vt) (k s dr wa hi w : Nat) : vF (addF V k s dr wa hi) w k = if w = 0 then s else if w = 1 then dr else if w = 2 then wa else if w = 3 then hi else 0 := by
  show (if k = k then _ else _) = _
  rw [if_pos rfl]
theorem addF_n {V : Vt} {k s dr wa hi w f : Nat} (h : f ≠ k) : vF (addF V k s dr wa hi) w f = vF V w f := by
  show (if f = k then _ else _) = _
  rw [if_neg h]
theorem PS_field {t : Nat → Nat} {e : Nat} {σx σm τx τm : am_M} {V : Vt} {Ns Nf : List (List Nat)} {rT lT dT cT : Bool} {X a b k s dr wa hi : Nat} {r : List Nat} (h : PS t e σx σm V Ns Nf rT lT dT cT X a) (hk : k = Nf.length) (hk6 : k < 6) (hr : okL r) (hr8 : r.length ≤ 8) (hs : s < Ns.length) (hdr : dr ≤ 20) (hwa : wa ≤ 99) (hhi : hi ≤ 99)
    (X1 : ∀ j, j ≠ 3 → (j < 38 ∨ 42 < j) → j ≠ 26 → τx.1 j = σx.1 j) (X2 : τx.1 26 4 = nI (k + 1)) (X3 : τx.1 26 5 = σx.1 26 5) (X4 : τx.1 38 = va_up (σx.1 38) k (nI s)) (X5 : τx.1 39 = va_up (σx.1 39) k (nI dr)) (X6 : τx.1 40 = va_up (σx.1 40) k (nI wa)) (X7 : τx.1 41 = va_up (σx.1 41) k (nI hi)) (X8 : τx.1 42 = va_up (σx.1 42) k (nI 0)) (X9 : τx.2 37 = va_up (σx.2 37) k (lN (keyR 27 r))) (X10 : τx.2 36 = σx.2 36) (XT : TX τx t e)
    (M1 : ∀ i, 25 ≤ i → i ≤ 27 → τm.1 123 i = σm.1 123 i) (M2 : ∀ i, i ≠ 1773 → i ≠ 1908 + k → i ≠ 1914 + k → i ≠ 1920 + k → i ≠ 1926 + k → τm.1 128 i = σm.1 128 i) (M3 : τm.1 128 1773 = nI (k + 1)) (M4 : τm.1 128 (1908 + k) = nI s) (M5 : τm.1 128 (1914 + k) = nI dr) (M6 : τm.1 128 (1920 + k) = nI wa) (M7 : τm.1 128 (1926 + k) = nI hi) (M8 : τm.2 131 = va_up (σm.2 131) (44 + k) (lN (keyR 32 r))) (MT : TM τm t e) (Mk : TokM t e b τm) (hbe : b ≤ e) (M12 : τm.1 123 12 = nI 0) :
    PS t e τx τm (addF V k s dr wa hi) Ns (Nf ++ [r]) rT lT dT cT X b := by
  obtain ⟨⟨a1, a2, a3⟩, ⟨b1, b2', b3, b4, b5, b6, b7, b8⟩, ⟨c1, c2, c3, c4, c5, c6, c7, c8⟩, d, ⟨e1, e2, e3, e4, e5⟩, ⟨f1, f2, f3, f4⟩⟩ := h
  have hk5 : k = vN V 5 := by rw [hk, b2']
  obtain ⟨w0, w1, w2, w3, w4, w5, w6, w7⟩ := a2.1
  refine ⟨⟨⟨?_, ?_, ?_⟩, ⟨⟨?_, ?_, ?_, ?_, ?_, ?_, ?_, ?_⟩, ?_, ?_⟩, ?_⟩, ⟨?_, ?_, b3, ?_, ?_, ?_, ?_, ?_⟩, ⟨?_, ?_, ?_, ?_, ?_, ?_, ?_, ?_⟩, d, ⟨XT, MT, Mk, hbe, M12⟩, ⟨?_, ?_, ?_, ?_, ?_⟩⟩
  · have h0 := TN_fr (τ := τx) a1.1 (X1 27 (by omega) (by omega) (by omega))
    unfold TN at *
    rw [addF_N (by omega), addF_N (by omega), addF_N (by omega), addF_N (by omega), addF_N (by omega), addF_N (by omega)]
    exact h0
  · exact TP_cg (TP_fr (τ := τx) a1.2.1 (fun j p q => X1 j (by omega) (by omega) (by omega))) rfl rfl
  · refine ⟨by rw [addF_5]; exact X2, by rw [addF_N (by omega), X3]; exact a1.2.2.2.1, fun f hf => ?_⟩
    rw [addF_5] at hf
    rw [show 26 + 12 = 38 from rfl, show 26 + 13 = 39 from rfl, show 26 + 14 = 40 from rfl, show 26 + 15 = 41 from rfl, show 26 + 16 = 42 from rfl, X4, X5, X6, X7, X8]
    by_cases q : f = k
    · subst q
      rw [up_s, up_s, up_s, up_s, up_s, addF_k, addF_k, addF_k, addF_k, addF_k]
      exact ⟨rfl, rfl, rfl, rfl, rfl⟩
    · rw [up_n q, up_n q, up_n q, up_n q, up_n q, addF_n q, addF_n q, addF_n q, addF_n q, addF_n q]
      exact a1.2.2.2.2 f (by omega)
  · rw [addF_N (by omega)]; exact w0
  · rw [addF_N (by omega)]; exact w1
  · rw [addF_N (by omega)]; exact w2
  · rw [addF_N (by omega)]; exact w3
  · rw [addF_N (by omega)]; exact w4
  · rw [addF_5]; omega
  · rw [addF_N (by omega)]; exact w6
  · rw [addF_N (by omega)]; exact w7
  · exact WC_cg a2.2.1 rfl rfl (addF_N (by omega))
  · intro f hf
    rw [addF_5] at hf
    rw [addF_N (by omega)]
    by_cases q : f = k
    · subst q
      rw [addF_k, addF_k, addF_k, addF_k, addF_k]
      exact ⟨⟨by show s < vN V 1; omega, fun _ => hwa⟩, hdr, by show wa ≤ 198; omega, hhi, by show 0 ≤ 2; omega⟩
    · rw [addF_n q, addF_n q, addF_n q, addF_n q, addF_n q]
      exact a2.2.2 f (by omega)
  · obtain ⟨m1, m2, m3, m4, m5, m6⟩ := a3
    have l7 := a2.2.1.len (p := 7) (by omega)
    have l6 := a2.2.1.len (p := 6) (by omega)
    have so : ∀ (o : Nat) (l : List Nat), 1768 ≤ o → o + l.length ≤ 1908 → o ≠ 1773 → (o < 1773 → o + l.length ≤ 1773) → seg (σm.1 128) o l → seg (τm.1 128) o l := fun o l h1 h2 h3 h4 hsg => seg_cg hsg (fun j hj => M2 _ (by omega) (by omega) (by omega) (by omega) (by omega))
    refine ⟨fun j hj => ?_, ⟨?_, ?_⟩, ⟨?_, ?_⟩, fun x hx => ?_, fun p hp => ⟨?_, ?_⟩, fun w i hw hi' => ?_⟩
    · by_cases q : j = 5
      · subst q; rw [addF_5]; exact M3
      · rw [addF_N q, M2 _ (by omega) (by omega) (by omega) (by omega) (by omega)]; exact m1 j hj
    · rw [M2 _ (by omega) (by omega) (by omega) (by omega) (by omega)]; exact m2.1
    · exact so _ _ (by omega) (by show 92 + 1768 + (vP V 7).length ≤ 1908; omega) (by omega) (fun z => by omega) m2.2
    · rw [M2 _ (by omega) (by omega) (by omega) (by omega) (by omega)]; exact m3.1
    · exact so _ _ (by omega) (by show 116 + 1768 + (vP V 6).length ≤ 1908; omega) (by omega) (fun z => by omega) m3.2
    · rw [M2 _ (by omega) (by omega) (by omega) (by omega) (by omega)]; exact m4 x hx
    · rw [M2 _ (by omega) (by omega) (by omega) (by omega) (by omega)]; exact (m5 p hp).1
    · have := a2.2.1.2.2.1 p hp
      exact so _ _ (by omega) (by show 20 + 12 * p + 1768 + (vP V p).length ≤ 1908; omega) (by omega) (fun z => by omega) (m5 p hp).2
    · rw [addF_5] at hi'
      by_cases q : i = k
      · subst q
        rw [addF_k]
        have : w = 0 ∨ w = 1 ∨ w = 2 ∨ w = 3 ∨ w = 4 := by omega
        rcases this with rfl | rfl | rfl | rfl | rfl
        · rw [show 140 + 6 * 0 + i + 1768 = 1908 + i by omega]; exact M4
        · rw [show 140 + 6 * 1 + i + 1768 = 1914 + i by omega]; exact M5
        · rw [show 140 + 6 * 2 + i + 1768 = 1920 + i by omega]; exact M6
        · rw [show 140 + 6 * 3 + i + 1768 = 1926 + i by omega]; exact M7
        · rw [show 140 + 6 * 4 + i + 1768 = 1932 + i by omega, M2 _ (by omega) (by omega) (by omega) (by omega) (by omega)]; exact f4.2 i (by omega) (by omega)
      · rw [addF_n q, M2 _ (by omega) (by omega) (by omega) (by omega) (by omega)]; exact m6 w i hw (by omega)
  · rw [addF_N (by omega)]; exact b1
  · rw [addF_5, List.length_append, ← hk]; rfl
  · intro x hx
    rcases List.mem_append.mp hx with z | z
    · exact b4 x z
    · have : x = r := by simpa using z
      subst this; exact ⟨hr, hr8⟩
  · intro i x hx
    rw [X10]; exact b5 i x hx
  · intro i x hx
    rw [X9]
    rcases nm_app hx with ⟨z1, z2⟩ | ⟨z1, z2⟩
    · rw [up_n (by omega)]; exact b6 i x z2
    · rw [z1, z2, ← hk, up_s]
  · intro i x hx
    rw [M8]
    have hi' := (List.getElem?_eq_some_iff.mp hx).1
    rw [up_n (by omega)]; exact b7 i x hx
  · intro i x hx
    rw [M8]
    rcases nm_app hx with ⟨z1, z2⟩ | ⟨z1, z2⟩
    · rw [up_n (by omega)]; exact b8 i x z2
    · rw [z1, z2, ← hk, up_s]
  · rw [X1 6 (by omega) (by omega) (by omega)]; exact c1
  · rw [X1 6 (by omega) (by omega) (by omega)]; exact c2
  · rw [X1 6 (by omega) (by omega) (by omega)]; exact c3
  · rw [X1 6 (by omega) (by omega) (by omega)]; exact c4
  · rw [X1 6 (by omega) (by omega) (by omega)]; exact c5
  · rw [M1 25 (by omega) (by omega)]; exact c6
  · rw [M1 26 (by omega) (by omega)]; exact c7
  · rw [M1 27 (by omega) (by omega)]; exact c8
  · rw [X1 27 (by omega) (by omega) (by omega)]; exact f1
  · rw [X1 34 (by omega) (by omega) (by omega)]; exact f2
  · rw [M2 _ (by omega) (by omega) (by omega) (by omega) (by omega)]; exact f3
  · rw [addF_N (by omega)]; exact f4.1
  · intro f p q
    rw [addF_5] at p
    rw [M2 _ (by omega) (by omega) (by omega) (by omega) (by omega)]; exact f4.2 f (by omega) q
/-- the field's rows of the class, told -/
def fldX (σ : am_M) (k : Nat) (key : Int64) (s dr : Nat) : am_M := am_uI (am_uI (am_uI (am_uI (am_uI (am_uI (am_uL σ 37 k key) 38 k (nI s)) 39 k (nI dr)) 40 k (nI 10)) 41 k (nI 99)) 42 k (nI 0)) 26 4 (nI (k + 1))
theorem X_addField {σ : am_M} {k s dr : Nat} {w : Int64} (h4 : σ.1 26 4 = nI k) (hk : k < 6) : S_X8_addField [.ref 26, .long w, .int (nI s), .int (nI dr)] σ = some (none, fldX σ k w s dr) := by
  unfold fldX
  have g0 : (am_uL σ 37 k w).1 26 4 = nI k := h4
  have g1 : (am_uI (am_uL σ 37 k w) 38 k (nI s)).1 26 4 = nI k := by rw [uI_n (by omega)]; exact g0
  have g2 : (am_uI (am_uI (am_uL σ 37 k w) 38 k (nI s)) 39 k (nI dr)).1 26 4 = nI k := by rw [uI_n (by omega)]; exact g1
  have g3 : (am_uI (am_uI (am_uI (am_uL σ 37 k w) 38 k (nI s)) 39 k (nI dr)) 40 k (nI 10)).1 26 4 = nI k := by rw [uI_n (by omega)]; exact g2
  have g4 : (am_uI (am_uI (am_uI (am_uI (am_uL σ 37 k w) 38 k (nI s)) 39 k (nI dr)) 40 k (nI 10)) 41 k (nI 99)).1 26 4 = nI k := by rw [uI_n (by omega)]; exact g3
  have g5 : (am_uI (am_uI (am_uI (am_uI (am_uI (am_uL σ 37 k w) 38 k (nI s)) 39 k (nI dr)) 40 k (nI 10)) 41 k (nI 99)) 42 k (nI 0)).1 26 4 = nI k := by rw [uI_n (by omega)]; exact g4
  simp (disch := omega) only [g_X8_addField, ↓e_X8_addField_0, ↓e_X8_addField_82, ↓it_s, ↓y_iload, ↓y_lload, ↓y_aload, ↓y_istore, ↓y_lstore, ↓y_astore, ↓y_iinc, ↓y_cI, ↓y_cL, ↓y_bin, ↓y_binL, ↓y_div, ↓y_divL, ↓y_lshl, ↓y_un, ↓y_i2l, ↓y_lneg, ↓y_l2i, ↓y_lcmp, ↓y_dupI, ↓y_dupR, ↓y_dup2, ↓y_pop, ↓y_goto, ↓y_eq0, ↓y_lt0, ↓y_le0, ↓y_eq, ↓y_lt, ↓y_le, ↓y_switch, ↓y_sw0, ↓y_sw1, ↓y_getI, ↓y_getL, ↓y_getR, ↓y_getT, ↓y_putI, ↓y_putZ, ↓y_putL, ↓y_putT, ↓y_iald, ↓y_bald, ↓y_lald, ↓y_aald, ↓y_iast, ↓y_bast, ↓y_last, ↓y_alen, ↓y_iret, ↓y_zret, ↓y_lret, ↓y_vret, ↓y_svI, ↓y_svL, ↓y_svV, ↓y_ivI, ↓y_ivL, ↓y_ivV, ↓y_max, ↓y_min, ↓y_absL, ↓y_cpI, ↓y_cpL, ↓x_n1I, ↓x_n1L, ↓x_n1R, ↓x_n0I, ↓x_n0L, ↓x_n0R, ↓x_s0, ↓x_s1i, ↓x_s1r, ↓x_s1n, ↓x_s2, ↓x_c0, ↓x_c2, ↓x_tk0, ↓x_tk1, ↓x_rcv, x_rI1, x_rL1, x_rV1, x_rIn, x_rLn, x_rVn, x_rIf, x_rLf, x_rVf, x_40, x_41, x_42, x_43, x_44, ↓reduceIte, if_true, if_false, ao_iadd, ao_isub, ao_imul, ao_iand, ao_ior, ao_ishl, ao_ishr, ao_iushr, ao_ladd, ao_lsub, ao_lmul, ao_land, ao_lor, ao_idiv, ao_irem, ao_ldiv, ao_lrem, ao_ineg, ao_i2b, ao_i2s, Nat.reduceAdd, Nat.reduceMul, Nat.reduceSub, Nat.reduceEqDiff, Nat.reduceLeDiff, and_self, true_and, x_lit, x_ofn, x_z0, x_z1, x_inbT, x_ltT, x_ltF, x_leT, x_leF, x_eqF, x_eqT, x_inb, x_lt, x_le, x_eq, x_cl, x_sub, nI_add, pk_mul, x_m1e, x_m1e', x_m1l, x_m1n, x_m1s, Nat.not_lt_zero, x_zb, x_b0, x_b1, decide_eq_false_iff_not, decide_eq_true_eq, Bool.false_eq_true, Bool.true_eq_false, h4, g0, g1, g2, g3, g4, g5, kd_26, kd_37, kd_38, kd_39, kd_40, kd_41, kd_42, ln_37, ln_38, ln_39, ln_40, ln_41, ln_42]
