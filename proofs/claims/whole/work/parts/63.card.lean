/-! cards are told -/
theorem ni_bv (n : Nat) : (nI n).toBitVec = BitVec.ofNat 32 n := rfl
theorem sh_bv {c : Nat} (hc : c < 24) : (nI c &&& nI 31) = nI c := by
  revert hc; revert c; decide +kernel
theorem sm_bv {c : Nat} (hc : c < 24) : (nI c).toBitVec.smod 32 = BitVec.ofNat 32 c := by
  revert hc; revert c; decide +kernel
theorem tb_hi {X i : Nat} (hX : X < 16777216) (hi : 24 ≤ i) : X.testBit i = false := Nat.testBit_lt_two_pow (Nat.lt_of_lt_of_le hX (show 2 ^ 24 ≤ 2 ^ i from Nat.pow_le_pow_right (by omega) hi))
theorem msk_bit {X c : Nat} (hX : X < 16777216) (hc : c < 24) : ((nI X >>> (nI c &&& nI 31)) &&& nI 1) = nI (b2 (X.testBit c)) := by
  apply Int32.toBitVec_inj.mp
  rw [sh_bv hc, Int32.toBitVec_and, Int32.toBitVec_shiftRight, sm_bv hc, ni_bv, ni_bv, ni_bv]
  apply BitVec.eq_of_getLsbD_eq
  intro i hi
  have hc2 : c % 2 ^ 32 = c := by omega
  have hm : (BitVec.ofNat 32 X).msb = false := by
    rw [BitVec.msb_eq_getLsbD_last, BitVec.getLsbD_ofNat, tb_hi hX (by omega)]; rfl
  rw [BitVec.getLsbD_and, BitVec.sshiftRight', BitVec.getLsbD_sshiftRight, BitVec.toNat_ofNat, hc2, hm, BitVec.getLsbD_ofNat, BitVec.getLsbD_ofNat, BitVec.getLsbD_ofNat]
  by_cases h0 : i = 0
  · subst h0
    cases h : X.testBit c with
    | false => simp [h, b2]
    | true => simp [h, b2]; omega
  · have h1 : Nat.testBit 1 i = false := by
      rw [← Nat.pow_zero 2, Nat.testBit_two_pow]; exact decide_eq_false (fun z => h0 z.symm)
    cases h : X.testBit c with
    | false => simp [h1, b2]
    | true => simp [h1, b2]
theorem msk_or {X c : Nat} (hX : X < 16777216) (hc : c < 24) : nI X ||| (nI 1 <<< (nI c &&& nI 31)) = nI (X ||| 2 ^ c) := by
  apply Int32.toBitVec_inj.mp
  rw [sh_bv hc, Int32.toBitVec_or, Int32.toBitVec_shiftLeft, sm_bv hc, ni_bv, ni_bv, ni_bv]
  apply BitVec.eq_of_getLsbD_eq
  intro i hi
  have hc2 : c % 2 ^ 32 = c := by omega
  rw [BitVec.getLsbD_or, BitVec.shiftLeft_eq', BitVec.getLsbD_shiftLeft, BitVec.toNat_ofNat, hc2, BitVec.getLsbD_ofNat, BitVec.getLsbD_ofNat, BitVec.getLsbD_ofNat, Nat.testBit_or, Nat.testBit_two_pow]
  have h1 : Nat.testBit 1 (i - c) = decide (0 = i - c) := by
    rw [← Nat.testBit_two_pow, Nat.pow_zero]
  rw [h1]
  by_cases h2 : i = c
  · subst h2; simp [hi]
  · by_cases h3 : i < c
    · simp [h3, hi]; omega
    · have : ¬ 0 = i - c := by omega
      simp [h3, hi, this]; omega
