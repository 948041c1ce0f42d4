/-! the tape -/
theorem bv_sh (X : BitVec 32) (s : Nat) (hs : s ≤ 24) : (X >>> s).signExtend 8 = (X.sshiftRight s).signExtend 8 := by
  apply BitVec.eq_of_getLsbD_eq
  intro i hi
  rw [BitVec.getLsbD_signExtend, BitVec.getLsbD_signExtend]
  have h1 : i < 32 := by omega
  simp only [hi, h1, decide_true, Bool.true_and, if_true]
  rw [BitVec.getLsbD_ushiftRight, BitVec.getLsbD_sshiftRight]
  have h2 : s + i < 32 := by omega
  simp [h1, h2]
theorem by_all : ∀ n, n < 256 → (Int8.ofNat n).toInt32 = bI n := by decide +kernel
theorem by_ex (y : Int8) : ∃ b, b < 256 ∧ y.toInt32 = bI b := by
  refine ⟨y.toBitVec.toNat, y.toBitVec.isLt, ?_⟩
  rw [← by_all _ y.toBitVec.isLt]
  congr 1
  apply Int8.toBitVec_inj.mp
  show y.toBitVec = BitVec.ofNat 8 y.toBitVec.toNat
  rw [BitVec.ofNat_toNat, BitVec.setWidth_eq]
theorem nar_b : ∀ n, n < 256 → vp_nar .byte (bI n) = bI n := by decide +kernel
theorem by_24 (x : Int32) : ∃ b, b < 256 ∧ vp_nar FieldType.byte (x.toUInt32 >>> ((nI 24).toUInt32 &&& (nI 31).toUInt32)).toInt32.toInt8.toInt32 = bI b ∧ vp_nar FieldType.byte (x >>> (nI 24 &&& nI 31)).toInt8.toInt32 = bI b := by
  have e : (x.toUInt32 >>> ((nI 24).toUInt32 &&& (nI 31).toUInt32)).toInt32.toInt8 = (x >>> (nI 24 &&& nI 31)).toInt8 := by
    apply Int8.toBitVec_inj.mp
    have e1 : (x.toUInt32 >>> ((nI 24).toUInt32 &&& (nI 31).toUInt32)).toInt32.toInt8.toBitVec = (x.toBitVec >>> 24).signExtend 8 := rfl
    have e2 : (x >>> (nI 24 &&& nI 31)).toInt8.toBitVec = (x.toBitVec.sshiftRight 24).signExtend 8 := rfl
    rw [e1, e2]
    exact bv_sh _ 24 (by omega)
  obtain ⟨b, h1, h2⟩ := by_ex (x >>> (nI 24 &&& nI 31)).toInt8
  refine ⟨b, h1, ?_, ?_⟩
  · rw [e, h2, nar_b b h1]
  · rw [h2, nar_b b h1]
theorem by_16 (x : Int32) : ∃ b, b < 256 ∧ vp_nar FieldType.byte (x.toUInt32 >>> ((nI 16).toUInt32 &&& (nI 31).toUInt32)).toInt32.toInt8.toInt32 = bI b ∧ vp_nar FieldType.byte (x >>> (nI 16 &&& nI 31)).toInt8.toInt32 = bI b := by
  have e : (x.toUInt32 >>> ((nI 16).toUInt32 &&& (nI 31).toUInt32)).toInt32.toInt8 = (x >>> (nI 16 &&& nI 31)).toInt8 := by
    apply Int8.toBitVec_inj.mp
    have e1 : (x.toUInt32 >>> ((nI 16).toUInt32 &&& (nI 31).toUInt32)).toInt32.toInt8.toBitVec = (x.toBitVec >>> 16).signExtend 8 := rfl
    have e2 : (x >>> (nI 16 &&& nI 31)).toInt8.toBitVec = (x.toBitVec.sshiftRight 16).signExtend 8 := rfl
    rw [e1, e2]
    exact bv_sh _ 16 (by omega)
  obtain ⟨b, h1, h2⟩ := by_ex (x >>> (nI 16 &&& nI 31)).toInt8
  refine ⟨b, h1, ?_, ?_⟩
  · rw [e, h2, nar_b b h1]
  · rw [h2, nar_b b h1]
theorem by_8 (x : Int32) : ∃ b, b < 256 ∧ vp_nar FieldType.byte (x.toUInt32 >>> ((nI 8).toUInt32 &&& (nI 31).toUInt32)).toInt32.toInt8.toInt32 = bI b ∧ vp_nar FieldType.byte (x >>> (nI 8 &&& nI 31)).toInt8.toInt32 = bI b := by
  have e : (x.toUInt32 >>> ((nI 8).toUInt32 &&& (nI 31).toUInt32)).toInt32.toInt8 = (x >>> (nI 8 &&& nI 31)).toInt8 := by
    apply Int8.toBitVec_inj.mp
    have e1 : (x.toUInt32 >>> ((nI 8).toUInt32 &&& (nI 31).toUInt32)).toInt32.toInt8.toBitVec = (x.toBitVec >>> 8).signExtend 8 := rfl
    have e2 : (x >>> (nI 8 &&& nI 31)).toInt8.toBitVec = (x.toBitVec.sshiftRight 8).signExtend 8 := rfl
    rw [e1, e2]
    exact bv_sh _ 8 (by omega)
  obtain ⟨b, h1, h2⟩ := by_ex (x >>> (nI 8 &&& nI 31)).toInt8
  refine ⟨b, h1, ?_, ?_⟩
  · rw [e, h2, nar_b b h1]
  · rw [h2, nar_b b h1]
theorem by_0 (x : Int32) : ∃ b, b < 256 ∧ vp_nar FieldType.byte (x.toUInt32 >>> ((nI 0).toUInt32 &&& (nI 31).toUInt32)).toInt32.toInt8.toInt32 = bI b ∧ vp_nar FieldType.byte (x >>> (nI 0 &&& nI 31)).toInt8.toInt32 = bI b := by
  have e : (x.toUInt32 >>> ((nI 0).toUInt32 &&& (nI 31).toUInt32)).toInt32.toInt8 = (x >>> (nI 0 &&& nI 31)).toInt8 := by
    apply Int8.toBitVec_inj.mp
    have e1 : (x.toUInt32 >>> ((nI 0).toUInt32 &&& (nI 31).toUInt32)).toInt32.toInt8.toBitVec = (x.toBitVec >>> 0).signExtend 8 := rfl
    have e2 : (x >>> (nI 0 &&& nI 31)).toInt8.toBitVec = (x.toBitVec.sshiftRight 0).signExtend 8 := rfl
    rw [e1, e2]
    exact bv_sh _ 0 (by omega)
  obtain ⟨b, h1, h2⟩ := by_ex (x >>> (nI 0 &&& nI 31)).toInt8
  refine ⟨b, h1, ?_, ?_⟩
  · rw [e, h2, nar_b b h1]
  · rw [h2, nar_b b h1]
