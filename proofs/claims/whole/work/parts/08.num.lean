/-! numbers: those of 32 bits as nI n -/
theorem x_lit (n : Nat) : (OfNat.ofNat n : Int32) = nI n := id rfl
theorem x_ofn (n : Nat) : Int32.ofNat n = nI n := id rfl
theorem x_z0 : ((nI 0 : Int32) &&& nI 1 = nI 0) = True := by simp [nI]
theorem x_z1 : ((nI 1 : Int32) &&& nI 1 = nI 1) = True := by simp [nI]
theorem x_inb {p n : Nat} (h : p < 2147483648) : (am_inb (nI p) n = true) = (p < n) := by
  have h1 : ¬ nI p < 0 := nI_pos h
  unfold am_inb
  rw [nI_clamp h]
  simp [h1]
theorem x_inbT {p n : Nat} (h : p < n) (hn : p < 2147483648) : (am_inb (nI p) n = true) = True := by rw [x_inb hn]; exact eq_true h
theorem x_ltT {a b : Nat} (h : a < b) (hb : b < 2147483648) : (nI a < nI b) = True := eq_true ((nI_ltI (by omega) hb).mpr h)
theorem x_ltF {a b : Nat} (h : b ≤ a) (ha : a < 2147483648) : (nI a < nI b) = False := eq_false (fun e => by have := (nI_ltI ha (by omega)).mp e; omega)
theorem x_leT {a b : Nat} (h : a ≤ b) (hb : b < 2147483648) : (nI a ≤ nI b) = True := eq_true ((nI_leI (by omega) hb).mpr h)
theorem x_leF {a b : Nat} (h : b < a) (ha : a < 2147483648) : (nI a ≤ nI b) = False := eq_false (fun e => by have := (nI_leI ha (by omega)).mp e; omega)
theorem x_eqF {a b : Nat} (h : a < b ∨ b < a) (ha : a < 2147483648) (hb : b < 2147483648) : (nI a = nI b) = False := eq_false (fun e => by have := (nI_eq ha hb).mp e; omega)
theorem x_eqT {a b : Nat} (h : a = b) : (nI a = nI b) = True := eq_true (by rw [h])
theorem x_lt {a b : Nat} (ha : a < 2147483648) (hb : b < 2147483648) : (nI a < nI b) = (a < b) := propext (nI_ltI ha hb)
theorem x_le {a b : Nat} (ha : a < 2147483648) (hb : b < 2147483648) : (nI a ≤ nI b) = (a ≤ b) := propext (nI_leI ha hb)
theorem x_eq {a b : Nat} (ha : a < 2147483648) (hb : b < 2147483648) : (nI a = nI b) = (a = b) := propext (nI_eq ha hb)
theorem x_cl {n : Nat} (h : n < 2147483648) : (nI n).toNatClampNeg = n := nI_clamp h
theorem x_sub {a b : Nat} (h : b ≤ a) : nI a - nI b = nI (a - b) := pk_sub h
theorem x_m1e {n : Nat} (h : n < 2147483648) : (nI n = -nI 1) = False := by
  refine propext ⟨fun e => ?_, False.elim⟩
  have := congrArg Int32.toInt e
  rw [nI_toInt h] at this
  have h2 : (-nI 1 : Int32).toInt = -1 := by decide +kernel
  omega
theorem x_m1e' {n : Nat} (h : n < 2147483648) : (-nI 1 = nI n) = False := (propext ⟨Eq.symm, Eq.symm⟩ : (-nI 1 = nI n) = (nI n = -nI 1)).trans (x_m1e h)
theorem x_m1l {n : Nat} (h : n < 2147483648) : (nI n < -nI 1) = False := by
  refine propext ⟨fun e => ?_, False.elim⟩
  rw [Int32.lt_iff_toInt_lt, nI_toInt h] at e
  have h2 : (-nI 1 : Int32).toInt = -1 := by decide +kernel
  omega
theorem x_m1n : (-nI 1 < nI 0) = True := by decide +kernel
theorem x_m1s : (-nI 1 = -nI 1) = True := eq_self _
theorem x_div {a d : Nat} (ha : a < 2147483648) (h0 : 0 < d) (hd : d < 2147483648) : nI a / nI d = nI (a / d) := pk_div ha h0 hd
theorem x_rem {a d : Nat} (ha : a < 2147483648) (h0 : 0 < d) (hd : d < 2147483648) : nI a - nI a / nI d * nI d = nI (a % d) := pk_rem ha h0 hd
theorem x_bIf {c : Prop} [Decidable c] (a b : Option am_R) (f : Int32 → am_M → Option am_R) : am_bI (if c then a else b) f = if c then am_bI a f else am_bI b f := by split <;> rfl
theorem x_bVf {c : Prop} [Decidable c] (a b : Option am_R) (f : am_M → Option am_R) : am_bV (if c then a else b) f = if c then am_bV a f else am_bV b f := by split <;> rfl
theorem x_bLf {c : Prop} [Decidable c] (a b : Option am_R) (f : Int64 → am_M → Option am_R) : am_bL (if c then a else b) f = if c then am_bL a f else am_bL b f := by split <;> rfl
/-- any number of 32 bits is below 0, or nI of a small one -/
theorem x_cases (x : Int32) : x < nI 0 ∨ ∃ n : Nat, n < 2147483648 ∧ x = nI n := by
  by_cases h : x < 0
  · exact Or.inl h
  · exact Or.inr (nI_of h)
