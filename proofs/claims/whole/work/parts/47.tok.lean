/-! tokens of a text: bytes t up to the end e -/
def isBl (x : Nat) : Bool := decide (x = 10 ∨ x = 32)
def isLt (x : Nat) : Bool := decide (97 ≤ x ∧ x ≤ 122)
def isDg (x : Nat) : Bool := decide (48 ≤ x ∧ x ≤ 57)
def isSg (x : Nat) : Bool := decide (x = 59 ∨ x = 60 ∨ x = 62 ∨ x = 61)
def scanF (P : Nat → Bool) (t : Nat → Nat) : Nat → Nat → Nat
  | 0, a => a
  | n + 1, a => if P (t a) = true then scanF P t n (a + 1) else a
def scan (P : Nat → Bool) (t : Nat → Nat) (e a : Nat) : Nat := scanF P t (e - a) a
theorem scanF_le (P : Nat → Bool) (t : Nat → Nat) : ∀ n a, a ≤ scanF P t n a ∧ scanF P t n a ≤ a + n
  | 0, a => ⟨Nat.le_refl _, Nat.le_refl _⟩
  | n + 1, a => by
    unfold scanF
    split
    · have := scanF_le P t n (a + 1); omega
    · omega
theorem scan_le (P : Nat → Bool) (t : Nat → Nat) {e a : Nat} (h : a ≤ e) : a ≤ scan P t e a ∧ scan P t e a ≤ e := by
  have := scanF_le P t (e - a) a
  unfold scan
  omega
theorem scan_go {P : Nat → Bool} {t : Nat → Nat} {e a : Nat} (h : a < e) (hp : P (t a) = true) : scan P t e a = scan P t e (a + 1) := by
  unfold scan
  rw [show e - a = (e - (a + 1)) + 1 by omega]
  show (if P (t a) = true then _ else _) = _
  rw [if_pos hp]
theorem scan_no {P : Nat → Bool} {t : Nat → Nat} {e a : Nat} (h : a < e → P (t a) = false) : scan P t e a = a := by
  unfold scan
  by_cases h2 : a < e
  · rw [show e - a = (e - (a + 1)) + 1 by omega]
    show (if P (t a) = true then _ else _) = _
    rw [if_neg (by rw [h h2]; simp)]
  · rw [show e - a = 0 by omega]; rfl
def tp (t : Nat → Nat) (e a : Nat) : Nat := scan isBl t e a
def tq (t : Nat → Nat) (e a : Nat) : Nat := if e ≤ tp t e a then tp t e a else if isLt (t (tp t e a)) = true then scan isLt t e (tp t e a) else if isDg (t (tp t e a)) = true then scan isDg t e (tp t e a) else tp t e a + 1
def tkd (t : Nat → Nat) (e a : Nat) : Nat := if e ≤ tp t e a then 0 else if isLt (t (tp t e a)) = true then 1 else if isDg (t (tp t e a)) = true then (if tq t e a - tp t e a ≤ 4 then 2 else 4) else if isSg (t (tp t e a)) = true then 3 else 4
/-- the letters from p on, the last first -/
def rl (t : Nat → Nat) (p : Nat) : Nat → List Nat
  | 0 => []
  | n + 1 => (t (p + n) - 96) :: rl t p n
def rn (t : Nat → Nat) (p : Nat) : Nat → Nat
  | 0 => 0
  | n + 1 => rn t p n * 10 + (t (p + n) - 48)
def twd (t : Nat → Nat) (e a : Nat) : List Nat := rl t (tp t e a) (tq t e a - tp t e a)
def tnum (t : Nat → Nat) (e a : Nat) : Nat := if isDg (t (tp t e a)) = true then rn t (tp t e a) (tq t e a - tp t e a) else t (tp t e a)
def keyR (b : Nat) : List Nat → Nat
  | [] => 0
  | c :: r => keyR b r * b + c
def KWs : List (List Nat) := [[19, 11, 14, 1, 18], [20, 9, 21, 19], [4, 5, 18], [23, 1, 12], [19, 12, 1, 5, 4, 5, 18], [23, 15, 18], [11, 3, 15, 20, 19], [4, 12, 5, 9, 6], [6, 15], [19, 5, 9, 18, 4], [18, 5, 20, 1, 23], [8, 7, 9, 8], [25, 1, 4], [5, 22, 15, 13], [12, 1, 5, 4], [14, 21, 18], [25, 14, 1], [14, 5, 8, 23], [5, 13, 15, 8], [11, 3, 21, 20, 19], [16, 15, 15, 12], [4, 14, 5], [16, 15, 20, 19]]
def kwR (r : List Nat) : Nat → Option Nat
  | 0 => none
  | i + 1 => if KWs.getD i [] = r then some i else kwR r i
def kwi (r : List Nat) : Option Nat := kwR r 23
theorem kwR_some {r : List Nat} {j : Nat} : ∀ i, kwR r i = some j → j < i ∧ KWs.getD j [] = r
  | 0, h => by cases h
  | i + 1, h => by
    unfold kwR at h
    split at h
    · cases h; exact ⟨by omega, by assumption⟩
    · have := kwR_some i h; exact ⟨by omega, this.2⟩
theorem kwi_kw : ∀ i, i < 23 → kwi (KWs.getD i []) = some i := by decide +kernel
theorem kw_len : ∀ i, i < 23 → (KWs.getD i []).length ≤ 7 := by decide +kernel
theorem kwi_iff {r : List Nat} {i : Nat} (hi : i < 23) : kwi r = some i ↔ KWs.getD i [] = r := by
  constructor
  · intro h; exact (kwR_some 23 h).2
  · intro h; rw [← h]; exact kwi_kw i hi
theorem kwi_lt {r : List Nat} {i : Nat} (h : kwi r = some i) : i < 23 := (kwR_some 23 h).1
theorem kwi_long {r : List Nat} (h : 8 < r.length) : kwi r = none := by
  cases e : kwi r with
  | none => rfl
  | some i =>
    have h1 := kwi_lt e
    have h2 := (kwi_iff h1).mp e
    have h3 := kw_len i h1
    rw [h2] at h3
    omega
/-- letters as they can be -/
def okL (r : List Nat) : Prop := ∀ c ∈ r, 1 ≤ c ∧ c ≤ 26
theorem keyR_inj {b : Nat} (hb : 27 ≤ b) : ∀ (l m : List Nat), okL l → okL m → keyR b l = keyR b m → l = m
  | [], [], _, _, _ => rfl
  | [], c :: m, _, hm, h => by
    have := hm c List.mem_cons_self
    have h' : 0 = keyR b m * b + c := h
    omega
  | c :: l, [], hl, _, h => by
    have := hl c List.mem_cons_self
    have h' : keyR b l * b + c = 0 := h
    omega
  | c :: l, d :: m, hl, hm, h => by
    have h1 := hl c List.mem_cons_self
    have h2 := hm d List.mem_cons_self
    have h' : keyR b l * b + c = keyR b m * b + d := h
    have e1 : (keyR b l * b + c) % b = c := by rw [Nat.mul_comm, Nat.mul_add_mod, Nat.mod_eq_of_lt (by omega)]
    have e2 : (keyR b m * b + d) % b = d := by rw [Nat.mul_comm, Nat.mul_add_mod, Nat.mod_eq_of_lt (by omega)]
    have e3 : (keyR b l * b + c) / b = keyR b l := by rw [Nat.mul_comm, Nat.mul_add_div (by omega), Nat.div_eq_of_lt (by omega)]; rfl
    have e4 : (keyR b m * b + d) / b = keyR b m := by rw [Nat.mul_comm, Nat.mul_add_div (by omega), Nat.div_eq_of_lt (by omega)]; rfl
    rw [h'] at e1 e3
    have e5 : c = d := by omega
    have e6 : keyR b l = keyR b m := by omega
    rw [e5, keyR_inj hb l m (fun x hx => hl x (List.mem_cons_of_mem _ hx)) (fun x hx => hm x (List.mem_cons_of_mem _ hx)) e6]
theorem keyR_lt {b : Nat} (hb : 27 ≤ b) : ∀ (l : List Nat), okL l → keyR b l < b ^ l.length
  | [], _ => by simp [keyR]
  | c :: l, hl => by
    have h1 := hl c List.mem_cons_self
    have h2 := keyR_lt hb l (fun x hx => hl x (List.mem_cons_of_mem _ hx))
    show keyR b l * b + c < b ^ (l.length + 1)
    rw [Nat.pow_succ]
    have h3 : (keyR b l + 1) * b ≤ b ^ l.length * b := Nat.mul_le_mul_right b h2
    rw [Nat.succ_mul] at h3
    omega
theorem keyR_63 {b : Nat} (hb : 27 ≤ b) (hb2 : b ≤ 32) {l : List Nat} (hl : okL l) (h8 : l.length ≤ 8) : keyR b l < 2 ^ 63 := by
  have h1 := keyR_lt hb l hl
  have h2 : b ^ l.length ≤ b ^ 8 := Nat.pow_le_pow_right (by omega) h8
  have h3 : b ^ 8 ≤ 32 ^ 8 := Nat.pow_le_pow_left hb2 8
  have h4 : (32 : Nat) ^ 8 < 2 ^ 63 := by decide
  omega
/-- two names told alike are alike -/
theorem key_eq2 {b : Nat} (hb : 27 ≤ b) (hb2 : b ≤ 32) {l m : List Nat} (hl : okL l) (hm : okL m) (h8 : l.length ≤ 8) (h8' : m.length ≤ 8) : (lN (keyR b l) = lN (keyR b m)) = (l = m) := by
  rw [pk_lEQ (keyR_63 hb hb2 hl h8) (keyR_63 hb hb2 hm h8'), eq_iff_iff]
  exact ⟨fun h => keyR_inj hb l m hl hm h, fun h => by rw [h]⟩
theorem kw_ok : ∀ i, i < 23 → ∀ c ∈ KWs.getD i [], 1 ≤ c ∧ c ≤ 26 := by decide +kernel
/-- what lies within a token -/
theorem scanF_all {P : Nat → Bool} {t : Nat → Nat} : ∀ n a j, a ≤ j → j < scanF P t n a → P (t j) = true
  | 0, a, j, h1, h2 => by unfold scanF at h2; omega
  | n + 1, a, j, h1, h2 => by
    unfold scanF at h2
    split at h2
    · by_cases e : j = a
      · subst e; assumption
      · exact scanF_all n (a + 1) j (by omega) h2
    · omega
theorem scan_all {P : Nat → Bool} {t : Nat → Nat} {e a j : Nat} (h1 : a ≤ j) (h2 : j < scan P t e a) : P (t j) = true := scanF_all _ _ _ h1 h2
theorem rl_len (t : Nat → Nat) (p : Nat) : ∀ n, (rl t p n).length = n
  | 0 => rfl
  | n + 1 => by show (rl t p n).length + 1 = _; rw [rl_len t p n]
theorem rl_ok {t : Nat → Nat} {p : Nat} : ∀ n, (∀ j, p ≤ j → j < p + n → isLt (t j) = true) → okL (rl t p n)
  | 0, _ => fun c hc => by cases hc
  | n + 1, h => fun c hc => by
    rcases List.mem_cons.mp hc with e | e
    · have := of_decide_eq_true (h (p + n) (by omega) (by omega))
      omega
    · exact rl_ok n (fun j a b => h j a (by omega)) c e
theorem tp_le {t : Nat → Nat} {e a : Nat} (h : a ≤ e) : a ≤ tp t e a ∧ tp t e a ≤ e := scan_le _ _ h
theorem tq_le {t : Nat → Nat} {e a : Nat} (h : a ≤ e) : tp t e a ≤ tq t e a ∧ tq t e a ≤ e := by
  have h1 := tp_le (t := t) h
  unfold tq
  split
  · omega
  · split
    · exact scan_le _ _ (by omega)
    · split
      · exact scan_le _ _ (by omega)
      · omega
theorem twd_ok {t : Nat → Nat} {e a : Nat} (h : a ≤ e) (hk : tkd t e a = 1) : okL (twd t e a) ∧ (twd t e a).length = tq t e a - tp t e a := by
  have h1 := tp_le (t := t) h
  have h2 := tq_le (t := t) h
  unfold twd
  refine ⟨rl_ok _ (fun j h3 h4 => ?_), rl_len _ _ _⟩
  have h5 : ¬ e ≤ tp t e a ∧ isLt (t (tp t e a)) = true := by
    unfold tkd at hk
    split at hk
    · omega
    · rename_i q
      refine ⟨q, ?_⟩
      split at hk
      · assumption
      · split at hk
        · split at hk <;> omega
        · split at hk <;> omega
  have h6 : tq t e a = scan isLt t e (tp t e a) := by
    unfold tq
    rw [if_neg h5.1, if_pos h5.2]
  rw [h6] at h4 h2
  exact scan_all (P := isLt) (e := e) h3 (by omega)
/-! the class's bytes -/
def bI (x : Nat) : Int32 := if x < 128 then nI x else nI x - nI 256
theorem bI_255 : ∀ x, x < 256 → bI x &&& nI 255 = nI x := by decide +kernel
theorem bI_neg : ∀ x, x < 256 → 128 ≤ x → bI x < nI 0 := by decide +kernel
theorem bI_lt {x c : Nat} (hx : x < 256) (hc : c < 128) : (bI x < nI c) = (x < c ∨ 128 ≤ x) := by
  rw [eq_iff_iff]
  by_cases h : x < 128
  · have e : bI x = nI x := by unfold bI; rw [if_pos h]
    rw [e, x_lt (by omega) (by omega)]; omega
  · have h1 := bI_neg x hx (by omega)
    have h2 : nI 0 ≤ nI c := (nI_leI (by omega) (by omega)).mpr (by omega)
    rw [Int32.lt_iff_toInt_lt] at h1 ⊢
    rw [Int32.le_iff_toInt_le] at h2
    constructor
    · intro _; omega
    · intro _; omega
theorem bI_le {x c : Nat} (hx : x < 256) (hc : c < 128) : (bI x ≤ nI c) = (x ≤ c ∨ 128 ≤ x) := by
  rw [eq_iff_iff]
  by_cases h : x < 128
  · have e : bI x = nI x := by unfold bI; rw [if_pos h]
    rw [e, x_le (by omega) (by omega)]; omega
  · have h1 := bI_neg x hx (by omega)
    have h2 : nI 0 ≤ nI c := (nI_leI (by omega) (by omega)).mpr (by omega)
    rw [Int32.lt_iff_toInt_lt] at h1
    rw [Int32.le_iff_toInt_le] at h2 ⊢
    constructor
    · intro _; omega
    · intro _; omega
theorem bI_eq {x c : Nat} (hx : x < 256) (hc : c < 128) : (bI x = nI c) = (x = c) := by
  rw [eq_iff_iff]
  by_cases h : x < 128
  · have e : bI x = nI x := by unfold bI; rw [if_pos h]
    rw [e, x_eq (by omega) (by omega)]
  · have h1 := bI_neg x hx (by omega)
    have h2 : nI 0 ≤ nI c := (nI_leI (by omega) (by omega)).mpr (by omega)
    rw [Int32.lt_iff_toInt_lt] at h1
    rw [Int32.le_iff_toInt_le] at h2
    constructor
    · intro z; rw [z] at h1; omega
    · intro _; omega
theorem X_isBlank {x : Nat} (hx : x < 256) (σ : am_M) : S_X3_isBlank [.int (bI x)] σ = some (some (.int (nI (b2 (isBl x)))), σ) := by
  unfold isBl
  by_cases h1 : x = 10
  · simp (disch := omega) only [g_X3_isBlank, ↓e_X3_isBlank_17, ↓e_X3_isBlank_16, ↓e_X3_isBlank_12, ↓e_X3_isBlank_0, ↓it_s, ↓y_iload, ↓y_lload, ↓y_aload, ↓y_istore, ↓y_lstore, ↓y_astore, ↓y_iinc, ↓y_cI, ↓y_cL, ↓y_bin, ↓y_binL, ↓y_div, ↓y_divL, ↓y_lshl, ↓y_un, ↓y_i2l, ↓y_lneg, ↓y_l2i, ↓y_lcmp, ↓y_dupI, ↓y_dupR, ↓y_dup2, ↓y_pop, ↓y_goto, ↓y_eq0, ↓y_lt0, ↓y_le0, ↓y_eq, ↓y_lt, ↓y_le, ↓y_switch, ↓y_sw0, ↓y_sw1, ↓y_getI, ↓y_getL, ↓y_getR, ↓y_getT, ↓y_putI, ↓y_putZ, ↓y_putL, ↓y_putT, ↓y_iald, ↓y_bald, ↓y_lald, ↓y_aald, ↓y_iast, ↓y_bast, ↓y_last, ↓y_alen, ↓y_iret, ↓y_zret, ↓y_lret, ↓y_vret, ↓y_svI, ↓y_svL, ↓y_svV, ↓y_ivI, ↓y_ivL, ↓y_ivV, ↓y_max, ↓y_min, ↓y_absL, ↓y_cpI, ↓y_cpL, ↓x_n1I, ↓x_n1L, ↓x_n1R, ↓x_n0I, ↓x_n0L, ↓x_n0R, ↓x_s0, ↓x_s1i, ↓x_s1r, ↓x_s1n, ↓x_s2, ↓x_c0, ↓x_c2, ↓x_tk0, ↓x_tk1, ↓x_rcv, x_rI1, x_rL1, x_rV1, x_rIn, x_rLn, x_rVn, x_rIf, x_rLf, x_rVf, x_40, x_41, x_42, x_43, x_44, ↓reduceIte, if_true, if_false, ao_iadd, ao_isub, ao_imul, ao_iand, ao_ior, ao_ishl, ao_ishr, ao_iushr, ao_ladd, ao_lsub, ao_lmul, ao_land, ao_lor, ao_idiv, ao_irem, ao_ldiv, ao_lrem, ao_ineg, ao_i2b, ao_i2s, Nat.reduceAdd, Nat.reduceMul, Nat.reduceSub, Nat.reduceEqDiff, Nat.reduceLeDiff, and_self, true_and, x_lit, x_ofn, x_z0, x_z1, x_inbT, x_ltT, x_ltF, x_leT, x_leF, x_eqF, x_eqT, x_inb, x_lt, x_le, x_eq, x_cl, x_sub, nI_add, pk_mul, x_m1e, x_m1e', x_m1l, x_m1n, x_m1s, Nat.not_lt_zero, x_zb, x_b0, x_b1, decide_eq_false_iff_not, decide_eq_true_eq, Bool.false_eq_true, Bool.true_eq_false, bI_eq, h1]
    simp [b2]
  · by_cases h2 : x = 32
    · simp (disch := omega) only [g_X3_isBlank, ↓e_X3_isBlank_17, ↓e_X3_isBlank_16, ↓e_X3_isBlank_12, ↓e_X3_isBlank_0, ↓it_s, ↓y_iload, ↓y_lload, ↓y_aload, ↓y_istore, ↓y_lstore, ↓y_astore, ↓y_iinc, ↓y_cI, ↓y_cL, ↓y_bin, ↓y_binL, ↓y_div, ↓y_divL, ↓y_lshl, ↓y_un, ↓y_i2l, ↓y_lneg, ↓y_l2i, ↓y_lcmp, ↓y_dupI, ↓y_dupR, ↓y_dup2, ↓y_pop, ↓y_goto, ↓y_eq0, ↓y_lt0, ↓y_le0, ↓y_eq, ↓y_lt, ↓y_le, ↓y_switch, ↓y_sw0, ↓y_sw1, ↓y_getI, ↓y_getL, ↓y_getR, ↓y_getT, ↓y_putI, ↓y_putZ, ↓y_putL, ↓y_putT, ↓y_iald, ↓y_bald, ↓y_lald, ↓y_aald, ↓y_iast, ↓y_bast, ↓y_last, ↓y_alen, ↓y_iret, ↓y_zret, ↓y_lret, ↓y_vret, ↓y_svI, ↓y_svL, ↓y_svV, ↓y_ivI, ↓y_ivL, ↓y_ivV, ↓y_max, ↓y_min, ↓y_absL, ↓y_cpI, ↓y_cpL, ↓x_n1I, ↓x_n1L, ↓x_n1R, ↓x_n0I, ↓x_n0L, ↓x_n0R, ↓x_s0, ↓x_s1i, ↓x_s1r, ↓x_s1n, ↓x_s2, ↓x_c0, ↓x_c2, ↓x_tk0, ↓x_tk1, ↓x_rcv, x_rI1, x_rL1, x_rV1, x_rIn, x_rLn, x_rVn, x_rIf, x_rLf, x_rVf, x_40, x_41, x_42, x_43, x_44, ↓reduceIte, if_true, if_false, ao_iadd, ao_isub, ao_imul, ao_iand, ao_ior, ao_ishl, ao_ishr, ao_iushr, ao_ladd, ao_lsub, ao_lmul, ao_land, ao_lor, ao_idiv, ao_irem, ao_ldiv, ao_lrem, ao_ineg, ao_i2b, ao_i2s, Nat.reduceAdd, Nat.reduceMul, Nat.reduceSub, Nat.reduceEqDiff, Nat.reduceLeDiff, and_self, true_and, x_lit, x_ofn, x_z0, x_z1, x_inbT, x_ltT, x_ltF, x_leT, x_leF, x_eqF, x_eqT, x_inb, x_lt, x_le, x_eq, x_cl, x_sub, nI_add, pk_mul, x_m1e, x_m1e', x_m1l, x_m1n, x_m1s, Nat.not_lt_zero, x_zb, x_b0, x_b1, decide_eq_false_iff_not, decide_eq_true_eq, Bool.false_eq_true, Bool.true_eq_false, bI_eq, h1, h2]
      simp [b2]
    · simp (disch := omega) only [g_X3_isBlank, ↓e_X3_isBlank_17, ↓e_X3_isBlank_16, ↓e_X3_isBlank_12, ↓e_X3_isBlank_0, ↓it_s, ↓y_iload, ↓y_lload, ↓y_aload, ↓y_istore, ↓y_lstore, ↓y_astore, ↓y_iinc, ↓y_cI, ↓y_cL, ↓y_bin, ↓y_binL, ↓y_div, ↓y_divL, ↓y_lshl, ↓y_un, ↓y_i2l, ↓y_lneg, ↓y_l2i, ↓y_lcmp, ↓y_dupI, ↓y_dupR, ↓y_dup2, ↓y_pop, ↓y_goto, ↓y_eq0, ↓y_lt0, ↓y_le0, ↓y_eq, ↓y_lt, ↓y_le, ↓y_switch, ↓y_sw0, ↓y_sw1, ↓y_getI, ↓y_getL, ↓y_getR, ↓y_getT, ↓y_putI, ↓y_putZ, ↓y_putL, ↓y_putT, ↓y_iald, ↓y_bald, ↓y_lald, ↓y_aald, ↓y_iast, ↓y_bast, ↓y_last, ↓y_alen, ↓y_iret, ↓y_zret, ↓y_lret, ↓y_vret, ↓y_svI, ↓y_svL, ↓y_svV, ↓y_ivI, ↓y_ivL, ↓y_ivV, ↓y_max, ↓y_min, ↓y_absL, ↓y_cpI, ↓y_cpL, ↓x_n1I, ↓x_n1L, ↓x_n1R, ↓x_n0I, ↓x_n0L, ↓x_n0R, ↓x_s0, ↓x_s1i, ↓x_s1r, ↓x_s1n, ↓x_s2, ↓x_c0, ↓x_c2, ↓x_tk0, ↓x_tk1, ↓x_rcv, x_rI1, x_rL1, x_rV1, x_rIn, x_rLn, x_rVn, x_rIf, x_rLf, x_rVf, x_40, x_41, x_42, x_43, x_44, ↓reduceIte, if_true, if_false, ao_iadd, ao_isub, ao_imul, ao_iand, ao_ior, ao_ishl, ao_ishr, ao_iushr, ao_ladd, ao_lsub, ao_lmul, ao_land, ao_lor, ao_idiv, ao_irem, ao_ldiv, ao_lrem, ao_ineg, ao_i2b, ao_i2s, Nat.reduceAdd, Nat.reduceMul, Nat.reduceSub, Nat.reduceEqDiff, Nat.reduceLeDiff, and_self, true_and, x_lit, x_ofn, x_z0, x_z1, x_inbT, x_ltT, x_ltF, x_leT, x_leF, x_eqF, x_eqT, x_inb, x_lt, x_le, x_eq, x_cl, x_sub, nI_add, pk_mul, x_m1e, x_m1e', x_m1l, x_m1n, x_m1s, Nat.not_lt_zero, x_zb, x_b0, x_b1, decide_eq_false_iff_not, decide_eq_true_eq, Bool.false_eq_true, Bool.true_eq_false, bI_eq, h1, h2]
      simp [b2]
theorem X_isLetter {x : Nat} (hx : x < 256) (σ : am_M) : S_X3_isLetter [.int (bI x)] σ = some (some (.int (nI (b2 (isLt x)))), σ) := by
  unfold isLt
  by_cases h1 : x < 97 ∨ 128 ≤ x
  · simp (disch := omega) only [g_X3_isLetter, ↓e_X3_isLetter_17, ↓e_X3_isLetter_16, ↓e_X3_isLetter_0, ↓it_s, ↓y_iload, ↓y_lload, ↓y_aload, ↓y_istore, ↓y_lstore, ↓y_astore, ↓y_iinc, ↓y_cI, ↓y_cL, ↓y_bin, ↓y_binL, ↓y_div, ↓y_divL, ↓y_lshl, ↓y_un, ↓y_i2l, ↓y_lneg, ↓y_l2i, ↓y_lcmp, ↓y_dupI, ↓y_dupR, ↓y_dup2, ↓y_pop, ↓y_goto, ↓y_eq0, ↓y_lt0, ↓y_le0, ↓y_eq, ↓y_lt, ↓y_le, ↓y_switch, ↓y_sw0, ↓y_sw1, ↓y_getI, ↓y_getL, ↓y_getR, ↓y_getT, ↓y_putI, ↓y_putZ, ↓y_putL, ↓y_putT, ↓y_iald, ↓y_bald, ↓y_lald, ↓y_aald, ↓y_iast, ↓y_bast, ↓y_last, ↓y_alen, ↓y_iret, ↓y_zret, ↓y_lret, ↓y_vret, ↓y_svI, ↓y_svL, ↓y_svV, ↓y_ivI, ↓y_ivL, ↓y_ivV, ↓y_max, ↓y_min, ↓y_absL, ↓y_cpI, ↓y_cpL, ↓x_n1I, ↓x_n1L, ↓x_n1R, ↓x_n0I, ↓x_n0L, ↓x_n0R, ↓x_s0, ↓x_s1i, ↓x_s1r, ↓x_s1n, ↓x_s2, ↓x_c0, ↓x_c2, ↓x_tk0, ↓x_tk1, ↓x_rcv, x_rI1, x_rL1, x_rV1, x_rIn, x_rLn, x_rVn, x_rIf, x_rLf, x_rVf, x_40, x_41, x_42, x_43, x_44, ↓reduceIte, if_true, if_false, ao_iadd, ao_isub, ao_imul, ao_iand, ao_ior, ao_ishl, ao_ishr, ao_iushr, ao_ladd, ao_lsub, ao_lmul, ao_land, ao_lor, ao_idiv, ao_irem, ao_ldiv, ao_lrem, ao_ineg, ao_i2b, ao_i2s, Nat.reduceAdd, Nat.reduceMul, Nat.reduceSub, Nat.reduceEqDiff, Nat.reduceLeDiff, and_self, true_and, x_lit, x_ofn, x_z0, x_z1, x_inbT, x_ltT, x_ltF, x_leT, x_leF, x_eqF, x_eqT, x_inb, x_lt, x_le, x_eq, x_cl, x_sub, nI_add, pk_mul, x_m1e, x_m1e', x_m1l, x_m1n, x_m1s, Nat.not_lt_zero, x_zb, x_b0, x_b1, decide_eq_false_iff_not, decide_eq_true_eq, Bool.false_eq_true, Bool.true_eq_false, bI_lt, h1]
    rw [decide_eq_false (by omega)]; rfl
  · by_cases h2 : x ≤ 122 ∨ 128 ≤ x
    · simp (disch := omega) only [g_X3_isLetter, ↓e_X3_isLetter_17, ↓e_X3_isLetter_16, ↓e_X3_isLetter_0, ↓it_s, ↓y_iload, ↓y_lload, ↓y_aload, ↓y_istore, ↓y_lstore, ↓y_astore, ↓y_iinc, ↓y_cI, ↓y_cL, ↓y_bin, ↓y_binL, ↓y_div, ↓y_divL, ↓y_lshl, ↓y_un, ↓y_i2l, ↓y_lneg, ↓y_l2i, ↓y_lcmp, ↓y_dupI, ↓y_dupR, ↓y_dup2, ↓y_pop, ↓y_goto, ↓y_eq0, ↓y_lt0, ↓y_le0, ↓y_eq, ↓y_lt, ↓y_le, ↓y_switch, ↓y_sw0, ↓y_sw1, ↓y_getI, ↓y_getL, ↓y_getR, ↓y_getT, ↓y_putI, ↓y_putZ, ↓y_putL, ↓y_putT, ↓y_iald, ↓y_bald, ↓y_lald, ↓y_aald, ↓y_iast, ↓y_bast, ↓y_last, ↓y_alen, ↓y_iret, ↓y_zret, ↓y_lret, ↓y_vret, ↓y_svI, ↓y_svL, ↓y_svV, ↓y_ivI, ↓y_ivL, ↓y_ivV, ↓y_max, ↓y_min, ↓y_absL, ↓y_cpI, ↓y_cpL, ↓x_n1I, ↓x_n1L, ↓x_n1R, ↓x_n0I, ↓x_n0L, ↓x_n0R, ↓x_s0, ↓x_s1i, ↓x_s1r, ↓x_s1n, ↓x_s2, ↓x_c0, ↓x_c2, ↓x_tk0, ↓x_tk1, ↓x_rcv, x_rI1, x_rL1, x_rV1, x_rIn, x_rLn, x_rVn, x_rIf, x_rLf, x_rVf, x_40, x_41, x_42, x_43, x_44, ↓reduceIte, if_true, if_false, ao_iadd, ao_isub, ao_imul, ao_iand, ao_ior, ao_ishl, ao_ishr, ao_iushr, ao_ladd, ao_lsub, ao_lmul, ao_land, ao_lor, ao_idiv, ao_irem, ao_ldiv, ao_lrem, ao_ineg, ao_i2b, ao_i2s, Nat.reduceAdd, Nat.reduceMul, Nat.reduceSub, Nat.reduceEqDiff, Nat.reduceLeDiff, and_self, true_and, x_lit, x_ofn, x_z0, x_z1, x_inbT, x_ltT, x_ltF, x_leT, x_leF, x_eqF, x_eqT, x_inb, x_lt, x_le, x_eq, x_cl, x_sub, nI_add, pk_mul, x_m1e, x_m1e', x_m1l, x_m1n, x_m1s, Nat.not_lt_zero, x_zb, x_b0, x_b1, decide_eq_false_iff_not, decide_eq_true_eq, Bool.false_eq_true, Bool.true_eq_false, bI_lt, bI_le, h1, h2]
      rw [decide_eq_true (by omega)]; rfl
    · simp (disch := omega) only [g_X3_isLetter, ↓e_X3_isLetter_17, ↓e_X3_isLetter_16, ↓e_X3_isLetter_0, ↓it_s, ↓y_iload, ↓y_lload, ↓y_aload, ↓y_istore, ↓y_lstore, ↓y_astore, ↓y_iinc, ↓y_cI, ↓y_cL, ↓y_bin, ↓y_binL, ↓y_div, ↓y_divL, ↓y_lshl, ↓y_un, ↓y_i2l, ↓y_lneg, ↓y_l2i, ↓y_lcmp, ↓y_dupI, ↓y_dupR, ↓y_dup2, ↓y_pop, ↓y_goto, ↓y_eq0, ↓y_lt0, ↓y_le0, ↓y_eq, ↓y_lt, ↓y_le, ↓y_switch, ↓y_sw0, ↓y_sw1, ↓y_getI, ↓y_getL, ↓y_getR, ↓y_getT, ↓y_putI, ↓y_putZ, ↓y_putL, ↓y_putT, ↓y_iald, ↓y_bald, ↓y_lald, ↓y_aald, ↓y_iast, ↓y_bast, ↓y_last, ↓y_alen, ↓y_iret, ↓y_zret, ↓y_lret, ↓y_vret, ↓y_svI, ↓y_svL, ↓y_svV, ↓y_ivI, ↓y_ivL, ↓y_ivV, ↓y_max, ↓y_min, ↓y_absL, ↓y_cpI, ↓y_cpL, ↓x_n1I, ↓x_n1L, ↓x_n1R, ↓x_n0I, ↓x_n0L, ↓x_n0R, ↓x_s0, ↓x_s1i, ↓x_s1r, ↓x_s1n, ↓x_s2, ↓x_c0, ↓x_c2, ↓x_tk0, ↓x_tk1, ↓x_rcv, x_rI1, x_rL1, x_rV1, x_rIn, x_rLn, x_rVn, x_rIf, x_rLf, x_rVf, x_40, x_41, x_42, x_43, x_44, ↓reduceIte, if_true, if_false, ao_iadd, ao_isub, ao_imul, ao_iand, ao_ior, ao_ishl, ao_ishr, ao_iushr, ao_ladd, ao_lsub, ao_lmul, ao_land, ao_lor, ao_idiv, ao_irem, ao_ldiv, ao_lrem, ao_ineg, ao_i2b, ao_i2s, Nat.reduceAdd, Nat.reduceMul, Nat.reduceSub, Nat.reduceEqDiff, Nat.reduceLeDiff, and_self, true_and, x_lit, x_ofn, x_z0, x_z1, x_inbT, x_ltT, x_ltF, x_leT, x_leF, x_eqF, x_eqT, x_inb, x_lt, x_le, x_eq, x_cl, x_sub, nI_add, pk_mul, x_m1e, x_m1e', x_m1l, x_m1n, x_m1s, Nat.not_lt_zero, x_zb, x_b0, x_b1, decide_eq_false_iff_not, decide_eq_true_eq, Bool.false_eq_true, Bool.true_eq_false, bI_lt, bI_le, h1, h2]
      rw [decide_eq_false (by omega)]; rfl
theorem X_isDigit {x : Nat} (hx : x < 256) (σ : am_M) : S_X3_isDigit [.int (bI x)] σ = some (some (.int (nI (b2 (isDg x)))), σ) := by
  unfold isDg
  by_cases h1 : x < 48 ∨ 128 ≤ x
  · simp (disch := omega) only [g_X3_isDigit, ↓e_X3_isDigit_17, ↓e_X3_isDigit_16, ↓e_X3_isDigit_0, ↓it_s, ↓y_iload, ↓y_lload, ↓y_aload, ↓y_istore, ↓y_lstore, ↓y_astore, ↓y_iinc, ↓y_cI, ↓y_cL, ↓y_bin, ↓y_binL, ↓y_div, ↓y_divL, ↓y_lshl, ↓y_un, ↓y_i2l, ↓y_lneg, ↓y_l2i, ↓y_lcmp, ↓y_dupI, ↓y_dupR, ↓y_dup2, ↓y_pop, ↓y_goto, ↓y_eq0, ↓y_lt0, ↓y_le0, ↓y_eq, ↓y_lt, ↓y_le, ↓y_switch, ↓y_sw0, ↓y_sw1, ↓y_getI, ↓y_getL, ↓y_getR, ↓y_getT, ↓y_putI, ↓y_putZ, ↓y_putL, ↓y_putT, ↓y_iald, ↓y_bald, ↓y_lald, ↓y_aald, ↓y_iast, ↓y_bast, ↓y_last, ↓y_alen, ↓y_iret, ↓y_zret, ↓y_lret, ↓y_vret, ↓y_svI, ↓y_svL, ↓y_svV, ↓y_ivI, ↓y_ivL, ↓y_ivV, ↓y_max, ↓y_min, ↓y_absL, ↓y_cpI, ↓y_cpL, ↓x_n1I, ↓x_n1L, ↓x_n1R, ↓x_n0I, ↓x_n0L, ↓x_n0R, ↓x_s0, ↓x_s1i, ↓x_s1r, ↓x_s1n, ↓x_s2, ↓x_c0, ↓x_c2, ↓x_tk0, ↓x_tk1, ↓x_rcv, x_rI1, x_rL1, x_rV1, x_rIn, x_rLn, x_rVn, x_rIf, x_rLf, x_rVf, x_40, x_41, x_42, x_43, x_44, ↓reduceIte, if_true, if_false, ao_iadd, ao_isub, ao_imul, ao_iand, ao_ior, ao_ishl, ao_ishr, ao_iushr, ao_ladd, ao_lsub, ao_lmul, ao_land, ao_lor, ao_idiv, ao_irem, ao_ldiv, ao_lrem, ao_ineg, ao_i2b, ao_i2s, Nat.reduceAdd, Nat.reduceMul, Nat.reduceSub, Nat.reduceEqDiff, Nat.reduceLeDiff, and_self, true_and, x_lit, x_ofn, x_z0, x_z1, x_inbT, x_ltT, x_ltF, x_leT, x_leF, x_eqF, x_eqT, x_inb, x_lt, x_le, x_eq, x_cl, x_sub, nI_add, pk_mul, x_m1e, x_m1e', x_m1l, x_m1n, x_m1s, Nat.not_lt_zero, x_zb, x_b0, x_b1, decide_eq_false_iff_not, decide_eq_true_eq, Bool.false_eq_true, Bool.true_eq_false, bI_lt, h1]
    rw [decide_eq_false (by omega)]; rfl
  · by_cases h2 : x ≤ 57 ∨ 128 ≤ x
    · simp (disch := omega) only [g_X3_isDigit, ↓e_X3_isDigit_17, ↓e_X3_isDigit_16, ↓e_X3_isDigit_0, ↓it_s, ↓y_iload, ↓y_lload, ↓y_aload, ↓y_istore, ↓y_lstore, ↓y_astore, ↓y_iinc, ↓y_cI, ↓y_cL, ↓y_bin, ↓y_binL, ↓y_div, ↓y_divL, ↓y_lshl, ↓y_un, ↓y_i2l, ↓y_lneg, ↓y_l2i, ↓y_lcmp, ↓y_dupI, ↓y_dupR, ↓y_dup2, ↓y_pop, ↓y_goto, ↓y_eq0, ↓y_lt0, ↓y_le0, ↓y_eq, ↓y_lt, ↓y_le, ↓y_switch, ↓y_sw0, ↓y_sw1, ↓y_getI, ↓y_getL, ↓y_getR, ↓y_getT, ↓y_putI, ↓y_putZ, ↓y_putL, ↓y_putT, ↓y_iald, ↓y_bald, ↓y_lald, ↓y_aald, ↓y_iast, ↓y_bast, ↓y_last, ↓y_alen, ↓y_iret, ↓y_zret, ↓y_lret, ↓y_vret, ↓y_svI, ↓y_svL, ↓y_svV, ↓y_ivI, ↓y_ivL, ↓y_ivV, ↓y_max, ↓y_min, ↓y_absL, ↓y_cpI, ↓y_cpL, ↓x_n1I, ↓x_n1L, ↓x_n1R, ↓x_n0I, ↓x_n0L, ↓x_n0R, ↓x_s0, ↓x_s1i, ↓x_s1r, ↓x_s1n, ↓x_s2, ↓x_c0, ↓x_c2, ↓x_tk0, ↓x_tk1, ↓x_rcv, x_rI1, x_rL1, x_rV1, x_rIn, x_rLn, x_rVn, x_rIf, x_rLf, x_rVf, x_40, x_41, x_42, x_43, x_44, ↓reduceIte, if_true, if_false, ao_iadd, ao_isub, ao_imul, ao_iand, ao_ior, ao_ishl, ao_ishr, ao_iushr, ao_ladd, ao_lsub, ao_lmul, ao_land, ao_lor, ao_idiv, ao_irem, ao_ldiv, ao_lrem, ao_ineg, ao_i2b, ao_i2s, Nat.reduceAdd, Nat.reduceMul, Nat.reduceSub, Nat.reduceEqDiff, Nat.reduceLeDiff, and_self, true_and, x_lit, x_ofn, x_z0, x_z1, x_inbT, x_ltT, x_ltF, x_leT, x_leF, x_eqF, x_eqT, x_inb, x_lt, x_le, x_eq, x_cl, x_sub, nI_add, pk_mul, x_m1e, x_m1e', x_m1l, x_m1n, x_m1s, Nat.not_lt_zero, x_zb, x_b0, x_b1, decide_eq_false_iff_not, decide_eq_true_eq, Bool.false_eq_true, Bool.true_eq_false, bI_lt, bI_le, h1, h2]
      rw [decide_eq_true (by omega)]; rfl
    · simp (disch := omega) only [g_X3_isDigit, ↓e_X3_isDigit_17, ↓e_X3_isDigit_16, ↓e_X3_isDigit_0, ↓it_s, ↓y_iload, ↓y_lload, ↓y_aload, ↓y_istore, ↓y_lstore, ↓y_astore, ↓y_iinc, ↓y_cI, ↓y_cL, ↓y_bin, ↓y_binL, ↓y_div, ↓y_divL, ↓y_lshl, ↓y_un, ↓y_i2l, ↓y_lneg, ↓y_l2i, ↓y_lcmp, ↓y_dupI, ↓y_dupR, ↓y_dup2, ↓y_pop, ↓y_goto, ↓y_eq0, ↓y_lt0, ↓y_le0, ↓y_eq, ↓y_lt, ↓y_le, ↓y_switch, ↓y_sw0, ↓y_sw1, ↓y_getI, ↓y_getL, ↓y_getR, ↓y_getT, ↓y_putI, ↓y_putZ, ↓y_putL, ↓y_putT, ↓y_iald, ↓y_bald, ↓y_lald, ↓y_aald, ↓y_iast, ↓y_bast, ↓y_last, ↓y_alen, ↓y_iret, ↓y_zret, ↓y_lret, ↓y_vret, ↓y_svI, ↓y_svL, ↓y_svV, ↓y_ivI, ↓y_ivL, ↓y_ivV, ↓y_max, ↓y_min, ↓y_absL, ↓y_cpI, ↓y_cpL, ↓x_n1I, ↓x_n1L, ↓x_n1R, ↓x_n0I, ↓x_n0L, ↓x_n0R, ↓x_s0, ↓x_s1i, ↓x_s1r, ↓x_s1n, ↓x_s2, ↓x_c0, ↓x_c2, ↓x_tk0, ↓x_tk1, ↓x_rcv, x_rI1, x_rL1, x_rV1, x_rIn, x_rLn, x_rVn, x_rIf, x_rLf, x_rVf, x_40, x_41, x_42, x_43, x_44, ↓reduceIte, if_true, if_false, ao_iadd, ao_isub, ao_imul, ao_iand, ao_ior, ao_ishl, ao_ishr, ao_iushr, ao_ladd, ao_lsub, ao_lmul, ao_land, ao_lor, ao_idiv, ao_irem, ao_ldiv, ao_lrem, ao_ineg, ao_i2b, ao_i2s, Nat.reduceAdd, Nat.reduceMul, Nat.reduceSub, Nat.reduceEqDiff, Nat.reduceLeDiff, and_self, true_and, x_lit, x_ofn, x_z0, x_z1, x_inbT, x_ltT, x_ltF, x_leT, x_leF, x_eqF, x_eqT, x_inb, x_lt, x_le, x_eq, x_cl, x_sub, nI_add, pk_mul, x_m1e, x_m1e', x_m1l, x_m1n, x_m1s, Nat.not_lt_zero, x_zb, x_b0, x_b1, decide_eq_false_iff_not, decide_eq_true_eq, Bool.false_eq_true, Bool.true_eq_false, bI_lt, bI_le, h1, h2]
      rw [decide_eq_false (by omega)]; rfl
