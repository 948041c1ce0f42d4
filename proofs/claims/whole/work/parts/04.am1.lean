/-! the abstract machine: memories of numbers by handle and place; a meaning of each instruction as a step to the next -/
abbrev am_M : Type := (Nat → Nat → Int32) × (Nat → Nat → Int64)
abbrev am_R : Type := Option Value × am_M
abbrev am_L : Type := List (Option Value)
abbrev am_K : Type := am_L → List Value → am_M → Option am_R
abbrev am_F : Type := List Value → am_M → Option am_R
def am_uI (σ : am_M) (h k : Nat) (v : Int32) : am_M := (va_up σ.1 h (va_up (σ.1 h) k v), σ.2)
def am_uL (σ : am_M) (h k : Nat) (v : Int64) : am_M := (σ.1, va_up σ.2 h (va_up (σ.2 h) k v))
def am_uA (σ : am_M) (h : Nat) (f : Nat → Int32) : am_M := (va_up σ.1 h f, σ.2)
def am_uB (σ : am_M) (h : Nat) (f : Nat → Int64) : am_M := (σ.1, va_up σ.2 h f)
/-! the shape: what each handle is (0 to 11 an object of that class, 20 int[], 21 long[], 22 byte[], 23 Tray[], 24 Valley[]) -/
def am_L1 : List Nat := [10, 23, 22, 3, 21, 22, 9, 5, 20]
def am_LV : List Nat := [8, 6, 20, 20, 20, 20, 20, 20, 4, 20, 21, 21, 20, 20, 20, 20, 20]
def am_L2 : List Nat := [24, 0, 20, 20, 0, 20, 20, 2, 20, 20, 1, 6, 20, 20, 20, 20, 20, 20, 20, 20, 20, 7, 21, 7, 21, 7, 21, 7, 21]
def am_L3 : List Nat := [11, 20, 20, 21, 22, 20, 20, 20, 21, 20, 20, 20, 20]
def am_N1 : List Nat := [0, 4, 900, 0, 23, 0, 0, 0, 3]
def am_NV : List Nat := [0, 0, 168, 7, 24, 4, 7, 4, 0, 360, 4, 6, 6, 6, 6, 6, 6]
def am_N2 : List Nat := [3, 0, 60, 49, 0, 60, 49, 0, 196, 4, 0, 0, 168, 7, 24, 4, 7, 4, 24, 4, 49, 0, 60, 0, 60, 0, 60, 0, 60]
def am_N3 : List Nat := [0, 4, 4, 240, 900, 2210, 1020, 170, 50, 4, 24, 4, 5]
def am_pk (a v b w : List Nat) (d h : Nat) : Nat :=
  cond (Nat.blt h 9) (a.getD h d) (cond (Nat.blt h 43) (v.getD ((h - 9) % 17) d) (cond (Nat.blt h 72) (b.getD (h - 43) d) (cond (Nat.blt h 123) (v.getD ((h - 72) % 17) d) (w.getD (h - 123) d))))
def am_kd (h : Nat) : Nat := am_pk am_L1 am_LV am_L2 am_L3 99 h
def am_ln (h : Nat) : Nat := am_pk am_N1 am_NV am_N2 am_N3 0 h
def am_N : Nat := 136
/-- how many fields a class has, and of what kind each is: 0 a number of 32 bits, 1 of 64, 2 the reader's text, 3 a fixed reference -/
def am_FT : List (List Nat) := [[3, 3, 0, 0, 0, 0, 0, 0, 0], [3, 3, 3], [3, 3, 0, 0], [3, 2, 0, 0, 0, 0, 0, 1, 0, 0, 0, 0], [3, 0, 0, 0], [3, 0], [3, 3, 3, 0, 0, 3, 0, 0, 0, 0, 0, 0, 3, 3], [3, 0, 0, 0], [3, 3, 3, 3, 0, 0, 3, 3, 3, 3, 3], [0, 0, 0, 0, 0], [0, 1, 1, 3, 3, 0, 3, 3, 3, 3, 3, 3, 0, 3, 3, 0, 3, 3, 3],
  [0, 0, 1, 1, 3, 3, 3, 3, 0, 0, 0, 0, 0, 0, 0, 0, 0, 0, 0, 1, 3, 3, 3, 3, 0, 0, 0, 0, 0, 0, 3, 0, 3, 0, 0, 0, 0, 0, 3, 0, 3, 0, 0, 0, 0, 0, 0, 0, 0, 0]]
def am_ft (C k : Nat) : Nat := (am_FT.getD C []).getD k 9
def am_nf (C : Nat) : Nat := (am_FT.getD C []).length
/-- how far behind an object's own handle a fixed reference's is -/
def am_OF : List (List Nat) := [[1, 2], [1, 8, 9], [1, 2], [1], [1], [1], [1, 2, 3, 0, 0, 4, 0, 0, 0, 0, 0, 0, 5, 6], [1], [1, 8, 10, 11, 0, 0, 12, 13, 14, 15, 16], [], [0, 0, 0, 1, 2, 0, 3, 6, 7, 9, 26, 43, 0, 44, 47, 0, 50, 53, 63],
  [0, 0, 0, 0, 1, 2, 3, 4, 0, 0, 0, 0, 0, 0, 0, 0, 0, 0, 0, 0, 5, 6, 7, 8, 0, 0, 0, 0, 0, 0, 9, 0, 10, 0, 0, 0, 0, 0, 11, 0, 12]]
def am_of (C k : Nat) : Nat := (am_OF.getD C []).getD k 0
/-- what an array of references holds -/
def am_la (h j : Nat) : Nat := cond (Nat.beq h 1) (64 + 2 * j) (72 + 17 * j)
/-! popping -/
def am_popI {α : Type} (st : List Value) (f : Int32 → List Value → Option α) : Option α := match st with
  | .int x :: r => f x r
  | _ => none
def am_popL {α : Type} (st : List Value) (f : Int64 → List Value → Option α) : Option α := match st with
  | .long x :: r => f x r
  | _ => none
def am_popR {α : Type} (st : List Value) (f : Nat → List Value → Option α) : Option α := match st with
  | .ref x :: r => f x r
  | _ => none
def am_nth : am_L → Nat → Option Value
  | [], _ => none
  | v :: _, 0 => v
  | _ :: t, n + 1 => am_nth t n
def am_dr (x : Option Value) : Option Value := match x with
  | some (.long _) => none
  | some (.double _) => none
  | y => y
def am_set1 : am_L → Nat → Value → am_L
  | [], _, _ => []
  | _ :: t, 0, v => some v :: t
  | x :: t, n + 1, v => (match n with
    | 0 => am_dr x
    | _ + 1 => x) :: am_set1 t n v
def am_clr : am_L → Nat → am_L
  | [], _ => []
  | _ :: t, 0 => none :: t
  | x :: t, n + 1 => x :: am_clr t n
def am_inb (i : Int32) (n : Nat) : Bool := !decide (i < 0) && Nat.blt i.toNatClampNeg n
/-! instructions -/
def am_iload (i : Nat) (k : am_K) : am_K := fun lv st σ => match am_nth lv i with
  | some (.int x) => k lv (.int x :: st) σ
  | _ => none
def am_lload (i : Nat) (k : am_K) : am_K := fun lv st σ => match am_nth lv i with
  | some (.long x) => k lv (.long x :: st) σ
  | _ => none
def am_aload (i : Nat) (k : am_K) : am_K := fun lv st σ => match am_nth lv i with
  | some (.ref x) => k lv (.ref x :: st) σ
  | _ => none
def am_istore (i : Nat) (k : am_K) : am_K := fun lv st σ => am_popI st fun x st => k (am_set1 lv i (.int x)) st σ
def am_lstore (i : Nat) (k : am_K) : am_K := fun lv st σ => am_popL st fun x st => k (am_clr (am_set1 lv i (.long x)) (i + 1)) st σ
def am_astore (i : Nat) (k : am_K) : am_K := fun lv st σ => am_popR st fun x st => k (am_set1 lv i (.ref x)) st σ
def am_iinc (i : Nat) (n : Int32) (k : am_K) : am_K := fun lv st σ => match am_nth lv i with
  | some (.int x) => k (am_set1 lv i (.int (x + n))) st σ
  | _ => none
def am_cI (v : Int32) (k : am_K) : am_K := fun lv st σ => k lv (.int v :: st) σ
def am_cL (v : Int64) (k : am_K) : am_K := fun lv st σ => k lv (.long v :: st) σ
def am_bin (o : Int32 → Int32 → Int32) (k : am_K) : am_K := fun lv st σ => am_popI st fun y st => am_popI st fun x st => k lv (.int (o x y) :: st) σ
def am_binL (o : Int64 → Int64 → Int64) (k : am_K) : am_K := fun lv st σ => am_popL st fun y st => am_popL st fun x st => k lv (.long (o x y) :: st) σ
def am_div (o : Int32 → Int32 → Int32) (k : am_K) : am_K := fun lv st σ => am_popI st fun y st => am_popI st fun x st => if y = 0 then none else k lv (.int (o x y) :: st) σ
def am_divL (o : Int64 → Int64 → Int64) (k : am_K) : am_K := fun lv st σ => am_popL st fun y st => am_popL st fun x st => if y = 0 then none else k lv (.long (o x y) :: st) σ
def am_lshl (k : am_K) : am_K := fun lv st σ => am_popI st fun y st => am_popL st fun x st => k lv (.long (x <<< (y.toInt64 &&& 63)) :: st) σ
def am_un (o : Int32 → Int32) (k : am_K) : am_K := fun lv st σ => am_popI st fun x st => k lv (.int (o x) :: st) σ
def am_i2l (k : am_K) : am_K := fun lv st σ => am_popI st fun x st => k lv (.long x.toInt64 :: st) σ
def am_lneg (k : am_K) : am_K := fun lv st σ => am_popL st fun x st => k lv (.long (-x) :: st) σ
def am_l2i (k : am_K) : am_K := fun lv st σ => am_popL st fun x st => k lv (.int x.toInt32 :: st) σ
def am_lcmp (k : am_K) : am_K := fun lv st σ => am_popL st fun y st => am_popL st fun x st => k lv (.int (lg_cmp x y) :: st) σ
def am_dup (k : am_K) : am_K := fun lv st σ => match st with
  | .int x :: r => k lv (.int x :: .int x :: r) σ
  | .ref x :: r => k lv (.ref x :: .ref x :: r) σ
  | _ => none
def am_dup2 (k : am_K) : am_K := fun lv st σ => am_popI st fun y st => am_popR st fun x st => k lv (.int y :: .ref x :: .int y :: .ref x :: st) σ
def am_pop (k : am_K) : am_K := fun lv st σ => am_popI st fun _ st => k lv st σ
def am_goto (k : am_K) : am_K := k
def am_if (c : Int32 → Bool) (kt kf : am_K) : am_K := fun lv st σ => am_popI st fun x st => if c x = true then kt lv st σ else kf lv st σ
def am_eq0 (kt kf : am_K) : am_K := fun lv st σ => am_popI st fun x st => if x = 0 then kt lv st σ else kf lv st σ
def am_lt0 (kt kf : am_K) : am_K := fun lv st σ => am_popI st fun x st => if x < 0 then kt lv st σ else kf lv st σ
def am_le0 (kt kf : am_K) : am_K := fun lv st σ => am_popI st fun x st => if x ≤ 0 then kt lv st σ else kf lv st σ
def am_eq (kt kf : am_K) : am_K := fun lv st σ => am_popI st fun y st => am_popI st fun x st => if x = y then kt lv st σ else kf lv st σ
def am_lt (kt kf : am_K) : am_K := fun lv st σ => am_popI st fun y st => am_popI st fun x st => if x < y then kt lv st σ else kf lv st σ
def am_le (kt kf : am_K) : am_K := fun lv st σ => am_popI st fun y st => am_popI st fun x st => if x ≤ y then kt lv st σ else kf lv st σ
/-- a switch: the keys, each with its way on; the last way is of all others -/
def am_sw : List (Int32 × am_K) → am_K → Int32 → am_K
  | [], d, _ => d
  | q :: t, d, x => fun lv st σ => if x = q.1 then q.2 lv st σ else am_sw t d x lv st σ
def am_switch (t : List (Int32 × am_K)) (d : am_K) : am_K := fun lv st σ => am_popI st fun x st => am_sw t d x lv st σ
def am_getI (C k : Nat) (kk : am_K) : am_K := fun lv st σ => am_popR st fun h st => if am_kd h = C then kk lv (.int (σ.1 h k) :: st) σ else none
def am_getL (C k : Nat) (kk : am_K) : am_K := fun lv st σ => am_popR st fun h st => if am_kd h = C then kk lv (.long (σ.2 h k) :: st) σ else none
def am_getR (C k d : Nat) (kk : am_K) : am_K := fun lv st σ => am_popR st fun h st => if am_kd h = C then kk lv (.ref (h + d) :: st) σ else none
def am_getT (kk : am_K) : am_K := fun lv st σ => am_popR st fun h st => if am_kd h = 3 then (if σ.1 h 1 = 1 then kk lv (.ref 2 :: st) σ else none) else none
def am_putI (C k : Nat) (kk : am_K) : am_K := fun lv st σ => am_popI st fun v st => am_popR st fun h st => if am_kd h = C then kk lv st (am_uI σ h k v) else none
def am_putZ (C k : Nat) (kk : am_K) : am_K := fun lv st σ => am_popI st fun v st => am_popR st fun h st => if am_kd h = C then (if v &&& 1 = v then kk lv st (am_uI σ h k v) else none) else none
def am_putL (C k : Nat) (kk : am_K) : am_K := fun lv st σ => am_popL st fun v st => am_popR st fun h st => if am_kd h = C then kk lv st (am_uL σ h k v) else none
def am_putT (kk : am_K) : am_K := fun lv st σ => am_popR st fun v st => am_popR st fun h st => if am_kd h = 3 then (if v = 2 then kk lv st (am_uI σ h 1 1) else none) else none
def am_iald (kk : am_K) : am_K := fun lv st σ => am_popI st fun i st => am_popR st fun h st => if am_kd h = 20 then (if am_inb i (am_ln h) = true then kk lv (.int (σ.1 h i.toNatClampNeg) :: st) σ else none) else none
def am_bald (kk : am_K) : am_K := fun lv st σ => am_popI st fun i st => am_popR st fun h st => if am_kd h = 22 then (if am_inb i (am_ln h) = true then kk lv (.int (σ.1 h i.toNatClampNeg) :: st) σ else none) else none
def am_lald (kk : am_K) : am_K := fun lv st σ => am_popI st fun i st => am_popR st fun h st => if am_kd h = 21 then (if am_inb i (am_ln h) = true then kk lv (.long (σ.2 h i.toNatClampNeg) :: st) σ else none) else none
def am_aald (C : Nat) (kk : am_K) : am_K := fun lv st σ => am_popI st fun i st => am_popR st fun h st => if am_kd h = C then (if am_inb i (am_ln h) = true then kk lv (.ref (am_la h i.toNatClampNeg) :: st) σ else none) else none
def am_iast (kk : am_K) : am_K := fun lv st σ => am_popI st fun v st => am_popI st fun i st => am_popR st fun h st => if am_kd h = 20 then (if am_inb i (am_ln h) = true then kk lv st (am_uI σ h i.toNatClampNeg v) else none) else none
def am_bast (kk : am_K) : am_K := fun lv st σ => am_popI st fun v st => am_popI st fun i st => am_popR st fun h st => if am_kd h = 22 then (if am_inb i (am_ln h) = true then kk lv st (am_uI σ h i.toNatClampNeg (vp_nar .byte v)) else none) else none
def am_last (kk : am_K) : am_K := fun lv st σ => am_popL st fun v st => am_popI st fun i st => am_popR st fun h st => if am_kd h = 21 then (if am_inb i (am_ln h) = true then kk lv st (am_uL σ h i.toNatClampNeg v) else none) else none
def am_alen (kk : am_K) : am_K := fun lv st σ => am_popR st fun h st => if 20 ≤ am_kd h ∧ am_kd h ≤ 24 then kk lv (.int (Int32.ofNat (am_ln h)) :: st) σ else none
def am_sld (L : Nat) (xs : Nat → Int32) (kk : am_K) : am_K := fun lv st σ => am_popI st fun i st => am_popR st fun h st => if h = 999 then (if am_inb i L = true then kk lv (.int (xs i.toNatClampNeg) :: st) σ else none) else none
def am_slen (L : Nat) (kk : am_K) : am_K := fun lv st σ => am_popR st fun h st => if h = 999 then kk lv (.int (Int32.ofNat L) :: st) σ else none
def am_iret : am_K := fun _ st σ => match st with
  | [.int x] => some (some (.int x), σ)
  | _ => none
def am_zret : am_K := fun _ st σ => match st with
  | [.int x] => if x &&& 1 = x then some (some (.int x), σ) else none
  | _ => none
def am_lret : am_K := fun _ st σ => match st with
  | [.long x] => some (some (.long x), σ)
  | _ => none
def am_vret : am_K := fun _ st σ => match st with
  | [] => some (none, σ)
  | _ => none
/-! calls -/
def am_le4 (st : List Value) : Bool := match st with
  | _ :: _ :: _ :: _ :: _ :: _ => false
  | _ => true
def am_bI (o : Option am_R) (f : Int32 → am_M → Option am_R) : Option am_R := match o with
  | some (some (.int x), σ) => f x σ
  | _ => none
def am_bL (o : Option am_R) (f : Int64 → am_M → Option am_R) : Option am_R := match o with
  | some (some (.long x), σ) => f x σ
  | _ => none
def am_bV (o : Option am_R) (f : am_M → Option am_R) : Option am_R := match o with
  | some (none, σ) => f σ
  | _ => none
def am_tkn : Nat → List Value → List Value → (List Value → List Value → Option am_R) → Option am_R
  | 0, st, acc, f => if am_le4 st = true then f acc st else none
  | n + 1, v :: st, acc, f => am_tkn n st (v :: acc) f
  | _ + 1, [], _, _ => none
def am_cut (n : Nat) (st : List Value) (f : List Value → List Value → Option am_R) : Option am_R := am_tkn n st [] f
/-- a receiver of a class -/
def am_rcv (C : Nat) (as : List Value) (r : Option am_R) : Option am_R := match as with
  | .ref b :: _ => if am_kd b = C then r else none
  | _ => none
def am_svI (f : am_F) (n : Nat) (k : am_K) : am_K := fun lv st σ => am_cut n st fun as rest => am_bI (f as σ) fun x σ => k lv (.int x :: rest) σ
def am_svL (f : am_F) (n : Nat) (k : am_K) : am_K := fun lv st σ => am_cut n st fun as rest => am_bL (f as σ) fun x σ => k lv (.long x :: rest) σ
def am_svV (f : am_F) (n : Nat) (k : am_K) : am_K := fun lv st σ => am_cut n st fun as rest => am_bV (f as σ) fun σ => k lv rest σ
def am_ivI (C : Nat) (f : am_F) (n : Nat) (k : am_K) : am_K := fun lv st σ => am_cut (n + 1) st fun as rest => am_rcv C as (am_bI (f as σ) fun x σ => k lv (.int x :: rest) σ)
def am_ivL (C : Nat) (f : am_F) (n : Nat) (k : am_K) : am_K := fun lv st σ => am_cut (n + 1) st fun as rest => am_rcv C as (am_bL (f as σ) fun x σ => k lv (.long x :: rest) σ)
def am_ivV (C : Nat) (f : am_F) (n : Nat) (k : am_K) : am_K := fun lv st σ => am_cut (n + 1) st fun as rest => am_rcv C as (am_bV (f as σ) fun σ => k lv rest σ)
def am_max (k : am_K) : am_K := fun lv st σ => am_cut 2 st fun _ _ => am_popI st fun y st => am_popI st fun x st => k lv (.int (if x < y then y else x) :: st) σ
def am_min (k : am_K) : am_K := fun lv st σ => am_cut 2 st fun _ _ => am_popI st fun y st => am_popI st fun x st => k lv (.int (if y < x then y else x) :: st) σ
def am_absL (k : am_K) : am_K := fun lv st σ => am_cut 1 st fun _ _ => am_popL st fun x st => k lv (.long (if 0 < x then x else -x) :: st) σ
/-- System.arraycopy of ints, of longs -/
def am_cpOk (sp dp n : Int32) (n0 n1 : Nat) : Bool := !decide (sp < 0) && (!decide (dp < 0) && (!decide (n < 0) && (Nat.ble (sp.toNatClampNeg + n.toNatClampNeg) n0 && Nat.ble (dp.toNatClampNeg + n.toNatClampNeg) n1)))
def am_cpI (k : am_K) : am_K := fun lv st σ => am_cut 5 st fun _ _ => am_popI st fun n st => am_popI st fun dp st => am_popR st fun h1 st => am_popI st fun sp st => am_popR st fun h0 st =>
  if am_kd h0 = 20 ∧ am_kd h1 = 20 then (if am_cpOk sp dp n (am_ln h0) (am_ln h1) = true then k lv st (am_uA σ h1 (va_cpy (σ.1 h0) (σ.1 h1) sp.toNatClampNeg dp.toNatClampNeg n.toNatClampNeg)) else none) else none
def am_cpL (k : am_K) : am_K := fun lv st σ => am_cut 5 st fun _ _ => am_popI st fun n st => am_popI st fun dp st => am_popR st fun h1 st => am_popI st fun sp st => am_popR st fun h0 st =>
  if am_kd h0 = 21 ∧ am_kd h1 = 21 then (if am_cpOk sp dp n (am_ln h0) (am_ln h1) = true then k lv st (am_uB σ h1 (va_cpy (σ.2 h0) (σ.2 h1) sp.toNatClampNeg dp.toNatClampNeg n.toNatClampNeg)) else none) else none
/-- the locals at a method's entry -/
def am_ent : List Value → am_L
  | [] => []
  | .long x :: t => some (.long x) :: none :: am_ent t
  | .double x :: t => some (.double x) :: none :: am_ent t
  | v :: t => some v :: am_ent t
def am_go (nL : Nat) (k : am_K) : am_F := fun vs σ => if Nat.ble (am_ent vs).length nL = true then k (am_ent vs ++ List.replicate (nL - (am_ent vs).length) none) [] σ else none
/-- rounds of a method's loops: n of them at most -/
def am_fuel : Nat := 100000000
def am_it (Hd : (Nat → am_K) → Nat → am_K) : Nat → Nat → am_K
  | 0 => fun _ _ _ _ => none
  | n + 1 => Hd (am_it Hd n)
