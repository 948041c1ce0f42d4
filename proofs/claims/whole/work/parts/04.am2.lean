/-! the abstract machine and the machine: what holds between them -/
def am_TB : List Cond := lw_tbl.filter goodWord
def am_isN (w : Cond) : Bool := match w with
  | .fieldLinkNest .. => true
  | .methodLinkNest .. => true
  | _ => false
def am_NB : List Cond := lw_tbl.filter am_isN
theorem am_nb_use {w : Cond} (h : w ∈ am_NB) {A : Array Value} {U : State} (hw : va_Nw w U) : w.before A U = true := by
  have h1 := (List.mem_filter.mp h).2
  cases w <;> first | exact va_Nw.use rfl hw | cases h1
theorem am_nb_warm {w : Cond} (h : w ∈ am_NB) {s U : State} (hW : s.WarmedH U.vm) (hw : va_Nw w s) : va_Nw w U := by
  have h1 := (List.mem_filter.mp h).2
  cases w <;> first | exact va_Nw.warmF hW hw | exact va_Nw.warmM hW hw | cases h1
theorem am_nb_same {w : Cond} (h : w ∈ am_NB) {u U : State} (e : u.vm = U.vm) (hw : va_Nw w u) : va_Nw w U := by
  have h1 := (List.mem_filter.mp h).2
  cases w <;> first | exact va_Nw.same rfl e hw | cases h1
abbrev am_G : Type := Launch × va_G × (Nat → ClassId) × (Nat → Nat) × (Nat → Prop)
abbrev am_D (g : am_G) : va_G := g.2.1
abbrev am_cA (g : am_G) : Nat → ClassId := g.2.2.1
abbrev am_ad (g : am_G) : Nat → Nat := g.2.2.2.1
abbrev am_A (g : am_G) : Nat → Prop := g.2.2.2.2
def am_sv (g : am_G) (v : Value) : Value := match v with
  | .ref h => .ref (am_ad g h)
  | w => w
def am_ty (g : am_G) : List (ClassId × FieldType) := [(am_cA g 0, .int), (am_cA g 1, .long), (am_cA g 2, .byte), (am_cA g 3, .object RX7), (am_cA g 4, .object RX8)]
def am_fv (g : am_G) (C h : Nat) (σ : am_M) (k : Nat) : Value := match am_ft C k with
  | 0 => .int (σ.1 h k)
  | 1 => .long (σ.2 h k)
  | 2 => .ref (am_ad g (if σ.1 h k = 1 then 2 else 5))
  | _ => .ref (am_ad g (h + am_of C k))
def am_ac (g : am_G) (σ : am_M) (h : Nat) : vp_A := (am_ln h, match am_kd h with
  | 20 => .inl (σ.1 h)
  | 21 => .inr (.inl (σ.2 h))
  | 22 => .inl (σ.1 h)
  | _ => .inr (.inr (.inr (.inr (fun j => some (am_ad g (am_la h j)))))))
def am_fs (g : am_G) (σ : am_M) (h : Nat) : List Value := (List.range (am_nf (am_kd h))).map (am_fv g (am_kd h) h σ)
def am_ce (g : am_G) (σ : am_M) (h : Nat) : va_E := if am_kd h < 20 then .inr (am_kd h, am_fs g σ h) else .inl (am_cA g (am_kd h - 20), am_ac g σ h)
def am_ws (g : am_G) (σ : am_M) : va_W := (List.range am_N).map (fun h => (am_ad g h, am_ce g σ h))
def am_lv (g : am_G) (ls : Array Slot) (nL : Nat) (lv : am_L) : Prop := ls.size = nL ∧ lv_wf ls ∧ ∀ (i : Nat) (v : Value), am_nth lv i = some v → ls[i]? = some (.val (am_sv g v))
abbrev am_S : Type := Option (Nat × (Nat → Int32))
/-- the script, where a method reads it -/
def am_X (g : am_G) (sc : am_S) (s : State) : Prop := match sc with
  | none => True
  | some q => ∃ b, va_X b q.1 q.2 s s.heap ∧ b < s.heap.size ∧ ¬ am_A g b ∧ am_ad g 999 = b
def am_C (g : am_G) (sc : am_S) (own : String) (cc : ByteArray) (nL rd : Nat) (p : Program) (R : Room) (s : State) (m : MethodId) (args : Array Value) (c : Code) (cells slots : Nat) : Prop :=
  p.tables.exec = Jvm.exec ∧ c.code = cc ∧ c.maxLocals = nL ∧ s.vm.findClass own = some m.cls ∧ (∀ w ∈ am_TB, w.before args s = true) ∧ va_K (am_D g) vwCl (am_ty g) s ∧ (∀ σ, va_D (am_A g) (am_ws g σ)) ∧ rd ≤ R.frames ∧ 40 * rd ≤ R.locals ∧ cells ≤ R.cells ∧ slots ≤ R.slots ∧ am_X g sc s ∧ ∀ w ∈ am_NB, va_Nw w s
/-- a return that may stand at pc -/
def am_rd (cc : ByteArray) (ret : Option FieldType) (pc : Nat) (v : Option Value) : Prop := match v with
  | none => decode cc pc = .ok (.return_, 1) ∧ ret = none
  | some (.int x) => decode cc pc = .ok (.ireturn, 1) ∧ ∃ ty, ret = some ty ∧ narrow ty (.int x) = .int x
  | some (.long _) => decode cc pc = .ok (.lreturn, 1) ∧ ret = some .long
  | _ => False
def am_Ret (g : am_G) (cc : ByteArray) (ret : Option FieldType) (p : Program) (e : Env) (R : Room) (s : State) (m : MethodId) (args : Array Value) (below : List Frame) (meth : Method) (c : Code) (cells slots : Nat) (Q : State → Prop) (r : am_R) : Prop :=
  ∀ (pc : Nat) (H : Heap) (locs : List Loc) (ls : Array Slot), va_P (am_D g) vwCl (am_ws g r.2) H → va_S (am_A g) s.heap H locs → am_rd cc ret pc r.1 → W p g.1 e R s m args below meth c H locs cells slots Q (F0 m pc ls (r.1.map (am_sv g)).toList)
def am_SW (sc : am_S) (own : String) (cc : ByteArray) (nL : Nat) (ret : Option FieldType) (rd pc : Nat) (k : am_K) : Prop :=
  ∀ (g : am_G) (p : Program) (e : Env) (R : Room) (s : State) (m : MethodId) (args : Array Value) (below : List Frame) (meth : Method) (c : Code) (cells slots : Nat) (Q : State → Prop) (H : Heap) (locs : List Loc) (ls : Array Slot) (lv : am_L) (st : List Value) (σ : am_M) (r : am_R),
    am_C g sc own cc nL rd p R s m args c cells slots → am_lv g ls nL lv → va_P (am_D g) vwCl (am_ws g σ) H → va_S (am_A g) s.heap H locs → k lv st σ = some r → am_Ret g cc ret p e R s m args below meth c cells slots Q r →
    W p g.1 e R s m args below meth c H locs cells slots Q (F0 m pc ls (st.map (am_sv g)))
/-! small facts -/
theorem am_popI_some {α : Type} {st : List Value} {f : Int32 → List Value → Option α} {r : α} (h : am_popI st f = some r) : ∃ x t, st = .int x :: t ∧ f x t = some r := by
  unfold am_popI at h; split at h
  · exact ⟨_, _, rfl, h⟩
  · cases h
theorem am_popL_some {α : Type} {st : List Value} {f : Int64 → List Value → Option α} {r : α} (h : am_popL st f = some r) : ∃ x t, st = .long x :: t ∧ f x t = some r := by
  unfold am_popL at h; split at h
  · exact ⟨_, _, rfl, h⟩
  · cases h
theorem am_popR_some {α : Type} {st : List Value} {f : Nat → List Value → Option α} {r : α} (h : am_popR st f = some r) : ∃ x t, st = .ref x :: t ∧ f x t = some r := by
  unfold am_popR at h; split at h
  · exact ⟨_, _, rfl, h⟩
  · cases h
theorem am_if_some {α : Type} {c : Prop} [Decidable c] {x : Option α} {r : α} (h : (if c then x else none) = some r) : c ∧ x = some r := by
  split at h
  · exact ⟨by assumption, h⟩
  · cases h
theorem am_blt_f {a b : Nat} (h : b ≤ a) : Nat.blt a b = false := by
  cases hb : Nat.blt a b with
  | false => rfl
  | true => have := Nat.blt_eq.mp hb; omega
theorem am_kd_lt {h : Nat} (hk : am_kd h ≠ 99) : h < am_N := by
  apply Classical.byContradiction
  intro hn
  have h1 : 136 ≤ h := by simpa [am_N] using hn
  apply hk
  have e1 : Nat.blt h 9 = false := am_blt_f (by omega)
  have e2 : Nat.blt h 43 = false := am_blt_f (by omega)
  have e3 : Nat.blt h 72 = false := am_blt_f (by omega)
  have e4 : Nat.blt h 123 = false := am_blt_f (by omega)
  unfold am_kd am_pk
  rw [e1, e2, e3, e4]
  simp only [cond_false]
  rw [List.getD_eq_getElem?_getD, List.getElem?_eq_none (by simp [am_L3]; omega)]
  rfl
theorem am_ws_get (g : am_G) (σ : am_M) {h : Nat} (hh : h < am_N) : (am_ws g σ)[h]? = some (am_ad g h, am_ce g σ h) := by
  unfold am_ws
  rw [List.getElem?_map, List.getElem?_range hh]
  rfl
theorem am_ws_set (g : am_G) (σ σ' : am_M) {h : Nat} {e : va_E} (hh : h < am_N) (he : am_ce g σ' h = e) (ho : ∀ j, j < am_N → j ≠ h → am_ce g σ' j = am_ce g σ j) : (am_ws g σ).set h (am_ad g h, e) = am_ws g σ' := by
  apply List.ext_getElem?
  intro i
  by_cases hi : i < am_N
  · rw [am_ws_get g σ' hi]
    by_cases hij : i = h
    · subst hij
      rw [List.getElem?_set_self (by simp [am_ws]; exact hi), he]
    · rw [List.getElem?_set_ne (Ne.symm hij), am_ws_get g σ hi, ho i hi hij]
  · rw [List.getElem?_eq_none (by simp [am_ws]; omega), List.getElem?_eq_none (by simp [am_ws]; omega)]
theorem am_inb_in {i : Int32} {n : Nat} (h : am_inb i n = true) : vp_in i n := by
  unfold am_inb at h
  rw [Bool.and_eq_true] at h
  obtain ⟨h1, h2⟩ := h
  intro hc
  rcases hc with hc | hc
  · simp [hc] at h1
  · have := Nat.blt_eq.mp h2
    omega
theorem am_cat (g : am_G) (v : Value) : (am_sv g v).category = v.category := by cases v <;> rfl
theorem am_nth_lt : ∀ {lv : am_L} {i : Nat} {v : Value}, am_nth lv i = some v → i < lv.length
  | [], _, _, h => by simp [am_nth] at h
  | _ :: _, 0, _, _ => by simp
  | _ :: t, n + 1, _, h => by
    have := am_nth_lt (lv := t) (i := n) h
    simp; omega
theorem am_set1_nth : ∀ (lv : am_L) (i : Nat) (v : Value) (j : Nat) (w : Value), am_nth (am_set1 lv i v) j = some w → (j = i ∧ w = v) ∨ (j ≠ i ∧ am_nth lv j = some w ∧ ¬ (j + 1 = i ∧ w.category = 2))
  | [], _, _, _, _, h => by simp [am_set1, am_nth] at h
  | x :: t, 0, v, 0, w, h => by
    simp [am_set1, am_nth] at h
    exact Or.inl ⟨rfl, h.symm⟩
  | x :: t, 0, v, j + 1, w, h => by
    simp [am_set1, am_nth] at h
    exact Or.inr ⟨by omega, h, by omega⟩
  | x :: t, n + 1, v, 0, w, h => by
    refine Or.inr ⟨by omega, ?_⟩
    cases n with
    | zero =>
      have h : am_dr x = some w := h
      unfold am_dr at h
      split at h
      · cases h
      · cases h
      · rename_i hl hd
        refine ⟨h, fun hc => ?_⟩
        subst h
        cases w with
        | long a => exact hl a rfl
        | double a => exact hd a rfl
        | _ => simp [Value.category] at hc
    | succ n =>
      have h : x = some w := h
      exact ⟨h, by omega⟩
  | x :: t, n + 1, v, j + 1, w, h => by
    have h : am_nth (am_set1 t n v) j = some w := h
    rcases am_set1_nth t n v j w h with ⟨h1, h2⟩ | ⟨h1, h2, h3⟩
    · exact Or.inl ⟨by omega, h2⟩
    · exact Or.inr ⟨by omega, h2, fun hc => h3 ⟨by omega, hc.2⟩⟩
theorem am_clr_nth : ∀ (lv : am_L) (i j : Nat) (w : Value), am_nth (am_clr lv i) j = some w → j ≠ i ∧ am_nth lv j = some w
  | [], _, _, _, h => by simp [am_clr, am_nth] at h
  | x :: t, 0, 0, w, h => by simp [am_clr, am_nth] at h
  | x :: t, 0, j + 1, w, h => ⟨by omega, h⟩
  | x :: t, n + 1, 0, w, h => ⟨by omega, h⟩
  | x :: t, n + 1, j + 1, w, h => by
    have h : am_nth (am_clr t n) j = some w := h
    obtain ⟨h1, h2⟩ := am_clr_nth t n j w h
    exact ⟨by omega, h2⟩
def am_as (g : am_G) (lv : am_L) : List (Nat × Value) := (List.range lv.length).filterMap (fun i => (am_nth lv i).map (fun v => (i, am_sv g v)))
theorem am_as_mem {g : am_G} {lv : am_L} {i : Nat} {v : Value} (h : am_nth lv i = some v) : (i, am_sv g v) ∈ am_as g lv := by
  unfold am_as
  exact List.mem_filterMap.mpr ⟨i, List.mem_range.mpr (am_nth_lt h), by rw [h]; rfl⟩
theorem am_as_has {g : am_G} {ls : Array Slot} {nL : Nat} {lv : am_L} (h : am_lv g ls nL lv) : lv_has ls nL (am_as g lv) := by
  refine ⟨h.1, h.2.1, fun q hq => ?_⟩
  obtain ⟨i, -, hi⟩ := List.mem_filterMap.mp hq
  cases hn : am_nth lv i with
  | none => rw [hn] at hi; cases hi
  | some v =>
    rw [hn] at hi
    cases hi
    exact h.2.2 i v hn
theorem am_lv_set1 {g : am_G} {ls' : Array Slot} {nL i : Nat} {lv : am_L} {v : Value} (h : lv_has ls' nL ((i, am_sv g v) :: (am_as g lv).filter (fun q => !(q.1 == i) && !(q.1 + 1 == i && q.2.category == 2)))) : am_lv g ls' nL (am_set1 lv i v) := by
  refine ⟨h.1, h.2.1, fun j w hw => ?_⟩
  rcases am_set1_nth lv i v j w hw with ⟨h1, h2⟩ | ⟨h1, h2, h3⟩
  · subst h1; subst h2
    exact h.2.2 _ List.mem_cons_self
  · refine h.2.2 (j, am_sv g w) (List.mem_cons_of_mem _ (List.mem_filter.mpr ⟨am_as_mem h2, ?_⟩))
    simp only [Bool.and_eq_true, Bool.not_eq_true', beq_eq_false_iff_ne, ne_eq, Bool.and_eq_false_iff]
    refine ⟨h1, ?_⟩
    rw [am_cat]
    by_cases h4 : j + 1 = i
    · exact Or.inr (fun h5 => h3 ⟨h4, h5⟩)
    · exact Or.inl h4
theorem am_lv_set2 {g : am_G} {ls' : Array Slot} {nL i : Nat} {lv : am_L} {v : Value} (h : lv_has ls' nL ((i, am_sv g v) :: (am_as g lv).filter (fun q => !(q.1 == i) && (!(q.1 == i + 1) && !(q.1 + 1 == i && q.2.category == 2))))) : am_lv g ls' nL (am_clr (am_set1 lv i v) (i + 1)) := by
  refine ⟨h.1, h.2.1, fun j w hw => ?_⟩
  obtain ⟨hj, hw⟩ := am_clr_nth _ _ _ _ hw
  rcases am_set1_nth lv i v j w hw with ⟨h1, h2⟩ | ⟨h1, h2, h3⟩
  · subst h1; subst h2
    exact h.2.2 _ List.mem_cons_self
  · refine h.2.2 (j, am_sv g w) (List.mem_cons_of_mem _ (List.mem_filter.mpr ⟨am_as_mem h2, ?_⟩))
    simp only [Bool.and_eq_true, Bool.not_eq_true', beq_eq_false_iff_ne, ne_eq, Bool.and_eq_false_iff]
    refine ⟨h1, hj, ?_⟩
    rw [am_cat]
    by_cases h4 : j + 1 = i
    · exact Or.inr (fun h5 => h3 ⟨h4, h5⟩)
    · exact Or.inl h4
