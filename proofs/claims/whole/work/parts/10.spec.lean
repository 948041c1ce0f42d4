/-! a valley as a value: numbers (0 ranks, 1 suits, 2 law, 3 redeals, 4 rows, 5 fields, 6 the day, 7 the red suits), piles (0 to 5 rows, 6 the waste, 7 the stock), home piles, fields (0 suit, 1 dries, 2 water, 3 high, 4 fate), names (0 to 3 of suits, 4 to 9 of fields), seasons -/
abbrev Vt : Type := (Nat → Nat) × (Nat → List Nat) × (Nat → Nat) × (Nat → Nat → Nat) × (Nat → List Nat) × Option (List (List Nat))
abbrev vN (V : Vt) : Nat → Nat := V.1
abbrev vP (V : Vt) : Nat → List Nat := V.2.1
abbrev vH (V : Vt) : Nat → Nat := V.2.2.1
abbrev vF (V : Vt) : Nat → Nat → Nat := V.2.2.2.1
abbrev vW (V : Vt) : Nat → List Nat := V.2.2.2.2.1
abbrev vS (V : Vt) : Option (List (List Nat)) := V.2.2.2.2.2
def vuN (V : Vt) (k x : Nat) : Vt := (va_up V.1 k x, V.2)
def vuP (V : Vt) (p : Nat) (l : List Nat) : Vt := (V.1, va_up V.2.1 p l, V.2.2)
def vuH (V : Vt) (s x : Nat) : Vt := (V.1, V.2.1, va_up V.2.2.1 s x, V.2.2.2)
def vuF (V : Vt) (w f x : Nat) : Vt := (V.1, V.2.1, V.2.2.1, va_up V.2.2.2.1 w (va_up (V.2.2.2.1 w) f x), V.2.2.2.2)
def vuS (V : Vt) (s : Option (List (List Nat))) : Vt := (V.1, V.2.1, V.2.2.1, V.2.2.2.1, V.2.2.2.2.1, s)
/-- the top of a pile, as it is told -/
def topI (l : List Nat) : Int32 := match l.getLast? with
  | none => -nI 1
  | some c => nI c
def b2 (b : Bool) : Nat := if b = true then 1 else 0
theorem b2_d (P : Prop) [Decidable P] : b2 (decide P) = if P then 1 else 0 := by
  by_cases h : P
  · simp [h, b2]
  · simp [h, b2]
theorem b2_t : b2 true = 1 := rfl
theorem b2_f : b2 false = 0 := rfl
theorem x_zb (b : Bool) : (nI (b2 b) &&& nI 1 = nI (b2 b)) = True := by cases b <;> decide +kernel
theorem x_b0 (b : Bool) : (nI (b2 b) = nI 0) = (b = false) := by cases b <;> simp [b2, nI]
theorem x_b1 (b : Bool) : (nI (b2 b) = nI 1) = (b = true) := by cases b <;> simp [b2, nI]
/-- which piles and places there are -/
def isFr (V : Vt) (p : Nat) : Bool := decide (p < vN V 4 ∨ p = 6)
def isTo (V : Vt) (p : Nat) : Bool := decide (p < vN V 4 ∨ p = 7)
def fitsOn (V : Vt) (c on : Nat) : Bool := decide (c % 6 + 1 = on % 6) && (if vN V 2 = 0 then ((vN V 7).testBit (c / 6)) != ((vN V 7).testBit (on / 6)) else if vN V 2 = 1 then true else decide (c / 6 = on / 6))
def bearsC (V : Vt) (to c : Nat) : Bool := match (vP V to).getLast? with
  | none => true
  | some b => decide ((vP V to).length < 12) && fitsOn V c b
/-- a move can be (places that there are) -/
def canM (V : Vt) (f to : Nat) : Bool := match (vP V f).getLast? with
  | none => false
  | some c => decide (f ≠ to) && (if to = 7 then decide (vH V (c / 6) = c % 6) else bearsC V to c)
def movesL (V : Vt) : List Nat := (List.range 7).flatMap fun f => ((List.range 8).filter fun to => isFr V f && isTo V to && canM V f to).map fun to => 10 * f + to
/-! the class's tables -/
def isT (t : Nat) : Prop := t = 10 ∨ t = 27 ∨ t = 54 ∨ t = 73 ∨ t = 90 ∨ t = 107
theorem isT_k {t : Nat} (h : isT t) : am_kd t = 6 ∧ am_kd (t + 1) = 20 ∧ am_kd (t + 2) = 20 ∧ am_kd (t + 3) = 20 ∧ am_kd (t + 4) = 20 ∧ am_kd (t + 5) = 20 ∧ am_kd (t + 6) = 20 ∧ am_ln (t + 1) = 168 ∧ am_ln (t + 2) = 7 ∧ am_ln (t + 3) = 24 ∧ am_ln (t + 4) = 4 ∧ am_ln (t + 5) = 7 ∧ am_ln (t + 6) = 4 := by
  rcases h with rfl | rfl | rfl | rfl | rfl | rfl <;> exact ⟨rfl, rfl, rfl, rfl, rfl, rfl, rfl, rfl, rfl, rfl, rfl, rfl, rfl⟩
def TN (σ : am_M) (t : Nat) (V : Vt) : Prop := σ.1 t 6 = nI (vN V 0) ∧ σ.1 t 7 = nI (vN V 1) ∧ σ.1 t 9 = nI (vN V 2) ∧ σ.1 t 10 = nI (vN V 3) ∧ σ.1 t 11 = nI (vN V 4) ∧ σ.1 t 8 = nI (vN V 7)
/-- a stretch of a memory row holds a list of numbers -/
def seg (f : Nat → Int32) (b : Nat) (l : List Nat) : Prop := ∀ k c, l[k]? = some c → f (b + k) = nI c
def TP (σ : am_M) (t : Nat) (V : Vt) : Prop :=
  (∀ p, p < 7 → σ.1 (t + 2) p = nI (vP V p).length) ∧ (∀ p, p < 7 → seg (σ.1 (t + 1)) (p * 24) (vP V p)) ∧
  (∃ sf, σ.1 t 3 = nI sf ∧ σ.1 t 4 = nI (sf + (vP V 7).length) ∧ sf + (vP V 7).length ≤ 24 ∧ seg (σ.1 (t + 3)) sf (vP V 7)) ∧ (∀ s, s < 4 → σ.1 (t + 4) s = nI (vH V s))
/-- numbers as they can be -/
def WN (V : Vt) : Prop := (1 ≤ vN V 0 ∧ vN V 0 ≤ 6) ∧ vN V 1 ≤ 4 ∧ vN V 2 ≤ 2 ∧ vN V 3 ≤ 9 ∧ vN V 4 ≤ 6 ∧ vN V 5 ≤ 6 ∧ vN V 6 ≤ 9999 ∧ vN V 7 < 16
def allC (V : Vt) : List Nat := (List.range 8).flatMap (vP V)
/-- cards as they can be: each once, rows that there are and no taller than 12 -/
def WC (V : Vt) : Prop := (∀ p, p < 8 → ∀ c ∈ vP V p, c < 24) ∧ (allC V).Nodup ∧ (∀ p, p < 6 → (vP V p).length ≤ 12) ∧ (∀ p, p < 6 → vN V 4 ≤ p → vP V p = []) ∧ (∀ s, vH V s ≤ 6)
theorem nodup_len : ∀ (n : Nat) (l : List Nat), l.Nodup → (∀ c ∈ l, c < n) → l.length ≤ n
  | 0, l, _, h => by
    cases l with
    | nil => exact Nat.le_refl _
    | cons a t => exact absurd (h a List.mem_cons_self) (Nat.not_lt_zero _)
  | n + 1, l, hn, h => by
    have h1 : (l.filter (fun c => decide (c ≠ n))).length ≤ n := nodup_len n _ (hn.filter _) (fun c hc => by
      have h2 := List.mem_filter.mp hc
      have h3 := h c h2.1
      have h4 : c ≠ n := of_decide_eq_true h2.2
      omega)
    have h2 : l.length ≤ (l.filter (fun c => decide (c ≠ n))).length + l.count n := by
      clear h1 h hn
      induction l with
      | nil => simp
      | cons a t ih =>
        simp only [List.filter_cons, List.count_cons, List.length_cons]
        by_cases ha : a = n
        · subst ha; simp only [ne_eq, not_true_eq_false, decide_false, beq_self_eq_true, if_true, Bool.false_eq_true, if_false]; simp only [ne_eq] at ih; omega
        · simp only [ne_eq, ha, not_false_eq_true, decide_true, if_true, List.length_cons, beq_iff_eq, if_false]; simp only [ne_eq] at ih; omega
    have h3 : l.count n ≤ 1 := List.nodup_iff_count.mp hn n
    omega
theorem sub_allC {V : Vt} {p : Nat} (hp : p < 8) : (vP V p).Sublist (allC V) := by
  unfold allC
  have : p = 0 ∨ p = 1 ∨ p = 2 ∨ p = 3 ∨ p = 4 ∨ p = 5 ∨ p = 6 ∨ p = 7 := by omega
  rcases this with rfl | rfl | rfl | rfl | rfl | rfl | rfl | rfl
  all_goals
    simp only [List.range, List.range.loop, List.flatMap_cons, List.flatMap_nil, List.append_nil]
    first
      | exact List.sublist_append_left _ _
      | exact (List.sublist_append_left _ _).trans (List.sublist_append_right _ _)
      | exact ((List.sublist_append_left _ _).trans (List.sublist_append_right _ _)).trans (List.sublist_append_right _ _)
      | exact (((List.sublist_append_left _ _).trans (List.sublist_append_right _ _)).trans (List.sublist_append_right _ _)).trans (List.sublist_append_right _ _)
      | exact ((((List.sublist_append_left _ _).trans (List.sublist_append_right _ _)).trans (List.sublist_append_right _ _)).trans (List.sublist_append_right _ _)).trans (List.sublist_append_right _ _)
      | exact (((((List.sublist_append_left _ _).trans (List.sublist_append_right _ _)).trans (List.sublist_append_right _ _)).trans (List.sublist_append_right _ _)).trans (List.sublist_append_right _ _)).trans (List.sublist_append_right _ _)
      | exact ((((((List.sublist_append_left _ _).trans (List.sublist_append_right _ _)).trans (List.sublist_append_right _ _)).trans (List.sublist_append_right _ _)).trans (List.sublist_append_right _ _)).trans (List.sublist_append_right _ _)).trans (List.sublist_append_right _ _)
      | exact (((((List.sublist_append_right _ _).trans (List.sublist_append_right _ _)).trans (List.sublist_append_right _ _)).trans (List.sublist_append_right _ _)).trans (List.sublist_append_right _ _)).trans (List.sublist_append_right _ _) |>.trans (List.sublist_append_right _ _)
theorem WC.allLen {V : Vt} (h : WC V) : (allC V).length ≤ 24 := nodup_len 24 _ h.2.1 (fun c hc => by
  obtain ⟨p, h1, h2⟩ := List.mem_flatMap.mp hc
  exact h.1 p (List.mem_range.mp h1) c h2)
theorem WC.len {V : Vt} (h : WC V) {p : Nat} (hp : p < 8) : (vP V p).length ≤ 24 := Nat.le_trans (sub_allC hp).length_le h.allLen
theorem topI_nil : topI [] = -nI 1 := rfl
theorem topI_app (l : List Nat) (c : Nat) : topI (l ++ [c]) = nI c := by simp [topI]
theorem topI_some {l : List Nat} {c : Nat} (h : l.getLast? = some c) : topI l = nI c := by simp [topI, h]
theorem topI_none {l : List Nat} (h : l.getLast? = none) : topI l = -nI 1 := by simp [topI, h]
theorem seg_out {f : Nat → Int32} {b i : Nat} {l : List Nat} {v : Int32} (h : seg f b l) (hi : i < b ∨ b + l.length ≤ i) : seg (va_up f i v) b l := by
  intro k c hk
  have := (List.getElem?_eq_some_iff.mp hk).1
  rw [am_up_ne (by omega)]
  exact h k c hk
theorem seg_push {f : Nat → Int32} {b : Nat} {l : List Nat} (h : seg f b l) (c : Nat) {i : Nat} (hi : i = b + l.length) : seg (va_up f i (nI c)) b (l ++ [c]) := by
  subst hi
  intro k d hk
  by_cases hkl : k < l.length
  · rw [List.getElem?_append_left hkl] at hk
    rw [am_up_ne (by omega)]
    exact h k d hk
  · rw [List.getElem?_append_right (by omega)] at hk
    have : k - l.length = 0 := by
      have := (List.getElem?_eq_some_iff.mp hk).1
      simp at this; omega
    rw [this] at hk
    cases hk
    rw [show b + k = b + l.length by omega, am_up_eq]
theorem seg_pre {f : Nat → Int32} {b : Nat} {l m : List Nat} (h : seg f b l) (hp : m <+: l) : seg f b m := by
  intro k c hk
  obtain ⟨r, rfl⟩ := hp
  exact h k c (by rw [List.getElem?_append_left (List.getElem?_eq_some_iff.mp hk).1]; exact hk)
theorem seg_dl {f : Nat → Int32} {b : Nat} {l : List Nat} (h : seg f b l) : seg f b l.dropLast := seg_pre h (List.dropLast_prefix l)
theorem seg_cg {f g : Nat → Int32} {b d : Nat} {l : List Nat} (h : seg f b l) (he : ∀ k, k < l.length → g (d + k) = f (b + k)) : seg g d l := by
  intro k c hk
  rw [he k (List.getElem?_eq_some_iff.mp hk).1]
  exact h k c hk
theorem seg_tl {f : Nat → Int32} {b : Nat} {c : Nat} {l : List Nat} (h : seg f b (c :: l)) : seg f (b + 1) l := by
  intro k d hk
  have := h (k + 1) d hk
  rw [← this]; congr 1; omega
theorem seg_nil {f : Nat → Int32} {b : Nat} : seg f b [] := fun k c h => by simp at h
theorem seg_at {f : Nat → Int32} {b k c : Nat} {l : List Nat} (h : seg f b l) (hk : l[k]? = some c) : f (b + k) = nI c := h k c hk
theorem seg_last {f : Nat → Int32} {b c : Nat} {l : List Nat} (h : seg f b l) (hk : l.getLast? = some c) : 0 < l.length ∧ f (b + l.length - 1) = nI c := by
  rw [List.getLast?_eq_getElem?] at hk
  have h0 := (List.getElem?_eq_some_iff.mp hk).1
  refine ⟨by omega, ?_⟩
  rw [← h _ c hk]; congr 1; omega
/-! memories behind a change -/
theorem uI_s (σ : am_M) (h k : Nat) (v : Int32) : (am_uI σ h k v).1 h = va_up (σ.1 h) k v := am_up_eq
theorem uI_n {σ : am_M} {h k : Nat} {v : Int32} {j : Nat} (hj : j ≠ h) : (am_uI σ h k v).1 j = σ.1 j := am_up_ne hj
theorem uI_2 (σ : am_M) (h k : Nat) (v : Int32) : (am_uI σ h k v).2 = σ.2 := rfl
theorem uL_s (σ : am_M) (h k : Nat) (v : Int64) : (am_uL σ h k v).2 h = va_up (σ.2 h) k v := am_up_eq
theorem uL_n {σ : am_M} {h k : Nat} {v : Int64} {j : Nat} (hj : j ≠ h) : (am_uL σ h k v).2 j = σ.2 j := am_up_ne hj
theorem uL_1 (σ : am_M) (h k : Nat) (v : Int64) : (am_uL σ h k v).1 = σ.1 := rfl
theorem uA_s (σ : am_M) (h : Nat) (f : Nat → Int32) : (am_uA σ h f).1 h = f := am_up_eq
theorem uA_n {σ : am_M} {h : Nat} {f : Nat → Int32} {j : Nat} (hj : j ≠ h) : (am_uA σ h f).1 j = σ.1 j := am_up_ne hj
theorem uA_2 (σ : am_M) (h : Nat) (f : Nat → Int32) : (am_uA σ h f).2 = σ.2 := rfl
theorem uB_s (σ : am_M) (h : Nat) (f : Nat → Int64) : (am_uB σ h f).2 h = f := am_up_eq
theorem uB_n {σ : am_M} {h : Nat} {f : Nat → Int64} {j : Nat} (hj : j ≠ h) : (am_uB σ h f).2 j = σ.2 j := am_up_ne hj
theorem uB_1 (σ : am_M) (h : Nat) (f : Nat → Int64) : (am_uB σ h f).1 = σ.1 := rfl
theorem up_s {α : Type} (f : Nat → α) (k : Nat) (v : α) : va_up f k v k = v := am_up_eq
theorem up_n {α : Type} {f : Nat → α} {k j : Nat} {v : α} (h : j ≠ k) : va_up f k v j = f j := am_up_ne h
/-- nothing outside of some handles has changed -/
def fr (lo hi : Nat) (σ τ : am_M) : Prop := ∀ h, h < lo ∨ hi ≤ h → τ.1 h = σ.1 h ∧ τ.2 h = σ.2 h
theorem fr_rf (lo hi : Nat) (σ : am_M) : fr lo hi σ σ := fun _ _ => ⟨rfl, rfl⟩
theorem fr_tr {lo hi : Nat} {a b c : am_M} (h1 : fr lo hi a b) (h2 : fr lo hi b c) : fr lo hi a c := fun h hh => ⟨(h2 h hh).1.trans (h1 h hh).1, (h2 h hh).2.trans (h1 h hh).2⟩
theorem fr_uI {lo hi : Nat} {a b : am_M} (h1 : fr lo hi a b) {h k : Nat} {v : Int32} (hl : lo ≤ h) (hh : h < hi) : fr lo hi a (am_uI b h k v) := fun j hj => ⟨(uI_n (by omega)).trans (h1 j hj).1, (h1 j hj).2⟩
theorem fr_uL {lo hi : Nat} {a b : am_M} (h1 : fr lo hi a b) {h k : Nat} {v : Int64} (hl : lo ≤ h) (hh : h < hi) : fr lo hi a (am_uL b h k v) := fun j hj => ⟨(h1 j hj).1, (uL_n (by omega)).trans (h1 j hj).2⟩
theorem fr_uA {lo hi : Nat} {a b : am_M} (h1 : fr lo hi a b) {h : Nat} {f : Nat → Int32} (hl : lo ≤ h) (hh : h < hi) : fr lo hi a (am_uA b h f) := fun j hj => ⟨(uA_n (by omega)).trans (h1 j hj).1, (h1 j hj).2⟩
theorem fr_uB {lo hi : Nat} {a b : am_M} (h1 : fr lo hi a b) {h : Nat} {f : Nat → Int64} (hl : lo ≤ h) (hh : h < hi) : fr lo hi a (am_uB b h f) := fun j hj => ⟨(h1 j hj).1, (uB_n (by omega)).trans (h1 j hj).2⟩
theorem fr_mono {lo hi lo' hi' : Nat} {a b : am_M} (h1 : fr lo hi a b) (hl : lo' ≤ lo) (hh : hi ≤ hi') : fr lo' hi' a b := fun j hj => h1 j (by omega)
