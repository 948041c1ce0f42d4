/-! cards that go from place to place -/
def cnt (V : Vt) (a : Nat) : Nat := (vP V 0).count a + (vP V 1).count a + (vP V 2).count a + (vP V 3).count a + (vP V 4).count a + (vP V 5).count a + (vP V 6).count a + (vP V 7).count a
theorem allC_count (V : Vt) (a : Nat) : (allC V).count a = cnt V a := by
  unfold allC cnt
  simp only [List.range, List.range.loop, List.flatMap_cons, List.flatMap_nil, List.append_nil, List.count_append]
  omega
theorem cnt_up {V : Vt} {p : Nat} {l : List Nat} (hp : p < 8) (a : Nat) : cnt (vuP V p l) a + (vP V p).count a = cnt V a + l.count a := by
  have e : ∀ q, vP (vuP V p l) q = if q = p then l else vP V q := fun q => rfl
  unfold cnt
  rw [e 0, e 1, e 2, e 3, e 4, e 5, e 6, e 7]
  have : p = 0 ∨ p = 1 ∨ p = 2 ∨ p = 3 ∨ p = 4 ∨ p = 5 ∨ p = 6 ∨ p = 7 := by omega
  rcases this with rfl | rfl | rfl | rfl | rfl | rfl | rfl | rfl <;> simp <;> omega
theorem WC.cnt {V : Vt} (h : WC V) (a : Nat) : cnt V a ≤ 1 := by
  rw [← allC_count]
  exact List.nodup_iff_count.mp h.2.1 a
theorem WC_up {V : Vt} {p : Nat} {l : List Nat} (h : WC V) (hp : p < 8) (h1 : ∀ c ∈ l, c < 24) (h2 : p < 6 → l.length ≤ 12) (h3 : p < 6 → vN V 4 ≤ p → l = []) (h4 : ∀ a, cnt V a + l.count a ≤ (vP V p).count a + 1) : WC (vuP V p l) := by
  obtain ⟨a1, a2, a3, a4, a5⟩ := h
  have e : ∀ q, vP (vuP V p l) q = if q = p then l else vP V q := fun q => rfl
  refine ⟨fun q hq c hc => ?_, ?_, fun q hq => ?_, fun q hq hr => ?_, a5⟩
  · rw [e] at hc
    split at hc
    · exact h1 c hc
    · exact a1 q hq c hc
  · rw [List.nodup_iff_count]
    intro a
    rw [allC_count]
    have := cnt_up (V := V) (l := l) hp a
    have := h4 a
    omega
  · rw [e]
    split
    · rename_i e2; subst e2; exact h2 hq
    · exact a3 q hq
  · rw [e]
    split
    · rename_i e2; subst e2; exact h3 hq hr
    · exact a4 q hq hr
theorem WC_uN {V : Vt} {k x : Nat} (h : WC V) (hk : k ≠ 4) : WC (vuN V k x) := by
  obtain ⟨a1, a2, a3, a4, a5⟩ := h
  refine ⟨a1, a2, a3, fun q hq hr => a4 q hq ?_, a5⟩
  have : vN (vuN V k x) 4 = vN V 4 := up_n (fun e => hk e.symm)
  omega
theorem WC_uH {V : Vt} {s x : Nat} (h : WC V) (hx : x ≤ 6) : WC (vuH V s x) := by
  obtain ⟨a1, a2, a3, a4, a5⟩ := h
  refine ⟨a1, a2, a3, a4, fun r => ?_⟩
  show va_up V.2.2.1 s x r ≤ 6
  by_cases e : r = s
  · subst e; rw [up_s]; exact hx
  · rw [up_n e]; exact a5 r
/-- the same cards, whatever else -/
theorem WC_cg {V U : Vt} (h : WC V) (h1 : vP U = vP V) (h2 : vH U = vH V) (h4 : vN U 4 = vN V 4) : WC U := by
  obtain ⟨a1, a2, a3, a4, a5⟩ := h
  unfold WC allC
  rw [h1, h2, h4]
  exact ⟨a1, a2, a3, a4, a5⟩
def popP (V : Vt) (f : Nat) : Vt := vuP V f (vP V f).dropLast
theorem last_split {l : List Nat} {c : Nat} (h : l.getLast? = some c) : l = l.dropLast ++ [c] := by
  have h1 : l ≠ [] := by intro e; subst e; cases h
  rw [List.getLast?_eq_some_getLast h1] at h
  cases h
  exact (List.dropLast_concat_getLast h1).symm
theorem WC_pop {V : Vt} {f : Nat} (h : WC V) (hf : f < 8) : WC (popP V f) := by
  refine WC_up h hf (fun c hc => h.1 f hf c (List.dropLast_subset _ hc)) (fun h6 => ?_) (fun h6 h4 => ?_) (fun a => ?_)
  · have := h.2.2.1 f h6
    rw [List.length_dropLast]; omega
  · rw [h.2.2.2.1 f h6 h4]; rfl
  · have := h.cnt a
    have := (List.dropLast_sublist (vP V f)).count_le a
    omega
theorem popP_same {V : Vt} {f p : Nat} (h : p ≠ f) : vP (popP V f) p = vP V p := up_n h
/-- a card's move, cards alone -/
def moveC (V : Vt) (f to c : Nat) : Vt := if to = 7 then vuH (popP V f) (c / 6) (vH V (c / 6) + 1) else vuP (popP V f) to (vP V to ++ [c])
/-- a card's move, with what it waters -/
def moveV (V : Vt) (f to c : Nat) : Vt := if to = 7 then wetAll (moveC V f to c) (c / 6) (c % 6 + 1) else moveC V f to c
theorem WC_moveC {V : Vt} {f to c : Nat} (h : WC V) (hf : f < 7) (hto : to < 8) (h6 : to ≠ 6) (hft : f ≠ to) (hc : (vP V f).getLast? = some c) (hT : isTo V to = true) (h7 : to = 7 → vH V (c / 6) < 6) (hl : to ≠ 7 → (vP V to).length < 12) : WC (moveC V f to c) := by
  have hp := WC_pop h (show f < 8 by omega)
  unfold moveC
  split
  · rename_i e
    exact WC_uH hp (by have := h7 e; omega)
  · rename_i e
    have ht : to < vN V 4 := by
      unfold isTo at hT
      have := of_decide_eq_true hT
      omega
    have e1 : vP (popP V f) to = vP V to := popP_same (fun q => hft q.symm)
    have hs := last_split hc
    refine WC_up hp (by omega) (fun d hd => ?_) (fun _ => ?_) (fun _ h4 => ?_) (fun a => ?_)
    · rcases List.mem_append.mp hd with hd | hd
      · exact h.1 to (by omega) d hd
      · have : d = c := by simpa using hd
        subst this
        exact h.1 f (by omega) d (List.mem_of_getLast? hc)
    · have := hl e
      simp; omega
    · have : vN (popP V f) 4 = vN V 4 := rfl
      omega
    · have c1 := cnt_up (V := V) (l := (vP V f).dropLast) (show f < 8 by omega) a
      have c2 := h.cnt a
      have c3 : (vP V f).count a = (vP V f).dropLast.count a + [c].count a := by
        conv => lhs; rw [hs]
        rw [List.count_append]
      rw [e1, List.count_append]
      show cnt (vuP V f (vP V f).dropLast) a + _ ≤ _
      omega
