/-! a run of cards home: whatever order, it comes to the same -/
def goH (V : Vt) (p : Nat) : Bool := match (vP V p).getLast? with
  | none => false
  | some c => decide (vH V (c / 6) = c % 6)
def stp (V : Vt) (p : Nat) : Vt := match (vP V p).getLast? with
  | none => V
  | some c => moveC V p 7 c
theorem stp_eq {V : Vt} {p c : Nat} (h : (vP V p).getLast? = some c) : stp V p = moveC V p 7 c := by unfold stp; rw [h]
def runL : Vt → List Nat → Option Vt
  | V, [] => some V
  | V, p :: ps => if p < 7 ∧ goH V p = true then runL (stp V p) ps else none
def NF (V : Vt) : Prop := ∀ p, p < 7 → goH V p = false
theorem goH_spec {V : Vt} {p : Nat} (h : goH V p = true) : ∃ c, (vP V p).getLast? = some c ∧ vH V (c / 6) = c % 6 ∧ stp V p = moveC V p 7 c := by
  unfold goH at h
  split at h
  · cases h
  · rename_i c hc
    exact ⟨c, hc, of_decide_eq_true h, by unfold stp; rw [hc]⟩
theorem WC_stp {V : Vt} {p : Nat} (h : WC V) (hp : p < 7) (hg : goH V p = true) : WC (stp V p) := by
  obtain ⟨c, h1, h2, h3⟩ := goH_spec hg
  rw [h3]
  refine WC_uH (WC_pop h (by omega)) ?_
  rw [h2]; omega
theorem stp_P {V : Vt} {p c : Nat} (hc : (vP V p).getLast? = some c) (q : Nat) : vP (stp V p) q = if q = p then (vP V p).dropLast else vP V q := by
  unfold stp; rw [hc]; rfl
theorem stp_H {V : Vt} {p c : Nat} (hc : (vP V p).getLast? = some c) (s : Nat) : vH (stp V p) s = if s = c / 6 then vH V (c / 6) + 1 else vH V s := by
  unfold stp; rw [hc]; rfl
/-- two cards of two piles are two -/
theorem two_piles {V : Vt} {p q c d : Nat} (h : WC V) (hp : p < 8) (hq : q < 8) (hpq : p ≠ q) (hc : c ∈ vP V p) (hd : d ∈ vP V q) : c ≠ d := by
  intro e
  subst e
  have h1 := h.cnt c
  have h2 : 1 ≤ (vP V p).count c := List.count_pos_iff.mpr hc
  have h3 : 1 ≤ (vP V q).count c := List.count_pos_iff.mpr hd
  have c1 := cnt_up (V := V) (l := []) hp c
  have c2 := cnt_up (V := vuP V p []) (l := []) hq c
  have e1 : vP (vuP V p []) q = vP V q := up_n (fun z => hpq z.symm)
  rw [e1] at c2
  simp at c1 c2
  omega
theorem diamond {V : Vt} {p q : Nat} (h : WC V) (hp : p < 7) (hq : q < 7) (hpq : p ≠ q) (gp : goH V p = true) (gq : goH V q = true) : goH (stp V p) q = true ∧ goH (stp V q) p = true ∧ stp (stp V p) q = stp (stp V q) p := by
  obtain ⟨c, c1, c2, c3⟩ := goH_spec gp
  obtain ⟨d, d1, d2, d3⟩ := goH_spec gq
  have hcd : c ≠ d := two_piles h (by omega) (by omega) hpq (List.mem_of_getLast? c1) (List.mem_of_getLast? d1)
  have hs : c / 6 ≠ d / 6 := by
    intro e
    rw [e] at c2
    omega
  have a1 : (vP (stp V p) q).getLast? = some d := by rw [stp_P c1, if_neg (fun z => hpq z.symm)]; exact d1
  have a2 : (vP (stp V q) p).getLast? = some c := by rw [stp_P d1, if_neg hpq]; exact c1
  refine ⟨?_, ?_, ?_⟩
  · unfold goH
    rw [a1]
    apply decide_eq_true
    rw [stp_H c1, if_neg (fun z => hs z.symm)]; exact d2
  · unfold goH
    rw [a2]
    apply decide_eq_true
    rw [stp_H d1, if_neg hs]; exact c2
  · have e1 : stp (stp V p) q = moveC (stp V p) q 7 d := stp_eq a1
    have e2 : stp (stp V q) p = moveC (stp V q) p 7 c := stp_eq a2
    rw [e1, e2, c3, d3]
    unfold moveC popP vuP vuH
    simp only [if_true]
    refine Prod.ext rfl (Prod.ext ?_ (Prod.ext ?_ rfl))
    · funext r
      show va_up (va_up V.2.1 p _) q (va_up V.2.1 p _ q).dropLast r = va_up (va_up V.2.1 q _) p (va_up V.2.1 q _ p).dropLast r
      rw [up_n (k := p) (j := q) (fun z => hpq z.symm), up_n (k := q) (j := p) hpq]
      by_cases r1 : r = q
      · subst r1
        rw [up_s, up_n (fun z => hpq z.symm), up_s]
      · by_cases r2 : r = p
        · subst r2
          rw [up_n r1, up_s, up_s]
        · rw [up_n r1, up_n r2, up_n r2, up_n r1]
    · funext r
      show va_up (va_up V.2.2.1 (c / 6) _) (d / 6) (va_up V.2.2.1 (c / 6) _ (d / 6) + 1) r = va_up (va_up V.2.2.1 (d / 6) _) (c / 6) (va_up V.2.2.1 (d / 6) _ (c / 6) + 1) r
      rw [up_n (k := c / 6) (j := d / 6) (fun z => hs z.symm), up_n (k := d / 6) (j := c / 6) hs]
      by_cases r1 : r = d / 6
      · subst r1
        rw [up_s, up_n (fun z => hs z.symm), up_s]
      · by_cases r2 : r = c / 6
        · subst r2
          rw [up_n r1, up_s, up_s]
        · rw [up_n r1, up_n r2, up_n r2, up_n r1]
theorem runL_cons {V T : Vt} {p : Nat} {ps : List Nat} (h : runL V (p :: ps) = some T) : p < 7 ∧ goH V p = true ∧ runL (stp V p) ps = some T := by
  unfold runL at h
  split at h
  · rename_i e; exact ⟨e.1, e.2, h⟩
  · cases h
theorem runL_mk {V T : Vt} {p : Nat} {ps : List Nat} (h1 : p < 7) (h2 : goH V p = true) (h3 : runL (stp V p) ps = some T) : runL V (p :: ps) = some T := by
  show (if _ then _ else _) = _
  rw [if_pos ⟨h1, h2⟩]; exact h3
theorem runL_app : ∀ (ps : List Nat) (V T U : Vt) (qs : List Nat), runL V ps = some T → runL T qs = some U → runL V (ps ++ qs) = some U
  | [], V, T, U, qs, h1, h2 => by cases h1; exact h2
  | p :: ps, V, T, U, qs, h1, h2 => by
    obtain ⟨a, b, c⟩ := runL_cons h1
    exact runL_mk a b (runL_app ps _ T U qs c h2)
theorem runL_WC : ∀ (ps : List Nat) (V T : Vt), WC V → runL V ps = some T → WC T
  | [], V, T, hw, h => by cases h; exact hw
  | p :: ps, V, T, hw, h => by
    obtain ⟨a, b, c⟩ := runL_cons h
    exact runL_WC ps _ T (WC_stp hw a b) c
theorem exchange : ∀ (qs : List Nat) (V U : Vt) (p : Nat), WC V → p < 7 → goH V p = true → runL V qs = some U → NF U → p ∈ qs ∧ runL V (p :: qs.erase p) = some U
  | [], V, U, p, hw, hp, hg, h, hn => by
    cases h
    rw [hn p hp] at hg; cases hg
  | q :: qs, V, U, p, hw, hp, hg, h, hn => by
    by_cases e : q = p
    · subst e
      exact ⟨List.mem_cons_self, by rw [List.erase_cons_head]; exact h⟩
    · obtain ⟨a, b, c⟩ := runL_cons h
      obtain ⟨d1, d2, d3⟩ := diamond hw hp a (fun z => e z.symm) hg b
      obtain ⟨i1, i2⟩ := exchange qs (stp V q) U p (WC_stp hw a b) hp d2 c hn
      obtain ⟨j1, j2, j3⟩ := runL_cons i2
      refine ⟨List.mem_cons_of_mem _ i1, ?_⟩
      rw [List.erase_cons_tail (by simpa using e)]
      exact runL_mk hp hg (runL_mk a d1 (by rw [d3]; exact j3))
theorem run_uniq : ∀ (ps : List Nat) (V T U : Vt) (qs : List Nat), WC V → runL V ps = some T → NF T → runL V qs = some U → NF U → T = U ∧ ps.length = qs.length
  | [], V, T, U, qs, hw, h1, n1, h2, n2 => by
    cases h1
    cases qs with
    | nil => cases h2; exact ⟨rfl, rfl⟩
    | cons q qs =>
      obtain ⟨a, b, c⟩ := runL_cons h2
      rw [n1 q a] at b; cases b
  | p :: ps, V, T, U, qs, hw, h1, n1, h2, n2 => by
    obtain ⟨a, b, c⟩ := runL_cons h1
    obtain ⟨i1, i2⟩ := exchange qs V U p hw a b h2 n2
    obtain ⟨j1, j2, j3⟩ := runL_cons i2
    obtain ⟨k1, k2⟩ := run_uniq ps (stp V p) T U (qs.erase p) (WC_stp hw a b) c n1 j3 n2
    refine ⟨k1, ?_⟩
    rw [List.length_erase_of_mem i1] at k2
    have : 0 < qs.length := List.length_pos_of_mem i1
    simp; omega
/-! what a run does: ranks, numbers of cards, fields -/
/-- ranks from a + 1 on, k of them, upon a field's water and fate -/
def wseq (w hi fa a : Nat) : Nat → Nat × Nat
  | 0 => (w, fa)
  | k + 1 => if (wseq w hi fa a k).2 = 0 then ((wseq w hi fa a k).1 + (a + k + 1), if hi < (wseq w hi fa a k).1 + (a + k + 1) then 2 else 0) else wseq w hi fa a k
/-- the fields of a valley when its home piles have risen to H -/
def wetUp (V : Vt) (H : Nat → Nat) : Nat → Nat → Nat := fun w f => if f < vN V 5 then (if w = 2 then (wseq (vF V 2 f) (vF V 3 f) (vF V 4 f) (vH V (vF V 0 f)) (H (vF V 0 f) - vH V (vF V 0 f))).1 else if w = 4 then (wseq (vF V 2 f) (vF V 3 f) (vF V 4 f) (vH V (vF V 0 f)) (H (vF V 0 f) - vH V (vF V 0 f))).2 else vF V w f) else vF V w f
/-- the valley behind a run that leaves T's cards -/
def ranV (V T : Vt) : Vt := (V.1, vP T, vH T, wetUp V (vH T), V.2.2.2.2)
theorem ranV_self (V : Vt) : ranV V V = V := by
  unfold ranV
  have : wetUp V (vH V) = vF V := by
    funext w f
    unfold wetUp
    rw [Nat.sub_self]
    split
    · split
      · rename_i e; subst e; rfl
      · split
        · rename_i e; subst e; rfl
        · rfl
    · rfl
  rw [this]
/-- one card more: the fields of its suit are watered -/
theorem ranV_step {V T : Vt} {p c : Nat} (hc : (vP T p).getLast? = some c) (hh : vH T (c / 6) = c % 6) (hle : vH V (c / 6) ≤ vH T (c / 6)) : moveV (ranV V T) p 7 c = ranV V (stp T p) := by
  rw [stp_eq hc]
  unfold moveV
  rw [if_pos rfl]
  have hwet : ∀ w f, vF (wetAll (moveC (ranV V T) p 7 c) (c / 6) (c % 6 + 1)) w f = wetUp V (vH (moveC T p 7 c)) w f := by
    intro w f
    show (if f < vN V 5 ∧ wetUp V (vH T) 0 f = c / 6 then _ else wetUp V (vH T) w f) = _
    have e0 : wetUp V (vH T) 0 f = vF V 0 f := by
      unfold wetUp; split <;> rfl
    rw [e0]
    have eH : ∀ s, vH (moveC T p 7 c) s = if s = c / 6 then vH T (c / 6) + 1 else vH T s := fun s => rfl
    by_cases hf : f < vN V 5
    · by_cases hs : vF V 0 f = c / 6
      · rw [if_pos ⟨hf, hs⟩]
        have e2 : vH (moveC T p 7 c) (vF V 0 f) = vH T (c / 6) + 1 := by rw [eH, if_pos hs]
        unfold wetUp
        rw [if_pos hf, e2, hs]
        rw [show vH T (c / 6) + 1 - vH V (c / 6) = (vH T (c / 6) - vH V (c / 6)) + 1 by omega]
        have e3 : wet1 (moveC (ranV V T) p 7 c) f (c % 6 + 1) = wseq (vF V 2 f) (vF V 3 f) (vF V 4 f) (vH V (c / 6)) ((vH T (c / 6) - vH V (c / 6)) + 1) := by
          have f2 : vF (moveC (ranV V T) p 7 c) 2 f = (wseq (vF V 2 f) (vF V 3 f) (vF V 4 f) (vH V (c / 6)) (vH T (c / 6) - vH V (c / 6))).1 := by
            show wetUp V (vH T) 2 f = _
            unfold wetUp; rw [if_pos hf, if_pos rfl, hs]
          have f4 : vF (moveC (ranV V T) p 7 c) 4 f = (wseq (vF V 2 f) (vF V 3 f) (vF V 4 f) (vH V (c / 6)) (vH T (c / 6) - vH V (c / 6))).2 := by
            show wetUp V (vH T) 4 f = _
            unfold wetUp; rw [if_pos hf, if_neg (by omega), if_pos rfl, hs]
          have f3 : vF (moveC (ranV V T) p 7 c) 3 f = vF V 3 f := by
            show wetUp V (vH T) 3 f = _
            unfold wetUp; rw [if_pos hf, if_neg (by omega), if_neg (by omega)]
          unfold wet1
          rw [f2, f4, f3]
          conv => rhs; unfold wseq
          rw [show vH V (c / 6) + (vH T (c / 6) - vH V (c / 6)) + 1 = c % 6 + 1 by omega]
        rw [e3]
        by_cases w2 : w = 2
        · simp [w2]
        · by_cases w4 : w = 4
          · simp [w4]
          · simp only [w2, w4, if_false]
            show wetUp V (vH T) w f = _
            unfold wetUp; rw [if_pos hf, if_neg w2, if_neg w4]
      · rw [if_neg (fun z => hs z.2)]
        unfold wetUp
        rw [if_pos hf, if_pos hf, eH, if_neg hs]
    · rw [if_neg (fun z => hf z.1)]
      unfold wetUp
      rw [if_neg hf, if_neg hf]
  refine Prod.ext ?_ (Prod.ext ?_ (Prod.ext ?_ (Prod.ext (funext fun w => funext fun f => hwet w f) ?_)))
  · rfl
  · rfl
  · rfl
  · rfl
