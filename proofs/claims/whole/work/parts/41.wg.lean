/-! valleys stay as they can be: days, dealing -/
theorem dayV_N {V : Vt} {n k : Nat} (h : k ≠ 6) : vN (dayV V n) k = vN V k := up_n h
theorem dayV_6 (V : Vt) (n : Nat) : vN (dayV V n) 6 = vN V 6 + n := by
  show va_up V.1 6 _ 6 = _
  exact up_s _ _ _
theorem WG_day {V : Vt} {n : Nat} (hw : WG V) (h : vN V 6 + n ≤ 9999) : WG (dayV V n) := by
  obtain ⟨⟨a0, a1, a2, a3, a4, a5, a6, a7⟩, wc, wd⟩ := hw
  refine ⟨?_, WC_cg wc rfl rfl (dayV_N (by omega)), ?_⟩
  · unfold WN
    rw [dayV_N (by omega), dayV_N (by omega), dayV_N (by omega), dayV_N (by omega), dayV_N (by omega), dayV_N (by omega), dayV_6, dayV_N (by omega)]
    exact ⟨a0, a1, a2, a3, a4, a5, h, a7⟩
  · have := WFd_dayTo (n := n) (i := vN V 5) wd
    intro f hf
    rw [dayV_N (by omega)] at hf
    have q := this f hf
    rw [dayV_N (by omega)]
    exact q
theorem TN_day {σ : am_M} {t n : Nat} {V : Vt} (h : TN σ t V) : TN σ t (dayV V n) := by
  unfold TN at *
  rw [dayV_N (by omega), dayV_N (by omega), dayV_N (by omega), dayV_N (by omega), dayV_N (by omega), dayV_N (by omega)]
  exact h
theorem vuP_comm (V : Vt) {p q : Nat} (h : p ≠ q) (l m : List Nat) : vuP (vuP V p l) q m = vuP (vuP V q m) p l := by
  unfold vuP
  simp only [Prod.mk.injEq, true_and, and_true]
  funext x
  by_cases e1 : x = q
  · subst e1; rw [up_s, up_n (fun z => h z.symm), up_s]
  · rw [up_n e1]
    by_cases e2 : x = p
    · subst e2; rw [up_s, up_s]
    · rw [up_n e2, up_n e2, up_n e1]
theorem WG_deal {V : Vt} (hw : WG V) : WG (dealV V) := by
  obtain ⟨wn, wc, wd⟩ := hw
  unfold dealV
  cases h7 : vP V 7 with
  | nil =>
    dsimp only
    have w1 : WC (vuP V 6 []) := WC_up wc (by omega) (fun c hc => by cases hc) (fun h => by omega) (fun h => by omega) (fun a => by have := wc.cnt a; simp; omega)
    have w2 : WC (vuP (vuP V 6 []) 7 (vP V 6)) := by
      refine WC_up w1 (by omega) (fun c hc => wc.1 6 (by omega) c hc) (fun h => by omega) (fun h => by omega) (fun a => ?_)
      have h1 := cnt_up (V := V) (p := 6) (l := []) (by omega) a
      have h2 := wc.cnt a
      rw [List.count_nil] at h1
      omega
    rw [vuP_comm V (by omega)]
    obtain ⟨a0, a1, a2, a3, a4, a5, a6, a7⟩ := wn
    have e : ∀ k, vN (vuN (vuP (vuP V 6 []) 7 (vP V 6)) 3 (vN V 3 - 1)) k = if k = 3 then vN V 3 - 1 else vN V k := fun k => rfl
    refine ⟨?_, WC_uN w2 (by omega), ?_⟩
    · unfold WN
      rw [e, e, e, e, e, e, e, e]
      exact ⟨a0, a1, a2, by show vN V 3 - 1 ≤ 9; omega, a4, a5, a6, a7⟩
    · exact wd
  | cons c l =>
    dsimp only
    have hc24 : c < 24 := wc.1 7 (by omega) c (by rw [h7]; exact List.mem_cons_self)
    have w1 : WC (vuP V 7 l) := WC_up wc (by omega) (fun d hd => wc.1 7 (by omega) d (by rw [h7]; exact List.mem_cons_of_mem _ hd)) (fun h => by omega) (fun h => by omega) (fun a => by
      have := wc.cnt a
      rw [h7, List.count_cons]
      split <;> omega)
    have w2 : WC (vuP (vuP V 7 l) 6 (vP V 6 ++ [c])) := by
      refine WC_up w1 (by omega) (fun d hd => ?_) (fun h => by omega) (fun h => by omega) (fun a => ?_)
      · rcases List.mem_append.mp hd with hd | hd
        · exact wc.1 6 (by omega) d hd
        · have : d = c := by simpa using hd
          subst this; exact hc24
      · have h1 := cnt_up (V := V) (p := 7) (l := l) (by omega) a
        have h2 := wc.cnt a
        rw [h7, List.count_cons] at h1
        rw [vuP_n (by omega), List.count_append, List.count_cons, List.count_nil]
        omega
    exact ⟨wn, w2, wd⟩
theorem dealV_F (V : Vt) : vF (dealV V) = vF V := by unfold dealV; split <;> rfl
theorem dealV_N {V : Vt} {k : Nat} (h : k ≠ 3) : vN (dealV V) k = vN V k := by
  unfold dealV
  split
  · exact up_n h
  · rfl
theorem VF_deal {σ : am_M} {v : Nat} {V : Vt} (h : VF σ v V) : VF σ v (dealV V) := by
  unfold VF at *
  rw [dealV_F, dealV_N (by omega), dealV_N (by omega)]
  exact h
