/-! a card more on a pile, both sides -/
theorem cd_mem {V : Vt} {q c : Nat} (hq : q < 8) (d : Nat) : d ∈ allC (vuP V q (vP V q ++ [c])) ↔ d ∈ allC V ∨ d = c := by
  rw [← List.count_pos_iff, allC_count, ← List.count_pos_iff, allC_count]
  have h := cnt_up (V := V) (l := vP V q ++ [c]) hq d
  rw [List.count_append] at h
  by_cases e : d = c
  · subst e
    rw [List.count_singleton_self] at h
    exact ⟨fun _ => Or.inr rfl, fun _ => by omega⟩
  · have : List.count d [c] = 0 := List.count_eq_zero.mpr (by simpa using e)
    rw [this] at h
    constructor
    · intro z; exact Or.inl (by omega)
    · rintro (z | z)
      · omega
      · exact absurd z e
theorem WC_cd {V : Vt} {q c : Nat} (h : WC V) (hq : (q < 6 ∧ q < vN V 4 ∧ (vP V q).length < 12) ∨ q = 7) (hc : c < 24) (hn : ¬ c ∈ allC V) : WC (vuP V q (vP V q ++ [c])) := by
  have hq8 : q < 8 := by omega
  refine WC_up h hq8 ?_ ?_ ?_ ?_
  · intro d hd
    rcases List.mem_append.mp hd with z | z
    · exact h.1 q hq8 d z
    · have : d = c := by simpa using z
      omega
  · intro z; rw [List.length_append]; show (vP V q).length + 1 ≤ 12; omega
  · intro z1 z2; omega
  · intro a
    rw [List.count_append]
    have h1 := h.cnt a
    by_cases e : a = c
    · subst e
      have h0 : cnt V a = 0 := by rw [← allC_count]; exact List.count_eq_zero.mpr hn
      rw [List.count_singleton_self]; omega
    · have : List.count a [c] = 0 := List.count_eq_zero.mpr (by simpa using e)
      omega
theorem PS_card {t : Nat → Nat} {e : Nat} {σx σm τx τm : am_M} {V : Vt} {Ns Nf : List (List Nat)} {rT lT dT cT : Bool} {X a b q c : Nat} (h : PS t e σx σm V Ns Nf rT lT dT cT X a) (hq : (q < 6 ∧ q < vN V 4 ∧ (vP V q).length < 12) ∨ q = 7) (hc : c < 24) (hX : X.testBit c = false)
    (X0 : TP τx 27 (vuP V q (vP V q ++ [c]))) (X1 : ∀ j, j ≠ 3 → j ≠ 6 → (j < 27 ∨ 31 < j) → τx.1 j = σx.1 j) (X2 : ∀ k, k = 3 ∨ 5 ≤ k → τx.1 27 k = σx.1 27 k) (X3 : ∀ j, j ≠ 3 → τx.2 j = σx.2 j) (X4 : ∀ k, k < 4 → τx.1 6 k = σx.1 6 k) (X5 : τx.1 6 4 = nI (X ||| 2 ^ c)) (XT : TX τx t e)
    (M1 : τm.1 123 25 = σm.1 123 25) (M2 : τm.1 123 27 = σm.1 123 27) (M3 : τm.1 123 26 = nI (X ||| 2 ^ c)) (M4 : MC (τm.1 128) 1768 (vuP V q (vP V q ++ [c]))) (M5 : ∀ i, 1908 ≤ i → τm.1 128 i = σm.1 128 i) (M6 : τm.2 131 = σm.2 131) (MT : TM τm t e) (Mk : TokM t e b τm) (hbe : b ≤ e) (M12 : τm.1 123 12 = nI 0) :
    PS t e τx τm (vuP V q (vP V q ++ [c])) Ns Nf rT lT dT cT (X ||| 2 ^ c) b := by
  obtain ⟨⟨a1, a2, a3⟩, ⟨b1, b2', b3, b4, b5, b6, b7, b8⟩, ⟨c1, c2, c3, c4, c5, c6, c7, c8⟩, d, ⟨e1, e2, e3, e4, e5⟩, ⟨f1, f2, f3, f4⟩⟩ := h
  have hnc : ¬ c ∈ allC V := fun z => by
    have := (d.2 c hc).mpr z
    rw [hX] at this; cases this
  refine ⟨⟨⟨?_, X0, ?_⟩, ⟨a2.1, WC_cd a2.2.1 hq hc hnc, a2.2.2⟩, M4⟩, ⟨b1, b2', b3, b4, ?_, ?_, ?_, ?_⟩, ⟨?_, ?_, ?_, ?_, X5, ?_, M3, ?_⟩, ⟨?_, ?_⟩, ⟨XT, MT, Mk, hbe, M12⟩, ⟨?_, ?_, ?_, f4.1, ?_⟩⟩
  · exact TN_cg (TN_fr2 (τ := τx) a1.1 (fun k hk => X2 k (by omega))) rfl
  · have := VF_fr (τ := τx) a1.2.2 (X1 26 (by omega) (by omega) (by omega)) (fun j p q => X1 j (by omega) (by omega) (by omega))
    exact this
  · intro i r hr; rw [X3 36 (by omega)]; exact b5 i r hr
  · intro i r hr; rw [X3 37 (by omega)]; exact b6 i r hr
  · intro i r hr; rw [M6]; exact b7 i r hr
  · intro i r hr; rw [M6]; exact b8 i r hr
  · rw [X4 0 (by omega)]; exact c1
  · rw [X4 1 (by omega)]; exact c2
  · rw [X4 2 (by omega)]; exact c3
  · rw [X4 3 (by omega)]; exact c4
  · rw [M1]; exact c6
  · rw [M2]; exact c8
  · exact Nat.or_lt_two_pow (n := 24) d.1 (Nat.pow_lt_pow_right (by omega) hc)
  · intro x hx
    rw [cd_mem (by omega), Nat.testBit_or, Nat.testBit_two_pow, ← d.2 x hx, Bool.or_eq_true, decide_eq_true_eq]
    exact ⟨fun z => z.imp id Eq.symm, fun z => z.imp id Eq.symm⟩
  · rw [X2 3 (by omega)]; exact f1
  · rw [X1 34 (by omega) (by omega) (by omega)]; exact f2
  · rw [M5 _ (by omega)]; exact f3
  · intro f p q
    rw [M5 _ (by omega)]; exact f4.2 f p q
