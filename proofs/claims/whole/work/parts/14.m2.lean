/-! changes of the model's row -/
theorem MC_uF {f : Nat → Int32} {o w i x : Nat} {V : Vt} (h : MC f o V) (hw : WC V) (hn : vN V 5 ≤ 6) (hw5 : w < 5) (hi : i < 6) : MC (va_up f (140 + 6 * w + i + o) (nI x)) o (vuF V w i x) := by
  obtain ⟨m1, m2, m3, m4, m5, m6⟩ := h
  have l7 := hw.len (p := 7) (by omega)
  have l6 := hw.len (p := 6) (by omega)
  refine ⟨fun k hk => ?_, ⟨?_, ?_⟩, ⟨?_, ?_⟩, fun s hs => ?_, fun p hp => ⟨?_, ?_⟩, fun w' i' hw' hi' => ?_⟩
  · rw [up_n (by omega)]; exact m1 k hk
  · rw [up_n (by omega)]; exact m2.1
  · exact seg_out (l := vP V 7) m2.2 (by omega)
  · rw [up_n (by omega)]; exact m3.1
  · exact seg_out (l := vP V 6) m3.2 (by omega)
  · rw [up_n (by omega)]; exact m4 s hs
  · rw [up_n (by omega)]; exact (m5 p hp).1
  · have := hw.2.2.1 p hp
    exact seg_out (l := vP V p) (m5 p hp).2 (by omega)
  · have hi'' : i' < vN V 5 := hi'
    show _ = nI (va_up V.2.2.2.1 w (va_up (V.2.2.2.1 w) i x) w' i')
    by_cases e1 : w' = w
    · subst e1
      rw [up_s]
      by_cases e2 : i' = i
      · subst e2; rw [up_s, up_s]
      · rw [up_n e2, up_n (by omega)]; exact m6 w' i' hw' hi'
    · rw [up_n e1, up_n (by omega)]; exact m6 w' i' hw' hi'
theorem MC_uN {f : Nat → Int32} {o k x : Nat} {V : Vt} (h : MC f o V) (hk : k < 8) (h5 : k ≠ 5) : MC (va_up f (k + o) (nI x)) o (vuN V k x) := by
  obtain ⟨m1, m2, m3, m4, m5, m6⟩ := h
  have e5 : vN (vuN V k x) 5 = vN V 5 := up_n (fun e => h5 e.symm)
  refine ⟨fun j hj => ?_, ⟨?_, ?_⟩, ⟨?_, ?_⟩, fun s hs => ?_, fun p hp => ⟨?_, ?_⟩, fun w' i' hw' hi' => ?_⟩
  · show _ = nI (va_up V.1 k x j)
    by_cases e : j = k
    · subst e; rw [up_s, up_s]
    · rw [up_n e, up_n (by omega)]; exact m1 j hj
  · rw [up_n (by omega)]; exact m2.1
  · exact seg_out (l := vP V 7) m2.2 (by omega)
  · rw [up_n (by omega)]; exact m3.1
  · exact seg_out (l := vP V 6) m3.2 (by omega)
  · rw [up_n (by omega)]; exact m4 s hs
  · rw [up_n (by omega)]; exact (m5 p hp).1
  · exact seg_out (l := vP V p) (m5 p hp).2 (by omega)
  · rw [e5] at hi'
    rw [up_n (by omega)]; exact m6 w' i' hw' hi'
theorem MC_uH {f : Nat → Int32} {o s x : Nat} {V : Vt} (h : MC f o V) (hs : s < 4) : MC (va_up f (10 + s + o) (nI x)) o (vuH V s x) := by
  obtain ⟨m1, m2, m3, m4, m5, m6⟩ := h
  refine ⟨fun j hj => ?_, ⟨?_, ?_⟩, ⟨?_, ?_⟩, fun r hr => ?_, fun p hp => ⟨?_, ?_⟩, fun w' i' hw' hi' => ?_⟩
  · rw [up_n (by omega)]; exact m1 j hj
  · rw [up_n (by omega)]; exact m2.1
  · exact seg_out (l := vP V 7) m2.2 (by omega)
  · rw [up_n (by omega)]; exact m3.1
  · exact seg_out (l := vP V 6) m3.2 (by omega)
  · show _ = nI (va_up V.2.2.1 s x r)
    by_cases e : r = s
    · subst e; rw [up_s, up_s]
    · rw [up_n e, up_n (by omega)]; exact m4 r hr
  · rw [up_n (by omega)]; exact (m5 p hp).1
  · exact seg_out (l := vP V p) (m5 p hp).2 (by omega)
  · rw [up_n (by omega)]; exact m6 w' i' hw' hi'
/-- where a pile's length stands, and its cards begin -/
def mLen (p : Nat) : Nat := if p < 6 then 14 + p else if p = 6 then 9 else 8
def mBeg (p : Nat) : Nat := if p < 6 then 20 + 12 * p else if p = 6 then 116 else 92
theorem MC_pile {f : Nat → Int32} {o p : Nat} {V : Vt} (h : MC f o V) (hp : p < 8) : f (mLen p + o) = nI (vP V p).length ∧ seg f (mBeg p + o) (vP V p) := by
  obtain ⟨m1, m2, m3, m4, m5, m6⟩ := h
  unfold mLen mBeg
  by_cases h1 : p < 6
  · rw [if_pos h1, if_pos h1]; exact m5 p h1
  · rw [if_neg h1, if_neg h1]
    by_cases h2 : p = 6
    · subst h2; exact m3
    · have : p = 7 := by omega
      subst this; exact m2
/-- a pile told anew: its length and its cards, nothing else -/
theorem MC_uP {f g : Nat → Int32} {o p : Nat} {V : Vt} {l : List Nat} (h : MC f o V) (hw : WC V) (hp : p < 8) (hg : ∀ j, j ≠ mLen p + o → (j < mBeg p + o ∨ mBeg p + o + (if p < 6 then 12 else 24) ≤ j) → g j = f j) (hl : g (mLen p + o) = nI l.length) (hs : seg g (mBeg p + o) l) : MC g o (vuP V p l) := by
  obtain ⟨m1, m2, m3, m4, m5, m6⟩ := h
  have pile : ∀ q, q < 8 → g (mLen q + o) = nI (vP (vuP V p l) q).length ∧ seg g (mBeg q + o) (vP (vuP V p l) q) := by
    intro q hq
    show _ = nI (va_up V.2.1 p l q).length ∧ seg g _ (va_up V.2.1 p l q)
    by_cases e : q = p
    · subst e; rw [up_s]; exact ⟨hl, hs⟩
    · rw [up_n e]
      obtain ⟨a1, a2⟩ := MC_pile (f := f) (o := o) ⟨m1, m2, m3, m4, m5, m6⟩ hq
      have hlen : (vP V q).length ≤ (if q < 6 then 12 else 24) := by
        split
        · exact hw.2.2.1 q (by assumption)
        · exact hw.len hq
      have hb : ∀ k, k < (vP V q).length → g (mBeg q + o + k) = f (mBeg q + o + k) := by
        intro k hk
        refine hg _ ?_ ?_
        · unfold mLen mBeg; repeat' split
          all_goals (split at hlen <;> omega)
        · unfold mBeg; repeat' split
          all_goals (split at hlen <;> omega)
      refine ⟨(hg _ ?_ ?_).trans a1, seg_cg a2 hb⟩
      · unfold mLen; repeat' split
        all_goals omega
      · unfold mLen mBeg; repeat' split
        all_goals omega
  refine ⟨fun k hk => ?_, ?_, ?_, fun s hs => ?_, fun q hq => ?_, fun w' i' hw' hi' => ?_⟩
  · refine (hg _ ?_ ?_).trans (m1 k hk)
    · unfold mLen; repeat' split
      all_goals omega
    · unfold mBeg; repeat' split
      all_goals omega
  · have := pile 7 (by omega); simpa [mLen, mBeg] using this
  · have := pile 6 (by omega); simpa [mLen, mBeg] using this
  · refine (hg _ ?_ ?_).trans (m4 s hs)
    · unfold mLen; repeat' split
      all_goals omega
    · unfold mBeg; repeat' split
      all_goals omega
  · have := pile q (by omega)
    simpa [mLen, mBeg, hq] using this
  · refine (hg _ ?_ ?_).trans (m6 w' i' hw' hi')
    · unfold mLen; repeat' split
      all_goals omega
    · unfold mBeg; repeat' split
      all_goals omega
