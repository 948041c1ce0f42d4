/-! loops: from one head to another, or to the end, whatever the fuel -/
def rch (hd : (Nat → am_K) → Nat → am_K) (C p : Nat) (l : am_L) (σ : am_M) (q : Nat) (m : am_L) (τ : am_M) : Prop := ∃ c, c ≤ C ∧ ∀ N, am_it hd (N + 1 + c) p l [] σ = am_it hd (N + 1) q m [] τ
def fin (hd : (Nat → am_K) → Nat → am_K) (C p : Nat) (l : am_L) (σ : am_M) (r : Option am_R) : Prop := ∃ c, c ≤ C ∧ ∀ N, am_it hd (N + 1 + c) p l [] σ = r
theorem rch_rf {hd : (Nat → am_K) → Nat → am_K} (C p : Nat) (l : am_L) (σ : am_M) : rch hd C p l σ p l σ := ⟨0, Nat.zero_le _, fun _ => rfl⟩
theorem rch_tr {hd : (Nat → am_K) → Nat → am_K} {C D p q o : Nat} {l m k : am_L} {σ τ ρ : am_M} (h1 : rch hd C p l σ q m τ) (h2 : rch hd D q m τ o k ρ) : rch hd (C + D) p l σ o k ρ := by
  obtain ⟨c, hc, h1⟩ := h1
  obtain ⟨d, hd', h2⟩ := h2
  refine ⟨c + d, by omega, fun N => ?_⟩
  have e1 := h1 (N + d)
  have e2 := h2 N
  rw [show N + 1 + (c + d) = N + d + 1 + c by omega, e1, show N + d + 1 = N + 1 + d by omega, e2]
theorem rch_fin {hd : (Nat → am_K) → Nat → am_K} {C D p q : Nat} {l m : am_L} {σ τ : am_M} {r : Option am_R} (h1 : rch hd C p l σ q m τ) (h2 : fin hd D q m τ r) : fin hd (C + D) p l σ r := by
  obtain ⟨c, hc, h1⟩ := h1
  obtain ⟨d, hd', h2⟩ := h2
  refine ⟨c + d, by omega, fun N => ?_⟩
  have e1 := h1 (N + d)
  have e2 := h2 N
  rw [show N + 1 + (c + d) = N + d + 1 + c by omega, e1, show N + d + 1 = N + 1 + d by omega, e2]
theorem rch_mono {hd : (Nat → am_K) → Nat → am_K} {C D p q : Nat} {l m : am_L} {σ τ : am_M} (h : rch hd C p l σ q m τ) (hC : C ≤ D) : rch hd D p l σ q m τ := by
  obtain ⟨c, hc, h⟩ := h
  exact ⟨c, by omega, h⟩
theorem fin_mono {hd : (Nat → am_K) → Nat → am_K} {C D p : Nat} {l : am_L} {σ : am_M} {r : Option am_R} (h : fin hd C p l σ r) (hC : C ≤ D) : fin hd D p l σ r := by
  obtain ⟨c, hc, h⟩ := h
  exact ⟨c, by omega, h⟩
/-- back to a head -/
theorem rch_1 {hd : (Nat → am_K) → Nat → am_K} {p q : Nat} {l m : am_L} {σ τ : am_M} (h : ∀ B, hd B p l [] σ = B q m [] τ) : rch hd 1 p l σ q m τ := ⟨1, Nat.le_refl _, fun N => h _⟩
/-- falling into a head -/
theorem rch_0 {hd : (Nat → am_K) → Nat → am_K} {p q : Nat} {l m : am_L} {σ τ : am_M} (h : ∀ B, hd B p l [] σ = hd B q m [] τ) : rch hd 0 p l σ q m τ := ⟨0, Nat.le_refl _, fun N => h _⟩
theorem fin_0 {hd : (Nat → am_K) → Nat → am_K} {p : Nat} {l : am_L} {σ : am_M} {r : Option am_R} (h : ∀ B, hd B p l [] σ = r) : fin hd 0 p l σ r := ⟨0, Nat.le_refl _, fun N => h _⟩
theorem fin_run {hd : (Nat → am_K) → Nat → am_K} {C p : Nat} {l : am_L} {σ : am_M} {r : Option am_R} (h : fin hd C p l σ r) (hC : C ≤ am_fuel) : hd (am_it hd am_fuel) p l [] σ = r := by
  obtain ⟨c, hc, h⟩ := h
  have := h (am_fuel - c)
  rw [show am_fuel - c + 1 + c = am_fuel + 1 by omega] at this
  exact this
/-- a loop that counts up to n -/
theorem rch_for {α : Type} {hd : (Nat → am_K) → Nat → am_K} {p n C : Nat} (L : Nat → α → am_L) (I : Nat → α → am_M → Prop) (step : ∀ i a σ, i < n → I i a σ → ∃ b τ, I (i + 1) b τ ∧ rch hd C p (L i a) σ p (L (i + 1) b) τ) :
    ∀ (m i : Nat) (a : α) (σ : am_M), i + m = n → I i a σ → ∃ b τ, I n b τ ∧ rch hd (C * m) p (L i a) σ p (L n b) τ := by
  intro m
  induction m with
  | zero =>
    intro i a σ hm h
    have e : i = n := by omega
    subst e
    exact ⟨a, σ, h, rch_rf _ _ _ _⟩
  | succ m ih =>
    intro i a σ hm h
    obtain ⟨b, τ, h1, h2⟩ := step i a σ (by omega) h
    obtain ⟨c, ρ, h3, h4⟩ := ih (i + 1) b τ (by omega) h1
    refine ⟨c, ρ, h3, rch_mono (rch_tr h2 h4) ?_⟩
    rw [Nat.mul_succ]; omega
