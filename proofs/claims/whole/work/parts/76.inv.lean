/-! what stands on both sides between two calls -/
theorem SqR_cg {S T : Nat → Nat → Nat → Nat → Prop} {nf : Nat} {g f g' f' : Nat → Int32} (hT : ∀ l L k K, S l L k K → l ≤ L ∧ k ≤ K) (hS : ∀ l L k K, L ≤ 60 → K ≤ 30 → S l L k K → T l L k K) (hg : ∀ i, i < 360 → g' i = g i) (hf : ∀ i, i < 270 → f' i = f i) : ∀ (n l L k K : Nat), L ≤ 60 → K ≤ 30 → SqR S nf g f n l L k K → SqR T nf g' f' n l L k K
  | 0, l, L, k, K, _, _, h => h
  | n + 1, l, L, k, K, hL, hK, h => by
    obtain ⟨i, k1, h1, h2⟩ := h
    have a1 := ItR_lt hT h1
    have a2 := SqR_le hT n _ _ _ _ h2
    refine ⟨i, k1, ?_, SqR_cg hT hS hg hf n _ _ _ _ hL hK h2⟩
    have gl : ∀ w, w < 6 → g' (l * 6 + w) = g (l * 6 + w) := fun w hw => hg _ (by omega)
    have fl : ∀ w, w < 9 → f' (9 * k + w) = f (9 * k + w) := fun w hw => hf _ (by omega)
    obtain ⟨e8, h1⟩ := h1
    refine ⟨by rw [fl 8 (by omega)]; exact e8, ?_⟩
    rcases h1 with ⟨c1, c2, c3⟩ | ⟨p, c1, c2, c3, c4, c5, c6, c7⟩
    · refine Or.inl ⟨c1, c2, ?_⟩
      unfold BasR at c3 ⊢
      rw [gl 0 (by omega), gl 1 (by omega), gl 2 (by omega), fl 0 (by omega), fl 1 (by omega), fl 2 (by omega)]
      exact c3
    · have hp := hT _ _ _ _ c6
      refine Or.inr ⟨p, c1, c2, by rw [gl 5 (by omega)]; exact c3, by rw [hg _ (by omega)]; exact c4, by rw [hg _ (by omega)]; exact c5, hS _ _ _ _ (by omega) (by omega) c6, ?_⟩
      unfold TestR at c7 ⊢
      rw [gl 0 (by omega), gl 1 (by omega), gl 2 (by omega), gl 3 (by omega), gl 4 (by omega), fl 0 (by omega), fl 1 (by omega), fl 2 (by omega), fl 6 (by omega), fl 7 (by omega)]
      exact c7
theorem DpR_cg {nf : Nat} {g f g' f' : Nat → Int32} (hg : ∀ i, i < 360 → g' i = g i) (hf : ∀ i, i < 270 → f' i = f i) : ∀ (d l L k K : Nat), L ≤ 60 → K ≤ 30 → DpR nf g f d l L k K → DpR nf g' f' d l L k K
  | 0, l, L, k, K, hL, hK, h => by
    obtain ⟨n, h⟩ := h
    exact ⟨n, SqR_cg (fun _ _ _ _ z => z.elim) (fun _ _ _ _ _ _ z => z) hg hf n _ _ _ _ hL hK h⟩
  | d + 1, l, L, k, K, hL, hK, h => by
    obtain ⟨n, h⟩ := h
    exact ⟨n, SqR_cg (DpR_le d) (fun l L k K a b z => DpR_cg hg hf d l L k K a b z) hg hf n _ _ _ _ hL hK h⟩
theorem PlanR_cg {σx σm τx τm : am_M} {v w o p nf : Nat} (h : PlanR σx σm v o nf) (h1 : τx.1 (w + 8) 1 = σx.1 (v + 8) 1) (h2 : τx.1 (w + 8) 2 = σx.1 (v + 8) 2) (h3 : τx.1 (w + 8) 3 = σx.1 (v + 8) 3) (h9 : ∀ i, i < 360 → τx.1 (w + 9) i = σx.1 (v + 9) i) (hm : ∀ i, 170 ≤ i → i < 442 → τm.1 128 (i + p) = σm.1 128 (i + o)) : PlanR τx τm w p nf := by
  rcases h with ⟨a, b⟩ | ⟨a, b, L, K, c1, c2, c3, c4, c5, c6⟩
  · exact Or.inl ⟨by rw [h3]; exact a, by rw [hm 170 (by omega) (by omega)]; exact b⟩
  · refine Or.inr ⟨by rw [h3]; exact a, by rw [hm 170 (by omega) (by omega)]; exact b, L, K, c1, c2, by rw [h1]; exact c3, by rw [h2]; exact c4, by rw [hm 171 (by omega) (by omega)]; exact c5, ?_⟩
    exact DpR_cg h9 (fun i hi => hm (172 + i) (by omega) (by omega)) 3 _ _ _ _ c1 c2 c6
theorem PlanR_z {σx σm : am_M} {v o nf : Nat} (h : PlanR σx σm v o nf) : σx.1 (v + 8) 3 &&& nI 1 = σx.1 (v + 8) 3 := by
  rcases h with ⟨a, b⟩ | ⟨a, b, -⟩ <;> rw [a] <;> decide +kernel
theorem MC_cp {f g : Nat → Int32} {o p : Nat} {V : Vt} (h : MC f o V) (hw : WG V) (e : ∀ i, i < 170 → g (i + p) = f (i + o)) : MC g p V := by
  obtain ⟨h1, ⟨h2, h3⟩, ⟨h4, h5⟩, h6, h7, h8⟩ := h
  have h5' := hw.1.2.2.2.2.2.1
  have sg : ∀ b l, b + List.length l ≤ 170 → seg f (b + o) l → seg g (b + p) l := fun b l hb hs k c hk => by
    have hk2 := (List.getElem?_eq_some_iff.mp hk).1
    rw [show b + p + k = (b + k) + p by omega, e _ (by omega), show b + k + o = b + o + k by omega]
    exact hs k c hk
  have l7 := hw.2.1.len (show 7 < 8 by omega)
  have l6 := hw.2.1.len (show 6 < 8 by omega)
  refine ⟨fun k hk => by rw [e k (by omega)]; exact h1 k hk, ⟨by rw [e 8 (by omega)]; exact h2, sg 92 _ (by omega) h3⟩, ⟨by rw [e 9 (by omega)]; exact h4, sg 116 _ (by omega) h5⟩, fun s hs => by rw [e (10 + s) (by omega)]; exact h6 s hs, fun q hq => ⟨by rw [e (14 + q) (by omega)]; exact (h7 q hq).1, ?_⟩, fun w i hw' hi => by rw [e (140 + 6 * w + i) (by omega)]; exact h8 w i hw' hi⟩
  have lq := hw.2.1.2.2.1 q hq
  exact sg (20 + 12 * q) _ (by omega) (h7 q hq).2
/-- a valley on both sides: the class's at v, the model's block b -/
def LnR (σx σm : am_M) (v b : Nat) (V : Vt) : Prop :=
  (VG σx v V ∧ WG V ∧ MC (σm.1 128) (442 * b) V) ∧ (∃ Ns Nf : List (List Nat), Ns.length = vN V 1 ∧ Nf.length = vN V 5 ∧ okN Ns ∧ okN Nf ∧ NmX σx (v + 10) Ns ∧ NmX σx (v + 11) Nf ∧ NmM σm (10 * b) Ns ∧ NmM σm (10 * b + 4) Nf) ∧ PlanR σx σm v (442 * b) (vN V 5)
def TrR (σx σm : am_M) (j : Nat) : Prop := (σx.1 (64 + 2 * j) 1 = nI 0 ∧ σm.1 125 j = -nI 1) ∨ (∃ s m, s < 4 ∧ m ≤ 60 ∧ σx.1 (64 + 2 * j) 1 = nI 1 ∧ σx.1 (64 + 2 * j) 2 = nI s ∧ σx.1 (64 + 2 * j) 3 = nI m ∧ σm.1 124 j = nI s ∧ σm.1 125 j = nI m ∧ ∀ k, k < m → σx.2 (65 + 2 * j) k = σm.2 126 (60 * j + k))
def TpR (σx σm : am_M) : Prop := (∃ (n : Nat) (t : Nat → Nat), n ≤ 900 ∧ σx.1 0 5 = nI n ∧ σm.1 123 8 = nI n ∧ (∀ j, t j < 256) ∧ (∀ j, j < 900 → σx.1 2 j = bI (t j)) ∧ ∀ j, j < 900 → σm.1 127 j = bI (t j)) ∧ ∀ i, i < 23 → σx.2 4 i = lN (keyR 27 (KWs.getD i []))
def MkR (σx σm : am_M) : Prop := ∃ k, k ≤ 3 ∧ σx.1 0 12 = nI k ∧ σm.1 123 24 = nI k ∧ ∀ i, i < k → ∃ V, LnR σx σm (72 + 17 * i) (i + 1) V
def LvR (σx σm : am_M) : Prop := ∃ l : Bool, σx.1 0 15 = nI (b2 l) ∧ σm.1 123 41 = nI (b2 l) ∧ (l = true → ∃ c : Bool, σx.1 44 4 = σm.1 135 0 ∧ σx.1 44 5 = σm.1 135 1 ∧ σx.1 44 6 = σm.1 135 2 ∧ σx.1 44 7 = σm.1 135 3 ∧ σx.1 44 8 = nI (b2 c) ∧ σm.1 135 4 = nI (b2 c))
def FrR (σx σm : am_M) : Prop := σx.2 0 1 = σm.2 123 2 ∧ σx.2 0 2 = σm.2 123 3
def FlR (σx σm : am_M) : Prop := σx.1 3 10 = σm.1 123 10 ∧ σx.1 3 11 = σm.1 123 11
def InvV (σx σm : am_M) (V : Vt) : Prop := σx.1 0 0 = σm.1 123 0 ∧ FrR σx σm ∧ (∀ j, j < 4 → TrR σx σm j) ∧ TpR σx σm ∧ FlR σx σm ∧ LnR σx σm 9 0 V ∧ MkR σx σm ∧ LvR σx σm
def Inv (σx σm : am_M) : Prop := ∃ V, InvV σx σm V
def outX (σ τ : am_M) : Prop := ∀ j, 123 ≤ j → τ.1 j = σ.1 j ∧ τ.2 j = σ.2 j
def outM (σ τ : am_M) : Prop := ∀ j, j < 123 → τ.1 j = σ.1 j ∧ τ.2 j = σ.2 j
theorem outX_tr {a b c : am_M} (h : outX a b) (h' : outX b c) : outX a c := fun j hj => ⟨(h' j hj).1.trans (h j hj).1, (h' j hj).2.trans (h j hj).2⟩
theorem outM_tr {a b c : am_M} (h : outM a b) (h' : outM b c) : outM a c := fun j hj => ⟨(h' j hj).1.trans (h j hj).1, (h' j hj).2.trans (h j hj).2⟩
/-- a valley stays where its cells stay -/
theorem LnR_cg {σx σm τx τm : am_M} {v b : Nat} {V : Vt} (h : LnR σx σm v b V) (hx : ∀ j, v ≤ j → j ≤ v + 16 → τx.1 j = σx.1 j ∧ τx.2 j = σx.2 j) (hm : ∀ i, 442 * b ≤ i → i < 442 * b + 442 → τm.1 128 i = σm.1 128 i) (hn : ∀ i, 10 * b ≤ i → i < 10 * b + 10 → τm.2 131 i = σm.2 131 i) : LnR τx τm v b V := by
  obtain ⟨⟨h1, h2, h3⟩, ⟨Ns, Nf, n1, n2, n3, n4, n5, n6, n7, n8⟩, h4⟩ := h
  have w1 := h2.1.2.1
  have w5 := h2.1.2.2.2.2.2.1
  refine ⟨⟨VG_fr h1 (fun j p q => (hx j p q).1), h2, MC_cp h3 h2 (fun i hi => hm _ (by omega) (by omega))⟩, ⟨Ns, Nf, n1, n2, n3, n4, fun i r hr => ?_, fun i r hr => ?_, fun i r hr => ?_, fun i r hr => ?_⟩, PlanR_cg h4 ?_ ?_ ?_ ?_ ?_⟩
  · rw [(hx (v + 10) (by omega) (by omega)).2]; exact n5 i r hr
  · rw [(hx (v + 11) (by omega) (by omega)).2]; exact n6 i r hr
  · have := (List.getElem?_eq_some_iff.mp hr).1
    rw [hn _ (by omega) (by omega)]; exact n7 i r hr
  · have := (List.getElem?_eq_some_iff.mp hr).1
    rw [hn _ (by omega) (by omega)]; exact n8 i r hr
  · rw [(hx (v + 8) (by omega) (by omega)).1]
  · rw [(hx (v + 8) (by omega) (by omega)).1]
  · rw [(hx (v + 8) (by omega) (by omega)).1]
  · intro i hi; rw [(hx (v + 9) (by omega) (by omega)).1]
  · intro i p q; exact hm _ (by omega) (by omega)
theorem TrR_cg {σx σm τx τm : am_M} {j : Nat} (h : TrR σx σm j) (h1 : τx.1 (64 + 2 * j) = σx.1 (64 + 2 * j)) (h2 : τx.2 (65 + 2 * j) = σx.2 (65 + 2 * j)) (h3 : τm.1 124 j = σm.1 124 j) (h4 : τm.1 125 j = σm.1 125 j) (h5 : ∀ k, k < 60 → τm.2 126 (60 * j + k) = σm.2 126 (60 * j + k)) : TrR τx τm j := by
  rcases h with ⟨a, b⟩ | ⟨s, m, c1, c2, c3, c4, c5, c6, c7, c8⟩
  · exact Or.inl ⟨by rw [h1]; exact a, by rw [h4]; exact b⟩
  · exact Or.inr ⟨s, m, c1, c2, by rw [h1]; exact c3, by rw [h1]; exact c4, by rw [h1]; exact c5, by rw [h3]; exact c6, by rw [h4]; exact c7, fun k hk => by rw [h2, h5 k (by omega)]; exact c8 k hk⟩
theorem TpR_cg {σx σm τx τm : am_M} (h : TpR σx σm) (h0 : τx.1 0 5 = σx.1 0 5) (h2 : τx.1 2 = σx.1 2) (h4 : τx.2 4 = σx.2 4) (h8 : τm.1 123 8 = σm.1 123 8) (h127 : τm.1 127 = σm.1 127) : TpR τx τm := by
  obtain ⟨⟨n, t, a1, a2, a3, a4, a5, a6⟩, b⟩ := h
  exact ⟨⟨n, t, a1, by rw [h0]; exact a2, by rw [h8]; exact a3, a4, by rw [h2]; exact a5, by rw [h127]; exact a6⟩, by rw [h4]; exact b⟩
theorem MkR_cg {σx σm τx τm : am_M} (h : MkR σx σm) (h0 : τx.1 0 12 = σx.1 0 12) (h24 : τm.1 123 24 = σm.1 123 24) (hx : ∀ j, 72 ≤ j → j < 123 → τx.1 j = σx.1 j ∧ τx.2 j = σx.2 j) (hm : ∀ i, 442 ≤ i → i < 1768 → τm.1 128 i = σm.1 128 i) (hn : ∀ i, 10 ≤ i → i < 40 → τm.2 131 i = σm.2 131 i) : MkR τx τm := by
  obtain ⟨k, a1, a2, a3, a4⟩ := h
  refine ⟨k, a1, by rw [h0]; exact a2, by rw [h24]; exact a3, fun i hi => ?_⟩
  obtain ⟨V, hV⟩ := a4 i hi
  exact ⟨V, LnR_cg hV (fun j p q => hx j (by omega) (by omega)) (fun j p q => hm j (by omega) (by omega)) (fun j p q => hn j (by omega) (by omega))⟩
theorem LvR_cg {σx σm τx τm : am_M} (h : LvR σx σm) (h0 : τx.1 0 15 = σx.1 0 15) (h41 : τm.1 123 41 = σm.1 123 41) (h44 : τx.1 44 = σx.1 44) (h135 : τm.1 135 = σm.1 135) : LvR τx τm := by
  obtain ⟨l, a1, a2, a3⟩ := h
  exact ⟨l, by rw [h0]; exact a1, by rw [h41]; exact a2, by rw [h44, h135]; exact a3⟩
/-- the class's side alone, the model's side alone -/
theorem Inv_out {σx σm τx τm : am_M} (h : Inv σx σm) (hx : ∀ j, j < 123 → τx.1 j = σx.1 j ∧ τx.2 j = σx.2 j) (hm : ∀ j, 123 ≤ j → τm.1 j = σm.1 j ∧ τm.2 j = σm.2 j) : Inv τx τm := by
  obtain ⟨V, a1, a2, a3, a4, a5, a6, a7, a8⟩ := h
  refine ⟨V, ?_, ⟨?_, ?_⟩, fun j hj => TrR_cg (a3 j hj) (hx _ (by omega)).1 (hx _ (by omega)).2 ?_ ?_ ?_, TpR_cg a4 ?_ (hx 2 (by omega)).1 (hx 4 (by omega)).2 ?_ (hm 127 (by omega)).1, ⟨?_, ?_⟩, LnR_cg a6 (fun j p q => hx j (by omega)) (fun i _ _ => by rw [(hm 128 (by omega)).1]) (fun i _ _ => by rw [(hm 131 (by omega)).2]), MkR_cg a7 ?_ ?_ (fun j p q => hx j q) (fun i _ _ => by rw [(hm 128 (by omega)).1]) (fun i _ _ => by rw [(hm 131 (by omega)).2]), LvR_cg a8 ?_ ?_ (hx 44 (by omega)).1 (hm 135 (by omega)).1⟩
  · rw [(hx 0 (by omega)).1, (hm 123 (by omega)).1]; exact a1
  · rw [(hx 0 (by omega)).2, (hm 123 (by omega)).2]; exact a2.1
  · rw [(hx 0 (by omega)).2, (hm 123 (by omega)).2]; exact a2.2
  · rw [(hm 124 (by omega)).1]
  · rw [(hm 125 (by omega)).1]
  · intro k _; rw [(hm 126 (by omega)).2]
  · rw [(hx 0 (by omega)).1]
  · rw [(hm 123 (by omega)).1]
  · rw [(hx 3 (by omega)).1, (hm 123 (by omega)).1]; exact a5.1
  · rw [(hx 3 (by omega)).1, (hm 123 (by omega)).1]; exact a5.2
  · rw [(hx 0 (by omega)).1]
  · rw [(hm 123 (by omega)).1]
  · rw [(hx 0 (by omega)).1]
  · rw [(hm 123 (by omega)).1]
/-- what most calls leave as it was -/
def kpX (σ τ : am_M) : Prop := τ.2 = σ.2 ∧ (∀ j, (1 ≤ j ∧ j < 9) ∨ (17 ≤ j ∧ j ≤ 20) ∨ j = 43 ∨ j = 44 ∨ 64 ≤ j → τ.1 j = σ.1 j) ∧ ∀ i, i ≠ 0 → τ.1 0 i = σ.1 0 i
def kpM (σ τ : am_M) : Prop := τ.2 = σ.2 ∧ (∀ j, j < 123 ∨ (124 ≤ j ∧ j ≤ 127) ∨ j = 131 ∨ j = 135 → τ.1 j = σ.1 j) ∧ (∀ i, i = 8 ∨ i = 10 ∨ i = 11 ∨ i = 24 ∨ i = 41 → τ.1 123 i = σ.1 123 i) ∧ ∀ i, 170 ≤ i → τ.1 128 i = σ.1 128 i
theorem kpX_rf (σ : am_M) : kpX σ σ := ⟨rfl, fun _ _ => rfl, fun _ _ => rfl⟩
theorem kpM_rf (σ : am_M) : kpM σ σ := ⟨rfl, fun _ _ => rfl, fun _ _ => rfl, fun _ _ => rfl⟩
theorem kpX_tr {a b c : am_M} (h : kpX a b) (h' : kpX b c) : kpX a c := ⟨h'.1.trans h.1, fun j p => (h'.2.1 j p).trans (h.2.1 j p), fun i p => (h'.2.2 i p).trans (h.2.2 i p)⟩
theorem kpM_tr {a b c : am_M} (h : kpM a b) (h' : kpM b c) : kpM a c := ⟨h'.1.trans h.1, fun j p => (h'.2.1 j p).trans (h.2.1 j p), fun i p => (h'.2.2.1 i p).trans (h.2.2.1 i p), fun i p => (h'.2.2.2 i p).trans (h.2.2.2 i p)⟩
theorem kpX_s {a b : am_M} (h : kpX a b) (x : Int32) : kpX a (am_uI b 0 0 x) := ⟨h.1, fun j p => by rw [uI_n (by omega)]; exact h.2.1 j p, fun i p => by rw [uI_s, up_n p]; exact h.2.2 i p⟩
theorem kpM_s {a b : am_M} (h : kpM a b) (i : Nat) (x : Int32) (hi : i < 8 ∨ i = 9 ∨ (12 ≤ i ∧ i < 24) ∨ (25 ≤ i ∧ i < 41) ∨ 42 ≤ i) : kpM a (am_uI b 123 i x) := ⟨h.1, fun j p => by rw [uI_n (by omega)]; exact h.2.1 j p, fun k p => by rw [uI_s, up_n (by omega)]; exact h.2.2.1 k p, fun k p => by rw [uI_n (by omega)]; exact h.2.2.2 k p⟩
theorem kpX_o {a b : am_M} (h : kpX a b) : outX a b := fun j hj => ⟨h.2.1 j (by omega), by rw [h.1]⟩
theorem kpM_o {a b : am_M} (h : kpM a b) : outM a b := fun j hj => ⟨h.2.1 j (by omega), by rw [h.1]⟩
theorem Inv_land {σx σm τx τm : am_M} {V V' : Vt} (h : InvV σx σm V) (hx : kpX σx τx) (hm : kpM σm τm) (h0 : τx.1 0 0 = τm.1 123 0) (hV : VG τx 9 V') (hw : WG V') (hM : MC (τm.1 128) 0 V') (h1 : vN V' 1 = vN V 1) (h5 : vN V' 5 = vN V 5) : Inv τx τm := by
  obtain ⟨a1, a2, a3, a4, a5, ⟨-, ⟨Ns, Nf, n1, n2, n3, n4, n5, n6, n7, n8⟩, pl⟩, a7, a8⟩ := h
  have x2 := hx.1
  have m2 := hm.1
  refine ⟨V', h0, ⟨by rw [x2, m2]; exact a2.1, by rw [x2, m2]; exact a2.2⟩, fun j hj => TrR_cg (a3 j hj) (hx.2.1 _ (by omega)) (by rw [x2]) (by rw [hm.2.1 124 (by omega)]) (by rw [hm.2.1 125 (by omega)]) (fun k _ => by rw [m2]), TpR_cg a4 (hx.2.2 5 (by omega)) (hx.2.1 2 (by omega)) (by rw [x2]) (hm.2.2.1 8 (by omega)) (hm.2.1 127 (by omega)), ⟨by rw [hx.2.1 3 (by omega), hm.2.2.1 10 (by omega)]; exact a5.1, by rw [hx.2.1 3 (by omega), hm.2.2.1 11 (by omega)]; exact a5.2⟩, ⟨⟨hV, hw, hM⟩, ⟨Ns, Nf, by rw [h1]; exact n1, by rw [h5]; exact n2, n3, n4, fun i r hr => by rw [x2]; exact n5 i r hr, fun i r hr => by rw [x2]; exact n6 i r hr, fun i r hr => by rw [m2]; exact n7 i r hr, fun i r hr => by rw [m2]; exact n8 i r hr⟩, by rw [h5]; exact PlanR_cg pl (by rw [hx.2.1 17 (by omega)]) (by rw [hx.2.1 17 (by omega)]) (by rw [hx.2.1 17 (by omega)]) (fun i _ => by rw [hx.2.1 18 (by omega)]) (fun i p q => hm.2.2.2 _ (by omega))⟩, MkR_cg a7 (hx.2.2 12 (by omega)) (hm.2.2.1 24 (by omega)) (fun j p q => ⟨hx.2.1 j (by omega), by rw [x2]⟩) (fun i p q => hm.2.2.2 i (by omega)) (fun i p q => by rw [m2]), LvR_cg a8 (hx.2.2 15 (by omega)) (hm.2.2.1 41 (by omega)) (hx.2.1 44 (by omega)) (hm.2.1 135 (by omega))⟩
/-- one call on both sides -/
abbrev anI (r : Option Value) : Prop := ∃ x, r = some (.int x)
abbrev anL (r : Option Value) : Prop := ∃ x, r = some (.long x)
def CallP (P : Option Value → Prop) (F G : am_F) (a : List Value) (σx σm : am_M) : Prop := ∃ r τx τm, P r ∧ F (.ref 0 :: a) σx = some (r, τx) ∧ G (.ref 123 :: a) σm = some (r, τm) ∧ Inv τx τm ∧ outX σx τx ∧ outM σm τm
abbrev CallOk (F G : am_F) (a : List Value) (σx σm : am_M) : Prop := CallP anI F G a σx σm
abbrev CallOkL (F G : am_F) (a : List Value) (σx σm : am_M) : Prop := CallP anL F G a σx σm
theorem Call_land {P : Option Value → Prop} {F G : am_F} {a : List Value} {σx σm τx τm : am_M} {V V' : Vt} {r : Option Value} (h : InvV σx σm V) (e1 : F (.ref 0 :: a) σx = some (r, τx)) (e2 : G (.ref 123 :: a) σm = some (r, τm)) (hx : kpX σx τx) (hm : kpM σm τm) (h0 : τx.1 0 0 = τm.1 123 0) (hV : VG τx 9 V') (hw : WG V') (hM : MC (τm.1 128) 0 V') (h1 : vN V' 1 = vN V 1) (h5 : vN V' 5 = vN V 5) (hr : P r := by exact ⟨_, rfl⟩) : CallP P F G a σx σm :=
  ⟨r, τx, τm, hr, e1, e2, Inv_land h hx hm h0 hV hw hM h1 h5, kpX_o hx, kpM_o hm⟩
