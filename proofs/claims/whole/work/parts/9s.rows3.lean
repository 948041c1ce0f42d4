theorem bw_P0 {D : va_G} {h0 : Nat} {e : va_E} {M : List va_E} {H : Heap} (h : bw D h0 (e :: M) H) : va_P D vwCl [(h0, e)] H := fun k q hq => by
  match k, hq with
  | 0, hq => cases hq; exact h.2 0 e rfl
  | k + 1, hq => simp at hq
theorem bw_lt {D : va_G} {h0 : Nat} {L : List va_E} {i : Nat} {x : va_E} (h : L[i]? = some x) : i < L.length := (List.getElem?_eq_some_iff.mp h).1
theorem bw_get {g : am_G} {p : Program} {e : Env} {R : Room} {s : State} {m : MethodId} {args : Array Value} {below : List Frame} {meth : Method} {c : Code} {H : Heap} {locs : List Loc} {cells slots : Nat} {Q : State → Prop} {cc : ByteArray} {pc : Nat} {ls : Array Slot} {rest : List Value} (hx : p.tables.exec = Jvm.exec) (hb : c.code = cc) {own : String} {T : u_T} {N index : Nat} (ci : Nat) (hts : ∀ w ∈ am_TB, w.before args s = true) (hown : s.vm.findClass own = some m.cls) (hK : va_K (am_D g) vwCl (am_ty g) s) (hc : vwCl[ci]? = some (own, T, N)) {h0 : Nat} {fs : List Value} {M : List va_E} (hB : bw (am_D g) h0 (.inr (ci, fs) :: M) H)
    (k : Nat) (hk : k < N) (hlink : Cond.fieldLink own index (T k).1 (T k).2.1 (T k).2.2.1 ∈ am_TB) {v : Value} (hv : fs[k]? = some v) (hd : decode cc pc = .ok (.getfield index, 3)) (kk : W p g.1 e R s m args below meth c H locs cells slots Q (F0 m (pc + 3) ls (v :: rest))) : W p g.1 e R s m args below meth c H locs cells slots Q (F0 m pc ls (.ref h0 :: rest)) :=
  va_get hx hb hts (am_cls hc).2.1 hown hK (bw_P0 hB) 0 rfl hc k hk (hts _ hlink) (fun _ h9 => h9) hv hd kk
theorem bw_iast {g : am_G} {p : Program} {e : Env} {R : Room} {s : State} {m : MethodId} {args : Array Value} {below : List Frame} {meth : Method} {c : Code} {H : Heap} {locs : List Loc} {cells slots : Nat} {Q : State → Prop} {cc : ByteArray} {pc : Nat} {ls : Array Slot} {rest : List Value} (hx : p.tables.exec = Jvm.exec) (hb : c.code = cc) (hK : va_K (am_D g) vwCl (am_ty g) s) {h0 n : Nat} (i : Nat) {L : List va_E} {f : Nat → Int32} (hB : bw (am_D g) h0 L H) (hS : va_S (bA h0) s.heap H locs) (ha : L[i]? = some (.inl (am_cA g 0, n, .inl f))) {j x : Int32} (hin : vp_in j n) (hd : decode cc pc = .ok (.iastore, 1))
    (kk : ∀ (H1 : Heap) (locs1 : List Loc), bw (am_D g) h0 (L.set i (.inl (am_cA g 0, n, .inl (upd f j.toNatClampNeg x)))) H1 → va_S (bA h0) s.heap H1 locs1 → W p g.1 e R s m args below meth c H1 locs1 cells slots Q (F0 m (pc + 1) ls rest)) : W p g.1 e R s m args below meth c H locs cells slots Q (F0 m pc ls (.int x :: .int j :: .ref (h0 + i) :: rest)) := by
  refine W.iast hx hb (hB.2 i _ ha) ((hK.2 0 _ rfl).1 n (fun j => .int (f j))) (fun q => by cases q) (by show ¬ (j < 0 ∨ (arrV _ _ _).slots.size ≤ _); rw [arrV_size]; exact hin) rfl rfl hd fun H1 e z oq => ?_
  refine kk H1 _ (bw_set hB (bw_lt (D := am_D g) (h0 := h0) ha) z oq ?_) (hS.put z oq (Nat.le_add_right _ _))
  show H1[h0 + i]? = some (vp_cell _ _)
  rw [e]
  rw [vp_cell_i, vp_cell_i, arrV_store]
  congr 2
  funext q
  by_cases hq : q = j.toNatClampNeg
  · subst hq
    simp [updV, upd]
  · simp [updV, upd, hq]
theorem bw_last {g : am_G} {p : Program} {e : Env} {R : Room} {s : State} {m : MethodId} {args : Array Value} {below : List Frame} {meth : Method} {c : Code} {H : Heap} {locs : List Loc} {cells slots : Nat} {Q : State → Prop} {cc : ByteArray} {pc : Nat} {ls : Array Slot} {rest : List Value} (hx : p.tables.exec = Jvm.exec) (hb : c.code = cc) (hK : va_K (am_D g) vwCl (am_ty g) s) {h0 n : Nat} (i : Nat) {L : List va_E} {f : Nat → Int64} (hB : bw (am_D g) h0 L H) (hS : va_S (bA h0) s.heap H locs) (ha : L[i]? = some (.inl (am_cA g 1, n, .inr (.inl f)))) {j : Int32} {x : Int64} (hin : vp_in j n) (hd : decode cc pc = .ok (.lastore, 1))
    (kk : ∀ (H1 : Heap) (locs1 : List Loc), bw (am_D g) h0 (L.set i (.inl (am_cA g 1, n, .inr (.inl (vp_updL f j.toNatClampNeg x))))) H1 → va_S (bA h0) s.heap H1 locs1 → W p g.1 e R s m args below meth c H1 locs1 cells slots Q (F0 m (pc + 1) ls rest)) : W p g.1 e R s m args below meth c H locs cells slots Q (F0 m pc ls (.long x :: .int j :: .ref (h0 + i) :: rest)) := by
  refine W.last hx hb (hB.2 i _ ha) ((hK.2 1 _ rfl).1 n (fun j => .long (f j))) (fun q => by cases q) (by show ¬ (j < 0 ∨ (arrV _ _ _).slots.size ≤ _); rw [arrV_size]; exact hin) rfl rfl hd fun H1 e z oq => ?_
  refine kk H1 _ (bw_set hB (bw_lt (D := am_D g) (h0 := h0) ha) z oq ?_) (hS.put z oq (Nat.le_add_right _ _))
  show H1[h0 + i]? = some (vp_cell _ _)
  rw [e]
  rw [vp_cell_l, vp_cell_l, arrV_store]
  congr 2
  funext q
  by_cases hq : q = j.toNatClampNeg
  · subst hq
    simp [updV, vp_updL]
  · simp [updV, vp_updL, hq]
theorem bw_aast {g : am_G} {p : Program} {e : Env} {R : Room} {s : State} {m : MethodId} {args : Array Value} {below : List Frame} {meth : Method} {c : Code} {H : Heap} {locs : List Loc} {cells slots : Nat} {Q : State → Prop} {cc : ByteArray} {pc : Nat} {ls : Array Slot} {rest : List Value} (hx : p.tables.exec = Jvm.exec) (hb : c.code = cc) (hK : va_K (am_D g) vwCl (am_ty g) s) {h0 n : Nat} (t i k ci : Nat) {r : vw_C} {cA : ClassId} {L : List va_E} {f : Nat → Option Nat} {vs : List Value} (ht : (am_ty g)[t]? = some (cA, .object r.1)) (hB : bw (am_D g) h0 L H) (hS : va_S (bA h0) s.heap H locs) (ha : L[i]? = some (.inl (cA, n, .inr (.inr (.inr (.inr f)))))) (hv : L[k]? = some (.inr (ci, vs))) (hc : vwCl[ci]? = some r) {j : Int32} (hin : vp_in j n) (hd : decode cc pc = .ok (.aastore, 1))
    (kk : ∀ (H1 : Heap) (locs1 : List Loc), bw (am_D g) h0 (L.set i (.inl (cA, n, .inr (.inr (.inr (.inr (va_up f j.toNatClampNeg (some (h0 + k))))))))) H1 → va_S (bA h0) s.heap H1 locs1 → W p g.1 e R s m args below meth c H1 locs1 cells slots Q (F0 m (pc + 1) ls rest)) : W p g.1 e R s m args below meth c H locs cells slots Q (F0 m pc ls (.ref (h0 + k) :: .int j :: .ref (h0 + i) :: rest)) := by
  have hlt : j.toNatClampNeg < n := Nat.not_le.mp fun q => hin (Or.inr q)
  have h0' : ¬ j < 0 := fun q => hin (Or.inl q)
  obtain ⟨r', hr', cellV, g1, g2, g3, -⟩ := hB.2 k _ hv
  have hcls := (hK.1 ci r hc).2
  obtain ⟨kA, comp, k1, k2, k3, -⟩ := (hK.2 t _ ht).2
  have hcomp : comp = (am_D g).1 ci := Option.some.inj (k3.symm.trans hcls.1)
  subst hcomp
  obtain ⟨kC, hkC, -⟩ := hcls.2
  refine W.aast hx hb (hB.2 i _ ha) (fun q h => by cases h) (fun h => by cases h) k1 k2 rfl hkC ⟨h0', by show _ < (arrV _ _ _).slots.size; rw [arrV_size]; exact hlt⟩ g1 (fun q h => by rw [g3] at h; cases h) (by rw [g2]; exact hkC) (by rw [g2]; exact va_assign hcls) rfl rfl hd fun H1 e z oq => ?_
  refine kk H1 _ (bw_set hB (bw_lt (D := am_D g) (h0 := h0) ha) z oq ?_) (hS.put z oq (Nat.le_add_right _ _))
  show H1[h0 + i]? = some (vp_cell _ _)
  rw [e]
  rw [vp_cell_q, vp_cell_q, arrV_store]
  congr 2
  funext q
  by_cases hq : q = j.toNatClampNeg
  · subst hq
    simp [updV, va_up, va_rf]
  · simp [updV, va_up, hq]
theorem bw_newq {g : am_G} {p : Program} {e : Env} {R : Room} {s : State} {m : MethodId} {args : Array Value} {below : List Frame} {meth : Method} {c : Code} {H : Heap} {locs : List Loc} {cells slots : Nat} {Q : State → Prop} {cc : ByteArray} {pc : Nat} {ls : Array Slot} {rest : List Value} (hx : p.tables.exec = Jvm.exec) (hb : c.code = cc) {own C : String} {index : Nat} (hts : ∀ w ∈ am_TB, w.before args s = true) (hown : s.vm.findClass own = some m.cls) (hcl : Cond.classLink own index C ∈ am_TB) (hover : (Cond.arrayOver (.object C)).before args s = true) (hK : va_K (am_D g) vwCl (am_ty g) s) (t : Nat) {cA : ClassId} (ht : (am_ty g)[t]? = some (cA, .object C)) {h0 : Nat} {L : List va_E} (hB : bw (am_D g) h0 L H) (hS : va_S (bA h0) s.heap H locs)
    {n : Int32} {N : Nat} (hn : ¬ n < 0) (hN : n.toNatClampNeg = N) (hbytes : N * 4 ≤ 536870912) (hcells : cells + 1 ≤ R.cells) (hslots : slots + N ≤ R.slots) (hd : decode cc pc = .ok (.anewarray index, 3))
    (kk : ∀ H1 : Heap, bw (am_D g) h0 (L ++ [.inl (cA, N, .inr (.inr (.inr (.inr (fun _ => none)))))]) H1 → va_S (bA h0) s.heap H1 locs → W p g.1 e R s m args below meth c H1 locs (cells + 1) (slots + N) Q (F0 m (pc + 3) ls (.ref (h0 + L.length) :: rest))) : W p g.1 e R s m args below meth c H locs cells slots Q (F0 m pc ls (.int n :: rest)) := by
  subst hN
  refine W.anew hx hb hown (hts _ hcl) hover rfl hd rfl hn hbytes hcells hslots fun cA' kA comp f1 f2 f3 f4 => ?_
  have hc : cA' = cA := by
    obtain ⟨-, -, -, -, -, h3⟩ := (hK.2 t _ ht).2
    exact Option.some.inj (f1.symm.trans h3)
  subst hc
  generalize hH1 : H.push ({ cls := cA', slots := Array.replicate n.toNatClampNeg .null, vm := .none } : Cell) = H1
  have z1 : H1.size = h0 + L.length + 1 := by rw [← hH1, Array.size_push, hB.1]
  have e1 : H1[h0 + L.length]? = some (arrV cA' n.toNatClampNeg (fun _ => .null)) := by rw [← hH1, ← hB.1, Array.getElem?_push_size, ← arrV_new]
  have o1 : ∀ q : Nat, q < h0 + L.length → H1[q]? = H[q]? := fun q hq => by rw [← hH1, Array.getElem?_push, if_neg (by rw [hB.1]; omega)]
  have := kk H1 (bw_push hB z1 o1 (by show H1[_]? = some (vp_cell _ _); rw [vp_cell_q]; exact e1)) (bS_push hS hB.1 z1 o1)
  rw [hB.1]
  exact this
