/-! constructors: a block of cells that grows at the heap's end; the object is its first cell -/
def bw (D : va_G) (h0 : Nat) (L : List va_E) (H : Heap) : Prop := H.size = h0 + L.length ∧ ∀ (i : Nat) (e : va_E), L[i]? = some e → va_at D vwCl (h0 + i, e) H
abbrev bA (h0 : Nat) : Nat → Prop := fun q => h0 ≤ q
theorem at_kept {D : va_G} {x : Nat × va_E} {H H1 : Heap} (h : va_at D vwCl x H) (e : H1[x.1]? = H[x.1]?) : va_at D vwCl x H1 := by
  have hp : va_P D vwCl [x] H := fun k q hq => by
    match k, hq with
    | 0, hq => cases hq; exact h
    | k + 1, hq => simp at hq
  refine hp.kept (fun k q hq => ?_) 0 x rfl
  match k, hq with
  | 0, hq => cases hq; exact e
  | k + 1, hq => simp at hq
theorem bw_push {D : va_G} {h0 : Nat} {L : List va_E} {H H1 : Heap} {x : va_E} (h : bw D h0 L H) (z : H1.size = h0 + L.length + 1) (o : ∀ q : Nat, q < h0 + L.length → H1[q]? = H[q]?) (hx : va_at D vwCl (h0 + L.length, x) H1) : bw D h0 (L ++ [x]) H1 := by
  refine ⟨by rw [z, List.length_append]; rfl, fun i e hi => ?_⟩
  by_cases p : i < L.length
  · rw [List.getElem?_append_left p] at hi
    exact at_kept (h.2 i e hi) (o _ (by show h0 + i < _; omega))
  · rw [List.getElem?_append_right (by omega)] at hi
    have q : i - L.length < 1 := (List.getElem?_eq_some_iff.mp hi).1
    rw [show i - L.length = 0 by omega] at hi
    cases hi
    rw [show i = L.length by omega]
    exact hx
theorem bw_set {D : va_G} {h0 : Nat} {L : List va_E} {H H1 : Heap} {i : Nat} {x : va_E} (h : bw D h0 L H) (hi : i < L.length) (z : H1.size = H.size) (o : ∀ q : Nat, q ≠ h0 + i → H1[q]? = H[q]?) (hx : va_at D vwCl (h0 + i, x) H1) : bw D h0 (L.set i x) H1 := by
  refine ⟨by rw [z, h.1, List.length_set], fun j e hj => ?_⟩
  by_cases p : j = i
  · subst p
    rw [List.getElem?_set_self hi] at hj
    cases hj
    exact hx
  · rw [List.getElem?_set_ne (Ne.symm p)] at hj
    exact at_kept (h.2 j e hj) (o _ (by show h0 + j ≠ h0 + i; omega))
theorem bS_push {s : State} {h0 n : Nat} {H H1 : Heap} {locs : List Loc} (h : va_S (bA h0) s.heap H locs) (hn : H.size = h0 + n) (z : H1.size = h0 + n + 1) (o : ∀ q : Nat, q < h0 + n → H1[q]? = H[q]?) : va_S (bA h0) s.heap H1 locs :=
  ⟨Nat.le_trans h.1 (by omega), fun q h1 h2 => (o q (by have := h.1; omega)).trans (h.2.1 q h1 h2), h.2.2⟩
theorem bw_newa {g : am_G} {p : Program} {e : Env} {R : Room} {s : State} {m : MethodId} {args : Array Value} {below : List Frame} {meth : Method} {c : Code} {H : Heap} {locs : List Loc} {cells slots : Nat} {Q : State → Prop} {cc : ByteArray} {pc : Nat} {ls : Array Slot} {rest : List Value} (hx : p.tables.exec = Jvm.exec) (hb : c.code = cc) {atype : ArrayType} (harr : (Cond.arrayClass (newarray.typeOf atype)).before args s = true) (hK : va_K (am_D g) vwCl (am_ty g) s) (t : Nat) {cA : ClassId} (ht : (am_ty g)[t]? = some (cA, newarray.typeOf atype)) {h0 : Nat} {L : List va_E} (hB : bw (am_D g) h0 L H) (hS : va_S (bA h0) s.heap H locs)
    {n : Int32} {N : Nat} (a0 : vp_A) (ha : ∀ cA : ClassId, vp_cell cA a0 = arrV cA N (fun _ => defaultValue (newarray.typeOf atype))) (hn : ¬ n < 0) (hN : n.toNatClampNeg = N) (hbytes : N * componentBytes (newarray.typeOf atype) ≤ 536870912) (hcells : cells + 1 ≤ R.cells) (hslots : slots + N ≤ R.slots) (hd : decode cc pc = .ok (.newarray atype, 2))
    (kk : ∀ H1 : Heap, bw (am_D g) h0 (L ++ [.inl (cA, a0)]) H1 → va_S (bA h0) s.heap H1 locs → W p g.1 e R s m args below meth c H1 locs (cells + 1) (slots + N) Q (F0 m (pc + 2) ls (.ref (h0 + L.length) :: rest))) : W p g.1 e R s m args below meth c H locs cells slots Q (F0 m pc ls (.int n :: rest)) := by
  refine va_newaK hx hb harr rfl hd rfl hn hN hbytes hcells hslots hB.1 fun H1 cA' e1 z1 o1 hAr hNm => ?_
  have hc : cA' = cA := by
    have h2 := (hK.2 t _ ht).2
    have h3 : s.vm.findClass ("[" ++ (newarray.typeOf atype).toString) = some cA := by
      revert h2
      cases atype <;> exact id
    exact Option.some.inj (hNm.symm.trans h3)
  subst hc
  exact kk H1 (bw_push hB z1 o1 (by show H1[_]? = some (vp_cell _ _); rw [ha]; exact e1)) (bS_push hS hB.1 z1 o1)
theorem bw_new {g : am_G} {p : Program} {e : Env} {R : Room} {s : State} {m : MethodId} {args : Array Value} {below : List Frame} {meth : Method} {c : Code} {H : Heap} {locs : List Loc} {cells slots : Nat} {Q : State → Prop} {cc : ByteArray} {pc : Nat} {ls : Array Slot} {rest : List Value} (hx : p.tables.exec = Jvm.exec) (hb : c.code = cc) {own C : String} {T : u_T} {N index : Nat} (ci : Nat) (hts : ∀ w ∈ am_TB, w.before args s = true) (ty : Nat → FieldType) (hty : ∀ k, k < N → parseFieldDescriptor (T k).2.2.1 = some (ty k)) (hown : s.vm.findClass own = some m.cls) (hcl : Cond.classLink own index C ∈ am_TB) (hinst : Cond.instantiable C N ∈ am_TB) (hini : Cond.initialized C ∈ am_TB) (hK : va_K (am_D g) vwCl (am_ty g) s) (hc : vwCl[ci]? = some (C, T, N)) {h0 : Nat} {L : List va_E} (hB : bw (am_D g) h0 L H) (hS : va_S (bA h0) s.heap H locs)
    (fs : List Value) (hfs : ∀ j, j < N → defaultValue (ty j) = vp_V fs j) (hcells : cells + 1 ≤ R.cells) (hslots : slots + N ≤ R.slots) (hd : decode cc pc = .ok (.new index, 3))
    (kk : ∀ H1 : Heap, bw (am_D g) h0 (L ++ [.inr (ci, fs)]) H1 → va_S (bA h0) s.heap H1 locs → W p g.1 e R s m args below meth c H1 locs (cells + 1) (slots + N) Q (F0 m (pc + 3) ls (.ref (h0 + L.length) :: rest))) : W p g.1 e R s m args below meth c H locs cells slots Q (F0 m pc ls rest) := by
  have hKn := hK.1 ci _ hc
  refine W.newcK hx hb hown (hts _ hcl) (hts _ hinst) (hts _ hini) rfl hd hcells hslots hKn.2.1 hB.1 fun H1 kC hkC e1 z1 o1 => ?_
  exact kk H1 (bw_push hB z1 o1 ⟨_, hc, (u_born ty hts (am_cls hc).2.1 hKn hkC e1 hty).to hfs⟩) (bS_push hS hB.1 z1 o1)
