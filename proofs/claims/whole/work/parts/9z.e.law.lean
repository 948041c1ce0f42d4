/-! the law, from its entry: two constructors, then the loop -/
theorem lw_ret1 {p : Program} {l : Launch} {e : Env} {s : State} {m : MethodId} {below : List Frame} {meth : Method} {c : Code} {b : Nat} {D : va_G} {cA : Nat → ClassId} {τ : am_M} (hx : p.tables.exec = Jvm.exec) (hb : c.code = code) (hr : meth.sig.returnType = ret) (hlocks : meth.locks = false) : am_Ret (lwG l D cA s.heap.size b) cL_law (some .boolean) p e room_1 s m #[Value.ref b] below meth c 136 9875 (lw_Z below #[Value.ref b] s) (some (.int 1), τ) := by
  intro pc H locs ls hP hS hrd
  have hd : decode code pc = .ok (.ireturn, 1) := hrd.1
  refine va_forget (fun q hq => hS.2.2 q hq) ?_
  refine W.widen (k := 600000) (n := 7302250) (by decide) (by decide) ?_
  exact lw_ret hx hb hr hlocks hd
theorem lw_lv {l : Launch} {D : va_G} {cA : Nat → ClassId} {n b : Nat} {ls : Array Slot} (hl : lv_has ls 4 [(2, .ref (n + 123)), (1, .ref n), (0, .ref b)]) : am_lv (lwG l D cA n b) ls 4 [some (.ref 999), some (.ref 0), some (.ref 123), none] := by
  refine ⟨hl.1, hl.2.1, fun i v h => ?_⟩
  match i, h with
  | 0, h => have h : some (Value.ref 999) = some v := h; cases h; exact hl.2.2 (0, .ref b) (by simp)
  | 1, h => have h : some (Value.ref 0) = some v := h; cases h; exact hl.2.2 (1, .ref n) (by simp)
  | 2, h => have h : some (Value.ref 123) = some v := h; cases h; exact hl.2.2 (2, .ref (n + 123)) (by simp)
  | 3, h => have h : (none : Option Value) = some v := h; cases h
  | i + 4, h => have h : (none : Option Value) = some v := h; cases h
theorem lw_16 {L : Nat} {xs : Nat → Int32} {B : Nat → am_K} {σ : am_M} : dn_L_law_16 L xs B [some (.ref 999), some (.ref 0), some (.ref 123), none] [] σ = dn_L_law_18 L xs B (lwv 0) [] σ := by
  unfold dn_L_law_16
  generalize dn_L_law_18 L xs B = k
  rfl
theorem lw_tail {p : Program} {e : Env} {s : State} {m : MethodId} {below : List Frame} {meth : Method} {c : Code} (l : Launch) {b L : Nat} {xs : Nat → Int32} (hL : L ≤ 3072) (C0 : lw_At p s m meth c b L xs) {D : va_G} {cA : Nat → ClassId} (hK : va_K D vwCl (am_ty (lwG l D cA s.heap.size b)) s) {H : Heap} {locs : List Loc} {ls : Array Slot} (hB : bw D s.heap.size (lwE (lwG l D cA s.heap.size b) s.heap.size) H) (hS : va_S (bA s.heap.size) s.heap H locs) (hl : lv_has ls 4 [(2, .ref (s.heap.size + 123)), (1, .ref s.heap.size), (0, .ref b)]) : W p l e room_1 s m #[Value.ref b] below meth c H locs 136 9875 (lw_Z below #[Value.ref b] s) (F0 m 16 ls []) := by
  obtain ⟨hx, hb, hr, hml, hown, hts, hX, hbl, hlocks, hgv⟩ := id C0
  have hT : ∀ w ∈ am_TB, w.before #[Value.ref b] s = true := fun w hw => hts w (List.mem_filter.mp hw).1
  obtain ⟨τ, hτ⟩ := lw_loop (xs := xs) hL L (i := 0) Inv_s0 (by omega) (by omega)
  rw [it_s, h_L_law_18] at hτ
  have hsw := sn_L_law_16 (L := L) (xs := xs) (am_it (hd_L_law L xs) L) (am_it_sw ht_L_law L)
  have hC : am_C (lwG l D cA s.heap.size b) (some (L, xs)) RL cL_law 4 28 p room_1 s m #[Value.ref b] c 136 9875 := ⟨hx, hb, hml, hown, hT, hK, lw_D l D cA s.heap.size b, by decide, by decide, by decide, by decide, ⟨b, hX, hbl, fun h => absurd hbl (Nat.not_lt.mpr h), rfl⟩, lw_nb hts⟩
  exact hsw (lwG l D cA s.heap.size b) p e room_1 s m #[Value.ref b] below meth c 136 9875 (lw_Z below #[Value.ref b] s) H locs ls [some (.ref 999), some (.ref 0), some (.ref 123), none] [] s0 (some (.int 1), τ) hC (lw_lv hl) (lw_Pw hB) hS (lw_16.trans hτ) (lw_ret1 hx hb hr hlocks)
set_option maxHeartbeats 4000000 in
set_option maxRecDepth 100000 in
theorem whole_start {p : Program} {e : Env} {s : State} {m : MethodId} {below : List Frame} {meth : Method} {c : Code} (l : Launch) {b L : Nat} {xs : Nat → Int32} (hL : L ≤ 3072) (C0 : lw_At p s m meth c b L xs) : W p l e room_1 s m #[Value.ref b] below meth c s.heap [] 0 0 (lw_Z below #[Value.ref b] s) (entryFrame m ([Value.ref b] : List Value).toArray 4) := by
  obtain ⟨hx, hb, hr, hml, hown, hts, hX, hbl, hlocks, hgv⟩ := id C0
  have hT : ∀ w ∈ am_TB, w.before #[Value.ref b] s = true := fun w hw => hts w (List.mem_filter.mp hw).1
  obtain ⟨D, cA, hK⟩ := lw_K l s.heap.size b hts
  obtain ⟨q, hq, hG⟩ := lw_sg hts hgv
  have hNb := lw_nb hts
  have hl := lv_entry ([.ref b]) (n := 4) (Nat.le_of_ble_eq_true rfl)
  rw [lg_entry_eq]
  generalize (lg_sl ([.ref b]) ++ List.replicate (4 - (lg_sl ([.ref b])).length) Slot.unset).toArray = ls at hl ⊢
  have hl : lv_has ls 4 [(0, .ref b)] := hl
  have hS : va_S (bA s.heap.size) s.heap s.heap [] := va_S.rf
  have hB : bw D s.heap.size [] s.heap := ⟨rfl, fun i x h => by simp at h⟩
  refine bw_new (g := lwG l D cA s.heap.size b) (own := RL) (C := RX10) (T := TX10) (N := 19) 10 (hx := hx) (hb := hb) hT tyX10 tyX10_ok hown wz_238 wz_239 wz_219 hK rfl hB hS [.int 0, .long 0, .long 0, .null, .null, .int 0, .null, .null, .null, .null, .null, .null, .int 0, .null, .null, .int 0, .null, .null, .null] (by decide) (Nat.le_of_ble_eq_true rfl) (Nat.le_of_ble_eq_true rfl) dL_law_0 (fun H hB hS => ?_)
  refine lv_dup hx hb dL_law_3 rfl ?_
  refine cx_call (g := lwG l D cA s.heap.size b) (M := []) hx hb hml hown hT hK hNb hG (Nat.le_of_eq hq) (cx_X10 _ q) (Or.inl wz_240) yz_X10 rfl wz_241 (Nat.le_of_ble_eq_true rfl) (Nat.le_of_ble_eq_true rfl) hB hS hl.1 (Nat.le_of_ble_eq_true rfl) (Nat.le_of_ble_eq_true rfl) (Nat.le_of_ble_eq_true rfl) dL_law_4 (fun H locs hB hS => ?_)
  have hB : bw D s.heap.size (EX10 (lwG l D cA s.heap.size b) s.heap.size) H := hB
  have e1 : (EX10 (lwG l D cA s.heap.size b) s.heap.size).length = 123 := rfl
  refine lv_astore_n (lv' := [(1, .ref s.heap.size), (0, .ref b)]) hx hb dL_law_7 rfl hl (by decide) rfl (fun ls hl => ?_)
  refine bw_new (g := lwG l D cA s.heap.size b) (own := RL) (C := RX11) (T := TX11) (N := 50) 11 (hx := hx) (hb := hb) hT tyX11 tyX11_ok hown wz_1550 wz_1551 wz_234 hK rfl hB hS [.int 0, .int 0, .long 0, .long 0, .null, .null, .null, .null, .int 0, .int 0, .int 0, .int 0, .int 0, .int 0, .int 0, .int 0, .int 0, .int 0, .int 0, .long 0, .null, .null, .null, .null, .int 0, .int 0, .int 0, .int 0, .int 0, .int 0, .null, .int 0, .null, .int 0, .int 0, .int 0, .int 0, .int 0, .null, .int 0, .null, .int 0, .int 0, .int 0, .int 0, .int 0, .int 0, .int 0, .int 0, .int 0] (by decide) (Nat.le_of_ble_eq_true rfl) (Nat.le_of_ble_eq_true rfl) dL_law_8 (fun H hB hS => ?_)
  refine lv_dup hx hb dL_law_11 rfl ?_
  refine bw_call (g := lwG l D cA s.heap.size b) (M := EX10 (lwG l D cA s.heap.size b) s.heap.size) hx hb hml hown hT hK hNb (ck_X11 _) (Or.inl wz_1552) yz_X11 rfl wz_1553 (Nat.le_of_ble_eq_true rfl) (Nat.le_of_ble_eq_true rfl) hB hS hl.1 (Nat.le_of_ble_eq_true rfl) (Nat.le_of_ble_eq_true rfl) (Nat.le_of_ble_eq_true rfl) dL_law_12 (fun H locs hB hS => ?_)
  rw [e1] at hB ⊢
  refine lv_astore_n (lv' := [(2, .ref (s.heap.size + 123)), (1, .ref s.heap.size), (0, .ref b)]) hx hb dL_law_15 rfl hl (by decide) rfl (fun ls hl => ?_)
  exact lw_tail l hL C0 hK hB hS hl
