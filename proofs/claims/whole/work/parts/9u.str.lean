/-! the string constant of Reader(), its cells and the JDK's statics that its members ask -/
abbrev gS : Type := Nat × Nat × Nat × Value
abbrev sgT : String := "ranks suit red law redeals row stock field of dries water high day move deal run any when home stuck loop end stop "
def sgL : List Int32 := [114, 97, 110, 107, 115, 32, 115, 117, 105, 116, 32, 114, 101, 100, 32, 108, 97, 119, 32, 114, 101, 100, 101, 97, 108, 115, 32, 114, 111, 119, 32, 115, 116, 111, 99, 107, 32, 102, 105, 101, 108, 100, 32, 111, 102, 32, 100, 114, 105, 101, 115, 32, 119, 97, 116, 101, 114, 32, 104, 105, 103, 104, 32, 100, 97, 121, 32, 109, 111, 118, 101, 32, 100, 101, 97, 108, 32, 114, 117, 110, 32, 97, 110, 121, 32, 119, 104, 101, 110, 32, 104, 111, 109, 101, 32, 115, 116, 117, 99, 107, 32, 108, 111, 111, 112, 32, 101, 110, 100, 32, 115, 116, 111, 112, 32]
def sgB (j : Nat) : Int32 := sgL.getD j 0
def sg (q : gS) (U : State) : Prop := (q.2.2.2 = .null ∨ ∃ a : Nat, q.2.2.2 = .ref a) ∧ vk_R RX3 26 sgT q.2.1 U ∧ va_AO RX7 U ∧ va_AO RX8 U ∧ va_O "java/lang/String" q.2.1 (bA q.1) U U.heap ∧ va_OF "java/lang/String" "coder" "B" (.int 0) q.2.1 (bA q.1) U U.heap ∧ va_OF "java/lang/String" "value" "[B" (.ref q.2.2.1) q.2.1 (bA q.1) U U.heap ∧ va_T .byte q.2.2.1 115 (fun j => .int (sgB j)) (bA q.1) U U.heap ∧ va_Z "java/lang/String" "COMPACT_STRINGS" "Z" (.int 1) (bA q.1) U U.heap ∧ va_Z "jdk/internal/util/Preconditions" "SIOOBE_FORMATTER" "Ljava/util/function/BiFunction;" q.2.2.2 (bA q.1) U U.heap
theorem sg_kept {q : gS} {s U : State} (h : sg q s) (hW : s.WarmedH U.vm) (hk : ∀ a : Nat, a < s.heap.size → ¬ bA q.1 a → U.heap[a]? = s.heap[a]?) : sg q U := by
  obtain ⟨h1, h2, h3, h4, h5, h6, h7, h8, h9, h10⟩ := h
  exact ⟨h1, vk_R.warm hW h2, va_AO.moved hW.alike h3, va_AO.moved hW.alike h4, (va_O.moved hW.alike h5).kept hk, (va_OF.moved hW.alike h6).kept hk, (va_OF.moved hW.alike h7).kept hk, (va_T.moved hW.alike h8).kept hk, (va_Z.moved hW.alike h9).kept hk, (va_Z.moved hW.alike h10).kept hk⟩
theorem sg_at {q : gS} {s U : State} {H : Heap} {locs : List Loc} {h0 : Nat} (h : sg q s) (hU : U.heap = H) (hW : s.WarmedH U.vm) (hS : va_S (bA h0) s.heap H locs) (hb : q.1 ≤ h0) : sg q U :=
  sg_kept h hW (fun a h1 h2 => by rw [hU]; exact hS.2.1 a h1 (fun h3 => h2 (Nat.le_trans hb h3)))
theorem sg_same {q : gS} {u U : State} (h : sg q u) (hv : U.vm = u.vm) (hh : U.heap = u.heap) : sg q U := by
  obtain ⟨h1, h2, h3, h4, h5, h6, h7, h8, h9, h10⟩ := h
  have al : u.vm.Alike U.vm := by rw [hv]; exact Vm.Alike.refl u.vm
  refine ⟨h1, vk_R.same hv h2, va_AO.moved al h3, va_AO.moved al h4, ?_, ?_, ?_, ?_, ?_, ?_⟩ <;> rw [hh]
  · exact va_O.moved al h5
  · exact va_OF.moved al h6
  · exact va_OF.moved al h7
  · exact va_T.moved al h8
  · exact va_Z.moved al h9
  · exact va_Z.moved al h10
def jm_Pc (q : gS) (vs : List Value) : Array Value → State → Prop := va_Pc vs (fun U => sg q U)
def jm_Qc (v : Option Value) : Array Value → State → Outcome → State → Prop := fun _ st o t => o = .returned v ∧ t.heap = st.heap
def jm_Met (l : Launch) (q : gS) (y : MethodName) (cc : ByteArray) (nL : Nat) (ret : Option FieldType) (rd : Nat) (vs : List Value) (v : Option Value) : Prop := Met l y (Cond.code y cc nL ret :: am_TB) (am_rm rd) (jm_Pc q vs) (jm_Qc v) 0 0 (fun _ => False)
theorem jm_blind (q : gS) (vs : List Value) : FrameBlind (jm_Pc q vs) := by
  intro a U fr mk h
  exact ⟨h.1, sg_same (u := U) (U := U.calling fr mk a) h.2 rfl rfl⟩
theorem jm_of {l : Launch} {q : gS} {y : MethodName} {cc : ByteArray} {nL : Nat} {ret : Option FieldType} {rd : Nat} {vs : List Value} {v : Option Value} (hy : plainName y.cls = true) (hn : (lg_sl vs).length ≤ nL)
    (H : ∀ (p : Program) (e : Env) (s : State) (m : MethodId) (below : List Frame) (meth : Method) (c : Code) (ls : Array Slot), p.tables.exec = Jvm.exec → c.code = cc → c.maxLocals = nL → s.vm.findClass y.cls = some m.cls → (∀ w ∈ am_TB, w.before vs.toArray s = true) → meth.locks = false → meth.sig.returnType = ret → sg q s → lv_has ls nL (lv_args 0 vs) → W p l e (am_rm rd) s m vs.toArray below meth c s.heap [] 0 0 (MQ below (jm_Qc v) vs.toArray s 0 0 (fun _ => False)) (F0 m 0 ls [])) : jm_Met l q y cc nL ret rd vs v := by
  refine Met.ofW (cc := cc) (maxL := nL) (ret := ret) hy rfl ?_
  intro p e s m args below meth c s₁ B hml hv
  obtain ⟨rfl, hG⟩ := hv
  have hts := atoms_spec (ws := Cond.code y cc nL ret :: am_TB) B.pre
  have hl := lv_entry vs (n := nL) hn
  rw [lg_entry_eq]
  generalize (lg_sl vs ++ List.replicate (nL - (lg_sl vs).length) Slot.unset).toArray = ls at hl ⊢
  exact H p e s m below meth c ls B.exec B.bytes hml (findClass_of_methodNamed B.named) (fun w hw => hts w (List.mem_cons_of_mem _ hw)) B.notSynchronized B.returns hG hl
theorem jm_goes {p : Program} {l : Launch} {e : Env} {R : Room} {s : State} {m : MethodId} {args : Array Value} {below : List Frame} {meth : Method} {c : Code} {H : Heap} {locs : List Loc} {cells slots : Nat} {Q : State → Prop} {pc : Nat} {ls : Array Slot} {st0 rest : List Value} {v : Option Value} {a : Array Value} (hr : va_Run p l e R s m args below meth c H locs cells slots 0 0 (F0 m pc ls st0) rest (jm_Qc v a) (fun _ => False)) (kk : W p l e R s m args below meth c H locs cells slots Q (F0 m (pc + 3) ls (v.toList ++ rest))) : W p l e R s m args below meth c H locs cells slots Q (F0 m pc ls st0) := by
  intro T hT X
  obtain ⟨v', st₀, t, T', L, h0, X', hL, e1, e2, ⟨hv, hh⟩, st⟩ := hr T hT X
  cases hv
  have hLn : L = [] := List.eq_nil_iff_forall_not_mem.mpr (fun q hq => hL q hq)
  subst hLn
  rw [List.append_nil] at X'
  obtain ⟨t2, a1, b1⟩ := kk T' (by rw [e1, hh, h0]) X'
  exact ⟨t2, st t2 a1, b1⟩
theorem jm_words {s : State} {args : Array Value} {y : MethodName} {cc : ByteArray} {nL : Nat} {ret : Option FieldType} (hts : ∀ w ∈ am_TB, w.before args s = true) (hcode : Cond.code y cc nL ret ∈ am_TB) : ∀ w ∈ (Cond.code y cc nL ret :: am_TB), ∀ (a' : Array Value) (U : State), s.WarmedH U.vm → w.before a' U = true := by
  intro w hw a' U hW
  have hw' : w ∈ am_TB := by
    rcases List.mem_cons.mp hw with h | h
    · rw [h]; exact hcode
    · exact h
  exact word_at hW (am_good hw') (hts w hw')
theorem jm_callS {p : Program} {l : Launch} {e : Env} {R : Room} {s : State} {m : MethodId} {args : Array Value} {below : List Frame} {meth : Method} {c : Code} {H : Heap} {locs : List Loc} {cells slots : Nat} {Q : State → Prop} {cc : ByteArray} {pc : Nat} {ls : Array Slot} {rest : List Value} {own : String} {nL idx nL' rd n : Nat} {y : MethodName} {cc' : ByteArray} {ret' : Option FieldType} {q : gS} {As : List Value} {v : Option Value} {h0 : Nat}
    (hM : jm_Met l q y cc' nL' ret' rd As v) (hx : p.tables.exec = Jvm.exec) (hb : c.code = cc) (hml : c.maxLocals = nL) (hown : s.vm.findClass own = some m.cls) (hts : ∀ w ∈ am_TB, w.before args s = true) (hG : sg q s) (hS : va_S (bA h0) s.heap H locs) (hb0 : q.1 ≤ h0) (hlk : Cond.methodLink own idx y ∈ am_TB) (hY : am_Y y cc' nL' ret' n) (hI : Cond.static y ∈ am_TB) (hfr : rd + 1 ≤ R.frames) (hlo : 40 * (rd + 1) ≤ R.locals) (hn : As.length = n) (hl : ls.size = nL) (hrest : (rest.map fun v => v.category).sum ≤ 8) (hcells : cells + 0 ≤ R.cells) (hslots : slots + 0 ≤ R.slots) (hd : decode cc pc = .ok (.invokestatic idx, 3))
    (kk : W p l e R s m args below meth c H locs cells slots Q (F0 m (pc + 3) ls (v.toList ++ rest))) : W p l e R s m args below meth c H locs cells slots Q (F0 m pc ls (As.reverse ++ rest)) := by
  obtain ⟨hcode, hini, hnc, hsig, h21⟩ := hY
  have hsg : ∀ sig, parseMethodDescriptor y.desc = some sig → n = sig.parameters.length := by
    intro sig h
    rw [h] at hsig
    exact (Option.some.inj hsig).symm
  exact jm_goes (va_runS (As := As) (rest := rest) ⟨hx, hb, hml, hown, hts⟩ hM ⟨⟨rfl, rfl, hfr, by show 8 + (nL' + 11) + 40 * rd ≤ R.locals; omega, jm_words hts hcode, List.mem_cons_self, hts _ hcode, hts _ hini, hnc, hsg, hts _ hlk⟩, hts _ hI⟩ ⟨jm_blind q As, fun U hU hW => ⟨rfl, sg_at hG hU hW hS hb0⟩⟩ rfl hn hl rfl (lv_room hrest) hd ⟨hcells, hslots⟩) kk
theorem jm_callV {p : Program} {l : Launch} {e : Env} {R : Room} {s : State} {m : MethodId} {args : Array Value} {below : List Frame} {meth : Method} {c : Code} {H : Heap} {locs : List Loc} {cells slots : Nat} {Q : State → Prop} {cc : ByteArray} {pc : Nat} {ls : Array Slot} {rest : List Value} {own : String} {nL idx nL' rd n : Nat} {y : MethodName} {cc' : ByteArray} {ret' : Option FieldType} {q : gS} {As : List Value} {v : Option Value} {h0 : Nat}
    (hM : jm_Met l q y cc' nL' ret' rd (.ref q.2.1 :: As) v) (hx : p.tables.exec = Jvm.exec) (hb : c.code = cc) (hml : c.maxLocals = nL) (hown : s.vm.findClass own = some m.cls) (hts : ∀ w ∈ am_TB, w.before args s = true) (hG : sg q s) (hS : va_S (bA h0) s.heap H locs) (hb0 : q.1 ≤ h0) (hlk : Cond.methodLink own idx y ∈ am_TB) (hY : am_Y y cc' nL' ret' n) (hI : Cond.instanceMethod y ∈ am_TB) (hsel : Cond.selects "java/lang/String" y y ∈ am_TB) (hfr : rd + 1 ≤ R.frames) (hlo : 40 * (rd + 1) ≤ R.locals) (hn : As.length = n) (hl : ls.size = nL) (hrest : (rest.map fun v => v.category).sum ≤ 8) (hcells : cells + 0 ≤ R.cells) (hslots : slots + 0 ≤ R.slots) (hd : decode cc pc = .ok (.invokevirtual idx, 3))
    (kk : W p l e R s m args below meth c H locs cells slots Q (F0 m (pc + 3) ls (v.toList ++ rest))) : W p l e R s m args below meth c H locs cells slots Q (F0 m pc ls (As.reverse ++ .ref q.2.1 :: rest)) := by
  obtain ⟨hcode, hini, hnc, hsig, h21⟩ := hY
  have hsg : ∀ sig, parseMethodDescriptor y.desc = some sig → n = sig.parameters.length := by
    intro sig h
    rw [h] at hsig
    exact (Option.some.inj hsig).symm
  have hrecv : ∃ cell : Cell, H[q.2.1]? = some cell ∧ cell.vm.isStatics = false ∧ s.vm.findClass "java/lang/String" = some cell.cls := by
    obtain ⟨cell, h1, h2, h3, -⟩ := hG.2.2.2.2.1.kept (H1 := H) (fun a h1 h2 => hS.2.1 a h1 (fun h3 => h2 (Nat.le_trans hb0 h3)))
    exact ⟨cell, h1, h2, h3⟩
  exact jm_goes (va_runV (As := As) (rest := rest) ⟨hx, hb, hml, hown, hts⟩ hM ⟨⟨rfl, rfl, hfr, by show 8 + (nL' + 11) + 40 * rd ≤ R.locals; omega, jm_words hts hcode, List.mem_cons_self, hts _ hcode, hts _ hini, hnc, hsg, hts _ hlk⟩, hts _ hI, hts _ hsel⟩ ⟨jm_blind q _, hrecv, fun U hU hW => ⟨rfl, sg_at hG hU hW hS hb0⟩⟩ rfl hn hl rfl (lv_room hrest) hd ⟨hcells, hslots⟩) kk
