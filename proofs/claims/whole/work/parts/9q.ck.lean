def ck_B (g : am_G) (C : Nat) (y : MethodName) (cc : ByteArray) (nL rd mc ms : Nat) (z : List Value) (E : Nat → List va_E) : Prop :=
  ∀ (p : Program) (e : Env) (s : State) (m : MethodId) (below : List Frame) (meth : Method) (c : Code) (ls : Array Slot) (h0 : Nat), p.tables.exec = Jvm.exec → c.code = cc → c.maxLocals = nL → s.vm.findClass y.cls = some m.cls → (∀ w ∈ am_TB, w.before #[.ref h0] s = true) → meth.name = "<init>" → meth.locks = false → meth.sig.returnType = none → va_K (am_D g) vwCl (am_ty g) s → (∀ w ∈ am_NB, va_Nw w s) → bw (am_D g) h0 [.inr (C, z)] s.heap → va_S (bA h0) s.heap s.heap [] → lv_has ls nL [(0, .ref h0)] →
    W p g.1 e (ck_rm rd mc ms) s m #[.ref h0] below meth c s.heap [] 0 0 (MQ below (ck_Qc g h0 (E h0)) #[.ref h0] s mc ms (bA h0)) (F0 m 0 ls [])
theorem ck_of {g : am_G} {C : Nat} {y : MethodName} {cc : ByteArray} {nL rd mc ms : Nat} {z : List Value} {E : Nat → List va_E} (hy : plainName y.cls = true) (hyn : y.name = "<init>") (hnL : 1 ≤ nL) (H : ck_B g C y cc nL rd mc ms z E) : ck_Met g C y cc nL rd mc ms z E := by
  intro h0
  refine Met.ofW (cc := cc) (maxL := nL) (ret := none) hy rfl ?_
  intro p e s m args below meth c s₁ B hml hv
  obtain ⟨rfl, hP, hK, hN⟩ := hv
  have hts := atoms_spec (ws := Cond.code y cc nL none :: am_TB) B.pre
  have hl := lv_entry ([.ref h0]) (n := nL) hnL
  have hin : meth.name = "<init>" := (name_of_methodNamed B.named B.method).1.trans hyn
  rw [lg_entry_eq]
  generalize (lg_sl ([.ref h0]) ++ List.replicate (nL - (lg_sl ([.ref h0])).length) Slot.unset).toArray = ls at hl ⊢
  exact H p e s m below meth c ls h0 B.exec B.bytes hml (findClass_of_methodNamed B.named) (fun w hw => hts w (List.mem_cons_of_mem _ hw)) hin B.notSynchronized B.returns hK hN hP va_S.rf hl
theorem ck_ret {g : am_G} {p : Program} {e : Env} {R : Room} {s : State} {m : MethodId} {args : Array Value} {below : List Frame} {meth : Method} {c : Code} {H : Heap} {locs : List Loc} {mc ms h0 pc : Nat} {ls : Array Slot} {cc : ByteArray} {L : List va_E} (hx : p.tables.exec = Jvm.exec) (hb : c.code = cc) (hr : meth.sig.returnType = none) (hlocks : meth.locks = false) (hB : bw (am_D g) h0 L H) (hS : va_S (bA h0) s.heap H locs) (hd : decode cc pc = .ok (.return_, 1)) : W p g.1 e R s m args below meth c H locs mc ms (MQ below (ck_Qc g h0 L) args s mc ms (bA h0)) (F0 m pc ls []) :=
  W.vret hx hb hr (fun t ht hW => ⟨rfl, by rw [ht]; exact hB, hS.F ht⟩) hS.2.2 hd hlocks
/-- aload_0, Object's constructor -/
theorem ck_obj {g : am_G} {p : Program} {e : Env} {rd mc ms : Nat} {s : State} {m : MethodId} {args : Array Value} {below : List Frame} {meth : Method} {c : Code} {H : Heap} {locs : List Loc} {cells slots : Nat} {Q : State → Prop} {cc : ByteArray} {nL idx h0 : Nat} {ls : Array Slot} {own : String} (hx : p.tables.exec = Jvm.exec) (hb : c.code = cc) (hml : c.maxLocals = nL) (hown : s.vm.findClass own = some m.cls) (hts : ∀ w ∈ am_TB, w.before args s = true) (hl : lv_has ls nL [(0, .ref h0)]) (h1 : Cond.methodLink own idx Lib.objectInit ∈ am_TB) (h2 : Cond.instanceMethod Lib.objectInit ∈ am_TB) (h3 : Cond.code Lib.objectInit ⟨#[0xb1]⟩ 1 none ∈ am_TB) (hrd : 1 ≤ rd) (d0 : decode cc 0 = .ok (.aload_n 0, 1)) (d1 : decode cc 1 = .ok (.invokespecial idx, 3))
    (kk : W p g.1 e (ck_rm rd mc ms) s m args below meth c H locs cells slots Q (F0 m 4 ls [])) : W p g.1 e (ck_rm rd mc ms) s m args below meth c H locs cells slots Q (F0 m 0 ls []) := by
  refine lv_aload_n hx hb d0 rfl (lv_at hl 0 rfl) ?_
  exact W.objInit hx hb hown (hts _ h1) (hts _ h2) (hts _ h3) rfl (by rw [hml]; exact hl.1) rfl d1 hrd (by show 2 * (F0 m 1 ls [.ref h0]).monitorRoom + 0 + 12 ≤ 40 * rd; rw [show (F0 m 1 ls [.ref h0]).monitorRoom = 0 from rfl]; omega) kk
