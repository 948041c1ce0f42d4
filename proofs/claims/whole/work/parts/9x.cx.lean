/-! constructors that ask the string constant or make arrays of references: their contract with its world -/
def cx_Pc (g : am_G) (q : gS) (C : Nat) (z : List Value) (h0 : Nat) : Array Value → State → Prop := va_Pc [.ref h0] (fun U => bw (am_D g) h0 [.inr (C, z)] U.heap ∧ va_K (am_D g) vwCl (am_ty g) U ∧ (∀ w ∈ am_NB, va_Nw w U) ∧ sg q U ∧ q.1 ≤ h0)
def cx_Met (g : am_G) (q : gS) (C : Nat) (y : MethodName) (cc : ByteArray) (nL rd mc ms : Nat) (z : List Value) (E : Nat → List va_E) : Prop :=
  ∀ h0 : Nat, Met g.1 y (Cond.code y cc nL none :: am_TB) (ck_rm rd mc ms) (cx_Pc g q C z h0) (ck_Qc g h0 (E h0)) mc ms (bA h0)
theorem cx_blind (g : am_G) (q : gS) (C : Nat) (z : List Value) (h0 : Nat) : FrameBlind (cx_Pc g q C z h0) := by
  intro a U fr mk h
  obtain ⟨q0, qP, qK, qN, qG, qb⟩ := h
  exact ⟨q0, qP, va_K.moved (u := U) (U := U.calling fr mk a) (Vm.Alike.refl U.vm) qK, fun w hw => am_nb_same (u := U) (U := U.calling fr mk a) hw rfl (qN w hw), sg_same (u := U) (U := U.calling fr mk a) qG rfl rfl, qb⟩
theorem cx_call {g : am_G} {q : gS} {p : Program} {e : Env} {R : Room} {s : State} {m : MethodId} {args : Array Value} {below : List Frame} {meth : Method} {c : Code} {H : Heap} {locs : List Loc} {cells slots : Nat} {Q : State → Prop} {cc : ByteArray} {pc : Nat} {ls : Array Slot} {rest : List Value} {own : String} {nL idx C nL' rd' mc ms h0 : Nat} {y : MethodName} {cc' : ByteArray} {z : List Value} {E : Nat → List va_E} {M : List va_E}
    (hx : p.tables.exec = Jvm.exec) (hb : c.code = cc) (hml : c.maxLocals = nL) (hown : s.vm.findClass own = some m.cls) (hts : ∀ w ∈ am_TB, w.before args s = true) (hK : va_K (am_D g) vwCl (am_ty g) s) (hNb : ∀ w ∈ am_NB, va_Nw w s) (hG : sg q s) (hb0 : q.1 ≤ h0) (hM : cx_Met g q C y cc' nL' rd' mc ms z E) (hL : am_Lk own idx y) (hY : am_Y y cc' nL' none 0) (hnm : y.name = "<init>") (hI : Cond.instanceMethod y ∈ am_TB) (hfr : rd' + 1 ≤ R.frames) (hlo : 40 * (rd' + 1) ≤ R.locals) (hB : bw (am_D g) h0 (M ++ [.inr (C, z)]) H) (hS : va_S (bA h0) s.heap H locs) (hl : ls.size = nL) (hrest : (rest.map fun v => v.category).sum ≤ 8) (hcells : cells + mc ≤ R.cells) (hslots : slots + ms ≤ R.slots) (hd : decode cc pc = .ok (.invokespecial idx, 3))
    (kk : ∀ (H1 : Heap) (locs1 : List Loc), bw (am_D g) h0 (M ++ E (h0 + M.length)) H1 → va_S (bA h0) s.heap H1 locs1 → W p g.1 e R s m args below meth c H1 locs1 (cells + mc) (slots + ms) Q (F0 m (pc + 3) ls rest)) : W p g.1 e R s m args below meth c H locs cells slots Q (F0 m pc ls (.ref (h0 + M.length) :: rest)) := by
  obtain ⟨hcode, hini, hnc, hsig, h21⟩ := hY
  have hrm : (ck_rm rd' mc ms).frames + 1 ≤ R.frames ∧ 8 + (nL' + 11) + (ck_rm rd' mc ms).locals ≤ R.locals := ⟨hfr, by show 8 + (nL' + 11) + 40 * rd' ≤ R.locals; omega⟩
  have hMet := hM (h0 + M.length)
  have hwords : ∀ w ∈ (Cond.code y cc' nL' none :: am_TB), ∀ (a' : Array Value) (U : State), s.WarmedH U.vm → w.before a' U = true := by
    intro w hw a' U hW
    have hw' : w ∈ am_TB := by
      rcases List.mem_cons.mp hw with h | h
      · rw [h]; exact hcode
      · exact h
    exact word_at hW (am_good hw') (hts w hw')
  have hsg : ∀ sig, parseMethodDescriptor y.desc = some sig → 0 = sig.parameters.length := by
    intro sig h
    rw [h] at hsig
    exact (Option.some.inj hsig).symm
  have hlast : bw (am_D g) (h0 + M.length) [.inr (C, z)] H := by
    refine ⟨by rw [hB.1, List.length_append]; simp; omega, fun i x hi => ?_⟩
    have q9 : i < 1 := (List.getElem?_eq_some_iff.mp hi).1
    rw [show i = 0 by omega] at hi ⊢
    cases hi
    exact hB.2 M.length _ (by rw [List.getElem?_append_right (Nat.le_refl _), Nat.sub_self]; rfl)
  have hpre : PreS s H (cx_Pc g q C z (h0 + M.length)) (.ref (h0 + M.length) :: []) := ⟨cx_blind g q C z _, fun U hU hW => ⟨rfl, by rw [hU]; exact hlast, va_K.moved hW.alike hK, fun w hw => am_nb_warm hw hW (hNb w hw), sg_at hG hU hW hS hb0, Nat.le_trans hb0 (Nat.le_add_right _ _)⟩⟩
  have run : va_Run p g.1 e R s m args below meth c H locs cells slots mc ms (F0 m pc ls (.ref (h0 + M.length) :: rest)) rest (ck_Qc g (h0 + M.length) (E (h0 + M.length)) (Value.ref (h0 + M.length) :: []).toArray) (bA (h0 + M.length)) := by
    rcases hL with hlk | ⟨host, hlk⟩
    · exact va_runI (As := []) (rest := rest) ⟨hx, hb, hml, hown, hts⟩ hMet ⟨⟨rfl, rfl, hrm.1, hrm.2, hwords, List.mem_cons_self, hts _ hcode, hts _ hini, hnc, hsg, hts _ hlk⟩, hnm, hts _ hI⟩ hpre rfl rfl hl rfl (lv_room hrest) hd ⟨hcells, hslots⟩
    · exact va_runIN (As := []) (rest := rest) ⟨hx, hb, hml, hown, hts⟩ hMet ⟨⟨⟨rfl, rfl, hrm.1, hrm.2, hwords, List.mem_cons_self⟩, hts _ hcode, hts _ hini, hnc, hsg, am_nb_use hlk (hNb _ hlk)⟩, hnm, hts _ hI⟩ hpre rfl rfl hl rfl (lv_room hrest) hd ⟨hcells, hslots⟩
  intro T hT X
  obtain ⟨v, st₀, t, T', L, i0, X', hLq, e1, e2, ⟨hv, hp, hz, hk⟩, st⟩ := run T hT X
  cases hv
  rw [i0] at hz hk
  obtain ⟨t2, a1, b1⟩ := kk T'.heap (locs ++ L) (by rw [e1]; exact bw_app hB hp hk)
    ⟨Nat.le_trans hS.1 (by rw [e1]; exact hz), fun q h1 h2 => by rw [e1, hk q (Nat.lt_of_lt_of_le h1 hS.1) (fun h => h2 (Nat.le_trans (Nat.le_add_right _ _) h))]; exact hS.2.1 q h1 h2, fun q hq => by
      rcases List.mem_append.mp hq with h | h
      · exact hS.2.2 q h
      · exact Nat.le_trans (Nat.le_add_right _ _) (hLq q h)⟩ T' rfl X'
  exact ⟨t2, st t2 a1, b1⟩
def cx_B (g : am_G) (q : gS) (C : Nat) (y : MethodName) (cc : ByteArray) (nL rd mc ms : Nat) (z : List Value) (E : Nat → List va_E) : Prop :=
  ∀ (p : Program) (e : Env) (s : State) (m : MethodId) (below : List Frame) (meth : Method) (c : Code) (ls : Array Slot) (h0 : Nat), p.tables.exec = Jvm.exec → c.code = cc → c.maxLocals = nL → s.vm.findClass y.cls = some m.cls → (∀ w ∈ am_TB, w.before #[.ref h0] s = true) → meth.name = "<init>" → meth.locks = false → meth.sig.returnType = none → va_K (am_D g) vwCl (am_ty g) s → (∀ w ∈ am_NB, va_Nw w s) → sg q s → q.1 ≤ h0 → bw (am_D g) h0 [.inr (C, z)] s.heap → va_S (bA h0) s.heap s.heap [] → lv_has ls nL [(0, .ref h0)] →
    W p g.1 e (ck_rm rd mc ms) s m #[.ref h0] below meth c s.heap [] 0 0 (MQ below (ck_Qc g h0 (E h0)) #[.ref h0] s mc ms (bA h0)) (F0 m 0 ls [])
theorem cx_of {g : am_G} {q : gS} {C : Nat} {y : MethodName} {cc : ByteArray} {nL rd mc ms : Nat} {z : List Value} {E : Nat → List va_E} (hy : plainName y.cls = true) (hyn : y.name = "<init>") (hnL : 1 ≤ nL) (H : cx_B g q C y cc nL rd mc ms z E) : cx_Met g q C y cc nL rd mc ms z E := by
  intro h0
  refine Met.ofW (cc := cc) (maxL := nL) (ret := none) hy rfl ?_
  intro p e s m args below meth c s₁ B hml hv
  obtain ⟨rfl, hP, hK, hN, hG, hb0⟩ := hv
  have hts := atoms_spec (ws := Cond.code y cc nL none :: am_TB) B.pre
  have hl := lv_entry ([.ref h0]) (n := nL) hnL
  have hin : meth.name = "<init>" := (name_of_methodNamed B.named B.method).1.trans hyn
  rw [lg_entry_eq]
  generalize (lg_sl ([.ref h0]) ++ List.replicate (nL - (lg_sl ([.ref h0])).length) Slot.unset).toArray = ls at hl ⊢
  exact H p e s m below meth c ls h0 B.exec B.bytes hml (findClass_of_methodNamed B.named) (fun w hw => hts w (List.mem_cons_of_mem _ hw)) hin B.notSynchronized B.returns hK hN hG hb0 hP va_S.rf hl
