theorem set_app0 (e x : va_E) (M : List va_E) : (e :: M).set 0 x = x :: M := rfl
theorem bw_putF {g : am_G} {p : Program} {e : Env} {R : Room} {s : State} {m : MethodId} {args : Array Value} {below : List Frame} {meth : Method} {c : Code} {H : Heap} {locs : List Loc} {cells slots : Nat} {Q : State → Prop} {cc : ByteArray} {pc : Nat} {ls : Array Slot} {rest : List Value} (hx : p.tables.exec = Jvm.exec) (hb : c.code = cc) {own : String} {T : u_T} {N index : Nat} (ci : Nat) (hts : ∀ w ∈ am_TB, w.before args s = true) (hown : s.vm.findClass own = some m.cls) (hin2 : meth.name = "<init>") (hK : va_K (am_D g) vwCl (am_ty g) s) (hc : vwCl[ci]? = some (own, T, N)) {h0 : Nat} {fs : List Value} {M : List va_E} (hB : bw (am_D g) h0 (.inr (ci, fs) :: M) H) (hS0 : va_S (bA h0) s.heap H locs)
    (k : Nat) (hk : k < N) (hlink : Cond.fieldLink own index (T k).1 (T k).2.1 (T k).2.2.1 ∈ am_TB) (hfin : (T k).2.2.2 = true) (hdecl : (T k).1 = own) {ty : FieldType} {v : Value} (hdt : parseFieldDescriptor (T k).2.2.1 = some ty) (hn : narrow ty v = v) (hfit : fits ty v = true) (hl : k < fs.length) (hd : decode cc pc = .ok (.putfield index, 3))
    (kk : ∀ (H1 : Heap) (locs1 : List Loc), bw (am_D g) h0 (.inr (ci, fs.set k v) :: M) H1 → va_S (bA h0) s.heap H1 locs1 → W p g.1 e R s m args below meth c H1 locs1 cells slots Q (F0 m (pc + 3) ls rest)) : W p g.1 e R s m args below meth c H locs cells slots Q (F0 m pc ls (v :: .ref h0 :: rest)) := by
  obtain ⟨-, hin, ⟨ty0, hty⟩, hnm⟩ := am_cls hc
  have hap := va_apart (own := own) hts hin ty0 hty hnm hK hc
  obtain ⟨r, h1, cell, q1, q2, q3, q4⟩ := hB.2 0 _ rfl
  have hr : r = (own, T, N) := Option.some.inj (h1.symm.trans hc)
  subst hr
  obtain ⟨hS, hfc, kC, hkC, hkind⟩ := hK.1 ci _ hc
  obtain ⟨cf, kf, fi, f, hi, hsl⟩ := hS k hk
  have hlay := hts _ (hin _ (u_in_lay hk))
  unfold u_lay at hlay
  rw [if_pos hfin] at hlay
  have hst := (u_facts hfc hkC (u_lays hts hin hk) hi).1
  have hcf : m.cls = cf := by
    obtain ⟨_, _, c', _, _, _, -, -, hf', -, -, -, hown2, -⟩ := Cond.laysFinal_spec hlay
    have e1 : c' = cf := by have := hi.symm.trans hf'; simp at this; exact this.1.symm
    rw [hdecl] at hown2
    rw [← e1]; exact Option.some.inj (hown.symm.trans hown2)
  have h6 := u_fits hfc hkC hkind (Or.inr hlay) hi hdt hn hfit
  refine W.putFinK hx hb hown (hts _ hlink) hi hst hcf hin2 (by rw [q2]; exact h6) q1 q3 (by rw [hsl]; exact k2_hasslot (q4 k hk)) rfl rfl hd fun H' e1 e2 e3 => ?_
  rw [hsl] at e1 ⊢
  exact kk H' _ (bw_set (i := 0) hB (by simp) e2 e3 ⟨_, hc, t_OB.to (V := updV (vp_V fs) k v) ⟨_, e1, q2, q3, t_set q4 hap hk v⟩ (fun j _ => vp_updV_set hl v j)⟩) (hS0.put e2 e3 (Nat.le_refl _))
theorem bw_put {g : am_G} {p : Program} {e : Env} {R : Room} {s : State} {m : MethodId} {args : Array Value} {below : List Frame} {meth : Method} {c : Code} {H : Heap} {locs : List Loc} {cells slots : Nat} {Q : State → Prop} {cc : ByteArray} {pc : Nat} {ls : Array Slot} {rest : List Value} (hx : p.tables.exec = Jvm.exec) (hb : c.code = cc) {own : String} {T : u_T} {N index : Nat} (ci : Nat) (hts : ∀ w ∈ am_TB, w.before args s = true) (hown : s.vm.findClass own = some m.cls) (hK : va_K (am_D g) vwCl (am_ty g) s) (hc : vwCl[ci]? = some (own, T, N)) {h0 : Nat} {fs : List Value} {M : List va_E} (hB : bw (am_D g) h0 (.inr (ci, fs) :: M) H) (hS0 : va_S (bA h0) s.heap H locs)
    (k : Nat) (hk : k < N) (hlink : Cond.fieldLink own index (T k).1 (T k).2.1 (T k).2.2.1 ∈ am_TB) (hfin : (T k).2.2.2 = false) {ty : FieldType} {v : Value} (hdt : parseFieldDescriptor (T k).2.2.1 = some ty) (hn : narrow ty v = v) (hfit : fits ty v = true) (hl : k < fs.length) (hd : decode cc pc = .ok (.putfield index, 3))
    (kk : ∀ (H1 : Heap) (locs1 : List Loc), bw (am_D g) h0 (.inr (ci, fs.set k v) :: M) H1 → va_S (bA h0) s.heap H1 locs1 → W p g.1 e R s m args below meth c H1 locs1 cells slots Q (F0 m (pc + 3) ls rest)) : W p g.1 e R s m args below meth c H locs cells slots Q (F0 m pc ls (v :: .ref h0 :: rest)) := by
  obtain ⟨-, hin, ⟨ty0, hty⟩, hnm⟩ := am_cls hc
  have hap := va_apart (own := own) hts hin ty0 hty hnm hK hc
  obtain ⟨r, h1, cell, q1, q2, q3, q4⟩ := hB.2 0 _ rfl
  have hr : r = (own, T, N) := Option.some.inj (h1.symm.trans hc)
  subst hr
  obtain ⟨hS, hfc, kC, hkC, hkind⟩ := hK.1 ci _ hc
  obtain ⟨cf, kf, fi, f, hi, hsl⟩ := hS k hk
  have hlay := hts _ (hin _ (u_in_lay hk))
  unfold u_lay at hlay
  rw [if_neg (by rw [hfin]; decide)] at hlay
  have hst := (u_facts hfc hkC (u_lays hts hin hk) hi).1
  have h6 := u_store hfc hkC hkind hlay hi hdt hn hfit
  refine W.putK hx hb (f := f) ⟨hown, hts _ hlink, ⟨_, _, _, hi⟩, hst⟩ (by rw [q2]; exact h6) q1 q3 (by rw [hsl]; exact k2_hasslot (q4 k hk)) rfl rfl hd fun H' e1 e2 e3 => ?_
  rw [hsl] at e1 ⊢
  exact kk H' _ (bw_set (i := 0) hB (by simp) e2 e3 ⟨_, hc, t_OB.to (V := updV (vp_V fs) k v) ⟨_, e1, q2, q3, t_set q4 hap hk v⟩ (fun j _ => vp_updV_set hl v j)⟩) (hS0.put e2 e3 (Nat.le_refl _))
/-- a constructor's contract: the object is the heap's last cell; the block behind it -/
def ck_rm (rd mc ms : Nat) : Room := { frames := rd, cells := mc, slots := ms, locals := 40 * rd }
def ck_Pc (g : am_G) (C : Nat) (z : List Value) (h0 : Nat) : Array Value → State → Prop := va_Pc [.ref h0] (fun U => bw (am_D g) h0 [.inr (C, z)] U.heap ∧ va_K (am_D g) vwCl (am_ty g) U ∧ ∀ w ∈ am_NB, va_Nw w U)
def ck_Qc (g : am_G) (h0 : Nat) (L : List va_E) : Array Value → State → Outcome → State → Prop := fun _ st o t => o = .returned none ∧ bw (am_D g) h0 L t.heap ∧ va_F (bA h0) st t
def ck_Met (g : am_G) (C : Nat) (y : MethodName) (cc : ByteArray) (nL rd mc ms : Nat) (z : List Value) (E : Nat → List va_E) : Prop :=
  ∀ h0 : Nat, Met g.1 y (Cond.code y cc nL none :: am_TB) (ck_rm rd mc ms) (ck_Pc g C z h0) (ck_Qc g h0 (E h0)) mc ms (bA h0)
theorem ck_blind (g : am_G) (C : Nat) (z : List Value) (h0 : Nat) : FrameBlind (ck_Pc g C z h0) := by
  intro a U fr mk q
  obtain ⟨q0, qP, qK, qN⟩ := q
  exact ⟨q0, qP, va_K.moved (u := U) (U := U.calling fr mk a) (Vm.Alike.refl U.vm) qK, fun w hw => am_nb_same (u := U) (U := U.calling fr mk a) hw rfl (qN w hw)⟩
theorem bw_app {D : va_G} {h0 : Nat} {M L : List va_E} {x : va_E} {H H1 : Heap} (h : bw D h0 (M ++ [x]) H) (h1 : bw D (h0 + M.length) L H1) (hk : ∀ q : Nat, q < H.size → ¬ bA (h0 + M.length) q → H1[q]? = H[q]?) : bw D h0 (M ++ L) H1 := by
  refine ⟨by rw [h1.1, List.length_append]; omega, fun i e hi => ?_⟩
  by_cases p : i < M.length
  · rw [List.getElem?_append_left p] at hi
    have z := h.1
    rw [List.length_append] at z
    exact at_kept (h.2 i e (by rw [List.getElem?_append_left p]; exact hi)) (hk _ (by show h0 + i < _; omega) (by show ¬ h0 + M.length ≤ h0 + i; omega))
  · rw [List.getElem?_append_right (by omega)] at hi
    have := h1.2 _ _ hi
    rw [show h0 + M.length + (i - M.length) = h0 + i by omega] at this
    exact this
theorem bw_call {g : am_G} {p : Program} {e : Env} {R : Room} {s : State} {m : MethodId} {args : Array Value} {below : List Frame} {meth : Method} {c : Code} {H : Heap} {locs : List Loc} {cells slots : Nat} {Q : State → Prop} {cc : ByteArray} {pc : Nat} {ls : Array Slot} {rest : List Value} {own : String} {nL idx C nL' rd' mc ms h0 : Nat} {y : MethodName} {cc' : ByteArray} {z : List Value} {E : Nat → List va_E} {M : List va_E}
    (hx : p.tables.exec = Jvm.exec) (hb : c.code = cc) (hml : c.maxLocals = nL) (hown : s.vm.findClass own = some m.cls) (hts : ∀ w ∈ am_TB, w.before args s = true) (hK : va_K (am_D g) vwCl (am_ty g) s) (hNb : ∀ w ∈ am_NB, va_Nw w s) (hM : ck_Met g C y cc' nL' rd' mc ms z E) (hL : am_Lk own idx y) (hY : am_Y y cc' nL' none 0) (hnm : y.name = "<init>") (hI : Cond.instanceMethod y ∈ am_TB) (hfr : rd' + 1 ≤ R.frames) (hlo : 40 * (rd' + 1) ≤ R.locals) (hB : bw (am_D g) h0 (M ++ [.inr (C, z)]) H) (hS : va_S (bA h0) s.heap H locs) (hl : ls.size = nL) (hrest : (rest.map fun v => v.category).sum ≤ 8) (hcells : cells + mc ≤ R.cells) (hslots : slots + ms ≤ R.slots) (hd : decode cc pc = .ok (.invokespecial idx, 3))
    (kk : ∀ (H1 : Heap) (locs1 : List Loc), bw (am_D g) h0 (M ++ E (h0 + M.length)) H1 → va_S (bA h0) s.heap H1 locs1 → W p g.1 e R s m args below meth c H1 locs1 (cells + mc) (slots + ms) Q (F0 m (pc + 3) ls rest)) : W p g.1 e R s m args below meth c H locs cells slots Q (F0 m pc ls (.ref (h0 + M.length) :: rest)) := by
  obtain ⟨hcode, hini, hnc, hsig, h21⟩ := hY
  have hrm : (ck_rm rd' mc ms).frames + 1 ≤ R.frames ∧ 8 + (nL' + 11) + (ck_rm rd' mc ms).locals ≤ R.locals := ⟨hfr, by show 8 + (nL' + 11) + 40 * rd' ≤ R.locals; omega⟩
  have hMet := hM (h0 + M.length)
  have hwords : ∀ w ∈ (Cond.code y cc' nL' none :: am_TB), ∀ (a' : Array Value) (U : State), s.WarmedH U.vm → w.before a' U = true := by
    intro w hw a' U hW
    have hw' : w ∈ am_TB := by
      rcases List.mem_cons.mp hw with h | h
      · rw [h]; exact hcode
      · exact h
    exact word_at hW (am_good hw') (hts w hw')
  have hsg : ∀ sig, parseMethodDescriptor y.desc = some sig → 0 = sig.parameters.length := by
    intro sig h
    rw [h] at hsig
    exact (Option.some.inj hsig).symm
  have hlast : bw (am_D g) (h0 + M.length) [.inr (C, z)] H := by
    refine ⟨by rw [hB.1, List.length_append]; simp; omega, fun i x hi => ?_⟩
    have q : i < 1 := (List.getElem?_eq_some_iff.mp hi).1
    rw [show i = 0 by omega] at hi ⊢
    cases hi
    exact hB.2 M.length _ (by rw [List.getElem?_append_right (Nat.le_refl _), Nat.sub_self]; rfl)
  have hpre : PreS s H (ck_Pc g C z (h0 + M.length)) (.ref (h0 + M.length) :: []) := ⟨ck_blind g C z _, fun U hU hW => ⟨rfl, by rw [hU]; exact hlast, va_K.moved hW.alike hK, fun w hw => am_nb_warm hw hW (hNb w hw)⟩⟩
  have run : va_Run p g.1 e R s m args below meth c H locs cells slots mc ms (F0 m pc ls (.ref (h0 + M.length) :: rest)) rest (ck_Qc g (h0 + M.length) (E (h0 + M.length)) (Value.ref (h0 + M.length) :: []).toArray) (bA (h0 + M.length)) := by
    rcases hL with hlk | ⟨host, hlk⟩
    · exact va_runI (As := []) (rest := rest) ⟨hx, hb, hml, hown, hts⟩ hMet ⟨⟨rfl, rfl, hrm.1, hrm.2, hwords, List.mem_cons_self, hts _ hcode, hts _ hini, hnc, hsg, hts _ hlk⟩, hnm, hts _ hI⟩ hpre rfl rfl hl rfl (lv_room hrest) hd ⟨hcells, hslots⟩
    · exact va_runIN (As := []) (rest := rest) ⟨hx, hb, hml, hown, hts⟩ hMet ⟨⟨⟨rfl, rfl, hrm.1, hrm.2, hwords, List.mem_cons_self⟩, hts _ hcode, hts _ hini, hnc, hsg, am_nb_use hlk (hNb _ hlk)⟩, hnm, hts _ hI⟩ hpre rfl rfl hl rfl (lv_room hrest) hd ⟨hcells, hslots⟩
  intro T hT X
  obtain ⟨v, st₀, t, T', L, i0, X', hLq, e1, e2, ⟨hv, hp, hz, hk⟩, st⟩ := run T hT X
  cases hv
  rw [i0] at hz hk
  obtain ⟨t2, a1, b1⟩ := kk T'.heap (locs ++ L) (by rw [e1]; exact bw_app hB hp hk)
    ⟨Nat.le_trans hS.1 (by rw [e1]; exact hz), fun q h1 h2 => by rw [e1, hk q (Nat.lt_of_lt_of_le h1 hS.1) (fun h => h2 (Nat.le_trans (Nat.le_add_right _ _) h))]; exact hS.2.1 q h1 h2, fun q hq => by
      rcases List.mem_append.mp hq with h | h
      · exact hS.2.2 q h
      · exact Nat.le_trans (Nat.le_add_right _ _) (hLq q h)⟩ T' rfl X'
  exact ⟨t2, st t2 a1, b1⟩
