/-! calls, switches, arraycopy against the machine; a method's contract out of its walk -/
def am_tk : Int → List Int → List (Int × Int)
  | _, [] => []
  | lo, o :: os => (lo, o) :: am_tk (lo + 1) os
theorem am_tk_in : ∀ (os : List Int) (lo k d : Int), lo ≤ k → k < lo + os.length → ∃ off, os[(k - lo).toNat]? = some off ∧ Op.lookupswitch.offset (am_tk lo os) d k = off
  | [], lo, k, d, h1, h2 => by simp at h2; omega
  | o :: os, lo, k, d, h1, h2 => by
    by_cases h : lo = k
    · subst h
      exact ⟨o, by simp, by rw [am_tk, Op.lookupswitch.offset_cons, if_pos rfl]⟩
    · obtain ⟨off, e1, e2⟩ := am_tk_in os (lo + 1) k d (by omega) (by simp at h2; omega)
      refine ⟨off, ?_, by rw [am_tk, Op.lookupswitch.offset_cons, if_neg h, e2]⟩
      rw [← e1, show (k - lo).toNat = (k - (lo + 1)).toNat + 1 by omega]
      rfl
theorem am_tk_out : ∀ (os : List Int) (lo k d : Int), (k < lo ∨ lo + os.length ≤ k) → Op.lookupswitch.offset (am_tk lo os) d k = d
  | [], lo, k, d, h => rfl
  | o :: os, lo, k, d, h => by
    rw [am_tk, Op.lookupswitch.offset_cons, if_neg (by simp at h; omega)]
    exact am_tk_out os (lo + 1) k d (by simp at h; omega)
def am_swOk (sc : am_S) (own : String) (cc : ByteArray) (nL : Nat) (ret : Option FieldType) (rd pc : Nat) : List (Int × Int) → List (Int32 × am_K) → Prop
  | [], [] => True
  | (v, o) :: ps, q :: t => q.1.toInt = v ∧ (∃ tgt : Nat, (pc : Int) + o = (tgt : Int) ∧ am_SW sc own cc nL ret rd tgt q.2) ∧ am_swOk sc own cc nL ret rd pc ps t
  | _, _ => False
theorem am_sw_get {sc : am_S} {own : String} {cc : ByteArray} {nL : Nat} {ret : Option FieldType} {rd pc dt : Nat} {dflt : Int} {d : am_K} (hdt : (pc : Int) + dflt = (dt : Int)) (hkd : am_SW sc own cc nL ret rd dt d) (x : Int32) : ∀ (ps : List (Int × Int)) (t : List (Int32 × am_K)), am_swOk sc own cc nL ret rd pc ps t →
    ∃ (tgt : Nat) (k : am_K), (pc : Int) + Op.lookupswitch.offset ps dflt x.toInt = (tgt : Int) ∧ am_SW sc own cc nL ret rd tgt k ∧ ∀ lv st σ, am_sw t d x lv st σ = k lv st σ
  | [], [], _ => ⟨dt, d, hdt, hkd, fun _ _ _ => rfl⟩
  | (v, o) :: ps, q :: t, h => by
    obtain ⟨h1, ⟨tgt, h2, h3⟩, h4⟩ := h
    by_cases hx : x = q.1
    · refine ⟨tgt, q.2, ?_, h3, fun lv st σ => ?_⟩
      · rw [Op.lookupswitch.offset_cons, if_pos (by rw [hx, h1])]; exact h2
      · show (if x = q.1 then _ else _) = _
        rw [if_pos hx]
    · obtain ⟨tgt', k', e1, e2, e3⟩ := am_sw_get hdt hkd x ps t h4
      refine ⟨tgt', k', ?_, e2, fun lv st σ => ?_⟩
      · rw [Op.lookupswitch.offset_cons, if_neg (fun e => hx (Int32.toInt_inj.mp (by rw [h1, e])))]; exact e1
      · show (if x = q.1 then _ else _) = _
        rw [if_neg hx]; exact e3 lv st σ
  | [], _ :: _, h => h.elim
  | _ :: _, [], h => h.elim
theorem sw_lsw {sc : am_S} {own : String} {cc : ByteArray} {nL : Nat} {ret : Option FieldType} {rd pc dt len : Nat} {dflt : Int} {ps : Array (Int × Int)} {t : List (Int32 × am_K)} {d : am_K} (hd : decode cc pc = .ok (.lookupswitch dflt ps, len)) (hp : (ps.toList.zip (ps.toList.drop 1)).all (fun (a, next) => a.1 < next.1) = true) (hdt : (pc : Int) + dflt = (dt : Int)) (hkd : am_SW sc own cc nL ret rd dt d) (hok : am_swOk sc own cc nL ret rd pc ps.toList t) : am_SW sc own cc nL ret rd pc (am_switch t d) := by
  intro g p e R s m args below meth c cells slots Q H locs ls lv st σ r hC hl hP hS hr hR
  obtain ⟨x, st1, e1, hr1⟩ := am_popI_some hr
  subst e1
  obtain ⟨tgt, k, e1, e2, e3⟩ := am_sw_get hdt hkd x ps.toList t hok
  rw [e3] at hr1
  exact lv_lookup hC.1 hC.2.1 hd hp rfl e1 (e2 g p e R s m args below meth c cells slots Q H locs ls lv _ σ r hC hl hP hS hr1 hR)
theorem sw_tsw {sc : am_S} {own : String} {cc : ByteArray} {nL : Nat} {ret : Option FieldType} {rd pc dt len : Nat} {dflt lo hi : Int} {os : Array Int} {t : List (Int32 × am_K)} {d : am_K} (hd : decode cc pc = .ok (.tableswitch dflt lo hi os, len)) (hhi : hi = lo + os.toList.length - 1) (hdt : (pc : Int) + dflt = (dt : Int)) (hkd : am_SW sc own cc nL ret rd dt d) (hok : am_swOk sc own cc nL ret rd pc (am_tk lo os.toList) t) : am_SW sc own cc nL ret rd pc (am_switch t d) := by
  intro g p e R s m args below meth c cells slots Q H locs ls lv st σ r hC hl hP hS hr hR
  obtain ⟨x, st1, e1, hr1⟩ := am_popI_some hr
  subst e1
  obtain ⟨tgt, k, e1, e2, e3⟩ := am_sw_get hdt hkd x (am_tk lo os.toList) t hok
  rw [e3] at hr1
  by_cases hx : lo ≤ x.toInt ∧ x.toInt < lo + os.toList.length
  · obtain ⟨off, h1, h2⟩ := am_tk_in os.toList lo x.toInt dflt hx.1 hx.2
    rw [h2] at e1
    exact lv_tableIn hC.1 hC.2.1 hd (by omega) (by omega) (by rw [← h1, Array.getElem?_toList]) e1 (e2 g p e R s m args below meth c cells slots Q H locs ls lv _ σ r hC hl hP hS hr1 hR)
  · rw [am_tk_out os.toList lo x.toInt dflt (by omega)] at e1
    exact lv_tableOut hC.1 hC.2.1 hd (by omega) e1 (e2 g p e R s m args below meth c cells slots Q H locs ls lv _ σ r hC hl hP hS hr1 hR)
/-! contracts -/
def am_rm (rd : Nat) : Room := { frames := rd, cells := 0, slots := 0, locals := 40 * rd }
def am_Qc (g : am_G) (r : am_R) : Array Value → State → Outcome → State → Prop := fun _ st o t => o = .returned (r.1.map (am_sv g)) ∧ va_P (am_D g) vwCl (am_ws g r.2) t.heap ∧ va_F (am_A g) st t
def am_Pc (g : am_G) (vs : List Value) (σ : am_M) : Array Value → State → Prop := va_Pc (vs.map (am_sv g)) (fun U => va_P (am_D g) vwCl (am_ws g σ) U.heap ∧ va_K (am_D g) vwCl (am_ty g) U ∧ ∀ w ∈ am_NB, va_Nw w U)
def am_Met (rd : Nat) (y : MethodName) (cc : ByteArray) (nL : Nat) (ret : Option FieldType) (f : am_F) : Prop :=
  ∀ (g : am_G), (∀ σ, va_D (am_A g) (am_ws g σ)) → ∀ (vs : List Value) (σ : am_M) (r : am_R), f vs σ = some r → Met g.1 y (Cond.code y cc nL ret :: am_TB) (am_rm rd) (am_Pc g vs σ) (am_Qc g r) 0 0 (am_A g)
def am_Y (y : MethodName) (cc : ByteArray) (nL : Nat) (ret : Option FieldType) (n : Nat) : Prop := Cond.code y cc nL ret ∈ am_TB ∧ Cond.initialized y.cls ∈ am_TB ∧ (y.cls ≠ "java/lang/invoke/MethodHandle" ∧ y.cls ≠ "java/lang/invoke/VarHandle") ∧ (parseMethodDescriptor y.desc).map (fun d => d.parameters.length) = some n ∧ nL ≤ 21
def am_Yi (y : MethodName) (C : Nat) : Prop := Cond.instanceMethod y ∈ am_TB ∧ Cond.selects y.cls y y ∈ am_TB ∧ ∃ q : vw_C, vwCl[C]? = some q ∧ q.1 = y.cls
def am_Lk (own : String) (idx : Nat) (y : MethodName) : Prop := Cond.methodLink own idx y ∈ am_TB ∨ ∃ host, Cond.methodLinkNest own idx y host ∈ am_NB
theorem am_good {w : Cond} (h : w ∈ am_TB) : (w.onTables && w.keeps) = true ∨ ∃ ty, w = .arrayClass ty := good_of_word (List.mem_filter.mp h).2
theorem am_le4_len {st : List Value} (h : am_le4 st = true) : st.length ≤ 4 := by
  unfold am_le4 at h
  split at h
  · cases h
  · rename_i hn
    match st, hn with
    | [], _ => simp
    | [_], _ => simp
    | [_, _], _ => simp
    | [_, _, _], _ => simp
    | [_, _, _, _], _ => simp
    | a :: b :: c :: d :: e :: f, hn => exact absurd rfl (hn a b c d e f)
theorem am_cats (g : am_G) : ∀ (st : List Value), ((st.map (am_sv g)).map fun v => v.category).sum ≤ 2 * st.length
  | [] => by simp
  | v :: t => by
    have h1 := am_cats g t
    have h2 : (am_sv g v).category ≤ 2 := by rcases lv_cat (am_sv g v) with h | h <;> omega
    simp only [List.map_cons, List.sum_cons, List.length_cons] at *
    omega
theorem am_le4_cat {g : am_G} {st : List Value} (h : am_le4 st = true) : ((st.map (am_sv g)).map fun v => v.category).sum ≤ 8 := by
  have := am_cats g st
  have := am_le4_len h
  omega
theorem am_tkn_some : ∀ (n : Nat) (st acc : List Value) (f : List Value → List Value → Option am_R) (r : am_R), am_tkn n st acc f = some r → ∃ as rest, st = as.reverse ++ rest ∧ as.length = n ∧ am_le4 rest = true ∧ f (as ++ acc) rest = some r
  | 0, st, acc, f, r, h => by
    obtain ⟨h1, h2⟩ := am_if_some h
    exact ⟨[], st, rfl, rfl, h1, h2⟩
  | n + 1, [], acc, f, r, h => by cases h
  | n + 1, v :: st, acc, f, r, h => by
    obtain ⟨as, rest, h1, h2, h3, h4⟩ := am_tkn_some n st (v :: acc) f r h
    exact ⟨as ++ [v], rest, by rw [h1]; simp, by simp [h2], h3, by rw [List.append_assoc]; exact h4⟩
theorem am_cut_some {n : Nat} {st : List Value} {f : List Value → List Value → Option am_R} {r : am_R} (h : am_cut n st f = some r) : ∃ as rest, st = as.reverse ++ rest ∧ as.length = n ∧ am_le4 rest = true ∧ f as rest = some r := by
  obtain ⟨as, rest, h1, h2, h3, h4⟩ := am_tkn_some n st [] f r h
  rw [List.append_nil] at h4
  exact ⟨as, rest, h1, h2, h3, h4⟩
theorem am_rcv_some {C : Nat} {as : List Value} {x : Option am_R} {r : am_R} (h : am_rcv C as x = some r) : ∃ b t, as = .ref b :: t ∧ am_kd b = C ∧ x = some r := by
  unfold am_rcv at h
  split at h
  · obtain ⟨h1, h2⟩ := am_if_some h
    exact ⟨_, _, rfl, h1, h2⟩
  · cases h
theorem am_bI_some {o : Option am_R} {f : Int32 → am_M → Option am_R} {r : am_R} (h : am_bI o f = some r) : ∃ x σ, o = some (some (.int x), σ) ∧ f x σ = some r := by
  unfold am_bI at h
  split at h
  · exact ⟨_, _, rfl, h⟩
  · cases h
theorem am_bL_some {o : Option am_R} {f : Int64 → am_M → Option am_R} {r : am_R} (h : am_bL o f = some r) : ∃ x σ, o = some (some (.long x), σ) ∧ f x σ = some r := by
  unfold am_bL at h
  split at h
  · exact ⟨_, _, rfl, h⟩
  · cases h
theorem am_bV_some {o : Option am_R} {f : am_M → Option am_R} {r : am_R} (h : am_bV o f = some r) : ∃ σ, o = some (none, σ) ∧ f σ = some r := by
  unfold am_bV at h
  split at h
  · exact ⟨_, rfl, h⟩
  · cases h
theorem am_goes {g : am_G} {p : Program} {e : Env} {R : Room} {s : State} {m : MethodId} {args : Array Value} {below : List Frame} {meth : Method} {c : Code} {cells slots : Nat} {Q : State → Prop} {H : Heap} {locs : List Loc} {ls : Array Slot} {pc : Nat} {st0 rest : List Value} {r' : am_R} {a : Array Value}
    (hr : va_Run p g.1 e R s m args below meth c H locs cells slots 0 0 (F0 m pc ls st0) rest (am_Qc g r' a) (am_A g)) (hS : va_S (am_A g) s.heap H locs)
    (kk : ∀ (H1 : Heap) (locs1 : List Loc), va_P (am_D g) vwCl (am_ws g r'.2) H1 → va_S (am_A g) s.heap H1 locs1 → W p g.1 e R s m args below meth c H1 locs1 cells slots Q (F0 m (pc + 3) ls ((r'.1.map (am_sv g)).toList ++ rest))) : W p g.1 e R s m args below meth c H locs cells slots Q (F0 m pc ls st0) := by
  intro T hT X
  obtain ⟨v, st₀, t, T', L, h0, X', hL, e1, e2, ⟨hv, hp, hz, hk⟩, st⟩ := hr T hT X
  cases hv
  rw [h0] at hz hk
  obtain ⟨t2, a1, b1⟩ := kk T'.heap (locs ++ L) (by rw [e1]; exact hp)
    ⟨Nat.le_trans hS.1 (by rw [e1]; exact hz), fun q h1 h2 => by rw [e1, hk q (Nat.lt_of_lt_of_le h1 hS.1) h2]; exact hS.2.1 q h1 h2, fun q hq => by
      rcases List.mem_append.mp hq with h | h
      · exact hS.2.2 q h
      · exact hL q h⟩ T' rfl X'
  exact ⟨t2, st t2 a1, b1⟩
theorem am_room {nL' rd rd' : Nat} {R : Room} (hrd : rd' < rd) (h1 : rd ≤ R.frames) (h2 : 40 * rd ≤ R.locals) (hn : nL' ≤ 21) : (am_rm rd').frames + 1 ≤ R.frames ∧ 8 + (nL' + 11) + (am_rm rd').locals ≤ R.locals := by
  constructor
  · show rd' + 1 ≤ R.frames; omega
  · show 8 + (nL' + 11) + 40 * rd' ≤ R.locals; omega
theorem am_blind (g : am_G) (vs : List Value) (σ : am_M) : FrameBlind (am_Pc g vs σ) := by
  intro a U fr mk q
  obtain ⟨q0, qP, qK, qN⟩ := q
  exact ⟨q0, qP, va_K.moved (u := U) (U := U.calling fr mk a) (Vm.Alike.refl U.vm) qK, fun w hw => am_nb_same (u := U) (U := U.calling fr mk a) hw rfl (qN w hw)⟩
theorem am_call {sc : am_S} {own : String} {cc : ByteArray} {nL rd pc : Nat} {g : am_G} {p : Program} {e : Env} {R : Room} {s : State} {m : MethodId} {args : Array Value} {below : List Frame} {meth : Method} {c : Code} {cells slots : Nat} {Q : State → Prop} {H : Heap} {locs : List Loc} {ls : Array Slot} {σ : am_M}
    {y : MethodName} {cc' : ByteArray} {nL' rd' : Nat} {ret' : Option FieldType} {n : Nat} {f : am_F} {C idx b : Nat} {As rest : List Value} {r' : am_R} (hC : am_C g sc own cc nL rd p R s m args c cells slots) (hl : ls.size = nL) (hP : va_P (am_D g) vwCl (am_ws g σ) H) (hS : va_S (am_A g) s.heap H locs) (hd : decode cc pc = .ok (.invokevirtual idx, 3)) (hL : am_Lk own idx y) (hY : am_Y y cc' nL' ret' n) (hI : am_Yi y C) (hM : am_Met rd' y cc' nL' ret' f) (hrd : rd' < rd) (hb : am_kd b = C) (hn : As.length = n) (hf : f (.ref b :: As) σ = some r') (h4 : am_le4 rest = true)
    (kk : ∀ (H1 : Heap) (locs1 : List Loc), va_P (am_D g) vwCl (am_ws g r'.2) H1 → va_S (am_A g) s.heap H1 locs1 → W p g.1 e R s m args below meth c H1 locs1 cells slots Q (F0 m (pc + 3) ls ((r'.1.map (am_sv g)).toList ++ rest.map (am_sv g)))) : W p g.1 e R s m args below meth c H locs cells slots Q (F0 m pc ls ((((.ref b :: As).reverse ++ rest).map (am_sv g)))) := by
  obtain ⟨hx, hbb, hml, hown, hts, hK, hD, hfr, hlo, hce, hsl, hX, hNb⟩ := hC
  obtain ⟨hcode, hini, hnm, hsig, h21⟩ := hY
  obtain ⟨hins, hsel, q, hq, hqc⟩ := hI
  obtain ⟨h20, -⟩ := am_cls hq
  have hrm := am_room (R := R) hrd hfr hlo h21
  have hMet := hM g hD _ σ r' hf
  have hwords : ∀ w ∈ (Cond.code y cc' nL' ret' :: am_TB), ∀ (a' : Array Value) (U : State), s.WarmedH U.vm → w.before a' U = true := by
    intro w hw a' U hW
    have hw' : w ∈ am_TB := by
      rcases List.mem_cons.mp hw with h | h
      · rw [h]; exact hcode
      · exact h
    exact word_at hW (am_good hw') (hts w hw')
  have hsg : ∀ sig, parseMethodDescriptor y.desc = some sig → n = sig.parameters.length := by
    intro sig h
    rw [h] at hsig
    exact (Option.some.inj hsig).symm
  have hst : (((.ref b :: As).reverse ++ rest).map (am_sv g)) = (As.map (am_sv g)).reverse ++ .ref (am_ad g b) :: rest.map (am_sv g) := by
    rw [List.reverse_cons, List.append_assoc, List.map_append, List.map_reverse]; rfl
  have hrecv := va_recv hK hP hq (am_at_kd g σ hb (by omega) (am_ce_o hb h20))
  rw [hqc] at hrecv
  have hpre : PreV s H y.cls (am_ad g b) (am_Pc g (.ref b :: As) σ) (As.map (am_sv g)) := ⟨am_blind g _ σ, hrecv, fun U hU hW => ⟨rfl, by rw [hU]; exact hP, va_K.moved hW.alike hK, fun w hw => am_nb_warm hw hW (hNb w hw)⟩⟩
  rw [hst]
  rcases hL with hlk | ⟨host, hlk⟩
  · exact am_goes (va_runV (As := As.map (am_sv g)) (rest := rest.map (am_sv g)) ⟨hx, hbb, hml, hown, hts⟩ hMet ⟨⟨rfl, rfl, hrm.1, hrm.2, hwords, List.mem_cons_self, hts _ hcode, hts _ hini, hnm, hsg, hts _ hlk⟩, hts _ hins, hts _ hsel⟩ hpre rfl (by rw [List.length_map]; exact hn) hl rfl (lv_room (am_le4_cat h4)) hd ⟨hce, hsl⟩) hS kk
  · exact am_goes (va_runVN (As := As.map (am_sv g)) (rest := rest.map (am_sv g)) ⟨hx, hbb, hml, hown, hts⟩ hMet ⟨⟨⟨rfl, rfl, hrm.1, hrm.2, hwords, List.mem_cons_self⟩, hts _ hcode, hts _ hini, hnm, hsg, am_nb_use hlk (hNb _ hlk)⟩, hts _ hins, hts _ hsel⟩ hpre rfl (by rw [List.length_map]; exact hn) hl rfl (lv_room (am_le4_cat h4)) hd ⟨hce, hsl⟩) hS kk
theorem am_callS {sc : am_S} {own : String} {cc : ByteArray} {nL rd pc : Nat} {g : am_G} {p : Program} {e : Env} {R : Room} {s : State} {m : MethodId} {args : Array Value} {below : List Frame} {meth : Method} {c : Code} {cells slots : Nat} {Q : State → Prop} {H : Heap} {locs : List Loc} {ls : Array Slot} {σ : am_M}
    {y : MethodName} {cc' : ByteArray} {nL' rd' : Nat} {ret' : Option FieldType} {n : Nat} {f : am_F} {idx : Nat} {As rest : List Value} {r' : am_R} (hC : am_C g sc own cc nL rd p R s m args c cells slots) (hl : ls.size = nL) (hP : va_P (am_D g) vwCl (am_ws g σ) H) (hS : va_S (am_A g) s.heap H locs) (hd : decode cc pc = .ok (.invokestatic idx, 3)) (hL : am_Lk own idx y) (hY : am_Y y cc' nL' ret' n) (hI : Cond.static y ∈ am_TB) (hM : am_Met rd' y cc' nL' ret' f) (hrd : rd' < rd) (hn : As.length = n) (hf : f As σ = some r') (h4 : am_le4 rest = true)
    (kk : ∀ (H1 : Heap) (locs1 : List Loc), va_P (am_D g) vwCl (am_ws g r'.2) H1 → va_S (am_A g) s.heap H1 locs1 → W p g.1 e R s m args below meth c H1 locs1 cells slots Q (F0 m (pc + 3) ls ((r'.1.map (am_sv g)).toList ++ rest.map (am_sv g)))) : W p g.1 e R s m args below meth c H locs cells slots Q (F0 m pc ls (((As.reverse ++ rest).map (am_sv g)))) := by
  obtain ⟨hx, hbb, hml, hown, hts, hK, hD, hfr, hlo, hce, hsl, hX, hNb⟩ := hC
  obtain ⟨hcode, hini, hnm, hsig, h21⟩ := hY
  have hrm := am_room (R := R) hrd hfr hlo h21
  have hMet := hM g hD _ σ r' hf
  have hwords : ∀ w ∈ (Cond.code y cc' nL' ret' :: am_TB), ∀ (a' : Array Value) (U : State), s.WarmedH U.vm → w.before a' U = true := by
    intro w hw a' U hW
    have hw' : w ∈ am_TB := by
      rcases List.mem_cons.mp hw with h | h
      · rw [h]; exact hcode
      · exact h
    exact word_at hW (am_good hw') (hts w hw')
  have hsg : ∀ sig, parseMethodDescriptor y.desc = some sig → n = sig.parameters.length := by
    intro sig h
    rw [h] at hsig
    exact (Option.some.inj hsig).symm
  have hst : ((As.reverse ++ rest).map (am_sv g)) = (As.map (am_sv g)).reverse ++ rest.map (am_sv g) := by
    rw [List.map_append, List.map_reverse]
  have hpre : PreS s H (am_Pc g As σ) (As.map (am_sv g)) := ⟨am_blind g _ σ, fun U hU hW => ⟨rfl, by rw [hU]; exact hP, va_K.moved hW.alike hK, fun w hw => am_nb_warm hw hW (hNb w hw)⟩⟩
  rw [hst]
  rcases hL with hlk | ⟨host, hlk⟩
  · exact am_goes (va_runS (As := As.map (am_sv g)) (rest := rest.map (am_sv g)) ⟨hx, hbb, hml, hown, hts⟩ hMet ⟨⟨rfl, rfl, hrm.1, hrm.2, hwords, List.mem_cons_self, hts _ hcode, hts _ hini, hnm, hsg, hts _ hlk⟩, hts _ hI⟩ hpre rfl (by rw [List.length_map]; exact hn) hl rfl (lv_room (am_le4_cat h4)) hd ⟨hce, hsl⟩) hS kk
  · exact am_goes (va_runSN (As := As.map (am_sv g)) (rest := rest.map (am_sv g)) ⟨hx, hbb, hml, hown, hts⟩ hMet ⟨⟨⟨rfl, rfl, hrm.1, hrm.2, hwords, List.mem_cons_self⟩, hts _ hcode, hts _ hini, hnm, hsg, am_nb_use hlk (hNb _ hlk)⟩, hts _ hI, trivial⟩ hpre rfl (by rw [List.length_map]; exact hn) hl rfl (lv_room (am_le4_cat h4)) hd ⟨hce, hsl⟩) hS kk
theorem am_cpOk_spec {sp dp n : Int32} {n0 n1 : Nat} (h : am_cpOk sp dp n n0 n1 = true) : ¬ sp < 0 ∧ ¬ dp < 0 ∧ ¬ n < 0 ∧ sp.toNatClampNeg + n.toNatClampNeg ≤ n0 ∧ dp.toNatClampNeg + n.toNatClampNeg ≤ n1 := by
  unfold am_cpOk at h
  simp only [Bool.and_eq_true, Bool.not_eq_true', decide_eq_false_iff_not] at h
  exact ⟨h.1, h.2.1, h.2.2.1, Nat.le_of_ble_eq_true h.2.2.2.1, Nat.le_of_ble_eq_true h.2.2.2.2⟩
theorem am_cp_n : Cond.native arraycopyName ∈ am_TB := List.mem_filter.mpr ⟨by decide +kernel, by decide +kernel⟩
theorem am_cp_s : Cond.static arraycopyName ∈ am_TB := List.mem_filter.mpr ⟨by decide +kernel, by decide +kernel⟩
theorem am_cp_i : Cond.initialized "java/lang/System" ∈ am_TB := List.mem_filter.mpr ⟨by decide +kernel, by decide +kernel⟩
theorem sw_ivI {sc : am_S} {own : String} {cc : ByteArray} {nL : Nat} {ret : Option FieldType} {rd pc : Nat} {y : MethodName} {cc' : ByteArray} {nL' rd' : Nat} {ret' : Option FieldType} {n : Nat} {f : am_F} {C idx : Nat} {k : am_K} (hd : decode cc pc = .ok (.invokevirtual idx, 3)) (hL : am_Lk own idx y) (hY : am_Y y cc' nL' ret' n) (hI : am_Yi y C) (hM : am_Met rd' y cc' nL' ret' f) (hrd : rd' < rd) (hk : am_SW sc own cc nL ret rd (pc + 3) k) : am_SW sc own cc nL ret rd pc (am_ivI C f n k) := by
  intro g p e R s m args below meth c cells slots Q H locs ls lv st σ r hC hl hP hS hr hR
  obtain ⟨as, rest, e1, hn, h4, hr1⟩ := am_cut_some hr
  obtain ⟨b, t, e2, hb, hr2⟩ := am_rcv_some hr1
  obtain ⟨x, σ1, hf, hr3⟩ := am_bI_some hr2
  subst e1; subst e2
  exact am_call hC hl.1 hP hS hd hL hY hI hM hrd hb (by simpa using hn) hf h4 (fun H1 locs1 hP1 hS1 => hk g p e R s m args below meth c cells slots Q H1 locs1 ls lv (.int x :: rest) σ1 r hC hl hP1 hS1 hr3 hR)
theorem sw_svI {sc : am_S} {own : String} {cc : ByteArray} {nL : Nat} {ret : Option FieldType} {rd pc : Nat} {y : MethodName} {cc' : ByteArray} {nL' rd' : Nat} {ret' : Option FieldType} {n : Nat} {f : am_F} {idx : Nat} {k : am_K} (hd : decode cc pc = .ok (.invokestatic idx, 3)) (hL : am_Lk own idx y) (hY : am_Y y cc' nL' ret' n) (hI : Cond.static y ∈ am_TB) (hM : am_Met rd' y cc' nL' ret' f) (hrd : rd' < rd) (hk : am_SW sc own cc nL ret rd (pc + 3) k) : am_SW sc own cc nL ret rd pc (am_svI f n k) := by
  intro g p e R s m args below meth c cells slots Q H locs ls lv st σ r hC hl hP hS hr hR
  obtain ⟨as, rest, e1, hn, h4, hr1⟩ := am_cut_some hr
  obtain ⟨x, σ1, hf, hr3⟩ := am_bI_some hr1
  subst e1
  exact am_callS hC hl.1 hP hS hd hL hY hI hM hrd hn hf h4 (fun H1 locs1 hP1 hS1 => hk g p e R s m args below meth c cells slots Q H1 locs1 ls lv (.int x :: rest) σ1 r hC hl hP1 hS1 hr3 hR)
theorem sw_ivL {sc : am_S} {own : String} {cc : ByteArray} {nL : Nat} {ret : Option FieldType} {rd pc : Nat} {y : MethodName} {cc' : ByteArray} {nL' rd' : Nat} {ret' : Option FieldType} {n : Nat} {f : am_F} {C idx : Nat} {k : am_K} (hd : decode cc pc = .ok (.invokevirtual idx, 3)) (hL : am_Lk own idx y) (hY : am_Y y cc' nL' ret' n) (hI : am_Yi y C) (hM : am_Met rd' y cc' nL' ret' f) (hrd : rd' < rd) (hk : am_SW sc own cc nL ret rd (pc + 3) k) : am_SW sc own cc nL ret rd pc (am_ivL C f n k) := by
  intro g p e R s m args below meth c cells slots Q H locs ls lv st σ r hC hl hP hS hr hR
  obtain ⟨as, rest, e1, hn, h4, hr1⟩ := am_cut_some hr
  obtain ⟨b, t, e2, hb, hr2⟩ := am_rcv_some hr1
  obtain ⟨x, σ1, hf, hr3⟩ := am_bL_some hr2
  subst e1; subst e2
  exact am_call hC hl.1 hP hS hd hL hY hI hM hrd hb (by simpa using hn) hf h4 (fun H1 locs1 hP1 hS1 => hk g p e R s m args below meth c cells slots Q H1 locs1 ls lv (.long x :: rest) σ1 r hC hl hP1 hS1 hr3 hR)
theorem sw_svL {sc : am_S} {own : String} {cc : ByteArray} {nL : Nat} {ret : Option FieldType} {rd pc : Nat} {y : MethodName} {cc' : ByteArray} {nL' rd' : Nat} {ret' : Option FieldType} {n : Nat} {f : am_F} {idx : Nat} {k : am_K} (hd : decode cc pc = .ok (.invokestatic idx, 3)) (hL : am_Lk own idx y) (hY : am_Y y cc' nL' ret' n) (hI : Cond.static y ∈ am_TB) (hM : am_Met rd' y cc' nL' ret' f) (hrd : rd' < rd) (hk : am_SW sc own cc nL ret rd (pc + 3) k) : am_SW sc own cc nL ret rd pc (am_svL f n k) := by
  intro g p e R s m args below meth c cells slots Q H locs ls lv st σ r hC hl hP hS hr hR
  obtain ⟨as, rest, e1, hn, h4, hr1⟩ := am_cut_some hr
  obtain ⟨x, σ1, hf, hr3⟩ := am_bL_some hr1
  subst e1
  exact am_callS hC hl.1 hP hS hd hL hY hI hM hrd hn hf h4 (fun H1 locs1 hP1 hS1 => hk g p e R s m args below meth c cells slots Q H1 locs1 ls lv (.long x :: rest) σ1 r hC hl hP1 hS1 hr3 hR)
theorem sw_ivV {sc : am_S} {own : String} {cc : ByteArray} {nL : Nat} {ret : Option FieldType} {rd pc : Nat} {y : MethodName} {cc' : ByteArray} {nL' rd' : Nat} {ret' : Option FieldType} {n : Nat} {f : am_F} {C idx : Nat} {k : am_K} (hd : decode cc pc = .ok (.invokevirtual idx, 3)) (hL : am_Lk own idx y) (hY : am_Y y cc' nL' ret' n) (hI : am_Yi y C) (hM : am_Met rd' y cc' nL' ret' f) (hrd : rd' < rd) (hk : am_SW sc own cc nL ret rd (pc + 3) k) : am_SW sc own cc nL ret rd pc (am_ivV C f n k) := by
  intro g p e R s m args below meth c cells slots Q H locs ls lv st σ r hC hl hP hS hr hR
  obtain ⟨as, rest, e1, hn, h4, hr1⟩ := am_cut_some hr
  obtain ⟨b, t, e2, hb, hr2⟩ := am_rcv_some hr1
  obtain ⟨σ1, hf, hr3⟩ := am_bV_some hr2
  subst e1; subst e2
  exact am_call hC hl.1 hP hS hd hL hY hI hM hrd hb (by simpa using hn) hf h4 (fun H1 locs1 hP1 hS1 => hk g p e R s m args below meth c cells slots Q H1 locs1 ls lv rest σ1 r hC hl hP1 hS1 hr3 hR)
theorem sw_svV {sc : am_S} {own : String} {cc : ByteArray} {nL : Nat} {ret : Option FieldType} {rd pc : Nat} {y : MethodName} {cc' : ByteArray} {nL' rd' : Nat} {ret' : Option FieldType} {n : Nat} {f : am_F} {idx : Nat} {k : am_K} (hd : decode cc pc = .ok (.invokestatic idx, 3)) (hL : am_Lk own idx y) (hY : am_Y y cc' nL' ret' n) (hI : Cond.static y ∈ am_TB) (hM : am_Met rd' y cc' nL' ret' f) (hrd : rd' < rd) (hk : am_SW sc own cc nL ret rd (pc + 3) k) : am_SW sc own cc nL ret rd pc (am_svV f n k) := by
  intro g p e R s m args below meth c cells slots Q H locs ls lv st σ r hC hl hP hS hr hR
  obtain ⟨as, rest, e1, hn, h4, hr1⟩ := am_cut_some hr
  obtain ⟨σ1, hf, hr3⟩ := am_bV_some hr1
  subst e1
  exact am_callS hC hl.1 hP hS hd hL hY hI hM hrd hn hf h4 (fun H1 locs1 hP1 hS1 => hk g p e R s m args below meth c cells slots Q H1 locs1 ls lv rest σ1 r hC hl hP1 hS1 hr3 hR)
theorem sw_cpI {sc : am_S} {own : String} {cc : ByteArray} {nL : Nat} {ret : Option FieldType} {rd pc : Nat} {idx : Nat} {k : am_K} (hd : decode cc pc = .ok (.invokestatic idx, 3)) (hlk : Cond.methodLink own idx arraycopyName ∈ am_TB) (hrd : 0 < rd) (hk : am_SW sc own cc nL ret rd (pc + 3) k) : am_SW sc own cc nL ret rd pc (am_cpI k) := by
  intro g p e R s m args below meth c cells slots Q H locs ls lv st σ r hC hl hP hS hr hR
  obtain ⟨as, rest, e0, hn0, h4, hr0⟩ := am_cut_some hr
  obtain ⟨n, st1, e1, hr1⟩ := am_popI_some hr0
  obtain ⟨dp, st2, e2, hr2⟩ := am_popI_some hr1
  obtain ⟨h1, st3, e3, hr3⟩ := am_popR_some hr2
  obtain ⟨sp, st4, e4, hr4⟩ := am_popI_some hr3
  obtain ⟨h0, st5, e5, hr5⟩ := am_popR_some hr4
  obtain ⟨⟨hc0, hc1⟩, hr6⟩ := am_if_some hr5
  obtain ⟨hok, hr7⟩ := am_if_some hr6
  have hrest : rest = st5 := by
    have e1' := e0.symm.trans e1
    rw [e2, e3, e4, e5] at e1'
    have := congrArg (List.drop 5) e1'
    rw [List.drop_append_of_le_length (by rw [List.length_reverse, hn0]; exact Nat.le_refl _), List.drop_eq_nil_of_le (by rw [List.length_reverse, hn0]; exact Nat.le_refl _)] at this
    exact this
  have hcat : ((st5.map (am_sv g)).map fun v => v.category).sum ≤ 8 := hrest ▸ am_le4_cat (g := g) h4
  clear e0 hr0 hr
  subst e5; subst e4; subst e3; subst e2
  rw [e1]
  obtain ⟨o1, o2, o3, o4, o5⟩ := am_cpOk_spec hok
  have hh1 : h1 < am_N := am_kd_lt (by rw [hc1]; decide)
  obtain ⟨hx, hbb, hml, hown, hts, hK, hD, hfr, hlo, hce, hsl, hX, hNb⟩ := hC
  have hC : am_C g sc own cc nL rd p R s m args c cells slots := ⟨hx, hbb, hml, hown, hts, hK, hD, hfr, hlo, hce, hsl, hX, hNb⟩
  refine va_copyi hx hbb (by rw [hml]; exact hl.1.symm) hown (hts _ hlk) (hts _ am_cp_n) (hts _ am_cp_s) (hts _ am_cp_i) hK hP (hD σ) hS h0 h1 0 0 (am_at_kd g σ hc0 (by decide) (am_ce_20 hc0)) (am_at_kd g σ hc1 (by decide) (am_ce_20 hc1)) rfl rfl rfl o1 o2 o3 o4 o5 (fun _ _ => rfl) (by omega) ?_ hd (fun H1 locs1 hP1 _ hS1 => ?_)
  · have h7 : nativeFrameWords "java/lang/System" "arraycopy" 5 = 7 := by decide +kernel
    rw [h7]; omega
  · rw [am_ws_set g σ (am_uA σ h1 (va_cpy (σ.1 h0) (σ.1 h1) sp.toNatClampNeg dp.toNatClampNeg n.toNatClampNeg)) hh1 (by rw [am_ce_20 hc1]; show _ = Sum.inl (_, _, Sum.inl _); congr 4; exact am_up_eq) am_ce_uA] at hP1
    exact hk g p e R s m args below meth c cells slots Q H1 locs1 ls lv st5 _ r hC hl hP1 hS1 hr7 hR
theorem sw_cpL {sc : am_S} {own : String} {cc : ByteArray} {nL : Nat} {ret : Option FieldType} {rd pc : Nat} {idx : Nat} {k : am_K} (hd : decode cc pc = .ok (.invokestatic idx, 3)) (hlk : Cond.methodLink own idx arraycopyName ∈ am_TB) (hrd : 0 < rd) (hk : am_SW sc own cc nL ret rd (pc + 3) k) : am_SW sc own cc nL ret rd pc (am_cpL k) := by
  intro g p e R s m args below meth c cells slots Q H locs ls lv st σ r hC hl hP hS hr hR
  obtain ⟨as, rest, e0, hn0, h4, hr0⟩ := am_cut_some hr
  obtain ⟨n, st1, e1, hr1⟩ := am_popI_some hr0
  obtain ⟨dp, st2, e2, hr2⟩ := am_popI_some hr1
  obtain ⟨h1, st3, e3, hr3⟩ := am_popR_some hr2
  obtain ⟨sp, st4, e4, hr4⟩ := am_popI_some hr3
  obtain ⟨h0, st5, e5, hr5⟩ := am_popR_some hr4
  obtain ⟨⟨hc0, hc1⟩, hr6⟩ := am_if_some hr5
  obtain ⟨hok, hr7⟩ := am_if_some hr6
  have hrest : rest = st5 := by
    have e1' := e0.symm.trans e1
    rw [e2, e3, e4, e5] at e1'
    have := congrArg (List.drop 5) e1'
    rw [List.drop_append_of_le_length (by rw [List.length_reverse, hn0]; exact Nat.le_refl _), List.drop_eq_nil_of_le (by rw [List.length_reverse, hn0]; exact Nat.le_refl _)] at this
    exact this
  have hcat : ((st5.map (am_sv g)).map fun v => v.category).sum ≤ 8 := hrest ▸ am_le4_cat (g := g) h4
  clear e0 hr0 hr
  subst e5; subst e4; subst e3; subst e2
  rw [e1]
  obtain ⟨o1, o2, o3, o4, o5⟩ := am_cpOk_spec hok
  have hh1 : h1 < am_N := am_kd_lt (by rw [hc1]; decide)
  obtain ⟨hx, hbb, hml, hown, hts, hK, hD, hfr, hlo, hce, hsl, hX, hNb⟩ := hC
  have hC : am_C g sc own cc nL rd p R s m args c cells slots := ⟨hx, hbb, hml, hown, hts, hK, hD, hfr, hlo, hce, hsl, hX, hNb⟩
  refine va_copyl hx hbb (by rw [hml]; exact hl.1.symm) hown (hts _ hlk) (hts _ am_cp_n) (hts _ am_cp_s) (hts _ am_cp_i) hK hP (hD σ) hS h0 h1 1 1 (am_at_kd g σ hc0 (by decide) (am_ce_21 hc0)) (am_at_kd g σ hc1 (by decide) (am_ce_21 hc1)) rfl rfl rfl o1 o2 o3 o4 o5 (fun _ _ => rfl) (by omega) ?_ hd (fun H1 locs1 hP1 _ hS1 => ?_)
  · have h7 : nativeFrameWords "java/lang/System" "arraycopy" 5 = 7 := by decide +kernel
    rw [h7]; omega
  · rw [am_ws_set g σ (am_uB σ h1 (va_cpy (σ.2 h0) (σ.2 h1) sp.toNatClampNeg dp.toNatClampNeg n.toNatClampNeg)) hh1 (by rw [am_ce_21 hc1]; show _ = Sum.inl (_, _, Sum.inr (Sum.inl _)); congr 5; exact am_up_eq) am_ce_uB] at hP1
    exact hk g p e R s m args below meth c cells slots Q H1 locs1 ls lv st5 _ r hC hl hP1 hS1 hr7 hR
theorem am_ent_nth (g : am_G) : ∀ (vs : List Value) (n o i : Nat) (v : Value), am_nth (am_ent vs ++ List.replicate n none) i = some v → (o + i, am_sv g v) ∈ lv_args o (vs.map (am_sv g))
  | [], n, o, i, v, h => by
    exfalso
    have : ∀ (n i : Nat), am_nth (List.replicate n none) i = none := by
      intro n
      induction n with
      | zero => intro i; rfl
      | succ n ih => intro i; cases i with
        | zero => rfl
        | succ i => exact ih i
    rw [show am_ent [] ++ List.replicate n none = List.replicate n none from rfl, this] at h
    cases h
  | w :: vs, n, o, i, v, h => by
    have h1 : ∀ {x : Option Value}, x = some w → (am_ent (w :: vs) = x :: am_ent vs ∧ (am_sv g w).category = 1) ∨ (am_ent (w :: vs) = x :: none :: am_ent vs ∧ (am_sv g w).category = 2) := by
      intro x hx
      subst hx
      cases w <;> first | exact Or.inl ⟨rfl, rfl⟩ | exact Or.inr ⟨rfl, rfl⟩
    rcases h1 rfl with ⟨e1, e2⟩ | ⟨e1, e2⟩
    · rw [e1] at h
      cases i with
      | zero =>
        have h : some w = some v := h
        cases h
        exact List.mem_cons_self
      | succ i =>
        have h : am_nth (am_ent vs ++ List.replicate n none) i = some v := h
        have := am_ent_nth g vs n (o + 1) i v h
        rw [show o + (i + 1) = o + 1 + i by omega]
        refine List.mem_cons_of_mem _ ?_
        rw [e2]
        exact this
    · rw [e1] at h
      cases i with
      | zero =>
        have h : some w = some v := h
        cases h
        exact List.mem_cons_self
      | succ i => cases i with
        | zero => cases h
        | succ i =>
          have h : am_nth (am_ent vs ++ List.replicate n none) i = some v := h
          have := am_ent_nth g vs n (o + 2) i v h
          rw [show o + (i + 1 + 1) = o + 2 + i by omega]
          refine List.mem_cons_of_mem _ ?_
          rw [e2]
          exact this
theorem am_ent_len (g : am_G) : ∀ (vs : List Value), (lg_sl (vs.map (am_sv g))).length = (am_ent vs).length
  | [] => rfl
  | w :: vs => by
    have ih := am_ent_len g vs
    have h1 : lg_sl ((w :: vs).map (am_sv g)) = (if (am_sv g w).category = 2 then [.val (am_sv g w), .second] else [.val (am_sv g w)]) ++ lg_sl (vs.map (am_sv g)) := rfl
    rw [h1, List.length_append, ih]
    cases w <;> simp [am_ent, am_sv, Value.category] <;> omega
theorem am_met_of {y : MethodName} {cc : ByteArray} {nL : Nat} {ret : Option FieldType} {rd : Nat} {k : am_K} (hy : plainName y.cls = true) (hsw : am_SW none y.cls cc nL ret rd 0 k) : am_Met rd y cc nL ret (am_go nL k) := by
  intro g hD vs σ r hf
  obtain ⟨hle, hf⟩ := am_if_some hf
  have hle : (am_ent vs).length ≤ nL := Nat.le_of_ble_eq_true hle
  refine Met.ofW (cc := cc) (maxL := nL) (ret := ret) hy rfl ?_
  intro p e s m args below meth c s₁ B hml hv
  obtain ⟨rfl, hP, hK, hNb⟩ := hv
  have hts := atoms_spec (ws := Cond.code y cc nL ret :: am_TB) B.pre
  have hown : s.vm.findClass y.cls = some m.cls := findClass_of_methodNamed B.named
  have hl := lv_entry (vs.map (am_sv g)) (n := nL) (by rw [am_ent_len]; exact hle)
  rw [lg_entry_eq]
  have hC : am_C g none y.cls cc nL rd p (am_rm rd) s m (vs.map (am_sv g)).toArray c 0 0 := ⟨B.exec, B.bytes, hml, hown, fun w hw => hts w (List.mem_cons_of_mem _ hw), hK, hD, Nat.le_refl _, Nat.le_refl _, Nat.le_refl _, Nat.le_refl _, trivial, hNb⟩
  refine hsw g p e (am_rm rd) s m _ below meth c 0 0 _ s.heap [] _ _ [] σ r hC ⟨hl.1, hl.2.1, fun i v hv => ?_⟩ hP va_S.rf hf ?_
  · have := am_ent_nth g vs _ 0 i v hv
    rw [Nat.zero_add] at this
    exact hl.2.2 _ this
  · intro pc H locs ls hP1 hS1 hrd
    obtain ⟨rv, σr⟩ := r
    match rv, hrd with
    | none, hrd => exact W.vret B.exec B.bytes (hrd.2 ▸ B.returns) (fun t ht _ => ⟨rfl, by rw [ht]; exact hP1, hS1.F ht⟩) hS1.2.2 hrd.1 B.notSynchronized
    | some (.int x), hrd =>
      obtain ⟨h1, ty, h2, h3⟩ := hrd
      exact W.zret B.exec B.bytes (h2 ▸ B.returns) h3 (fun t ht _ => ⟨rfl, by rw [ht]; exact hP1, hS1.F ht⟩) hS1.2.2 h1 B.notSynchronized
    | some (.long x), hrd => exact W.lret B.exec B.bytes (hrd.2 ▸ B.returns) (fun t ht _ => ⟨rfl, by rw [ht]; exact hP1, hS1.F ht⟩) hS1.2.2 hrd.1 B.notSynchronized
/-- rounds of loops -/
theorem am_it_sw {sc : am_S} {own : String} {cc : ByteArray} {nL : Nat} {ret : Option FieldType} {rd : Nat} {Hd : (Nat → am_K) → Nat → am_K} (h : ∀ B, (∀ pc, am_SW sc own cc nL ret rd pc (B pc)) → ∀ pc, am_SW sc own cc nL ret rd pc (Hd B pc)) : ∀ (n pc : Nat), am_SW sc own cc nL ret rd pc (am_it Hd n pc)
  | 0, _ => sw_no
  | n + 1, pc => h _ (am_it_sw h n) pc
theorem am_mt_i : Cond.initialized "java/lang/Math" ∈ am_TB := List.mem_filter.mpr ⟨by decide +kernel, by decide +kernel⟩
theorem am_max_s : Cond.static Lib.Math.max.name ∈ am_TB := List.mem_filter.mpr ⟨by decide +kernel, by decide +kernel⟩
theorem am_max_c : Cond.code Lib.Math.max.name Lib.Math.max.code 2 (some .int) ∈ am_TB := List.mem_filter.mpr ⟨by decide +kernel, by decide +kernel⟩
theorem sw_max {sc : am_S} {own : String} {cc : ByteArray} {nL : Nat} {ret : Option FieldType} {rd pc : Nat} {idx : Nat} {k : am_K} (hd : decode cc pc = .ok (.invokestatic idx, 3)) (hlk : Cond.methodLink own idx Lib.Math.max.name ∈ am_TB) (hrd : 0 < rd) (hk : am_SW sc own cc nL ret rd (pc + 3) k) : am_SW sc own cc nL ret rd pc (am_max k) := by
  intro g p e R s m args below meth c cells slots Q H locs ls lv st σ r hC hl hP hS hr hR
  obtain ⟨as, rest, e0, hn0, h4, hr0⟩ := am_cut_some hr
  obtain ⟨y, st1, e1, hr1⟩ := am_popI_some hr0
  obtain ⟨x, st2, e2, hr2⟩ := am_popI_some hr1
  subst e2
  have hrest : rest = st2 := by
    have := congrArg (List.drop 2) (e0.symm.trans e1)
    rw [List.drop_append_of_le_length (by rw [List.length_reverse, hn0]; exact Nat.le_refl _), List.drop_eq_nil_of_le (by rw [List.length_reverse, hn0]; exact Nat.le_refl _)] at this
    exact this
  have hcat : ((st2.map (am_sv g)).map fun v => v.category).sum ≤ 8 := hrest ▸ am_le4_cat (g := g) h4
  clear e0 hr0 hr
  rw [e1]
  obtain ⟨hx, hbb, hml, hown, hts, hK, hD, hfr, hlo, hce, hsl, hX, hNb⟩ := hC
  have hC : am_C g sc own cc nL rd p R s m args c cells slots := ⟨hx, hbb, hml, hown, hts, hK, hD, hfr, hlo, hce, hsl, hX, hNb⟩
  exact va_mmax hx hbb (by rw [hml]; exact hl.1.symm) hown (hts _ hlk) (hts _ am_max_s) (hts _ am_mt_i) (hts _ am_max_c) (by omega) (by omega) hce hsl hd (hk g p e R s m args below meth c cells slots Q H locs ls lv _ σ r hC hl hP hS hr2 hR)
theorem am_min_s : Cond.static Lib.Math.min.name ∈ am_TB := List.mem_filter.mpr ⟨by decide +kernel, by decide +kernel⟩
theorem am_min_c : Cond.code Lib.Math.min.name Lib.Math.min.code 2 (some .int) ∈ am_TB := List.mem_filter.mpr ⟨by decide +kernel, by decide +kernel⟩
theorem sw_min {sc : am_S} {own : String} {cc : ByteArray} {nL : Nat} {ret : Option FieldType} {rd pc : Nat} {idx : Nat} {k : am_K} (hd : decode cc pc = .ok (.invokestatic idx, 3)) (hlk : Cond.methodLink own idx Lib.Math.min.name ∈ am_TB) (hrd : 0 < rd) (hk : am_SW sc own cc nL ret rd (pc + 3) k) : am_SW sc own cc nL ret rd pc (am_min k) := by
  intro g p e R s m args below meth c cells slots Q H locs ls lv st σ r hC hl hP hS hr hR
  obtain ⟨as, rest, e0, hn0, h4, hr0⟩ := am_cut_some hr
  obtain ⟨y, st1, e1, hr1⟩ := am_popI_some hr0
  obtain ⟨x, st2, e2, hr2⟩ := am_popI_some hr1
  subst e2
  have hrest : rest = st2 := by
    have := congrArg (List.drop 2) (e0.symm.trans e1)
    rw [List.drop_append_of_le_length (by rw [List.length_reverse, hn0]; exact Nat.le_refl _), List.drop_eq_nil_of_le (by rw [List.length_reverse, hn0]; exact Nat.le_refl _)] at this
    exact this
  have hcat : ((st2.map (am_sv g)).map fun v => v.category).sum ≤ 8 := hrest ▸ am_le4_cat (g := g) h4
  clear e0 hr0 hr
  rw [e1]
  obtain ⟨hx, hbb, hml, hown, hts, hK, hD, hfr, hlo, hce, hsl, hX, hNb⟩ := hC
  have hC : am_C g sc own cc nL rd p R s m args c cells slots := ⟨hx, hbb, hml, hown, hts, hK, hD, hfr, hlo, hce, hsl, hX, hNb⟩
  exact va_mmin hx hbb (by rw [hml]; exact hl.1.symm) hown (hts _ hlk) (hts _ am_min_s) (hts _ am_mt_i) (hts _ am_min_c) (by omega) (by omega) hce hsl hd (hk g p e R s m args below meth c cells slots Q H locs ls lv _ σ r hC hl hP hS hr2 hR)
theorem am_absL_s : Cond.static Lib.MathLoose.abs_long.x ∈ am_TB := List.mem_filter.mpr ⟨by decide +kernel, by decide +kernel⟩
theorem am_absL_c : Cond.code Lib.MathLoose.abs_long.x Lib.MathLoose.abs_long.code 2 (some .long) ∈ am_TB := List.mem_filter.mpr ⟨by decide +kernel, by decide +kernel⟩
theorem sw_absL {sc : am_S} {own : String} {cc : ByteArray} {nL : Nat} {ret : Option FieldType} {rd pc : Nat} {idx : Nat} {k : am_K} (hd : decode cc pc = .ok (.invokestatic idx, 3)) (hlk : Cond.methodLink own idx Lib.MathLoose.abs_long.x ∈ am_TB) (hrd : 0 < rd) (hk : am_SW sc own cc nL ret rd (pc + 3) k) : am_SW sc own cc nL ret rd pc (am_absL k) := by
  intro g p e R s m args below meth c cells slots Q H locs ls lv st σ r hC hl hP hS hr hR
  obtain ⟨as, rest, e0, hn0, h4, hr0⟩ := am_cut_some hr
  obtain ⟨x, st2, e1, hr2⟩ := am_popL_some hr0
  have hrest : rest = st2 := by
    have := congrArg (List.drop 1) (e0.symm.trans e1)
    rw [List.drop_append_of_le_length (by rw [List.length_reverse, hn0]; exact Nat.le_refl _), List.drop_eq_nil_of_le (by rw [List.length_reverse, hn0]; exact Nat.le_refl _)] at this
    exact this
  have hcat : ((st2.map (am_sv g)).map fun v => v.category).sum ≤ 8 := hrest ▸ am_le4_cat (g := g) h4
  clear e0 hr0 hr
  rw [e1]
  obtain ⟨hx, hbb, hml, hown, hts, hK, hD, hfr, hlo, hce, hsl, hX, hNb⟩ := hC
  have hC : am_C g sc own cc nL rd p R s m args c cells slots := ⟨hx, hbb, hml, hown, hts, hK, hD, hfr, hlo, hce, hsl, hX, hNb⟩
  exact va_mabs_long hx hbb (by rw [hml]; exact hl.1.symm) hown (hts _ hlk) (hts _ am_absL_s) (hts _ am_mt_i) (hts _ am_absL_c) (by omega) (by omega) hce hsl hd (hk g p e R s m args below meth c cells slots Q H locs ls lv _ σ r hC hl hP hS hr2 hR)
/-! the script -/
theorem sw_sld {own : String} {cc : ByteArray} {nL : Nat} {ret : Option FieldType} {rd pc : Nat} {L : Nat} {xs : Nat → Int32} {kk : am_K} (hd : decode cc pc = .ok (.iaload, 1)) (hk : am_SW (some (L, xs)) own cc nL ret rd (pc + 1) kk) : am_SW (some (L, xs)) own cc nL ret rd pc (am_sld L xs kk) := by
  intro g p e R s m args below meth c cells slots Q H locs ls lv st σ r hC hl hP hS hr hR
  obtain ⟨i, st1, e1, hr1⟩ := am_popI_some hr
  obtain ⟨h, st2, e2, hr2⟩ := am_popR_some hr1
  subst e1; subst e2
  obtain ⟨h1, hr3⟩ := am_if_some hr2
  obtain ⟨hi, hr4⟩ := am_if_some hr3
  subst h1
  obtain ⟨b, hX, hbl, hbA, hb⟩ := hC.2.2.2.2.2.2.2.2.2.2.2.1
  show W p g.1 e R s m args below meth c H locs cells slots Q (F0 m pc ls (.int i :: .ref (am_ad g 999) :: st2.map (am_sv g)))
  rw [hb]
  exact va_sld hC.1 hC.2.1 hX hbl hbA hS (am_inb_in hi) hd (hk g p e R s m args below meth c cells slots Q H locs ls lv _ σ r hC hl hP hS hr4 hR)
theorem sw_slen {own : String} {cc : ByteArray} {nL : Nat} {ret : Option FieldType} {rd pc : Nat} {L : Nat} {xs : Nat → Int32} {kk : am_K} (hd : decode cc pc = .ok (.arraylength, 1)) (hk : am_SW (some (L, xs)) own cc nL ret rd (pc + 1) kk) : am_SW (some (L, xs)) own cc nL ret rd pc (am_slen L kk) := by
  intro g p e R s m args below meth c cells slots Q H locs ls lv st σ r hC hl hP hS hr hR
  obtain ⟨h, st2, e2, hr2⟩ := am_popR_some hr
  subst e2
  obtain ⟨h1, hr3⟩ := am_if_some hr2
  subst h1
  obtain ⟨b, hX, hbl, hbA, hb⟩ := hC.2.2.2.2.2.2.2.2.2.2.2.1
  show W p g.1 e R s m args below meth c H locs cells slots Q (F0 m pc ls (.ref (am_ad g 999) :: st2.map (am_sv g)))
  rw [hb]
  exact va_slen hC.1 hC.2.1 hX hbl hbA hS hd (hk g p e R s m args below meth c cells slots Q H locs ls lv _ σ r hC hl hP hS hr3 hR)
