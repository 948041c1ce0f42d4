/-! fields and arrays against the machine -/
theorem am_in0 : (u_ws RX0 TX0 9).all (fun w => decide (w ∈ lw_tbl) && goodWord w) = true := by decide +kernel
theorem am_in1 : (u_ws RX1 TX1 3).all (fun w => decide (w ∈ lw_tbl) && goodWord w) = true := by decide +kernel
theorem am_in2 : (u_ws RX2 TX2 4).all (fun w => decide (w ∈ lw_tbl) && goodWord w) = true := by decide +kernel
theorem am_in3 : (u_ws RX3 TX3 12).all (fun w => decide (w ∈ lw_tbl) && goodWord w) = true := by decide +kernel
theorem am_in4 : (u_ws RX4 TX4 4).all (fun w => decide (w ∈ lw_tbl) && goodWord w) = true := by decide +kernel
theorem am_in5 : (u_ws RX5 TX5 2).all (fun w => decide (w ∈ lw_tbl) && goodWord w) = true := by decide +kernel
theorem am_in6 : (u_ws RX6 TX6 14).all (fun w => decide (w ∈ lw_tbl) && goodWord w) = true := by decide +kernel
theorem am_in7 : (u_ws RX7 TX7 4).all (fun w => decide (w ∈ lw_tbl) && goodWord w) = true := by decide +kernel
theorem am_in8 : (u_ws RX8 TX8 11).all (fun w => decide (w ∈ lw_tbl) && goodWord w) = true := by decide +kernel
theorem am_in9 : (u_ws RX9 TX9 5).all (fun w => decide (w ∈ lw_tbl) && goodWord w) = true := by decide +kernel
theorem am_in10 : (u_ws RX10 TX10 19).all (fun w => decide (w ∈ lw_tbl) && goodWord w) = true := by decide +kernel
theorem am_in11 : (u_ws RX11 TX11 50).all (fun w => decide (w ∈ lw_tbl) && goodWord w) = true := by decide +kernel
theorem am_tb_all {ws : List Cond} (h : ws.all (fun w => decide (w ∈ lw_tbl) && goodWord w) = true) : ∀ w ∈ ws, w ∈ am_TB := by
  intro w hw
  have h1 := List.all_eq_true.mp h w hw
  rw [Bool.and_eq_true] at h1
  exact List.mem_filter.mpr ⟨of_decide_eq_true h1.1, h1.2⟩
theorem am_cls {C : Nat} {q : vw_C} (h : vwCl[C]? = some q) : C < 20 ∧ (∀ w ∈ u_ws q.1 q.2.1 q.2.2, w ∈ am_TB) ∧ (∃ ty0 : Nat → FieldType, ∀ k, k < q.2.2 → parseFieldDescriptor (q.2.1 k).2.2.1 = some (ty0 k)) ∧ (∀ a, a < q.2.2 → ∀ b, b < q.2.2 → a ≠ b → (q.2.1 a).2.1 ≠ (q.2.1 b).2.1) := by
  match C, h with
  | 0, h =>
    obtain rfl : _ = q := Option.some.inj h
    exact ⟨by decide, am_tb_all am_in0, ⟨tyX0, tyX0_ok⟩, nmX0⟩
  | 1, h =>
    obtain rfl : _ = q := Option.some.inj h
    exact ⟨by decide, am_tb_all am_in1, ⟨tyX1, tyX1_ok⟩, nmX1⟩
  | 2, h =>
    obtain rfl : _ = q := Option.some.inj h
    exact ⟨by decide, am_tb_all am_in2, ⟨tyX2, tyX2_ok⟩, nmX2⟩
  | 3, h =>
    obtain rfl : _ = q := Option.some.inj h
    exact ⟨by decide, am_tb_all am_in3, ⟨tyX3, tyX3_ok⟩, nmX3⟩
  | 4, h =>
    obtain rfl : _ = q := Option.some.inj h
    exact ⟨by decide, am_tb_all am_in4, ⟨tyX4, tyX4_ok⟩, nmX4⟩
  | 5, h =>
    obtain rfl : _ = q := Option.some.inj h
    exact ⟨by decide, am_tb_all am_in5, ⟨tyX5, tyX5_ok⟩, nmX5⟩
  | 6, h =>
    obtain rfl : _ = q := Option.some.inj h
    exact ⟨by decide, am_tb_all am_in6, ⟨tyX6, tyX6_ok⟩, nmX6⟩
  | 7, h =>
    obtain rfl : _ = q := Option.some.inj h
    exact ⟨by decide, am_tb_all am_in7, ⟨tyX7, tyX7_ok⟩, nmX7⟩
  | 8, h =>
    obtain rfl : _ = q := Option.some.inj h
    exact ⟨by decide, am_tb_all am_in8, ⟨tyX8, tyX8_ok⟩, nmX8⟩
  | 9, h =>
    obtain rfl : _ = q := Option.some.inj h
    exact ⟨by decide, am_tb_all am_in9, ⟨tyX9, tyX9_ok⟩, nmX9⟩
  | 10, h =>
    obtain rfl : _ = q := Option.some.inj h
    exact ⟨by decide, am_tb_all am_in10, ⟨tyX10, tyX10_ok⟩, nmX10⟩
  | 11, h =>
    obtain rfl : _ = q := Option.some.inj h
    exact ⟨by decide, am_tb_all am_in11, ⟨tyX11, tyX11_ok⟩, nmX11⟩
  | n + 12, h => cases h
def am_FL (own : String) (idx C k : Nat) (ty : FieldType) : Prop := ∃ q : vw_C, vwCl[C]? = some q ∧ k < q.2.2 ∧ k < am_nf C ∧ (q.2.1 k).1 = q.1 ∧ parseFieldDescriptor (q.2.1 k).2.2.1 = some ty ∧ (Cond.fieldLink own idx q.1 (q.2.1 k).2.1 (q.2.1 k).2.2.1 ∈ am_TB ∨ ∃ host, Cond.fieldLinkNest own idx q.1 (q.2.1 k).2.1 (q.2.1 k).2.2.1 host ∈ am_NB)
def am_nofin (C k : Nat) : Prop := ∀ q : vw_C, vwCl[C]? = some q → (q.2.1 k).2.2.2 = false
theorem am_ce_o {g : am_G} {σ : am_M} {h C : Nat} (hc : am_kd h = C) (h20 : C < 20) : am_ce g σ h = .inr (C, am_fs g σ h) := by
  unfold am_ce
  rw [hc, if_pos h20]
theorem am_fs_get {g : am_G} {σ : am_M} {h C k : Nat} (hc : am_kd h = C) (hk : k < am_nf C) : (am_fs g σ h)[k]? = some (am_fv g C h σ k) := by
  unfold am_fs
  rw [hc, List.getElem?_map, List.getElem?_range hk]
  rfl
theorem am_fs_set {g : am_G} {σ σ' : am_M} {h C k : Nat} {v : Value} (hc : am_kd h = C) (hk : k < am_nf C) (hv : am_fv g C h σ' k = v) (ho : ∀ i, i ≠ k → am_fv g C h σ' i = am_fv g C h σ i) : am_fs g σ' h = (am_fs g σ h).set k v := by
  apply List.ext_getElem?
  intro i
  by_cases hi : i < am_nf C
  · rw [am_fs_get hc hi]
    by_cases hik : i = k
    · subst hik
      rw [List.getElem?_set_self (by simp [am_fs, hc]; exact hi), hv]
    · rw [List.getElem?_set_ne (Ne.symm hik), am_fs_get hc hi, ho i hik]
  · rw [List.getElem?_eq_none (by simp [am_fs, hc]; omega), List.getElem?_eq_none (by simp [am_fs, hc]; omega)]
theorem am_ce_cg {g : am_G} {σ σ' : am_M} {j : Nat} (h1 : σ'.1 j = σ.1 j) (h2 : σ'.2 j = σ.2 j) : am_ce g σ' j = am_ce g σ j := by
  unfold am_ce am_fs am_ac am_fv
  rw [h1, h2]
theorem am_up_ne {α : Type} {f : Nat → α} {k j : Nat} {v : α} (h : j ≠ k) : va_up f k v j = f j := if_neg h
theorem am_up_eq {α : Type} {f : Nat → α} {k : Nat} {v : α} : va_up f k v k = v := if_pos rfl
theorem am_ce_uI {g : am_G} {σ : am_M} {h k : Nat} {v : Int32} : ∀ j, j < am_N → j ≠ h → am_ce g (am_uI σ h k v) j = am_ce g σ j := fun j _ hj => am_ce_cg (am_up_ne hj) rfl
theorem am_ce_uL {g : am_G} {σ : am_M} {h k : Nat} {v : Int64} : ∀ j, j < am_N → j ≠ h → am_ce g (am_uL σ h k v) j = am_ce g σ j := fun j _ hj => am_ce_cg rfl (am_up_ne hj)
theorem am_ce_uA {g : am_G} {σ : am_M} {h : Nat} {f : Nat → Int32} : ∀ j, j < am_N → j ≠ h → am_ce g (am_uA σ h f) j = am_ce g σ j := fun j _ hj => am_ce_cg (am_up_ne hj) rfl
theorem am_ce_uB {g : am_G} {σ : am_M} {h : Nat} {f : Nat → Int64} : ∀ j, j < am_N → j ≠ h → am_ce g (am_uB σ h f) j = am_ce g σ j := fun j _ hj => am_ce_cg rfl (am_up_ne hj)
theorem am_fv_0 {g : am_G} {C h k : Nat} {σ : am_M} (ht : am_ft C k = 0) : am_fv g C h σ k = .int (σ.1 h k) := by unfold am_fv; rw [ht]; rfl
theorem am_fv_1 {g : am_G} {C h k : Nat} {σ : am_M} (ht : am_ft C k = 1) : am_fv g C h σ k = .long (σ.2 h k) := by unfold am_fv; rw [ht]; rfl
theorem am_fv_3 {g : am_G} {C h k : Nat} {σ : am_M} (ht : am_ft C k = 3) : am_fv g C h σ k = .ref (am_ad g (h + am_of C k)) := by unfold am_fv; rw [ht]; rfl
theorem am_fv_2 {g : am_G} {h : Nat} {σ : am_M} : am_fv g 3 h σ 1 = .ref (am_ad g (if σ.1 h 1 = 1 then 2 else 5)) := rfl
theorem am_fv_uI {g : am_G} {σ : am_M} {C h k : Nat} {v : Int32} : ∀ i, i ≠ k → am_fv g C h (am_uI σ h k v) i = am_fv g C h σ i := by
  intro i hi
  have e1 : (am_uI σ h k v).1 h i = σ.1 h i := by show va_up σ.1 h (va_up (σ.1 h) k v) h i = _; rw [am_up_eq, am_up_ne hi]
  unfold am_fv
  rw [e1]
  rfl
theorem am_fv_uL {g : am_G} {σ : am_M} {C h k : Nat} {v : Int64} : ∀ i, i ≠ k → am_fv g C h (am_uL σ h k v) i = am_fv g C h σ i := by
  intro i hi
  have e1 : (am_uL σ h k v).2 h i = σ.2 h i := by show va_up σ.2 h (va_up (σ.2 h) k v) h i = _; rw [am_up_eq, am_up_ne hi]
  unfold am_fv
  rw [e1]
  rfl
theorem am_uI_at {σ : am_M} {h k : Nat} {v : Int32} : (am_uI σ h k v).1 h k = v := by show va_up σ.1 h (va_up (σ.1 h) k v) h k = _; rw [am_up_eq, am_up_eq]
theorem am_uL_at {σ : am_M} {h k : Nat} {v : Int64} : (am_uL σ h k v).2 h k = v := by show va_up σ.2 h (va_up (σ.2 h) k v) h k = _; rw [am_up_eq, am_up_eq]
theorem am_getW {sc : am_S} {own : String} {cc : ByteArray} {nL rd pc : Nat} {g : am_G} {p : Program} {e : Env} {R : Room} {s : State} {m : MethodId} {args : Array Value} {below : List Frame} {meth : Method} {c : Code} {cells slots : Nat} {Q : State → Prop} {H : Heap} {locs : List Loc} {ls : Array Slot} {σ : am_M} {C idx k h : Nat} {ty : FieldType} {rest : List Value} (hC : am_C g sc own cc nL rd p R s m args c cells slots) (hP : va_P (am_D g) vwCl (am_ws g σ) H) (hd : decode cc pc = .ok (.getfield idx, 3)) (hF : am_FL own idx C k ty) (hc : am_kd h = C) {v : Value} (hv : am_fv g C h σ k = v) (kk : W p g.1 e R s m args below meth c H locs cells slots Q (F0 m (pc + 3) ls (v :: rest))) : W p g.1 e R s m args below meth c H locs cells slots Q (F0 m pc ls (.ref (am_ad g h) :: rest)) := by
  obtain ⟨q, hq, hk, hkf, hr1, hty, hlk⟩ := hF
  obtain ⟨h20, hin, -, -⟩ := am_cls hq
  have hh : h < am_N := am_kd_lt (by rw [hc]; omega)
  have he : (am_ws g σ)[h]? = some (am_ad g h, .inr (C, am_fs g σ h)) := by rw [am_ws_get g σ hh, am_ce_o hc h20]
  have hfv : (am_fs g σ h)[k]? = some v := by rw [am_fs_get hc hkf, hv]
  rcases hlk with hw | ⟨host, hw⟩
  · exact va_get (C := q.1) (T := q.2.1) (N := q.2.2) hC.1 hC.2.1 hC.2.2.2.2.1 hin hC.2.2.2.1 hC.2.2.2.2.2.1 hP h he hq k hk (hC.2.2.2.2.1 _ hw) (fun x hx => by rw [hr1] at hx; exact hx) hfv hd kk
  · exact va_getN (C := q.1) (T := q.2.1) (N := q.2.2) hC.1 hC.2.1 hC.2.2.2.2.1 hin hC.2.2.2.1 hC.2.2.2.2.2.1 hP h he hq k hk (am_nb_use hw (hC.2.2.2.2.2.2.2.2.2.2.2.2 _ hw)) (fun x hx => by rw [hr1] at hx; exact hx) hfv hd kk
theorem am_putW {sc : am_S} {own : String} {cc : ByteArray} {nL rd pc : Nat} {g : am_G} {p : Program} {e : Env} {R : Room} {s : State} {m : MethodId} {args : Array Value} {below : List Frame} {meth : Method} {c : Code} {cells slots : Nat} {Q : State → Prop} {H : Heap} {locs : List Loc} {ls : Array Slot} {σ : am_M} {σ' : am_M} {C idx k h : Nat} {ty : FieldType} {rest : List Value} (hC : am_C g sc own cc nL rd p R s m args c cells slots) (hP : va_P (am_D g) vwCl (am_ws g σ) H) (hS : va_S (am_A g) s.heap H locs) (hd : decode cc pc = .ok (.putfield idx, 3)) (hF : am_FL own idx C k ty) (hfn : am_nofin C k) (hc : am_kd h = C) {v : Value} (hn : narrow ty v = v) (hfit : fits ty v = true) (hv : am_fv g C h σ' k = v) (ho : ∀ i, i ≠ k → am_fv g C h σ' i = am_fv g C h σ i) (hj : ∀ j, j < am_N → j ≠ h → am_ce g σ' j = am_ce g σ j)
    (kk : ∀ (H1 : Heap) (locs1 : List Loc), va_P (am_D g) vwCl (am_ws g σ') H1 → va_S (am_A g) s.heap H1 locs1 → W p g.1 e R s m args below meth c H1 locs1 cells slots Q (F0 m (pc + 3) ls rest)) : W p g.1 e R s m args below meth c H locs cells slots Q (F0 m pc ls (v :: .ref (am_ad g h) :: rest)) := by
  obtain ⟨q, hq, hk, hkf, hr1, hty, hlk⟩ := hF
  obtain ⟨h20, hin, ⟨ty0, hty0⟩, hnm⟩ := am_cls hq
  have hh : h < am_N := am_kd_lt (by rw [hc]; omega)
  have he : (am_ws g σ)[h]? = some (am_ad g h, .inr (C, am_fs g σ h)) := by rw [am_ws_get g σ hh, am_ce_o hc h20]
  have hw' : (am_ws g σ).set h (am_ad g h, .inr (C, (am_fs g σ h).set k v)) = am_ws g σ' := am_ws_set g σ σ' hh (by rw [am_ce_o hc h20, am_fs_set hc hkf hv ho]) hj
  have hlen : k < (am_fs g σ h).length := by simp [am_fs, hc]; exact hkf
  rcases hlk with hw | ⟨host, hw⟩
  · exact va_put (C := q.1) (T := q.2.1) (N := q.2.2) hC.1 hC.2.1 hC.2.2.2.2.1 hin ty0 hty0 hnm hC.2.2.2.1 hC.2.2.2.2.2.1 hP (hC.2.2.2.2.2.2.1 σ) hS h he hq k hk (hC.2.2.2.2.1 _ hw) (fun x hx => by rw [hr1] at hx; exact hx) (hfn q hq) hty hn hfit hlen hd (fun H1 locs1 hP1 _ hS1 => kk H1 locs1 (hw' ▸ hP1) hS1)
  · exact va_putN (C := q.1) (T := q.2.1) (N := q.2.2) hC.1 hC.2.1 hC.2.2.2.2.1 hin ty0 hty0 hnm hC.2.2.2.1 hC.2.2.2.2.2.1 hP (hC.2.2.2.2.2.2.1 σ) hS h he hq k hk (am_nb_use hw (hC.2.2.2.2.2.2.2.2.2.2.2.2 _ hw)) (fun x hx => by rw [hr1] at hx; exact hx) (hfn q hq) hty hn hfit hlen hd (fun H1 locs1 hP1 _ hS1 => kk H1 locs1 (hw' ▸ hP1) hS1)
theorem sw_getI {sc : am_S} {own : String} {cc : ByteArray} {nL : Nat} {ret : Option FieldType} {rd pc : Nat} {C idx k : Nat} {ty : FieldType} {kk : am_K} (hd : decode cc pc = .ok (.getfield idx, 3)) (hF : am_FL own idx C k ty) (ht : am_ft C k = 0) (hk : am_SW sc own cc nL ret rd (pc + 3) kk) : am_SW sc own cc nL ret rd pc (am_getI C k kk) := by
  intro g p e R s m args below meth c cells slots Q H locs ls lv st σ r hC hl hP hS hr hR
  obtain ⟨h, st1, e1, hr1⟩ := am_popR_some hr
  subst e1
  replace hr := hr1
  obtain ⟨hc, hr⟩ := am_if_some hr
  exact am_getW hC hP hd hF hc (am_fv_0 ht) (hk g p e R s m args below meth c cells slots Q H locs ls lv _ σ r hC hl hP hS hr hR)
theorem sw_getL {sc : am_S} {own : String} {cc : ByteArray} {nL : Nat} {ret : Option FieldType} {rd pc : Nat} {C idx k : Nat} {ty : FieldType} {kk : am_K} (hd : decode cc pc = .ok (.getfield idx, 3)) (hF : am_FL own idx C k ty) (ht : am_ft C k = 1) (hk : am_SW sc own cc nL ret rd (pc + 3) kk) : am_SW sc own cc nL ret rd pc (am_getL C k kk) := by
  intro g p e R s m args below meth c cells slots Q H locs ls lv st σ r hC hl hP hS hr hR
  obtain ⟨h, st1, e1, hr1⟩ := am_popR_some hr
  subst e1
  replace hr := hr1
  obtain ⟨hc, hr⟩ := am_if_some hr
  exact am_getW hC hP hd hF hc (am_fv_1 ht) (hk g p e R s m args below meth c cells slots Q H locs ls lv _ σ r hC hl hP hS hr hR)
theorem sw_getR {sc : am_S} {own : String} {cc : ByteArray} {nL : Nat} {ret : Option FieldType} {rd pc : Nat} {C idx k : Nat} {ty : FieldType} {kk : am_K} {d : Nat} (hd : decode cc pc = .ok (.getfield idx, 3)) (hF : am_FL own idx C k ty) (ht : am_ft C k = 3) (hof : am_of C k = d) (hk : am_SW sc own cc nL ret rd (pc + 3) kk) : am_SW sc own cc nL ret rd pc (am_getR C k d kk) := by
  intro g p e R s m args below meth c cells slots Q H locs ls lv st σ r hC hl hP hS hr hR
  obtain ⟨h, st1, e1, hr1⟩ := am_popR_some hr
  subst e1
  replace hr := hr1
  obtain ⟨hc, hr⟩ := am_if_some hr
  exact am_getW hC hP hd hF hc ((am_fv_3 ht).trans (by rw [hof]; rfl)) (hk g p e R s m args below meth c cells slots Q H locs ls lv _ σ r hC hl hP hS hr hR)
theorem sw_getT {sc : am_S} {own : String} {cc : ByteArray} {nL : Nat} {ret : Option FieldType} {rd pc : Nat} {idx : Nat} {ty : FieldType} {kk : am_K} (hd : decode cc pc = .ok (.getfield idx, 3)) (hF : am_FL own idx 3 1 ty) (hk : am_SW sc own cc nL ret rd (pc + 3) kk) : am_SW sc own cc nL ret rd pc (am_getT kk) := by
  intro g p e R s m args below meth c cells slots Q H locs ls lv st σ r hC hl hP hS hr hR
  obtain ⟨h, st1, e1, hr1⟩ := am_popR_some hr
  subst e1
  replace hr := hr1
  obtain ⟨hc, hr⟩ := am_if_some hr
  obtain ⟨h1, hr⟩ := am_if_some hr
  exact am_getW hC hP hd hF hc (v := .ref (am_ad g 2)) (am_fv_2.trans (by rw [if_pos h1])) (hk g p e R s m args below meth c cells slots Q H locs ls lv _ σ r hC hl hP hS hr hR)
theorem sw_putI {sc : am_S} {own : String} {cc : ByteArray} {nL : Nat} {ret : Option FieldType} {rd pc : Nat} {C idx k : Nat} {kk : am_K} (hd : decode cc pc = .ok (.putfield idx, 3)) (hF : am_FL own idx C k .int) (hfn : am_nofin C k) (ht : am_ft C k = 0) (hk : am_SW sc own cc nL ret rd (pc + 3) kk) : am_SW sc own cc nL ret rd pc (am_putI C k kk) := by
  intro g p e R s m args below meth c cells slots Q H locs ls lv st σ r hC hl hP hS hr hR
  obtain ⟨v, st1, e1, hr1⟩ := am_popI_some hr
  subst e1
  obtain ⟨h, st2, e2, hr2⟩ := am_popR_some hr1
  subst e2
  replace hr := hr2
  obtain ⟨hc, hr⟩ := am_if_some hr
  exact am_putW (σ' := am_uI σ h k v) hC hP hS hd hF hfn hc (v := .int v) rfl rfl ((am_fv_0 ht).trans (by rw [am_uI_at])) am_fv_uI am_ce_uI (fun H1 locs1 hP1 hS1 => (hk g p e R s m args below meth c cells slots Q H1 locs1 ls lv _ (am_uI σ h k v) r hC hl hP1 hS1 hr hR))
theorem am_fitZ {v : Int32} (h : v &&& 1 = v) : fits .boolean (.int v) = true := by
  have h1 : v.toBitVec &&& 1#32 = v.toBitVec := congrArg Int32.toBitVec h
  have h3 : v.toBitVec = 0#32 ∨ v.toBitVec = 1#32 := by
    have h4 : v.toBitVec.toNat &&& 1 = v.toBitVec.toNat := congrArg BitVec.toNat h1
    rw [Nat.and_one_is_mod] at h4
    have : v.toBitVec.toNat = 0 ∨ v.toBitVec.toNat = 1 := by omega
    rcases this with h5 | h5
    · exact Or.inl (BitVec.eq_of_toNat_eq h5)
    · exact Or.inr (BitVec.eq_of_toNat_eq h5)
  have h5 : v = 0 ∨ v = 1 := h3.imp (fun q => Int32.toBitVec_inj.mp q) (fun q => Int32.toBitVec_inj.mp q)
  rcases h5 with rfl | rfl <;> rfl
theorem sw_putZ {sc : am_S} {own : String} {cc : ByteArray} {nL : Nat} {ret : Option FieldType} {rd pc : Nat} {C idx k : Nat} {kk : am_K} (hd : decode cc pc = .ok (.putfield idx, 3)) (hF : am_FL own idx C k .boolean) (hfn : am_nofin C k) (ht : am_ft C k = 0) (hk : am_SW sc own cc nL ret rd (pc + 3) kk) : am_SW sc own cc nL ret rd pc (am_putZ C k kk) := by
  intro g p e R s m args below meth c cells slots Q H locs ls lv st σ r hC hl hP hS hr hR
  obtain ⟨v, st1, e1, hr1⟩ := am_popI_some hr
  subst e1
  obtain ⟨h, st2, e2, hr2⟩ := am_popR_some hr1
  subst e2
  replace hr := hr2
  obtain ⟨hc, hr⟩ := am_if_some hr
  obtain ⟨hz, hr⟩ := am_if_some hr
  exact am_putW (σ' := am_uI σ h k v) hC hP hS hd hF hfn hc (v := .int v) (congrArg Value.int hz) (am_fitZ hz) ((am_fv_0 ht).trans (by rw [am_uI_at])) am_fv_uI am_ce_uI (fun H1 locs1 hP1 hS1 => (hk g p e R s m args below meth c cells slots Q H1 locs1 ls lv _ (am_uI σ h k v) r hC hl hP1 hS1 hr hR))
theorem sw_putL {sc : am_S} {own : String} {cc : ByteArray} {nL : Nat} {ret : Option FieldType} {rd pc : Nat} {C idx k : Nat} {kk : am_K} (hd : decode cc pc = .ok (.putfield idx, 3)) (hF : am_FL own idx C k .long) (hfn : am_nofin C k) (ht : am_ft C k = 1) (hk : am_SW sc own cc nL ret rd (pc + 3) kk) : am_SW sc own cc nL ret rd pc (am_putL C k kk) := by
  intro g p e R s m args below meth c cells slots Q H locs ls lv st σ r hC hl hP hS hr hR
  obtain ⟨v, st1, e1, hr1⟩ := am_popL_some hr
  subst e1
  obtain ⟨h, st2, e2, hr2⟩ := am_popR_some hr1
  subst e2
  replace hr := hr2
  obtain ⟨hc, hr⟩ := am_if_some hr
  exact am_putW (σ' := am_uL σ h k v) hC hP hS hd hF hfn hc (v := .long v) rfl rfl ((am_fv_1 ht).trans (by rw [am_uL_at])) am_fv_uL am_ce_uL (fun H1 locs1 hP1 hS1 => (hk g p e R s m args below meth c cells slots Q H1 locs1 ls lv _ (am_uL σ h k v) r hC hl hP1 hS1 hr hR))
theorem sw_putT {sc : am_S} {own : String} {cc : ByteArray} {nL : Nat} {ret : Option FieldType} {rd pc : Nat} {idx : Nat} {kk : am_K} (hd : decode cc pc = .ok (.putfield idx, 3)) (hF : am_FL own idx 3 1 (.array .byte)) (hfn : am_nofin 3 1) (hk : am_SW sc own cc nL ret rd (pc + 3) kk) : am_SW sc own cc nL ret rd pc (am_putT kk) := by
  intro g p e R s m args below meth c cells slots Q H locs ls lv st σ r hC hl hP hS hr hR
  obtain ⟨v, st1, e1, hr1⟩ := am_popR_some hr
  subst e1
  obtain ⟨h, st2, e2, hr2⟩ := am_popR_some hr1
  subst e2
  replace hr := hr2
  obtain ⟨hc, hr⟩ := am_if_some hr
  obtain ⟨hv, hr⟩ := am_if_some hr
  subst hv
  exact am_putW (σ' := am_uI σ h 1 1) hC hP hS hd hF hfn hc (v := .ref (am_ad g 2)) rfl rfl (am_fv_2.trans (by rw [am_uI_at, if_pos rfl])) am_fv_uI am_ce_uI (fun H1 locs1 hP1 hS1 => (hk g p e R s m args below meth c cells slots Q H1 locs1 ls lv _ (am_uI σ h 1 1) r hC hl hP1 hS1 hr hR))
theorem am_ce_a {g : am_G} {σ : am_M} {h C : Nat} (hc : am_kd h = C) (h20 : ¬ C < 20) : am_ce g σ h = .inl (am_cA g (C - 20), am_ac g σ h) := by
  unfold am_ce
  rw [hc, if_neg h20]
theorem am_ce_20 {g : am_G} {σ : am_M} {h : Nat} (hc : am_kd h = 20) : am_ce g σ h = .inl (am_cA g 0, am_ln h, .inl (σ.1 h)) := by
  rw [am_ce_a hc (by decide)]; unfold am_ac; rw [hc]; rfl
theorem am_ce_21 {g : am_G} {σ : am_M} {h : Nat} (hc : am_kd h = 21) : am_ce g σ h = .inl (am_cA g 1, am_ln h, .inr (.inl (σ.2 h))) := by
  rw [am_ce_a hc (by decide)]; unfold am_ac; rw [hc]; rfl
theorem am_ce_22 {g : am_G} {σ : am_M} {h : Nat} (hc : am_kd h = 22) : am_ce g σ h = .inl (am_cA g 2, am_ln h, .inl (σ.1 h)) := by
  rw [am_ce_a hc (by decide)]; unfold am_ac; rw [hc]; rfl
theorem am_ce_23 {g : am_G} {σ : am_M} {h : Nat} (hc : am_kd h = 23) : am_ce g σ h = .inl (am_cA g 3, am_ln h, .inr (.inr (.inr (.inr (fun j => some (am_ad g (am_la h j))))))) := by
  rw [am_ce_a hc (by decide)]; unfold am_ac; rw [hc]; rfl
theorem am_ce_24 {g : am_G} {σ : am_M} {h : Nat} (hc : am_kd h = 24) : am_ce g σ h = .inl (am_cA g 4, am_ln h, .inr (.inr (.inr (.inr (fun j => some (am_ad g (am_la h j))))))) := by
  rw [am_ce_a hc (by decide)]; unfold am_ac; rw [hc]; rfl
theorem am_at_kd (g : am_G) (σ : am_M) {h C : Nat} {x : va_E} (hc : am_kd h = C) (h99 : C ≠ 99) (hx : am_ce g σ h = x) : (am_ws g σ)[h]? = some (am_ad g h, x) := by
  rw [am_ws_get g σ (am_kd_lt (by rw [hc]; exact h99)), hx]
theorem sw_iald {sc : am_S} {own : String} {cc : ByteArray} {nL : Nat} {ret : Option FieldType} {rd pc : Nat} {kk : am_K} (hd : decode cc pc = .ok (.iaload, 1)) (hk : am_SW sc own cc nL ret rd (pc + 1) kk) : am_SW sc own cc nL ret rd pc (am_iald kk) := by
  intro g p e R s m args below meth c cells slots Q H locs ls lv st σ r hC hl hP hS hr hR
  obtain ⟨i, st1, e1, hr1⟩ := am_popI_some hr
  subst e1
  obtain ⟨h, st2, e2, hr2⟩ := am_popR_some hr1
  subst e2
  replace hr := hr2
  obtain ⟨hc, hr⟩ := am_if_some hr
  obtain ⟨hi, hr⟩ := am_if_some hr
  exact va_iald hC.1 hC.2.1 hC.2.2.2.2.2.1 hP h 0 (am_at_kd g σ hc (by decide) (am_ce_20 hc)) rfl (am_inb_in hi) hd (hk g p e R s m args below meth c cells slots Q H locs ls lv _ σ r hC hl hP hS hr hR)
theorem sw_bald {sc : am_S} {own : String} {cc : ByteArray} {nL : Nat} {ret : Option FieldType} {rd pc : Nat} {kk : am_K} (hd : decode cc pc = .ok (.baload, 1)) (hk : am_SW sc own cc nL ret rd (pc + 1) kk) : am_SW sc own cc nL ret rd pc (am_bald kk) := by
  intro g p e R s m args below meth c cells slots Q H locs ls lv st σ r hC hl hP hS hr hR
  obtain ⟨i, st1, e1, hr1⟩ := am_popI_some hr
  subst e1
  obtain ⟨h, st2, e2, hr2⟩ := am_popR_some hr1
  subst e2
  replace hr := hr2
  obtain ⟨hc, hr⟩ := am_if_some hr
  obtain ⟨hi, hr⟩ := am_if_some hr
  exact va_bald hC.1 hC.2.1 hC.2.2.2.2.2.1 hP h 2 (am_at_kd g σ hc (by decide) (am_ce_22 hc)) rfl (am_inb_in hi) hd (hk g p e R s m args below meth c cells slots Q H locs ls lv _ σ r hC hl hP hS hr hR)
theorem sw_lald {sc : am_S} {own : String} {cc : ByteArray} {nL : Nat} {ret : Option FieldType} {rd pc : Nat} {kk : am_K} (hd : decode cc pc = .ok (.laload, 1)) (hk : am_SW sc own cc nL ret rd (pc + 1) kk) : am_SW sc own cc nL ret rd pc (am_lald kk) := by
  intro g p e R s m args below meth c cells slots Q H locs ls lv st σ r hC hl hP hS hr hR
  obtain ⟨i, st1, e1, hr1⟩ := am_popI_some hr
  subst e1
  obtain ⟨h, st2, e2, hr2⟩ := am_popR_some hr1
  subst e2
  replace hr := hr2
  obtain ⟨hc, hr⟩ := am_if_some hr
  obtain ⟨hi, hr⟩ := am_if_some hr
  exact va_lald hC.1 hC.2.1 hC.2.2.2.2.2.1 hP h 1 (am_at_kd g σ hc (by decide) (am_ce_21 hc)) rfl (am_inb_in hi) hd (hk g p e R s m args below meth c cells slots Q H locs ls lv _ σ r hC hl hP hS hr hR)
theorem sw_aald23 {sc : am_S} {own : String} {cc : ByteArray} {nL : Nat} {ret : Option FieldType} {rd pc : Nat} {kk : am_K} (hd : decode cc pc = .ok (.aaload, 1)) (hk : am_SW sc own cc nL ret rd (pc + 1) kk) : am_SW sc own cc nL ret rd pc (am_aald 23 kk) := by
  intro g p e R s m args below meth c cells slots Q H locs ls lv st σ r hC hl hP hS hr hR
  obtain ⟨i, st1, e1, hr1⟩ := am_popI_some hr
  subst e1
  obtain ⟨h, st2, e2, hr2⟩ := am_popR_some hr1
  subst e2
  replace hr := hr2
  obtain ⟨hc, hr⟩ := am_if_some hr
  obtain ⟨hi, hr⟩ := am_if_some hr
  exact va_aldq hC.1 hC.2.1 hC.2.2.2.2.2.1 hP h 3 (am_at_kd g σ hc (by decide) (am_ce_23 hc)) rfl (am_inb_in hi) hd (hk g p e R s m args below meth c cells slots Q H locs ls lv _ σ r hC hl hP hS hr hR)
theorem sw_aald24 {sc : am_S} {own : String} {cc : ByteArray} {nL : Nat} {ret : Option FieldType} {rd pc : Nat} {kk : am_K} (hd : decode cc pc = .ok (.aaload, 1)) (hk : am_SW sc own cc nL ret rd (pc + 1) kk) : am_SW sc own cc nL ret rd pc (am_aald 24 kk) := by
  intro g p e R s m args below meth c cells slots Q H locs ls lv st σ r hC hl hP hS hr hR
  obtain ⟨i, st1, e1, hr1⟩ := am_popI_some hr
  subst e1
  obtain ⟨h, st2, e2, hr2⟩ := am_popR_some hr1
  subst e2
  replace hr := hr2
  obtain ⟨hc, hr⟩ := am_if_some hr
  obtain ⟨hi, hr⟩ := am_if_some hr
  exact va_aldq hC.1 hC.2.1 hC.2.2.2.2.2.1 hP h 4 (am_at_kd g σ hc (by decide) (am_ce_24 hc)) rfl (am_inb_in hi) hd (hk g p e R s m args below meth c cells slots Q H locs ls lv _ σ r hC hl hP hS hr hR)
theorem sw_iast {sc : am_S} {own : String} {cc : ByteArray} {nL : Nat} {ret : Option FieldType} {rd pc : Nat} {kk : am_K} (hd : decode cc pc = .ok (.iastore, 1)) (hk : am_SW sc own cc nL ret rd (pc + 1) kk) : am_SW sc own cc nL ret rd pc (am_iast kk) := by
  intro g p e R s m args below meth c cells slots Q H locs ls lv st σ r hC hl hP hS hr hR
  obtain ⟨v, st1, e1, hr1⟩ := am_popI_some hr
  subst e1
  obtain ⟨i, st2, e2, hr2⟩ := am_popI_some hr1
  subst e2
  obtain ⟨h, st3, e3, hr3⟩ := am_popR_some hr2
  subst e3
  replace hr := hr3
  obtain ⟨hc, hr⟩ := am_if_some hr
  obtain ⟨hi, hr⟩ := am_if_some hr
  have hh : h < am_N := am_kd_lt (by rw [hc]; decide)
  exact va_iast hC.1 hC.2.1 hC.2.2.2.2.2.1 hP (hC.2.2.2.2.2.2.1 σ) hS h 0 (am_at_kd g σ hc (by decide) (am_ce_20 hc)) rfl (am_inb_in hi) hd (fun H1 locs1 hP1 _ hS1 => by
    rw [am_ws_set g σ (am_uI σ h i.toNatClampNeg v) hh (by rw [am_ce_20 hc]; show _ = Sum.inl (_, _, Sum.inl (upd _ _ _)); congr 4; exact am_up_eq) am_ce_uI] at hP1
    exact (hk g p e R s m args below meth c cells slots Q H1 locs1 ls lv _ (am_uI σ h i.toNatClampNeg v) r hC hl hP1 hS1 hr hR))
theorem sw_bast {sc : am_S} {own : String} {cc : ByteArray} {nL : Nat} {ret : Option FieldType} {rd pc : Nat} {kk : am_K} (hd : decode cc pc = .ok (.bastore, 1)) (hk : am_SW sc own cc nL ret rd (pc + 1) kk) : am_SW sc own cc nL ret rd pc (am_bast kk) := by
  intro g p e R s m args below meth c cells slots Q H locs ls lv st σ r hC hl hP hS hr hR
  obtain ⟨v, st1, e1, hr1⟩ := am_popI_some hr
  subst e1
  obtain ⟨i, st2, e2, hr2⟩ := am_popI_some hr1
  subst e2
  obtain ⟨h, st3, e3, hr3⟩ := am_popR_some hr2
  subst e3
  replace hr := hr3
  obtain ⟨hc, hr⟩ := am_if_some hr
  obtain ⟨hi, hr⟩ := am_if_some hr
  have hh : h < am_N := am_kd_lt (by rw [hc]; decide)
  exact va_bast hC.1 hC.2.1 hC.2.2.2.2.2.1 hP (hC.2.2.2.2.2.2.1 σ) hS h 2 (am_at_kd g σ hc (by decide) (am_ce_22 hc)) rfl (am_inb_in hi) hd (fun H1 locs1 hP1 _ hS1 => by
    rw [am_ws_set g σ (am_uI σ h i.toNatClampNeg (vp_nar .byte v)) hh (by rw [am_ce_22 hc]; show _ = Sum.inl (_, _, Sum.inl (upd _ _ _)); congr 4; exact am_up_eq) am_ce_uI] at hP1
    exact (hk g p e R s m args below meth c cells slots Q H1 locs1 ls lv _ (am_uI σ h i.toNatClampNeg (vp_nar .byte v)) r hC hl hP1 hS1 hr hR))
theorem sw_last {sc : am_S} {own : String} {cc : ByteArray} {nL : Nat} {ret : Option FieldType} {rd pc : Nat} {kk : am_K} (hd : decode cc pc = .ok (.lastore, 1)) (hk : am_SW sc own cc nL ret rd (pc + 1) kk) : am_SW sc own cc nL ret rd pc (am_last kk) := by
  intro g p e R s m args below meth c cells slots Q H locs ls lv st σ r hC hl hP hS hr hR
  obtain ⟨v, st1, e1, hr1⟩ := am_popL_some hr
  subst e1
  obtain ⟨i, st2, e2, hr2⟩ := am_popI_some hr1
  subst e2
  obtain ⟨h, st3, e3, hr3⟩ := am_popR_some hr2
  subst e3
  replace hr := hr3
  obtain ⟨hc, hr⟩ := am_if_some hr
  obtain ⟨hi, hr⟩ := am_if_some hr
  have hh : h < am_N := am_kd_lt (by rw [hc]; decide)
  exact va_last hC.1 hC.2.1 hC.2.2.2.2.2.1 hP (hC.2.2.2.2.2.2.1 σ) hS h 1 (am_at_kd g σ hc (by decide) (am_ce_21 hc)) rfl (am_inb_in hi) hd (fun H1 locs1 hP1 _ hS1 => by
    rw [am_ws_set g σ (am_uL σ h i.toNatClampNeg v) hh (by rw [am_ce_21 hc]; show _ = Sum.inl (_, _, Sum.inr (Sum.inl (vp_updL _ _ _))); congr 5; exact am_up_eq) am_ce_uL] at hP1
    exact (hk g p e R s m args below meth c cells slots Q H1 locs1 ls lv _ (am_uL σ h i.toNatClampNeg v) r hC hl hP1 hS1 hr hR))
theorem sw_alen {sc : am_S} {own : String} {cc : ByteArray} {nL : Nat} {ret : Option FieldType} {rd pc : Nat} {kk : am_K} (hd : decode cc pc = .ok (.arraylength, 1)) (hk : am_SW sc own cc nL ret rd (pc + 1) kk) : am_SW sc own cc nL ret rd pc (am_alen kk) := by
  intro g p e R s m args below meth c cells slots Q H locs ls lv st σ r hC hl hP hS hr hR
  obtain ⟨h, st1, e1, hr1⟩ := am_popR_some hr
  subst e1
  replace hr := hr1
  obtain ⟨⟨h1, h2⟩, hr⟩ := am_if_some hr
  have hcs : am_kd h = 20 ∨ am_kd h = 21 ∨ am_kd h = 22 ∨ am_kd h = 23 ∨ am_kd h = 24 := by omega
  rcases hcs with hc | hc | hc | hc | hc
  · exact va_alen hC.1 hC.2.1 hC.2.2.2.2.2.1 hP h 0 (am_at_kd g σ hc (by decide) (am_ce_20 hc)) rfl rfl hd (hk g p e R s m args below meth c cells slots Q H locs ls lv _ σ r hC hl hP hS hr hR)
  · exact va_alen hC.1 hC.2.1 hC.2.2.2.2.2.1 hP h 1 (am_at_kd g σ hc (by decide) (am_ce_21 hc)) rfl rfl hd (hk g p e R s m args below meth c cells slots Q H locs ls lv _ σ r hC hl hP hS hr hR)
  · exact va_alen hC.1 hC.2.1 hC.2.2.2.2.2.1 hP h 2 (am_at_kd g σ hc (by decide) (am_ce_22 hc)) rfl rfl hd (hk g p e R s m args below meth c cells slots Q H locs ls lv _ σ r hC hl hP hS hr hR)
  · exact va_alen hC.1 hC.2.1 hC.2.2.2.2.2.1 hP h 3 (am_at_kd g σ hc (by decide) (am_ce_23 hc)) rfl rfl hd (hk g p e R s m args below meth c cells slots Q H locs ls lv _ σ r hC hl hP hS hr hR)
  · exact va_alen hC.1 hC.2.1 hC.2.2.2.2.2.1 hP h 4 (am_at_kd g σ hc (by decide) (am_ce_24 hc)) rfl rfl hd (hk g p e R s m args below meth c cells slots Q H locs ls lv _ σ r hC hl hP hS hr hR)
