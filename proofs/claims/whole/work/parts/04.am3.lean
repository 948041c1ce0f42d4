/-! each instruction against the machine: numbers, locals, ways -/
theorem am_no_ne {x y : Int32} (h : ¬ x = y) : ¬ x = y := h
theorem am_is_ne {x y : Int32} (h : x = y) : x = y := h
theorem am_no_ge {x y : Int32} (h : y ≤ x) : ¬ x < y := by rw [Int32.lt_iff_toInt_lt]; rw [Int32.le_iff_toInt_le] at h; omega
theorem am_is_ge {x y : Int32} (h : ¬ y ≤ x) : x < y := by rw [Int32.lt_iff_toInt_lt]; rw [Int32.le_iff_toInt_le] at h; omega
theorem am_no_gt {x y : Int32} (h : y < x) : ¬ x ≤ y := by rw [Int32.le_iff_toInt_le]; rw [Int32.lt_iff_toInt_lt] at h; omega
theorem am_is_gt {x y : Int32} (h : ¬ y < x) : x ≤ y := by rw [Int32.le_iff_toInt_le]; rw [Int32.lt_iff_toInt_lt] at h; omega
theorem sw_iload_n {sc : am_S} {own : String} {cc : ByteArray} {nL : Nat} {ret : Option FieldType} {rd pc : Nat} {kf : Fin 4} {i : Nat} {k : am_K} (hd : decode cc pc = .ok (.iload_n kf, 1)) (hi : (kf : Nat) = i) (hk : am_SW sc own cc nL ret rd (pc + 1) k) : am_SW sc own cc nL ret rd pc (am_iload i k) := by
  intro g p e R s m args below meth c cells slots Q H locs ls lv st σ r hC hl hP hS hr hR
  unfold am_iload at hr
  split at hr
  · rename_i x hn
    exact lv_iload_n hC.1 hC.2.1 hd hi (hl.2.2 i _ hn) (hk g p e R s m args below meth c cells slots Q H locs ls lv _ σ r hC hl hP hS hr hR)
  · cases hr
theorem sw_iload {sc : am_S} {own : String} {cc : ByteArray} {nL : Nat} {ret : Option FieldType} {rd pc : Nat} {i : Nat} {k : am_K} (hd : decode cc pc = .ok (.iload i, 2)) (hk : am_SW sc own cc nL ret rd (pc + 2) k) : am_SW sc own cc nL ret rd pc (am_iload i k) := by
  intro g p e R s m args below meth c cells slots Q H locs ls lv st σ r hC hl hP hS hr hR
  unfold am_iload at hr
  split at hr
  · rename_i x hn
    exact lv_iload hC.1 hC.2.1 hd (hl.2.2 i _ hn) (hk g p e R s m args below meth c cells slots Q H locs ls lv _ σ r hC hl hP hS hr hR)
  · cases hr
theorem sw_lload_n {sc : am_S} {own : String} {cc : ByteArray} {nL : Nat} {ret : Option FieldType} {rd pc : Nat} {kf : Fin 4} {i : Nat} {k : am_K} (hd : decode cc pc = .ok (.lload_n kf, 1)) (hi : (kf : Nat) = i) (hk : am_SW sc own cc nL ret rd (pc + 1) k) : am_SW sc own cc nL ret rd pc (am_lload i k) := by
  intro g p e R s m args below meth c cells slots Q H locs ls lv st σ r hC hl hP hS hr hR
  unfold am_lload at hr
  split at hr
  · rename_i x hn
    exact lv_lload_n hC.1 hC.2.1 hd hi (hl.2.2 i _ hn) (hk g p e R s m args below meth c cells slots Q H locs ls lv _ σ r hC hl hP hS hr hR)
  · cases hr
theorem sw_lload {sc : am_S} {own : String} {cc : ByteArray} {nL : Nat} {ret : Option FieldType} {rd pc : Nat} {i : Nat} {k : am_K} (hd : decode cc pc = .ok (.lload i, 2)) (hk : am_SW sc own cc nL ret rd (pc + 2) k) : am_SW sc own cc nL ret rd pc (am_lload i k) := by
  intro g p e R s m args below meth c cells slots Q H locs ls lv st σ r hC hl hP hS hr hR
  unfold am_lload at hr
  split at hr
  · rename_i x hn
    exact lv_lload hC.1 hC.2.1 hd (hl.2.2 i _ hn) (hk g p e R s m args below meth c cells slots Q H locs ls lv _ σ r hC hl hP hS hr hR)
  · cases hr
theorem sw_aload_n {sc : am_S} {own : String} {cc : ByteArray} {nL : Nat} {ret : Option FieldType} {rd pc : Nat} {kf : Fin 4} {i : Nat} {k : am_K} (hd : decode cc pc = .ok (.aload_n kf, 1)) (hi : (kf : Nat) = i) (hk : am_SW sc own cc nL ret rd (pc + 1) k) : am_SW sc own cc nL ret rd pc (am_aload i k) := by
  intro g p e R s m args below meth c cells slots Q H locs ls lv st σ r hC hl hP hS hr hR
  unfold am_aload at hr
  split at hr
  · rename_i x hn
    exact lv_aload_n hC.1 hC.2.1 hd hi (hl.2.2 i _ hn) (hk g p e R s m args below meth c cells slots Q H locs ls lv _ σ r hC hl hP hS hr hR)
  · cases hr
theorem sw_aload {sc : am_S} {own : String} {cc : ByteArray} {nL : Nat} {ret : Option FieldType} {rd pc : Nat} {i : Nat} {k : am_K} (hd : decode cc pc = .ok (.aload i, 2)) (hk : am_SW sc own cc nL ret rd (pc + 2) k) : am_SW sc own cc nL ret rd pc (am_aload i k) := by
  intro g p e R s m args below meth c cells slots Q H locs ls lv st σ r hC hl hP hS hr hR
  unfold am_aload at hr
  split at hr
  · rename_i x hn
    exact lv_aload hC.1 hC.2.1 hd (hl.2.2 i _ hn) (hk g p e R s m args below meth c cells slots Q H locs ls lv _ σ r hC hl hP hS hr hR)
  · cases hr
theorem sw_istore_n {sc : am_S} {own : String} {cc : ByteArray} {nL : Nat} {ret : Option FieldType} {rd pc : Nat} {kf : Fin 4} {i : Nat} {k : am_K} (hd : decode cc pc = .ok (.istore_n kf, 1)) (hi : (kf : Nat) = i) (hn : i < nL) (hk : am_SW sc own cc nL ret rd (pc + 1) k) : am_SW sc own cc nL ret rd pc (am_istore i k) := by
  intro g p e R s m args below meth c cells slots Q H locs ls lv st σ r hC hl hP hS hr hR
  obtain ⟨x, st1, e1, hr1⟩ := am_popI_some hr
  subst e1
  replace hr := hr1
  exact lv_istore_n hC.1 hC.2.1 hd hi (am_as_has hl) hn rfl (fun ls' hl' => (hk g p e R s m args below meth c cells slots Q H locs ls' (am_set1 lv i (.int x)) _ σ r hC (am_lv_set1 (v := .int x) hl') hP hS hr hR))
theorem sw_istore {sc : am_S} {own : String} {cc : ByteArray} {nL : Nat} {ret : Option FieldType} {rd pc : Nat} {i : Nat} {k : am_K} (hd : decode cc pc = .ok (.istore i, 2)) (hn : i < nL) (hk : am_SW sc own cc nL ret rd (pc + 2) k) : am_SW sc own cc nL ret rd pc (am_istore i k) := by
  intro g p e R s m args below meth c cells slots Q H locs ls lv st σ r hC hl hP hS hr hR
  obtain ⟨x, st1, e1, hr1⟩ := am_popI_some hr
  subst e1
  replace hr := hr1
  exact lv_istore hC.1 hC.2.1 hd (am_as_has hl) hn rfl (fun ls' hl' => (hk g p e R s m args below meth c cells slots Q H locs ls' (am_set1 lv i (.int x)) _ σ r hC (am_lv_set1 (v := .int x) hl') hP hS hr hR))
theorem sw_lstore_n {sc : am_S} {own : String} {cc : ByteArray} {nL : Nat} {ret : Option FieldType} {rd pc : Nat} {kf : Fin 4} {i : Nat} {k : am_K} (hd : decode cc pc = .ok (.lstore_n kf, 1)) (hi : (kf : Nat) = i) (hn : i + 1 < nL) (hk : am_SW sc own cc nL ret rd (pc + 1) k) : am_SW sc own cc nL ret rd pc (am_lstore i k) := by
  intro g p e R s m args below meth c cells slots Q H locs ls lv st σ r hC hl hP hS hr hR
  obtain ⟨x, st1, e1, hr1⟩ := am_popL_some hr
  subst e1
  replace hr := hr1
  exact lv_lstore_n hC.1 hC.2.1 hd hi (am_as_has hl) hn rfl (fun ls' hl' => (hk g p e R s m args below meth c cells slots Q H locs ls' (am_clr (am_set1 lv i (.long x)) (i + 1)) _ σ r hC (am_lv_set2 (v := .long x) hl') hP hS hr hR))
theorem sw_lstore {sc : am_S} {own : String} {cc : ByteArray} {nL : Nat} {ret : Option FieldType} {rd pc : Nat} {i : Nat} {k : am_K} (hd : decode cc pc = .ok (.lstore i, 2)) (hn : i + 1 < nL) (hk : am_SW sc own cc nL ret rd (pc + 2) k) : am_SW sc own cc nL ret rd pc (am_lstore i k) := by
  intro g p e R s m args below meth c cells slots Q H locs ls lv st σ r hC hl hP hS hr hR
  obtain ⟨x, st1, e1, hr1⟩ := am_popL_some hr
  subst e1
  replace hr := hr1
  exact lv_lstore hC.1 hC.2.1 hd (am_as_has hl) hn rfl (fun ls' hl' => (hk g p e R s m args below meth c cells slots Q H locs ls' (am_clr (am_set1 lv i (.long x)) (i + 1)) _ σ r hC (am_lv_set2 (v := .long x) hl') hP hS hr hR))
theorem sw_astore_n {sc : am_S} {own : String} {cc : ByteArray} {nL : Nat} {ret : Option FieldType} {rd pc : Nat} {kf : Fin 4} {i : Nat} {k : am_K} (hd : decode cc pc = .ok (.astore_n kf, 1)) (hi : (kf : Nat) = i) (hn : i < nL) (hk : am_SW sc own cc nL ret rd (pc + 1) k) : am_SW sc own cc nL ret rd pc (am_astore i k) := by
  intro g p e R s m args below meth c cells slots Q H locs ls lv st σ r hC hl hP hS hr hR
  obtain ⟨x, st1, e1, hr1⟩ := am_popR_some hr
  subst e1
  replace hr := hr1
  exact lv_astore_n hC.1 hC.2.1 hd hi (am_as_has hl) hn rfl (fun ls' hl' => (hk g p e R s m args below meth c cells slots Q H locs ls' (am_set1 lv i (.ref x)) _ σ r hC (am_lv_set1 (v := .ref x) hl') hP hS hr hR))
theorem sw_astore {sc : am_S} {own : String} {cc : ByteArray} {nL : Nat} {ret : Option FieldType} {rd pc : Nat} {i : Nat} {k : am_K} (hd : decode cc pc = .ok (.astore i, 2)) (hn : i < nL) (hk : am_SW sc own cc nL ret rd (pc + 2) k) : am_SW sc own cc nL ret rd pc (am_astore i k) := by
  intro g p e R s m args below meth c cells slots Q H locs ls lv st σ r hC hl hP hS hr hR
  obtain ⟨x, st1, e1, hr1⟩ := am_popR_some hr
  subst e1
  replace hr := hr1
  exact lv_astore hC.1 hC.2.1 hd (am_as_has hl) hn rfl (fun ls' hl' => (hk g p e R s m args below meth c cells slots Q H locs ls' (am_set1 lv i (.ref x)) _ σ r hC (am_lv_set1 (v := .ref x) hl') hP hS hr hR))
theorem sw_iinc {sc : am_S} {own : String} {cc : ByteArray} {nL : Nat} {ret : Option FieldType} {rd pc : Nat} {i : Nat} {n : Int} {v : Int32} {k : am_K} (hd : decode cc pc = .ok (.iinc i n, 3)) (hv : Int32.ofInt n = v) (hn : i < nL) (hk : am_SW sc own cc nL ret rd (pc + 3) k) : am_SW sc own cc nL ret rd pc (am_iinc i v k) := by
  intro g p e R s m args below meth c cells slots Q H locs ls lv st σ r hC hl hP hS hr hR
  unfold am_iinc at hr
  split at hr
  · rename_i x hx
    obtain ⟨q, hq⟩ := List.getElem?_of_mem (am_as_mem (g := g) hx)
    subst hv
    exact lv_iinc hC.1 hC.2.1 hd (am_as_has hl) hq rfl hn rfl (fun ls' hl' => (hk g p e R s m args below meth c cells slots Q H locs ls' (am_set1 lv i (.int (x + Int32.ofInt n))) _ σ r hC (am_lv_set1 (v := .int (x + Int32.ofInt n)) hl') hP hS hr hR))
  · cases hr
theorem sw_iconst {sc : am_S} {own : String} {cc : ByteArray} {nL : Nat} {ret : Option FieldType} {rd pc : Nat} {n : Int} {v : Int32} {k : am_K} (hd : decode cc pc = .ok (.iconst n, 1)) (hv : Int32.ofInt n = v) (hk : am_SW sc own cc nL ret rd (pc + 1) k) : am_SW sc own cc nL ret rd pc (am_cI v k) := by
  intro g p e R s m args below meth c cells slots Q H locs ls lv st σ r hC hl hP hS hr hR
  exact lv_iconst hC.1 hC.2.1 hd hv (hk g p e R s m args below meth c cells slots Q H locs ls lv (.int v :: st) σ r hC hl hP hS hr hR)
theorem sw_bipush {sc : am_S} {own : String} {cc : ByteArray} {nL : Nat} {ret : Option FieldType} {rd pc : Nat} {n : Int} {v : Int32} {k : am_K} (hd : decode cc pc = .ok (.bipush n, 2)) (hv : (Int8.ofInt n).toInt32 = v) (hk : am_SW sc own cc nL ret rd (pc + 2) k) : am_SW sc own cc nL ret rd pc (am_cI v k) := by
  intro g p e R s m args below meth c cells slots Q H locs ls lv st σ r hC hl hP hS hr hR
  exact lv_bipush hC.1 hC.2.1 hd hv (hk g p e R s m args below meth c cells slots Q H locs ls lv (.int v :: st) σ r hC hl hP hS hr hR)
theorem sw_sipush {sc : am_S} {own : String} {cc : ByteArray} {nL : Nat} {ret : Option FieldType} {rd pc : Nat} {n : Int} {v : Int32} {k : am_K} (hd : decode cc pc = .ok (.sipush n, 3)) (hv : (Int16.ofInt n).toInt32 = v) (hk : am_SW sc own cc nL ret rd (pc + 3) k) : am_SW sc own cc nL ret rd pc (am_cI v k) := by
  intro g p e R s m args below meth c cells slots Q H locs ls lv st σ r hC hl hP hS hr hR
  exact lv_sipush hC.1 hC.2.1 hd hv (hk g p e R s m args below meth c cells slots Q H locs ls lv (.int v :: st) σ r hC hl hP hS hr hR)
theorem sw_lconst {sc : am_S} {own : String} {cc : ByteArray} {nL : Nat} {ret : Option FieldType} {rd pc : Nat} {n : Fin 2} {v : Int64} {k : am_K} (hd : decode cc pc = .ok (.lconst n, 1)) (hv : Int64.ofNat (n : Nat) = v) (hk : am_SW sc own cc nL ret rd (pc + 1) k) : am_SW sc own cc nL ret rd pc (am_cL v k) := by
  intro g p e R s m args below meth c cells slots Q H locs ls lv st σ r hC hl hP hS hr hR
  exact lv_lconst hC.1 hC.2.1 hd hv (hk g p e R s m args below meth c cells slots Q H locs ls lv (.long v :: st) σ r hC hl hP hS hr hR)
theorem sw_ldc {sc : am_S} {own : String} {cc : ByteArray} {nL : Nat} {ret : Option FieldType} {rd pc : Nat} {idx : Nat} {v : Int32} {k : am_K} (hd : decode cc pc = .ok (.ldc idx, 2)) (hw : Cond.constant own idx v ∈ am_TB) (hk : am_SW sc own cc nL ret rd (pc + 2) k) : am_SW sc own cc nL ret rd pc (am_cI v k) := by
  intro g p e R s m args below meth c cells slots Q H locs ls lv st σ r hC hl hP hS hr hR
  exact lv_ldc hC.1 hC.2.1 hC.2.2.2.1 (hC.2.2.2.2.1 _ hw) hd (hk g p e R s m args below meth c cells slots Q H locs ls lv (.int v :: st) σ r hC hl hP hS hr hR)
theorem sw_ldcw {sc : am_S} {own : String} {cc : ByteArray} {nL : Nat} {ret : Option FieldType} {rd pc : Nat} {idx : Nat} {v : Int32} {k : am_K} (hd : decode cc pc = .ok (.ldc_w idx, 3)) (hw : Cond.constant own idx v ∈ am_TB) (hk : am_SW sc own cc nL ret rd (pc + 3) k) : am_SW sc own cc nL ret rd pc (am_cI v k) := by
  intro g p e R s m args below meth c cells slots Q H locs ls lv st σ r hC hl hP hS hr hR
  exact lv_ldcw hC.1 hC.2.1 hC.2.2.2.1 (hC.2.2.2.2.1 _ hw) hd (hk g p e R s m args below meth c cells slots Q H locs ls lv (.int v :: st) σ r hC hl hP hS hr hR)
theorem sw_ldc2 {sc : am_S} {own : String} {cc : ByteArray} {nL : Nat} {ret : Option FieldType} {rd pc : Nat} {idx : Nat} {v : Int64} {k : am_K} (hd : decode cc pc = .ok (.ldc2_w idx, 3)) (hw : Cond.constantLong own idx v ∈ am_TB) (hk : am_SW sc own cc nL ret rd (pc + 3) k) : am_SW sc own cc nL ret rd pc (am_cL v k) := by
  intro g p e R s m args below meth c cells slots Q H locs ls lv st σ r hC hl hP hS hr hR
  exact lv_ldc2 hC.1 hC.2.1 hC.2.2.2.1 (hC.2.2.2.2.1 _ hw) hd (hk g p e R s m args below meth c cells slots Q H locs ls lv (.long v :: st) σ r hC hl hP hS hr hR)
abbrev ao_iadd : Int32 → Int32 → Int32 := fun x y => x + y
theorem sw_iadd {sc : am_S} {own : String} {cc : ByteArray} {nL : Nat} {ret : Option FieldType} {rd pc : Nat} {k : am_K} (hd : decode cc pc = .ok (.iadd, 1)) (hk : am_SW sc own cc nL ret rd (pc + 1) k) : am_SW sc own cc nL ret rd pc (am_bin ao_iadd k) := by
  intro g p e R s m args below meth c cells slots Q H locs ls lv st σ r hC hl hP hS hr hR
  obtain ⟨y, st1, e1, hr1⟩ := am_popI_some hr
  subst e1
  obtain ⟨x, st2, e2, hr2⟩ := am_popI_some hr1
  subst e2
  replace hr := hr2
  exact lv_iadd hC.1 hC.2.1 hd (hk g p e R s m args below meth c cells slots Q H locs ls lv _ σ r hC hl hP hS hr hR)
abbrev ao_isub : Int32 → Int32 → Int32 := fun x y => x - y
theorem sw_isub {sc : am_S} {own : String} {cc : ByteArray} {nL : Nat} {ret : Option FieldType} {rd pc : Nat} {k : am_K} (hd : decode cc pc = .ok (.isub, 1)) (hk : am_SW sc own cc nL ret rd (pc + 1) k) : am_SW sc own cc nL ret rd pc (am_bin ao_isub k) := by
  intro g p e R s m args below meth c cells slots Q H locs ls lv st σ r hC hl hP hS hr hR
  obtain ⟨y, st1, e1, hr1⟩ := am_popI_some hr
  subst e1
  obtain ⟨x, st2, e2, hr2⟩ := am_popI_some hr1
  subst e2
  replace hr := hr2
  exact lv_isub hC.1 hC.2.1 hd (hk g p e R s m args below meth c cells slots Q H locs ls lv _ σ r hC hl hP hS hr hR)
abbrev ao_imul : Int32 → Int32 → Int32 := fun x y => x * y
theorem sw_imul {sc : am_S} {own : String} {cc : ByteArray} {nL : Nat} {ret : Option FieldType} {rd pc : Nat} {k : am_K} (hd : decode cc pc = .ok (.imul, 1)) (hk : am_SW sc own cc nL ret rd (pc + 1) k) : am_SW sc own cc nL ret rd pc (am_bin ao_imul k) := by
  intro g p e R s m args below meth c cells slots Q H locs ls lv st σ r hC hl hP hS hr hR
  obtain ⟨y, st1, e1, hr1⟩ := am_popI_some hr
  subst e1
  obtain ⟨x, st2, e2, hr2⟩ := am_popI_some hr1
  subst e2
  replace hr := hr2
  exact lv_imul hC.1 hC.2.1 hd (hk g p e R s m args below meth c cells slots Q H locs ls lv _ σ r hC hl hP hS hr hR)
abbrev ao_iand : Int32 → Int32 → Int32 := fun x y => x &&& y
theorem sw_iand {sc : am_S} {own : String} {cc : ByteArray} {nL : Nat} {ret : Option FieldType} {rd pc : Nat} {k : am_K} (hd : decode cc pc = .ok (.iand, 1)) (hk : am_SW sc own cc nL ret rd (pc + 1) k) : am_SW sc own cc nL ret rd pc (am_bin ao_iand k) := by
  intro g p e R s m args below meth c cells slots Q H locs ls lv st σ r hC hl hP hS hr hR
  obtain ⟨y, st1, e1, hr1⟩ := am_popI_some hr
  subst e1
  obtain ⟨x, st2, e2, hr2⟩ := am_popI_some hr1
  subst e2
  replace hr := hr2
  exact lv_iand hC.1 hC.2.1 hd (hk g p e R s m args below meth c cells slots Q H locs ls lv _ σ r hC hl hP hS hr hR)
abbrev ao_ior : Int32 → Int32 → Int32 := fun x y => x ||| y
theorem sw_ior {sc : am_S} {own : String} {cc : ByteArray} {nL : Nat} {ret : Option FieldType} {rd pc : Nat} {k : am_K} (hd : decode cc pc = .ok (.ior, 1)) (hk : am_SW sc own cc nL ret rd (pc + 1) k) : am_SW sc own cc nL ret rd pc (am_bin ao_ior k) := by
  intro g p e R s m args below meth c cells slots Q H locs ls lv st σ r hC hl hP hS hr hR
  obtain ⟨y, st1, e1, hr1⟩ := am_popI_some hr
  subst e1
  obtain ⟨x, st2, e2, hr2⟩ := am_popI_some hr1
  subst e2
  replace hr := hr2
  exact lv_ior hC.1 hC.2.1 hd (hk g p e R s m args below meth c cells slots Q H locs ls lv _ σ r hC hl hP hS hr hR)
abbrev ao_ishl : Int32 → Int32 → Int32 := fun x y => x <<< (y &&& 31)
theorem sw_ishl {sc : am_S} {own : String} {cc : ByteArray} {nL : Nat} {ret : Option FieldType} {rd pc : Nat} {k : am_K} (hd : decode cc pc = .ok (.ishl, 1)) (hk : am_SW sc own cc nL ret rd (pc + 1) k) : am_SW sc own cc nL ret rd pc (am_bin ao_ishl k) := by
  intro g p e R s m args below meth c cells slots Q H locs ls lv st σ r hC hl hP hS hr hR
  obtain ⟨y, st1, e1, hr1⟩ := am_popI_some hr
  subst e1
  obtain ⟨x, st2, e2, hr2⟩ := am_popI_some hr1
  subst e2
  replace hr := hr2
  exact lv_ishl hC.1 hC.2.1 hd (hk g p e R s m args below meth c cells slots Q H locs ls lv _ σ r hC hl hP hS hr hR)
abbrev ao_ishr : Int32 → Int32 → Int32 := fun x y => x >>> (y &&& 31)
theorem sw_ishr {sc : am_S} {own : String} {cc : ByteArray} {nL : Nat} {ret : Option FieldType} {rd pc : Nat} {k : am_K} (hd : decode cc pc = .ok (.ishr, 1)) (hk : am_SW sc own cc nL ret rd (pc + 1) k) : am_SW sc own cc nL ret rd pc (am_bin ao_ishr k) := by
  intro g p e R s m args below meth c cells slots Q H locs ls lv st σ r hC hl hP hS hr hR
  obtain ⟨y, st1, e1, hr1⟩ := am_popI_some hr
  subst e1
  obtain ⟨x, st2, e2, hr2⟩ := am_popI_some hr1
  subst e2
  replace hr := hr2
  exact lv_ishr hC.1 hC.2.1 hd (hk g p e R s m args below meth c cells slots Q H locs ls lv _ σ r hC hl hP hS hr hR)
abbrev ao_iushr : Int32 → Int32 → Int32 := fun x y => (x.toUInt32 >>> (y.toUInt32 &&& Int32.toUInt32 31)).toInt32
theorem sw_iushr {sc : am_S} {own : String} {cc : ByteArray} {nL : Nat} {ret : Option FieldType} {rd pc : Nat} {k : am_K} (hd : decode cc pc = .ok (.iushr, 1)) (hk : am_SW sc own cc nL ret rd (pc + 1) k) : am_SW sc own cc nL ret rd pc (am_bin ao_iushr k) := by
  intro g p e R s m args below meth c cells slots Q H locs ls lv st σ r hC hl hP hS hr hR
  obtain ⟨y, st1, e1, hr1⟩ := am_popI_some hr
  subst e1
  obtain ⟨x, st2, e2, hr2⟩ := am_popI_some hr1
  subst e2
  replace hr := hr2
  exact lv_iushr hC.1 hC.2.1 hd rfl (hk g p e R s m args below meth c cells slots Q H locs ls lv _ σ r hC hl hP hS hr hR)
abbrev ao_ladd : Int64 → Int64 → Int64 := fun x y => x + y
theorem sw_ladd {sc : am_S} {own : String} {cc : ByteArray} {nL : Nat} {ret : Option FieldType} {rd pc : Nat} {k : am_K} (hd : decode cc pc = .ok (.ladd, 1)) (hk : am_SW sc own cc nL ret rd (pc + 1) k) : am_SW sc own cc nL ret rd pc (am_binL ao_ladd k) := by
  intro g p e R s m args below meth c cells slots Q H locs ls lv st σ r hC hl hP hS hr hR
  obtain ⟨y, st1, e1, hr1⟩ := am_popL_some hr
  subst e1
  obtain ⟨x, st2, e2, hr2⟩ := am_popL_some hr1
  subst e2
  replace hr := hr2
  exact lv_ladd hC.1 hC.2.1 hd (hk g p e R s m args below meth c cells slots Q H locs ls lv _ σ r hC hl hP hS hr hR)
abbrev ao_lsub : Int64 → Int64 → Int64 := fun x y => x - y
theorem sw_lsub {sc : am_S} {own : String} {cc : ByteArray} {nL : Nat} {ret : Option FieldType} {rd pc : Nat} {k : am_K} (hd : decode cc pc = .ok (.lsub, 1)) (hk : am_SW sc own cc nL ret rd (pc + 1) k) : am_SW sc own cc nL ret rd pc (am_binL ao_lsub k) := by
  intro g p e R s m args below meth c cells slots Q H locs ls lv st σ r hC hl hP hS hr hR
  obtain ⟨y, st1, e1, hr1⟩ := am_popL_some hr
  subst e1
  obtain ⟨x, st2, e2, hr2⟩ := am_popL_some hr1
  subst e2
  replace hr := hr2
  exact lv_lsub hC.1 hC.2.1 hd (hk g p e R s m args below meth c cells slots Q H locs ls lv _ σ r hC hl hP hS hr hR)
abbrev ao_lmul : Int64 → Int64 → Int64 := fun x y => x * y
theorem sw_lmul {sc : am_S} {own : String} {cc : ByteArray} {nL : Nat} {ret : Option FieldType} {rd pc : Nat} {k : am_K} (hd : decode cc pc = .ok (.lmul, 1)) (hk : am_SW sc own cc nL ret rd (pc + 1) k) : am_SW sc own cc nL ret rd pc (am_binL ao_lmul k) := by
  intro g p e R s m args below meth c cells slots Q H locs ls lv st σ r hC hl hP hS hr hR
  obtain ⟨y, st1, e1, hr1⟩ := am_popL_some hr
  subst e1
  obtain ⟨x, st2, e2, hr2⟩ := am_popL_some hr1
  subst e2
  replace hr := hr2
  exact lv_lmul hC.1 hC.2.1 hd (hk g p e R s m args below meth c cells slots Q H locs ls lv _ σ r hC hl hP hS hr hR)
abbrev ao_land : Int64 → Int64 → Int64 := fun x y => x &&& y
theorem sw_land {sc : am_S} {own : String} {cc : ByteArray} {nL : Nat} {ret : Option FieldType} {rd pc : Nat} {k : am_K} (hd : decode cc pc = .ok (.land, 1)) (hk : am_SW sc own cc nL ret rd (pc + 1) k) : am_SW sc own cc nL ret rd pc (am_binL ao_land k) := by
  intro g p e R s m args below meth c cells slots Q H locs ls lv st σ r hC hl hP hS hr hR
  obtain ⟨y, st1, e1, hr1⟩ := am_popL_some hr
  subst e1
  obtain ⟨x, st2, e2, hr2⟩ := am_popL_some hr1
  subst e2
  replace hr := hr2
  exact lv_land hC.1 hC.2.1 hd (hk g p e R s m args below meth c cells slots Q H locs ls lv _ σ r hC hl hP hS hr hR)
abbrev ao_lor : Int64 → Int64 → Int64 := fun x y => x ||| y
theorem sw_lor {sc : am_S} {own : String} {cc : ByteArray} {nL : Nat} {ret : Option FieldType} {rd pc : Nat} {k : am_K} (hd : decode cc pc = .ok (.lor, 1)) (hk : am_SW sc own cc nL ret rd (pc + 1) k) : am_SW sc own cc nL ret rd pc (am_binL ao_lor k) := by
  intro g p e R s m args below meth c cells slots Q H locs ls lv st σ r hC hl hP hS hr hR
  obtain ⟨y, st1, e1, hr1⟩ := am_popL_some hr
  subst e1
  obtain ⟨x, st2, e2, hr2⟩ := am_popL_some hr1
  subst e2
  replace hr := hr2
  exact lv_lor hC.1 hC.2.1 hd (hk g p e R s m args below meth c cells slots Q H locs ls lv _ σ r hC hl hP hS hr hR)
abbrev ao_idiv : Int32 → Int32 → Int32 := fun x y => x / y
theorem sw_idiv {sc : am_S} {own : String} {cc : ByteArray} {nL : Nat} {ret : Option FieldType} {rd pc : Nat} {k : am_K} (hd : decode cc pc = .ok (.idiv, 1)) (hk : am_SW sc own cc nL ret rd (pc + 1) k) : am_SW sc own cc nL ret rd pc (am_div ao_idiv k) := by
  intro g p e R s m args below meth c cells slots Q H locs ls lv st σ r hC hl hP hS hr hR
  obtain ⟨y, st1, e1, hr1⟩ := am_popI_some hr
  subst e1
  obtain ⟨x, st2, e2, hr2⟩ := am_popI_some hr1
  subst e2
  replace hr := hr2
  split at hr
  · cases hr
  · rename_i hne
    exact lv_idiv hC.1 hC.2.1 hd hne (hk g p e R s m args below meth c cells slots Q H locs ls lv _ σ r hC hl hP hS hr hR)
abbrev ao_irem : Int32 → Int32 → Int32 := fun x y => x - x / y * y
theorem sw_irem {sc : am_S} {own : String} {cc : ByteArray} {nL : Nat} {ret : Option FieldType} {rd pc : Nat} {k : am_K} (hd : decode cc pc = .ok (.irem, 1)) (hk : am_SW sc own cc nL ret rd (pc + 1) k) : am_SW sc own cc nL ret rd pc (am_div ao_irem k) := by
  intro g p e R s m args below meth c cells slots Q H locs ls lv st σ r hC hl hP hS hr hR
  obtain ⟨y, st1, e1, hr1⟩ := am_popI_some hr
  subst e1
  obtain ⟨x, st2, e2, hr2⟩ := am_popI_some hr1
  subst e2
  replace hr := hr2
  split at hr
  · cases hr
  · rename_i hne
    exact lv_irem hC.1 hC.2.1 hd hne (hk g p e R s m args below meth c cells slots Q H locs ls lv _ σ r hC hl hP hS hr hR)
abbrev ao_ldiv : Int64 → Int64 → Int64 := fun x y => x / y
theorem sw_ldiv {sc : am_S} {own : String} {cc : ByteArray} {nL : Nat} {ret : Option FieldType} {rd pc : Nat} {k : am_K} (hd : decode cc pc = .ok (.ldiv, 1)) (hk : am_SW sc own cc nL ret rd (pc + 1) k) : am_SW sc own cc nL ret rd pc (am_divL ao_ldiv k) := by
  intro g p e R s m args below meth c cells slots Q H locs ls lv st σ r hC hl hP hS hr hR
  obtain ⟨y, st1, e1, hr1⟩ := am_popL_some hr
  subst e1
  obtain ⟨x, st2, e2, hr2⟩ := am_popL_some hr1
  subst e2
  replace hr := hr2
  split at hr
  · cases hr
  · rename_i hne
    exact lv_ldiv hC.1 hC.2.1 hd hne (hk g p e R s m args below meth c cells slots Q H locs ls lv _ σ r hC hl hP hS hr hR)
abbrev ao_lrem : Int64 → Int64 → Int64 := fun x y => x - x / y * y
theorem sw_lrem {sc : am_S} {own : String} {cc : ByteArray} {nL : Nat} {ret : Option FieldType} {rd pc : Nat} {k : am_K} (hd : decode cc pc = .ok (.lrem, 1)) (hk : am_SW sc own cc nL ret rd (pc + 1) k) : am_SW sc own cc nL ret rd pc (am_divL ao_lrem k) := by
  intro g p e R s m args below meth c cells slots Q H locs ls lv st σ r hC hl hP hS hr hR
  obtain ⟨y, st1, e1, hr1⟩ := am_popL_some hr
  subst e1
  obtain ⟨x, st2, e2, hr2⟩ := am_popL_some hr1
  subst e2
  replace hr := hr2
  split at hr
  · cases hr
  · rename_i hne
    exact lv_lrem hC.1 hC.2.1 hd hne (hk g p e R s m args below meth c cells slots Q H locs ls lv _ σ r hC hl hP hS hr hR)
theorem sw_lshl {sc : am_S} {own : String} {cc : ByteArray} {nL : Nat} {ret : Option FieldType} {rd pc : Nat} {k : am_K} (hd : decode cc pc = .ok (.lshl, 1)) (hk : am_SW sc own cc nL ret rd (pc + 1) k) : am_SW sc own cc nL ret rd pc (am_lshl k) := by
  intro g p e R s m args below meth c cells slots Q H locs ls lv st σ r hC hl hP hS hr hR
  obtain ⟨y, st1, e1, hr1⟩ := am_popI_some hr
  subst e1
  obtain ⟨x, st2, e2, hr2⟩ := am_popL_some hr1
  subst e2
  replace hr := hr2
  exact lv_lshl hC.1 hC.2.1 hd rfl (hk g p e R s m args below meth c cells slots Q H locs ls lv _ σ r hC hl hP hS hr hR)
abbrev ao_ineg : Int32 → Int32 := fun x => -x
theorem sw_ineg {sc : am_S} {own : String} {cc : ByteArray} {nL : Nat} {ret : Option FieldType} {rd pc : Nat} {k : am_K} (hd : decode cc pc = .ok (.ineg, 1)) (hk : am_SW sc own cc nL ret rd (pc + 1) k) : am_SW sc own cc nL ret rd pc (am_un ao_ineg k) := by
  intro g p e R s m args below meth c cells slots Q H locs ls lv st σ r hC hl hP hS hr hR
  obtain ⟨x, st1, e1, hr1⟩ := am_popI_some hr
  subst e1
  replace hr := hr1
  exact lv_ineg hC.1 hC.2.1 hd (hk g p e R s m args below meth c cells slots Q H locs ls lv _ σ r hC hl hP hS hr hR)
abbrev ao_i2b : Int32 → Int32 := fun x => x.toInt8.toInt32
theorem sw_i2b {sc : am_S} {own : String} {cc : ByteArray} {nL : Nat} {ret : Option FieldType} {rd pc : Nat} {k : am_K} (hd : decode cc pc = .ok (.i2b, 1)) (hk : am_SW sc own cc nL ret rd (pc + 1) k) : am_SW sc own cc nL ret rd pc (am_un ao_i2b k) := by
  intro g p e R s m args below meth c cells slots Q H locs ls lv st σ r hC hl hP hS hr hR
  obtain ⟨x, st1, e1, hr1⟩ := am_popI_some hr
  subst e1
  replace hr := hr1
  exact lv_i2b hC.1 hC.2.1 hd rfl (hk g p e R s m args below meth c cells slots Q H locs ls lv _ σ r hC hl hP hS hr hR)
abbrev ao_i2s : Int32 → Int32 := fun x => x.toInt16.toInt32
theorem sw_i2s {sc : am_S} {own : String} {cc : ByteArray} {nL : Nat} {ret : Option FieldType} {rd pc : Nat} {k : am_K} (hd : decode cc pc = .ok (.i2s, 1)) (hk : am_SW sc own cc nL ret rd (pc + 1) k) : am_SW sc own cc nL ret rd pc (am_un ao_i2s k) := by
  intro g p e R s m args below meth c cells slots Q H locs ls lv st σ r hC hl hP hS hr hR
  obtain ⟨x, st1, e1, hr1⟩ := am_popI_some hr
  subst e1
  replace hr := hr1
  exact lv_i2s hC.1 hC.2.1 hd rfl (hk g p e R s m args below meth c cells slots Q H locs ls lv _ σ r hC hl hP hS hr hR)
theorem sw_i2l {sc : am_S} {own : String} {cc : ByteArray} {nL : Nat} {ret : Option FieldType} {rd pc : Nat} {k : am_K} (hd : decode cc pc = .ok (.i2l, 1)) (hk : am_SW sc own cc nL ret rd (pc + 1) k) : am_SW sc own cc nL ret rd pc (am_i2l k) := by
  intro g p e R s m args below meth c cells slots Q H locs ls lv st σ r hC hl hP hS hr hR
  obtain ⟨x, st1, e1, hr1⟩ := am_popI_some hr
  subst e1
  replace hr := hr1
  exact lv_i2l hC.1 hC.2.1 hd rfl (hk g p e R s m args below meth c cells slots Q H locs ls lv _ σ r hC hl hP hS hr hR)
theorem sw_l2i {sc : am_S} {own : String} {cc : ByteArray} {nL : Nat} {ret : Option FieldType} {rd pc : Nat} {k : am_K} (hd : decode cc pc = .ok (.l2i, 1)) (hk : am_SW sc own cc nL ret rd (pc + 1) k) : am_SW sc own cc nL ret rd pc (am_l2i k) := by
  intro g p e R s m args below meth c cells slots Q H locs ls lv st σ r hC hl hP hS hr hR
  obtain ⟨x, st1, e1, hr1⟩ := am_popL_some hr
  subst e1
  replace hr := hr1
  exact lv_l2i hC.1 hC.2.1 hd rfl (hk g p e R s m args below meth c cells slots Q H locs ls lv _ σ r hC hl hP hS hr hR)
theorem sw_lneg {sc : am_S} {own : String} {cc : ByteArray} {nL : Nat} {ret : Option FieldType} {rd pc : Nat} {k : am_K} (hd : decode cc pc = .ok (.lneg, 1)) (hk : am_SW sc own cc nL ret rd (pc + 1) k) : am_SW sc own cc nL ret rd pc (am_lneg k) := by
  intro g p e R s m args below meth c cells slots Q H locs ls lv st σ r hC hl hP hS hr hR
  obtain ⟨x, st1, e1, hr1⟩ := am_popL_some hr
  subst e1
  replace hr := hr1
  exact lv_lneg hC.1 hC.2.1 hd (hk g p e R s m args below meth c cells slots Q H locs ls lv _ σ r hC hl hP hS hr hR)
theorem sw_lcmp {sc : am_S} {own : String} {cc : ByteArray} {nL : Nat} {ret : Option FieldType} {rd pc : Nat} {k : am_K} (hd : decode cc pc = .ok (.lcmp, 1)) (hk : am_SW sc own cc nL ret rd (pc + 1) k) : am_SW sc own cc nL ret rd pc (am_lcmp k) := by
  intro g p e R s m args below meth c cells slots Q H locs ls lv st σ r hC hl hP hS hr hR
  obtain ⟨y, st1, e1, hr1⟩ := am_popL_some hr
  subst e1
  obtain ⟨x, st2, e2, hr2⟩ := am_popL_some hr1
  subst e2
  replace hr := hr2
  exact W.lcmp hC.1 hC.2.1 hd (hk g p e R s m args below meth c cells slots Q H locs ls lv _ σ r hC hl hP hS hr hR)
theorem sw_dup {sc : am_S} {own : String} {cc : ByteArray} {nL : Nat} {ret : Option FieldType} {rd pc : Nat} {k : am_K} (hd : decode cc pc = .ok (.dup, 1)) (hk : am_SW sc own cc nL ret rd (pc + 1) k) : am_SW sc own cc nL ret rd pc (am_dup k) := by
  intro g p e R s m args below meth c cells slots Q H locs ls lv st σ r hC hl hP hS hr hR
  unfold am_dup at hr
  split at hr
  · exact lv_dup hC.1 hC.2.1 hd rfl (hk g p e R s m args below meth c cells slots Q H locs ls lv _ σ r hC hl hP hS hr hR)
  · exact lv_dup hC.1 hC.2.1 hd rfl (hk g p e R s m args below meth c cells slots Q H locs ls lv _ σ r hC hl hP hS hr hR)
  · cases hr
theorem sw_dup2 {sc : am_S} {own : String} {cc : ByteArray} {nL : Nat} {ret : Option FieldType} {rd pc : Nat} {k : am_K} (hd : decode cc pc = .ok (.dup2, 1)) (hk : am_SW sc own cc nL ret rd (pc + 1) k) : am_SW sc own cc nL ret rd pc (am_dup2 k) := by
  intro g p e R s m args below meth c cells slots Q H locs ls lv st σ r hC hl hP hS hr hR
  obtain ⟨y, st1, e1, hr1⟩ := am_popI_some hr
  subst e1
  obtain ⟨x, st2, e2, hr2⟩ := am_popR_some hr1
  subst e2
  replace hr := hr2
  exact lv_dup2_11 hC.1 hC.2.1 hd rfl rfl (hk g p e R s m args below meth c cells slots Q H locs ls lv _ σ r hC hl hP hS hr hR)
theorem sw_pop {sc : am_S} {own : String} {cc : ByteArray} {nL : Nat} {ret : Option FieldType} {rd pc : Nat} {k : am_K} (hd : decode cc pc = .ok (.pop, 1)) (hk : am_SW sc own cc nL ret rd (pc + 1) k) : am_SW sc own cc nL ret rd pc (am_pop k) := by
  intro g p e R s m args below meth c cells slots Q H locs ls lv st σ r hC hl hP hS hr hR
  obtain ⟨x, st1, e1, hr1⟩ := am_popI_some hr
  subst e1
  replace hr := hr1
  exact lv_pop hC.1 hC.2.1 hd rfl (hk g p e R s m args below meth c cells slots Q H locs ls lv _ σ r hC hl hP hS hr hR)
theorem sw_goto {sc : am_S} {own : String} {cc : ByteArray} {nL : Nat} {ret : Option FieldType} {rd pc : Nat} {off : Int} {tgt : Nat} {k : am_K} (hd : decode cc pc = .ok (.goto off, 3)) (ht : (pc : Int) + off = (tgt : Int)) (hk : am_SW sc own cc nL ret rd tgt k) : am_SW sc own cc nL ret rd pc (am_goto k) := by
  intro g p e R s m args below meth c cells slots Q H locs ls lv st σ r hC hl hP hS hr hR
  exact lv_goto hC.1 hC.2.1 hd ht (hk g p e R s m args below meth c cells slots Q H locs ls lv _ σ r hC hl hP hS hr hR)
theorem sw_if_eq {sc : am_S} {own : String} {cc : ByteArray} {nL : Nat} {ret : Option FieldType} {rd pc : Nat} {off : Int} {tgt : Nat} {kt kf : am_K} (hd : decode cc pc = .ok (.ifCond .eq off, 3)) (ht : (pc : Int) + off = (tgt : Int)) (hkt : am_SW sc own cc nL ret rd tgt kt) (hkf : am_SW sc own cc nL ret rd (pc + 3) kf) : am_SW sc own cc nL ret rd pc (am_eq0 kt kf) := by
  intro g p e R s m args below meth c cells slots Q H locs ls lv st σ r hC hl hP hS hr hR
  obtain ⟨x, st1, e1, hr1⟩ := am_popI_some hr
  subst e1
  replace hr := hr1
  refine lv_if_eq hC.1 hC.2.1 hd ht (fun hc => ?_) (fun hc => ?_)
  · rw [if_pos hc] at hr
    exact (hkt g p e R s m args below meth c cells slots Q H locs ls lv _ σ r hC hl hP hS hr hR)
  · rw [if_neg hc] at hr
    exact (hkf g p e R s m args below meth c cells slots Q H locs ls lv _ σ r hC hl hP hS hr hR)
theorem sw_icmp_eq {sc : am_S} {own : String} {cc : ByteArray} {nL : Nat} {ret : Option FieldType} {rd pc : Nat} {off : Int} {tgt : Nat} {kt kf : am_K} (hd : decode cc pc = .ok (.if_icmp .eq off, 3)) (ht : (pc : Int) + off = (tgt : Int)) (hkt : am_SW sc own cc nL ret rd tgt kt) (hkf : am_SW sc own cc nL ret rd (pc + 3) kf) : am_SW sc own cc nL ret rd pc (am_eq kt kf) := by
  intro g p e R s m args below meth c cells slots Q H locs ls lv st σ r hC hl hP hS hr hR
  obtain ⟨y, st1, e1, hr1⟩ := am_popI_some hr
  subst e1
  obtain ⟨x, st2, e2, hr2⟩ := am_popI_some hr1
  subst e2
  replace hr := hr2
  refine lv_icmp_eq hC.1 hC.2.1 hd ht (fun hc => ?_) (fun hc => ?_)
  · rw [if_pos hc] at hr
    exact (hkt g p e R s m args below meth c cells slots Q H locs ls lv _ σ r hC hl hP hS hr hR)
  · rw [if_neg hc] at hr
    exact (hkf g p e R s m args below meth c cells slots Q H locs ls lv _ σ r hC hl hP hS hr hR)
theorem sw_if_ne {sc : am_S} {own : String} {cc : ByteArray} {nL : Nat} {ret : Option FieldType} {rd pc : Nat} {off : Int} {tgt : Nat} {kt kf : am_K} (hd : decode cc pc = .ok (.ifCond .ne off, 3)) (ht : (pc : Int) + off = (tgt : Int)) (hkt : am_SW sc own cc nL ret rd tgt kt) (hkf : am_SW sc own cc nL ret rd (pc + 3) kf) : am_SW sc own cc nL ret rd pc (am_eq0 kf kt) := by
  intro g p e R s m args below meth c cells slots Q H locs ls lv st σ r hC hl hP hS hr hR
  obtain ⟨x, st1, e1, hr1⟩ := am_popI_some hr
  subst e1
  replace hr := hr1
  refine lv_if_ne hC.1 hC.2.1 hd ht (fun hc => ?_) (fun hc => ?_)
  · rw [if_neg (am_no_ne hc)] at hr
    exact (hkt g p e R s m args below meth c cells slots Q H locs ls lv _ σ r hC hl hP hS hr hR)
  · rw [if_pos (am_is_ne hc)] at hr
    exact (hkf g p e R s m args below meth c cells slots Q H locs ls lv _ σ r hC hl hP hS hr hR)
theorem sw_icmp_ne {sc : am_S} {own : String} {cc : ByteArray} {nL : Nat} {ret : Option FieldType} {rd pc : Nat} {off : Int} {tgt : Nat} {kt kf : am_K} (hd : decode cc pc = .ok (.if_icmp .ne off, 3)) (ht : (pc : Int) + off = (tgt : Int)) (hkt : am_SW sc own cc nL ret rd tgt kt) (hkf : am_SW sc own cc nL ret rd (pc + 3) kf) : am_SW sc own cc nL ret rd pc (am_eq kf kt) := by
  intro g p e R s m args below meth c cells slots Q H locs ls lv st σ r hC hl hP hS hr hR
  obtain ⟨y, st1, e1, hr1⟩ := am_popI_some hr
  subst e1
  obtain ⟨x, st2, e2, hr2⟩ := am_popI_some hr1
  subst e2
  replace hr := hr2
  refine lv_icmp_ne hC.1 hC.2.1 hd ht (fun hc => ?_) (fun hc => ?_)
  · rw [if_neg (am_no_ne hc)] at hr
    exact (hkt g p e R s m args below meth c cells slots Q H locs ls lv _ σ r hC hl hP hS hr hR)
  · rw [if_pos (am_is_ne hc)] at hr
    exact (hkf g p e R s m args below meth c cells slots Q H locs ls lv _ σ r hC hl hP hS hr hR)
theorem sw_if_lt {sc : am_S} {own : String} {cc : ByteArray} {nL : Nat} {ret : Option FieldType} {rd pc : Nat} {off : Int} {tgt : Nat} {kt kf : am_K} (hd : decode cc pc = .ok (.ifCond .lt off, 3)) (ht : (pc : Int) + off = (tgt : Int)) (hkt : am_SW sc own cc nL ret rd tgt kt) (hkf : am_SW sc own cc nL ret rd (pc + 3) kf) : am_SW sc own cc nL ret rd pc (am_lt0 kt kf) := by
  intro g p e R s m args below meth c cells slots Q H locs ls lv st σ r hC hl hP hS hr hR
  obtain ⟨x, st1, e1, hr1⟩ := am_popI_some hr
  subst e1
  replace hr := hr1
  refine lv_if_lt hC.1 hC.2.1 hd ht (fun hc => ?_) (fun hc => ?_)
  · rw [if_pos hc] at hr
    exact (hkt g p e R s m args below meth c cells slots Q H locs ls lv _ σ r hC hl hP hS hr hR)
  · rw [if_neg hc] at hr
    exact (hkf g p e R s m args below meth c cells slots Q H locs ls lv _ σ r hC hl hP hS hr hR)
theorem sw_icmp_lt {sc : am_S} {own : String} {cc : ByteArray} {nL : Nat} {ret : Option FieldType} {rd pc : Nat} {off : Int} {tgt : Nat} {kt kf : am_K} (hd : decode cc pc = .ok (.if_icmp .lt off, 3)) (ht : (pc : Int) + off = (tgt : Int)) (hkt : am_SW sc own cc nL ret rd tgt kt) (hkf : am_SW sc own cc nL ret rd (pc + 3) kf) : am_SW sc own cc nL ret rd pc (am_lt kt kf) := by
  intro g p e R s m args below meth c cells slots Q H locs ls lv st σ r hC hl hP hS hr hR
  obtain ⟨y, st1, e1, hr1⟩ := am_popI_some hr
  subst e1
  obtain ⟨x, st2, e2, hr2⟩ := am_popI_some hr1
  subst e2
  replace hr := hr2
  refine lv_icmp_lt hC.1 hC.2.1 hd ht (fun hc => ?_) (fun hc => ?_)
  · rw [if_pos hc] at hr
    exact (hkt g p e R s m args below meth c cells slots Q H locs ls lv _ σ r hC hl hP hS hr hR)
  · rw [if_neg hc] at hr
    exact (hkf g p e R s m args below meth c cells slots Q H locs ls lv _ σ r hC hl hP hS hr hR)
theorem sw_if_ge {sc : am_S} {own : String} {cc : ByteArray} {nL : Nat} {ret : Option FieldType} {rd pc : Nat} {off : Int} {tgt : Nat} {kt kf : am_K} (hd : decode cc pc = .ok (.ifCond .ge off, 3)) (ht : (pc : Int) + off = (tgt : Int)) (hkt : am_SW sc own cc nL ret rd tgt kt) (hkf : am_SW sc own cc nL ret rd (pc + 3) kf) : am_SW sc own cc nL ret rd pc (am_lt0 kf kt) := by
  intro g p e R s m args below meth c cells slots Q H locs ls lv st σ r hC hl hP hS hr hR
  obtain ⟨x, st1, e1, hr1⟩ := am_popI_some hr
  subst e1
  replace hr := hr1
  refine lv_if_ge hC.1 hC.2.1 hd ht (fun hc => ?_) (fun hc => ?_)
  · rw [if_neg (am_no_ge hc)] at hr
    exact (hkt g p e R s m args below meth c cells slots Q H locs ls lv _ σ r hC hl hP hS hr hR)
  · rw [if_pos (am_is_ge hc)] at hr
    exact (hkf g p e R s m args below meth c cells slots Q H locs ls lv _ σ r hC hl hP hS hr hR)
theorem sw_icmp_ge {sc : am_S} {own : String} {cc : ByteArray} {nL : Nat} {ret : Option FieldType} {rd pc : Nat} {off : Int} {tgt : Nat} {kt kf : am_K} (hd : decode cc pc = .ok (.if_icmp .ge off, 3)) (ht : (pc : Int) + off = (tgt : Int)) (hkt : am_SW sc own cc nL ret rd tgt kt) (hkf : am_SW sc own cc nL ret rd (pc + 3) kf) : am_SW sc own cc nL ret rd pc (am_lt kf kt) := by
  intro g p e R s m args below meth c cells slots Q H locs ls lv st σ r hC hl hP hS hr hR
  obtain ⟨y, st1, e1, hr1⟩ := am_popI_some hr
  subst e1
  obtain ⟨x, st2, e2, hr2⟩ := am_popI_some hr1
  subst e2
  replace hr := hr2
  refine lv_icmp_ge hC.1 hC.2.1 hd ht (fun hc => ?_) (fun hc => ?_)
  · rw [if_neg (am_no_ge hc)] at hr
    exact (hkt g p e R s m args below meth c cells slots Q H locs ls lv _ σ r hC hl hP hS hr hR)
  · rw [if_pos (am_is_ge hc)] at hr
    exact (hkf g p e R s m args below meth c cells slots Q H locs ls lv _ σ r hC hl hP hS hr hR)
theorem sw_if_le {sc : am_S} {own : String} {cc : ByteArray} {nL : Nat} {ret : Option FieldType} {rd pc : Nat} {off : Int} {tgt : Nat} {kt kf : am_K} (hd : decode cc pc = .ok (.ifCond .le off, 3)) (ht : (pc : Int) + off = (tgt : Int)) (hkt : am_SW sc own cc nL ret rd tgt kt) (hkf : am_SW sc own cc nL ret rd (pc + 3) kf) : am_SW sc own cc nL ret rd pc (am_le0 kt kf) := by
  intro g p e R s m args below meth c cells slots Q H locs ls lv st σ r hC hl hP hS hr hR
  obtain ⟨x, st1, e1, hr1⟩ := am_popI_some hr
  subst e1
  replace hr := hr1
  refine lv_if_le hC.1 hC.2.1 hd ht (fun hc => ?_) (fun hc => ?_)
  · rw [if_pos hc] at hr
    exact (hkt g p e R s m args below meth c cells slots Q H locs ls lv _ σ r hC hl hP hS hr hR)
  · rw [if_neg hc] at hr
    exact (hkf g p e R s m args below meth c cells slots Q H locs ls lv _ σ r hC hl hP hS hr hR)
theorem sw_icmp_le {sc : am_S} {own : String} {cc : ByteArray} {nL : Nat} {ret : Option FieldType} {rd pc : Nat} {off : Int} {tgt : Nat} {kt kf : am_K} (hd : decode cc pc = .ok (.if_icmp .le off, 3)) (ht : (pc : Int) + off = (tgt : Int)) (hkt : am_SW sc own cc nL ret rd tgt kt) (hkf : am_SW sc own cc nL ret rd (pc + 3) kf) : am_SW sc own cc nL ret rd pc (am_le kt kf) := by
  intro g p e R s m args below meth c cells slots Q H locs ls lv st σ r hC hl hP hS hr hR
  obtain ⟨y, st1, e1, hr1⟩ := am_popI_some hr
  subst e1
  obtain ⟨x, st2, e2, hr2⟩ := am_popI_some hr1
  subst e2
  replace hr := hr2
  refine lv_icmp_le hC.1 hC.2.1 hd ht (fun hc => ?_) (fun hc => ?_)
  · rw [if_pos hc] at hr
    exact (hkt g p e R s m args below meth c cells slots Q H locs ls lv _ σ r hC hl hP hS hr hR)
  · rw [if_neg hc] at hr
    exact (hkf g p e R s m args below meth c cells slots Q H locs ls lv _ σ r hC hl hP hS hr hR)
theorem sw_if_gt {sc : am_S} {own : String} {cc : ByteArray} {nL : Nat} {ret : Option FieldType} {rd pc : Nat} {off : Int} {tgt : Nat} {kt kf : am_K} (hd : decode cc pc = .ok (.ifCond .gt off, 3)) (ht : (pc : Int) + off = (tgt : Int)) (hkt : am_SW sc own cc nL ret rd tgt kt) (hkf : am_SW sc own cc nL ret rd (pc + 3) kf) : am_SW sc own cc nL ret rd pc (am_le0 kf kt) := by
  intro g p e R s m args below meth c cells slots Q H locs ls lv st σ r hC hl hP hS hr hR
  obtain ⟨x, st1, e1, hr1⟩ := am_popI_some hr
  subst e1
  replace hr := hr1
  refine lv_if_gt hC.1 hC.2.1 hd ht (fun hc => ?_) (fun hc => ?_)
  · rw [if_neg (am_no_gt hc)] at hr
    exact (hkt g p e R s m args below meth c cells slots Q H locs ls lv _ σ r hC hl hP hS hr hR)
  · rw [if_pos (am_is_gt hc)] at hr
    exact (hkf g p e R s m args below meth c cells slots Q H locs ls lv _ σ r hC hl hP hS hr hR)
theorem sw_icmp_gt {sc : am_S} {own : String} {cc : ByteArray} {nL : Nat} {ret : Option FieldType} {rd pc : Nat} {off : Int} {tgt : Nat} {kt kf : am_K} (hd : decode cc pc = .ok (.if_icmp .gt off, 3)) (ht : (pc : Int) + off = (tgt : Int)) (hkt : am_SW sc own cc nL ret rd tgt kt) (hkf : am_SW sc own cc nL ret rd (pc + 3) kf) : am_SW sc own cc nL ret rd pc (am_le kf kt) := by
  intro g p e R s m args below meth c cells slots Q H locs ls lv st σ r hC hl hP hS hr hR
  obtain ⟨y, st1, e1, hr1⟩ := am_popI_some hr
  subst e1
  obtain ⟨x, st2, e2, hr2⟩ := am_popI_some hr1
  subst e2
  replace hr := hr2
  refine lv_icmp_gt hC.1 hC.2.1 hd ht (fun hc => ?_) (fun hc => ?_)
  · rw [if_neg (am_no_gt hc)] at hr
    exact (hkt g p e R s m args below meth c cells slots Q H locs ls lv _ σ r hC hl hP hS hr hR)
  · rw [if_pos (am_is_gt hc)] at hr
    exact (hkf g p e R s m args below meth c cells slots Q H locs ls lv _ σ r hC hl hP hS hr hR)
theorem sw_iret {sc : am_S} {own : String} {cc : ByteArray} {nL : Nat} {ret : Option FieldType} {rd pc : Nat} (hd : decode cc pc = .ok (.ireturn, 1)) (hret : ret = some .int) : am_SW sc own cc nL ret rd pc am_iret := by
  intro g p e R s m args below meth c cells slots Q H locs ls lv st σ r hC hl hP hS hr hR
  unfold am_iret at hr
  split at hr
  · cases hr
    exact hR pc H locs ls hP hS ⟨hd, _, hret, rfl⟩
  · cases hr
theorem sw_zret {sc : am_S} {own : String} {cc : ByteArray} {nL : Nat} {ret : Option FieldType} {rd pc : Nat} (hd : decode cc pc = .ok (.ireturn, 1)) (hret : ret = some .boolean) : am_SW sc own cc nL ret rd pc am_zret := by
  intro g p e R s m args below meth c cells slots Q H locs ls lv st σ r hC hl hP hS hr hR
  unfold am_zret at hr
  split at hr
  · obtain ⟨hx, hr⟩ := am_if_some hr
    cases hr
    exact hR pc H locs ls hP hS ⟨hd, _, hret, congrArg Value.int hx⟩
  · cases hr
theorem sw_lret {sc : am_S} {own : String} {cc : ByteArray} {nL : Nat} {ret : Option FieldType} {rd pc : Nat} (hd : decode cc pc = .ok (.lreturn, 1)) (hret : ret = some .long) : am_SW sc own cc nL ret rd pc am_lret := by
  intro g p e R s m args below meth c cells slots Q H locs ls lv st σ r hC hl hP hS hr hR
  unfold am_lret at hr
  split at hr
  · cases hr
    exact hR pc H locs ls hP hS ⟨hd, hret⟩
  · cases hr
theorem sw_vret {sc : am_S} {own : String} {cc : ByteArray} {nL : Nat} {ret : Option FieldType} {rd pc : Nat} (hd : decode cc pc = .ok (.return_, 1)) (hret : ret = none) : am_SW sc own cc nL ret rd pc am_vret := by
  intro g p e R s m args below meth c cells slots Q H locs ls lv st σ r hC hl hP hS hr hR
  unfold am_vret at hr
  split at hr
  · cases hr
    exact hR pc H locs ls hP hS ⟨hd, hret⟩
  · cases hr
theorem sw_no {sc : am_S} {own : String} {cc : ByteArray} {nL : Nat} {ret : Option FieldType} {rd pc : Nat}  : am_SW sc own cc nL ret rd pc (fun _ _ _ => none) := by
  intro g p e R s m args below meth c cells slots Q H locs ls lv st σ r hC hl hP hS hr hR
  cases hr
