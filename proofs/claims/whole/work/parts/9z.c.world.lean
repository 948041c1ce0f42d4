/-! the world at the law's entry: classes, array classes, the string constant, the statics -/
theorem wz_545 : Cond.instantiable RX0 9 ∈ am_TB := List.mem_filter.mpr ⟨List.mem_of_getElem? (i := 545) (by decide +kernel), by decide +kernel⟩
theorem wz_606 : Cond.instantiable RX1 3 ∈ am_TB := List.mem_filter.mpr ⟨List.mem_of_getElem? (i := 606) (by decide +kernel), by decide +kernel⟩
theorem wz_585 : Cond.instantiable RX2 4 ∈ am_TB := List.mem_filter.mpr ⟨List.mem_of_getElem? (i := 585) (by decide +kernel), by decide +kernel⟩
theorem wz_249 : Cond.instantiable RX3 12 ∈ am_TB := List.mem_filter.mpr ⟨List.mem_of_getElem? (i := 249) (by decide +kernel), by decide +kernel⟩
theorem wz_470 : Cond.instantiable RX4 4 ∈ am_TB := List.mem_filter.mpr ⟨List.mem_of_getElem? (i := 470) (by decide +kernel), by decide +kernel⟩
theorem wz_377 : Cond.instantiable RX5 2 ∈ am_TB := List.mem_filter.mpr ⟨List.mem_of_getElem? (i := 377) (by decide +kernel), by decide +kernel⟩
theorem wz_397 : Cond.instantiable RX6 14 ∈ am_TB := List.mem_filter.mpr ⟨List.mem_of_getElem? (i := 397) (by decide +kernel), by decide +kernel⟩
theorem wz_625 : Cond.instantiable RX7 4 ∈ am_TB := List.mem_filter.mpr ⟨List.mem_of_getElem? (i := 625) (by decide +kernel), by decide +kernel⟩
theorem wz_391 : Cond.instantiable RX8 11 ∈ am_TB := List.mem_filter.mpr ⟨List.mem_of_getElem? (i := 391) (by decide +kernel), by decide +kernel⟩
theorem wz_355 : Cond.instantiable RX9 5 ∈ am_TB := List.mem_filter.mpr ⟨List.mem_of_getElem? (i := 355) (by decide +kernel), by decide +kernel⟩
theorem wz_239 : Cond.instantiable RX10 19 ∈ am_TB := List.mem_filter.mpr ⟨List.mem_of_getElem? (i := 239) (by decide +kernel), by decide +kernel⟩
theorem wz_1551 : Cond.instantiable RX11 50 ∈ am_TB := List.mem_filter.mpr ⟨List.mem_of_getElem? (i := 1551) (by decide +kernel), by decide +kernel⟩
theorem wz_389 : Cond.arrayClass .int ∈ am_TB := List.mem_filter.mpr ⟨List.mem_of_getElem? (i := 389) (by decide +kernel), by decide +kernel⟩
theorem wz_353 : Cond.arrayClass .long ∈ am_TB := List.mem_filter.mpr ⟨List.mem_of_getElem? (i := 353) (by decide +kernel), by decide +kernel⟩
theorem wz_352 : Cond.arrayClass .byte ∈ am_TB := List.mem_filter.mpr ⟨List.mem_of_getElem? (i := 352) (by decide +kernel), by decide +kernel⟩
theorem wz_238 : Cond.classLink RL 7 RX10 ∈ am_TB := List.mem_filter.mpr ⟨List.mem_of_getElem? (i := 238) (by decide +kernel), by decide +kernel⟩
theorem wz_1550 : Cond.classLink RL 10 RX11 ∈ am_TB := List.mem_filter.mpr ⟨List.mem_of_getElem? (i := 1550) (by decide +kernel), by decide +kernel⟩
theorem wz_219 : Cond.initialized RX10 ∈ am_TB := List.mem_filter.mpr ⟨List.mem_of_getElem? (i := 219) (by decide +kernel), by decide +kernel⟩
theorem wz_234 : Cond.initialized RX11 ∈ am_TB := List.mem_filter.mpr ⟨List.mem_of_getElem? (i := 234) (by decide +kernel), by decide +kernel⟩
theorem wz_240 : Cond.methodLink RL 9 yX10_init ∈ am_TB := List.mem_filter.mpr ⟨List.mem_of_getElem? (i := 240) (by decide +kernel), by decide +kernel⟩
theorem wz_1552 : Cond.methodLink RL 12 yX11_init ∈ am_TB := List.mem_filter.mpr ⟨List.mem_of_getElem? (i := 1552) (by decide +kernel), by decide +kernel⟩
theorem wz_241 : Cond.instanceMethod yX10_init ∈ am_TB := List.mem_filter.mpr ⟨List.mem_of_getElem? (i := 241) (by decide +kernel), by decide +kernel⟩
theorem wz_1553 : Cond.instanceMethod yX11_init ∈ am_TB := List.mem_filter.mpr ⟨List.mem_of_getElem? (i := 1553) (by decide +kernel), by decide +kernel⟩
theorem wz_242 : Cond.code yX10_init cX10_init 2 none ∈ am_TB := List.mem_filter.mpr ⟨List.mem_of_getElem? (i := 242) (by decide +kernel), by decide +kernel⟩
theorem wz_1554 : Cond.code yX11_init cX11_init 2 none ∈ am_TB := List.mem_filter.mpr ⟨List.mem_of_getElem? (i := 1554) (by decide +kernel), by decide +kernel⟩
theorem yz_X10 : am_Y yX10_init cX10_init 2 none 0 := ⟨wz_242, wz_219, by decide +kernel, by decide +kernel, by decide⟩
theorem yz_X11 : am_Y yX11_init cX11_init 2 none 0 := ⟨wz_1554, wz_234, by decide +kernel, by decide +kernel, by decide⟩
theorem we_247 : Cond.arrayOver (.object RX7) ∈ lw_tbl := List.mem_of_getElem? (i := 247) (by decide +kernel)
theorem we_543 : Cond.arrayOver (.object RX8) ∈ lw_tbl := List.mem_of_getElem? (i := 543) (by decide +kernel)
theorem we_254 : Cond.stringRef RX3 26 sgT ∈ lw_tbl := List.mem_of_getElem? (i := 254) (by decide +kernel)
theorem we_264 : Cond.laysStatic "java/lang/String" "COMPACT_STRINGS" "Z" ∈ lw_tbl := List.mem_of_getElem? (i := 264) (by decide +kernel)
theorem we_280 : Cond.laysStatic "jdk/internal/util/Preconditions" "SIOOBE_FORMATTER" "Ljava/util/function/BiFunction;" ∈ lw_tbl := List.mem_of_getElem? (i := 280) (by decide +kernel)
theorem we_221 : Cond.initialized "java/lang/String" ∈ lw_tbl := List.mem_of_getElem? (i := 221) (by decide +kernel)
theorem we_223 : Cond.initialized "jdk/internal/util/Preconditions" ∈ lw_tbl := List.mem_of_getElem? (i := 223) (by decide +kernel)
theorem lw_arrP {args : Array Value} {s : State} {ty : FieldType} (h : (Cond.arrayClass ty).before args s = true) : ∃ cA : ClassId, ArrOfT s cA ty ∧ s.vm.findClass ("[" ++ ty.toString) = some cA := by
  obtain ⟨c, k, comp, h1, h2, h3⟩ := Cond.arrayClass_spec h
  exact ⟨c, fun n z => ⟨fun k h => (by cases h), k, h2, comp, h3⟩, h1⟩
theorem lw_arrO {args : Array Value} {s : State} {C : String} (h : (Cond.arrayOver (.object C)).before args s = true) : ∃ cA : ClassId, ArrOfT s cA (.object C) ∧ va_RA s cA (.object C) := by
  obtain ⟨comp, c, k, h1, h2, h3, h4, h5⟩ := Cond.arrayOver_spec h
  exact ⟨c, fun n z => ⟨fun k h => (by cases h), k, h3, comp, h4⟩, k, comp, h3, h4, h1, h5⟩
theorem lw_inst {c : Nat} {q : vw_C} (h : vwCl[c]? = some q) : Cond.instantiable q.1 q.2.2 ∈ am_TB := by
  match c, h with
  | 0, h => cases h; exact wz_545
  | 1, h => cases h; exact wz_606
  | 2, h => cases h; exact wz_585
  | 3, h => cases h; exact wz_249
  | 4, h => cases h; exact wz_470
  | 5, h => cases h; exact wz_377
  | 6, h => cases h; exact wz_397
  | 7, h => cases h; exact wz_625
  | 8, h => cases h; exact wz_391
  | 9, h => cases h; exact wz_355
  | 10, h => cases h; exact wz_239
  | 11, h => cases h; exact wz_1551
  | c + 12, h => simp [vwCl] at h
theorem lw_K {args : Array Value} {s : State} (l : Launch) (b bs : Nat) (hts : ∀ w ∈ lw_tbl, w.before args s = true) : ∃ (D : va_G) (cA : Nat → ClassId), va_K D vwCl (am_ty (lwG l D cA b bs)) s := by
  have hT : ∀ w ∈ am_TB, w.before args s = true := fun w hw => hts w (List.mem_filter.mp hw).1
  have h0 : ∀ c : Nat, ∃ x : ClassId × (Nat → Nat), ∀ q : vw_C, vwCl[c]? = some q → u_Kn s q.1 q.2.1 q.2.2 x.1 x.2 := by
    intro c
    cases hq : vwCl[c]? with
    | none => exact ⟨(0, fun _ => 0), fun q h => by cases h⟩
    | some q =>
      obtain ⟨cC, iS, h⟩ := u_known (C := q.1) (T := q.2.1) (N := q.2.2) (n := q.2.2) hT (am_cls hq).2.1 (hT _ (lw_inst hq))
      exact ⟨(cC, iS), fun q' h' => by cases h'; exact h⟩
  obtain ⟨f, hf⟩ := Classical.axiomOfChoice h0
  obtain ⟨c0, a0, n0⟩ := lw_arrP (hT _ wz_389)
  obtain ⟨c1, a1, n1⟩ := lw_arrP (hT _ wz_353)
  obtain ⟨c2, a2, n2⟩ := lw_arrP (hT _ wz_352)
  obtain ⟨c3, a3, n3⟩ := lw_arrO (hts _ we_247)
  obtain ⟨c4, a4, n4⟩ := lw_arrO (hts _ we_543)
  refine ⟨(fun c => (f c).1, fun c => (f c).2), fun k => if k = 0 then c0 else if k = 1 then c1 else if k = 2 then c2 else if k = 3 then c3 else c4, fun c q h => hf c q h, fun k q h => ?_⟩
  match k, h with
  | 0, h => have h : some (c0, FieldType.int) = some q := h; cases h; exact ⟨a0, n0⟩
  | 1, h => have h : some (c1, FieldType.long) = some q := h; cases h; exact ⟨a1, n1⟩
  | 2, h => have h : some (c2, FieldType.byte) = some q := h; cases h; exact ⟨a2, n2⟩
  | 3, h => have h : some (c3, FieldType.object RX7) = some q := h; cases h; exact ⟨a3, n3⟩
  | 4, h => have h : some (c4, FieldType.object RX8) = some q := h; cases h; exact ⟨a4, n4⟩
  | k + 5, h => simp [am_ty] at h
theorem lw_el : ∀ j : Nat, j < 115 → Cond.eq (.elem (.field (.string "WaterPatience$Reader" 26) "java/lang/String" "value" "[B") (.int (Int32.ofNat j))) (.int (sgL.getD j 0)) ∈ flatC (Jvm.Cond.and given_1 narrow_1) := by decide +kernel
theorem lw_sg {args : Array Value} {s : State} (hts : ∀ w ∈ lw_tbl, w.before args s = true) (hgv : (Jvm.Cond.and given_1 narrow_1).before args s = true) : ∃ q : gS, q.1 = s.heap.size ∧ sg q s := by
  have hs := flat_of_before _ hgv
  have hA : ∀ a : Nat, a < s.heap.size → ¬ bA s.heap.size a := fun a h h2 => absurd h (Nat.not_lt.mpr h2)
  obtain ⟨adK, adV, hS, hev⟩ := vk_Sof (args := args) (s := s) (N := 1) (tm := fun _ => Term.string "WaterPatience$Reader" 26) (len := [115]) (byt := [sgL]) (A := bA s.heap.size)
    (fun i hi => by obtain rfl : i = 0 := by omega
                    decide)
    (fun i hi => hs _ (by decide +kernel)) (fun i hi => hs _ (by decide +kernel)) (fun i hi => hs _ (by decide +kernel))
    (fun i hi => by obtain rfl : i = 0 := by omega
                    exact hs _ (by decide +kernel))
    (fun i hi j hj => by obtain rfl : i = 0 := by omega
                         exact hs _ (lw_el j hj))
    (fun i j hi hj hne => absurd (by omega : i = j) hne) hA
  obtain ⟨k1, k2, k3, k4⟩ := hS.1 0 (by decide)
  have k5 : va_Z "java/lang/String" "COMPACT_STRINGS" "Z" (.int 1) (bA s.heap.size) s s.heap := va_Zof (hts _ we_264) (hts _ we_221) (va_eqt (hs _ (by decide +kernel))) hA
  have k6 := va_Zqof (A := bA s.heap.size) (hts _ we_280) (hts _ we_223) (hs _ (by decide +kernel)) hA
  have k7 : vk_R RX3 26 sgT (adK 0) s := vk_R.of (hts _ we_254) (hev 0 (by decide))
  rcases k6 with k6 | ⟨t, k6⟩
  · exact ⟨(s.heap.size, adK 0, adV 0, .null), rfl, Or.inl rfl, k7, va_AO.of (hts _ we_247), va_AO.of (hts _ we_543), k1, k2, k3, k4, k5, k6⟩
  · exact ⟨(s.heap.size, adK 0, adV 0, .ref t), rfl, Or.inr ⟨t, rfl⟩, k7, va_AO.of (hts _ we_247), va_AO.of (hts _ we_543), k1, k2, k3, k4, k5, k6⟩
theorem lw_nb {args : Array Value} {s : State} (hts : ∀ w ∈ lw_tbl, w.before args s = true) : ∀ w ∈ am_NB, va_Nw w s := by
  intro w hw
  obtain ⟨h1, h2⟩ := List.mem_filter.mp hw
  have h := hts w h1
  cases w <;> first | exact va_Nw.of rfl h | cases h2
theorem lw_ad {l : Launch} {D : va_G} {cA : Nat → ClassId} {b bs h : Nat} (hh : h < am_N) : am_ad (lwG l D cA b bs) h = b + h := by
  show (if h = 999 then bs else b + h) = b + h
  have hh : h < 136 := hh
  rw [if_neg (by omega)]
theorem lw_wsi {g : am_G} {σ : am_M} {i : Nat} {x : Nat × va_E} (h : (am_ws g σ)[i]? = some x) : i < am_N ∧ x = (am_ad g i, am_ce g σ i) := by
  have hi : i < am_N := by
    have := (List.getElem?_eq_some_iff.mp h).1
    simpa [am_ws] using this
  rw [am_ws_get g σ hi] at h
  exact ⟨hi, (Option.some.inj h).symm⟩
theorem lw_D (l : Launch) (D : va_G) (cA : Nat → ClassId) (b bs : Nat) (σ : am_M) : va_D (am_A (lwG l D cA b bs)) (am_ws (lwG l D cA b bs) σ) := by
  refine ⟨fun i j x y hx hy e => ?_, fun k x hx => ?_⟩
  · obtain ⟨hi, rfl⟩ := lw_wsi hx
    obtain ⟨hj, rfl⟩ := lw_wsi hy
    have e : am_ad (lwG l D cA b bs) i = am_ad (lwG l D cA b bs) j := e
    rw [lw_ad hi, lw_ad hj] at e
    omega
  · obtain ⟨hk, rfl⟩ := lw_wsi hx
    show b ≤ am_ad (lwG l D cA b bs) k
    rw [lw_ad hk]
    omega
set_option maxRecDepth 100000 in
theorem lw_Pw {l : Launch} {D : va_G} {cA : Nat → ClassId} {b bs : Nat} {H : Heap} (hB : bw D b (lwE (lwG l D cA b bs) b) H) : va_P D vwCl (am_ws (lwG l D cA b bs) s0) H := by
  intro k x hx
  obtain ⟨hk, rfl⟩ := lw_wsi hx
  rw [lw_ad hk]
  have hk : k < 136 := hk
  match k, hk with
  | 0, _ => exact st_0 hB
  | 1, _ => exact st_1 hB
  | 2, _ => exact st_2 hB
  | 3, _ => exact st_3 hB
  | 4, _ => exact st_4 hB
  | 5, _ => exact st_5 hB
  | 6, _ => exact st_6 hB
  | 7, _ => exact st_7 hB
  | 8, _ => exact st_8 hB
  | 9, _ => exact st_9 hB
  | 10, _ => exact st_10 hB
  | 11, _ => exact st_11 hB
  | 12, _ => exact st_12 hB
  | 13, _ => exact st_13 hB
  | 14, _ => exact st_14 hB
  | 15, _ => exact st_15 hB
  | 16, _ => exact st_16 hB
  | 17, _ => exact st_17 hB
  | 18, _ => exact st_18 hB
  | 19, _ => exact st_19 hB
  | 20, _ => exact st_20 hB
  | 21, _ => exact st_21 hB
  | 22, _ => exact st_22 hB
  | 23, _ => exact st_23 hB
  | 24, _ => exact st_24 hB
  | 25, _ => exact st_25 hB
  | 26, _ => exact st_26 hB
  | 27, _ => exact st_27 hB
  | 28, _ => exact st_28 hB
  | 29, _ => exact st_29 hB
  | 30, _ => exact st_30 hB
  | 31, _ => exact st_31 hB
  | 32, _ => exact st_32 hB
  | 33, _ => exact st_33 hB
  | 34, _ => exact st_34 hB
  | 35, _ => exact st_35 hB
  | 36, _ => exact st_36 hB
  | 37, _ => exact st_37 hB
  | 38, _ => exact st_38 hB
  | 39, _ => exact st_39 hB
  | 40, _ => exact st_40 hB
  | 41, _ => exact st_41 hB
  | 42, _ => exact st_42 hB
  | 43, _ => exact st_43 hB
  | 44, _ => exact st_44 hB
  | 45, _ => exact st_45 hB
  | 46, _ => exact st_46 hB
  | 47, _ => exact st_47 hB
  | 48, _ => exact st_48 hB
  | 49, _ => exact st_49 hB
  | 50, _ => exact st_50 hB
  | 51, _ => exact st_51 hB
  | 52, _ => exact st_52 hB
  | 53, _ => exact st_53 hB
  | 54, _ => exact st_54 hB
  | 55, _ => exact st_55 hB
  | 56, _ => exact st_56 hB
  | 57, _ => exact st_57 hB
  | 58, _ => exact st_58 hB
  | 59, _ => exact st_59 hB
  | 60, _ => exact st_60 hB
  | 61, _ => exact st_61 hB
  | 62, _ => exact st_62 hB
  | 63, _ => exact st_63 hB
  | 64, _ => exact st_64 hB
  | 65, _ => exact st_65 hB
  | 66, _ => exact st_66 hB
  | 67, _ => exact st_67 hB
  | 68, _ => exact st_68 hB
  | 69, _ => exact st_69 hB
  | 70, _ => exact st_70 hB
  | 71, _ => exact st_71 hB
  | 72, _ => exact st_72 hB
  | 73, _ => exact st_73 hB
  | 74, _ => exact st_74 hB
  | 75, _ => exact st_75 hB
  | 76, _ => exact st_76 hB
  | 77, _ => exact st_77 hB
  | 78, _ => exact st_78 hB
  | 79, _ => exact st_79 hB
  | 80, _ => exact st_80 hB
  | 81, _ => exact st_81 hB
  | 82, _ => exact st_82 hB
  | 83, _ => exact st_83 hB
  | 84, _ => exact st_84 hB
  | 85, _ => exact st_85 hB
  | 86, _ => exact st_86 hB
  | 87, _ => exact st_87 hB
  | 88, _ => exact st_88 hB
  | 89, _ => exact st_89 hB
  | 90, _ => exact st_90 hB
  | 91, _ => exact st_91 hB
  | 92, _ => exact st_92 hB
  | 93, _ => exact st_93 hB
  | 94, _ => exact st_94 hB
  | 95, _ => exact st_95 hB
  | 96, _ => exact st_96 hB
  | 97, _ => exact st_97 hB
  | 98, _ => exact st_98 hB
  | 99, _ => exact st_99 hB
  | 100, _ => exact st_100 hB
  | 101, _ => exact st_101 hB
  | 102, _ => exact st_102 hB
  | 103, _ => exact st_103 hB
  | 104, _ => exact st_104 hB
  | 105, _ => exact st_105 hB
  | 106, _ => exact st_106 hB
  | 107, _ => exact st_107 hB
  | 108, _ => exact st_108 hB
  | 109, _ => exact st_109 hB
  | 110, _ => exact st_110 hB
  | 111, _ => exact st_111 hB
  | 112, _ => exact st_112 hB
  | 113, _ => exact st_113 hB
  | 114, _ => exact st_114 hB
  | 115, _ => exact st_115 hB
  | 116, _ => exact st_116 hB
  | 117, _ => exact st_117 hB
  | 118, _ => exact st_118 hB
  | 119, _ => exact st_119 hB
  | 120, _ => exact st_120 hB
  | 121, _ => exact st_121 hB
  | 122, _ => exact st_122 hB
  | 123, _ => exact st_123 hB
  | 124, _ => exact st_124 hB
  | 125, _ => exact st_125 hB
  | 126, _ => exact st_126 hB
  | 127, _ => exact st_127 hB
  | 128, _ => exact st_128 hB
  | 129, _ => exact st_129 hB
  | 130, _ => exact st_130 hB
  | 131, _ => exact st_131 hB
  | 132, _ => exact st_132 hB
  | 133, _ => exact st_133 hB
  | 134, _ => exact st_134 hB
  | 135, _ => exact st_135 hB
  | k + 136, h => exact absurd h (Nat.not_lt.mpr (Nat.le_add_left 136 k))
