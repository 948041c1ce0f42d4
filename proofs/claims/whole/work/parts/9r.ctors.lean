theorem wd_629 : Cond.methodLink RX7 3 Lib.objectInit ∈ am_TB := List.mem_filter.mpr ⟨List.mem_of_getElem? (i := 629) (by decide +kernel), by decide +kernel⟩
theorem wd_244 : Cond.instanceMethod Lib.objectInit ∈ am_TB := List.mem_filter.mpr ⟨List.mem_of_getElem? (i := 244) (by decide +kernel), by decide +kernel⟩
theorem wd_245 : Cond.code Lib.objectInit ⟨#[0xb1]⟩ 1 none ∈ am_TB := List.mem_filter.mpr ⟨List.mem_of_getElem? (i := 245) (by decide +kernel), by decide +kernel⟩
theorem wd_353 : Cond.arrayClass .long ∈ am_TB := List.mem_filter.mpr ⟨List.mem_of_getElem? (i := 353) (by decide +kernel), by decide +kernel⟩
theorem wd_474 : Cond.methodLink RX4 5 Lib.objectInit ∈ am_TB := List.mem_filter.mpr ⟨List.mem_of_getElem? (i := 474) (by decide +kernel), by decide +kernel⟩
theorem wd_389 : Cond.arrayClass .int ∈ am_TB := List.mem_filter.mpr ⟨List.mem_of_getElem? (i := 389) (by decide +kernel), by decide +kernel⟩
theorem wd_381 : Cond.methodLink RX5 3 Lib.objectInit ∈ am_TB := List.mem_filter.mpr ⟨List.mem_of_getElem? (i := 381) (by decide +kernel), by decide +kernel⟩
theorem wd_359 : Cond.methodLink RX9 3 Lib.objectInit ∈ am_TB := List.mem_filter.mpr ⟨List.mem_of_getElem? (i := 359) (by decide +kernel), by decide +kernel⟩
theorem wd_549 : Cond.methodLink RX0 3 Lib.objectInit ∈ am_TB := List.mem_filter.mpr ⟨List.mem_of_getElem? (i := 549) (by decide +kernel), by decide +kernel⟩
theorem wd_589 : Cond.methodLink RX2 3 Lib.objectInit ∈ am_TB := List.mem_filter.mpr ⟨List.mem_of_getElem? (i := 589) (by decide +kernel), by decide +kernel⟩
theorem wd_401 : Cond.methodLink RX6 3 Lib.objectInit ∈ am_TB := List.mem_filter.mpr ⟨List.mem_of_getElem? (i := 401) (by decide +kernel), by decide +kernel⟩
theorem wd_610 : Cond.methodLink RX1 3 Lib.objectInit ∈ am_TB := List.mem_filter.mpr ⟨List.mem_of_getElem? (i := 610) (by decide +kernel), by decide +kernel⟩
theorem wd_611 : Cond.classLink RX1 9 RX6 ∈ am_TB := List.mem_filter.mpr ⟨List.mem_of_getElem? (i := 611) (by decide +kernel), by decide +kernel⟩
theorem wd_397 : Cond.instantiable RX6 14 ∈ am_TB := List.mem_filter.mpr ⟨List.mem_of_getElem? (i := 397) (by decide +kernel), by decide +kernel⟩
theorem wd_612 : Cond.methodLinkNest RX1 11 yX6_init "WaterPatience" ∈ am_NB := List.mem_filter.mpr ⟨List.mem_of_getElem? (i := 612) (by decide +kernel), rfl⟩
theorem lk_RX1_11 : am_Lk RX1 11 yX6_init := Or.inr ⟨_, wd_612⟩
theorem wd_400 : Cond.code yX6_init cX6_init 1 none ∈ am_TB := List.mem_filter.mpr ⟨List.mem_of_getElem? (i := 400) (by decide +kernel), by decide +kernel⟩
theorem yy_X6_init : am_Y yX6_init cX6_init 1 none 0 := ⟨wd_400, wd_228, by decide +kernel, by decide +kernel, by decide⟩
theorem wd_399 : Cond.instanceMethod yX6_init ∈ am_TB := List.mem_filter.mpr ⟨List.mem_of_getElem? (i := 399) (by decide +kernel), by decide +kernel⟩
theorem wd_395 : Cond.methodLink RX8 3 Lib.objectInit ∈ am_TB := List.mem_filter.mpr ⟨List.mem_of_getElem? (i := 395) (by decide +kernel), by decide +kernel⟩
theorem wd_396 : Cond.classLink RX8 9 RX6 ∈ am_TB := List.mem_filter.mpr ⟨List.mem_of_getElem? (i := 396) (by decide +kernel), by decide +kernel⟩
theorem wd_398 : Cond.methodLinkNest RX8 11 yX6_init "WaterPatience" ∈ am_NB := List.mem_filter.mpr ⟨List.mem_of_getElem? (i := 398) (by decide +kernel), rfl⟩
theorem lk_RX8_11 : am_Lk RX8 11 yX6_init := Or.inr ⟨_, wd_398⟩
theorem wd_469 : Cond.classLink RX8 18 RX4 ∈ am_TB := List.mem_filter.mpr ⟨List.mem_of_getElem? (i := 469) (by decide +kernel), by decide +kernel⟩
theorem wd_470 : Cond.instantiable RX4 4 ∈ am_TB := List.mem_filter.mpr ⟨List.mem_of_getElem? (i := 470) (by decide +kernel), by decide +kernel⟩
theorem wd_471 : Cond.methodLinkNest RX8 20 yX4_init "WaterPatience" ∈ am_NB := List.mem_filter.mpr ⟨List.mem_of_getElem? (i := 471) (by decide +kernel), rfl⟩
theorem lk_RX8_20 : am_Lk RX8 20 yX4_init := Or.inr ⟨_, wd_471⟩
theorem wd_473 : Cond.code yX4_init cX4_init 1 none ∈ am_TB := List.mem_filter.mpr ⟨List.mem_of_getElem? (i := 473) (by decide +kernel), by decide +kernel⟩
theorem yy_X4_init : am_Y yX4_init cX4_init 1 none 0 := ⟨wd_473, wd_229, by decide +kernel, by decide +kernel, by decide⟩
theorem wd_472 : Cond.instanceMethod yX4_init ∈ am_TB := List.mem_filter.mpr ⟨List.mem_of_getElem? (i := 472) (by decide +kernel), by decide +kernel⟩
def EX7 (g : am_G) (h0 : Nat) : List va_E := [.inr (7, [.ref (h0 + 1), .int 0, .int 0, .int 0]), .inl (am_cA g 1, 60, .inr (.inl (fun _ => 0)))]
set_option maxHeartbeats 4000000 in
set_option maxRecDepth 100000 in
theorem ck_X7 (g : am_G) : ck_Met g 7 yX7_init cX7_init 1 1 1 60 [.null, .int 0, .int 0, .int 0] (EX7 g) := by
  refine ck_of (by decide +kernel) rfl (by decide) ?_
  intro p e s m below meth c ls h0 hx hb hml hown hts hin hlocks hr hK hNb hB hS hl
  refine ck_obj hx hb hml hown hts hl wd_629 wd_244 wd_245 (by decide) dX7_init_0 dX7_init_1 ?_
  refine lv_aload_n hx hb dX7_init_4 rfl (lv_at hl 0 rfl) ?_
  refine lv_bipush (v := 60) hx hb dX7_init_5 (by decide) ?_
  refine bw_newa (atype := .long) (cA := am_cA g 1) hx hb (hts _ wd_353) hK 1 rfl hB hS (60, .inr (.inl (fun _ => 0))) (fun _ => rfl) (by decide) (by decide) (by decide) (Nat.le_of_ble_eq_true rfl) (Nat.le_of_ble_eq_true rfl) dX7_init_7 (fun H hB hS => ?_)
  have hB : bw (am_D g) h0 [.inr (7, [.null, .int 0, .int 0, .int 0]), .inl (am_cA g 1, 60, .inr (.inl (fun _ => 0)))] H := hB
  refine bw_putF (T := TX7) (N := 4) (ty := (.array .long)) 7 (hx := hx) (hb := hb) hts hown hin hK rfl hB hS 0 (by decide) wd_630 rfl rfl (by decide +kernel) rfl rfl (Nat.le_of_ble_eq_true rfl) dX7_init_9 (fun H locs hB hS => ?_)
  have hB : bw (am_D g) h0 [.inr (7, [.ref (h0 + 1), .int 0, .int 0, .int 0]), .inl (am_cA g 1, 60, .inr (.inl (fun _ => 0)))] H := hB
  exact ck_ret (mc := 1) (ms := 60) hx hb hr hlocks hB hS dX7_init_12
def EX4 (g : am_G) (h0 : Nat) : List va_E := [.inr (4, [.ref (h0 + 1), .int 0, .int 0, .int 0]), .inl (am_cA g 0, 360, .inl (fun _ => 0))]
set_option maxHeartbeats 4000000 in
set_option maxRecDepth 100000 in
theorem ck_X4 (g : am_G) : ck_Met g 4 yX4_init cX4_init 1 1 1 360 [.null, .int 0, .int 0, .int 0] (EX4 g) := by
  refine ck_of (by decide +kernel) rfl (by decide) ?_
  intro p e s m below meth c ls h0 hx hb hml hown hts hin hlocks hr hK hNb hB hS hl
  refine ck_obj hx hb hml hown hts hl wd_474 wd_244 wd_245 (by decide) dX4_init_0 dX4_init_1 ?_
  refine lv_aload_n hx hb dX4_init_4 rfl (lv_at hl 0 rfl) ?_
  refine lv_sipush (v := 360) hx hb dX4_init_5 (by decide) ?_
  refine bw_newa (atype := .int) (cA := am_cA g 0) hx hb (hts _ wd_389) hK 0 rfl hB hS (360, .inl (fun _ => 0)) (fun _ => rfl) (by decide) (by decide) (by decide) (Nat.le_of_ble_eq_true rfl) (Nat.le_of_ble_eq_true rfl) dX4_init_8 (fun H hB hS => ?_)
  have hB : bw (am_D g) h0 [.inr (4, [.null, .int 0, .int 0, .int 0]), .inl (am_cA g 0, 360, .inl (fun _ => 0))] H := hB
  refine bw_putF (T := TX4) (N := 4) (ty := (.array .int)) 4 (hx := hx) (hb := hb) hts hown hin hK rfl hB hS 0 (by decide) wd_475 rfl rfl (by decide +kernel) rfl rfl (Nat.le_of_ble_eq_true rfl) dX4_init_10 (fun H locs hB hS => ?_)
  have hB : bw (am_D g) h0 [.inr (4, [.ref (h0 + 1), .int 0, .int 0, .int 0]), .inl (am_cA g 0, 360, .inl (fun _ => 0))] H := hB
  exact ck_ret (mc := 1) (ms := 360) hx hb hr hlocks hB hS dX4_init_13
def EX5 (g : am_G) (h0 : Nat) : List va_E := [.inr (5, [.ref (h0 + 1), .int 0]), .inl (am_cA g 0, 3, .inl (fun _ => 0))]
set_option maxHeartbeats 4000000 in
set_option maxRecDepth 100000 in
theorem ck_X5 (g : am_G) : ck_Met g 5 yX5_init cX5_init 1 1 1 3 [.null, .int 0] (EX5 g) := by
  refine ck_of (by decide +kernel) rfl (by decide) ?_
  intro p e s m below meth c ls h0 hx hb hml hown hts hin hlocks hr hK hNb hB hS hl
  refine ck_obj hx hb hml hown hts hl wd_381 wd_244 wd_245 (by decide) dX5_init_0 dX5_init_1 ?_
  refine lv_aload_n hx hb dX5_init_4 rfl (lv_at hl 0 rfl) ?_
  refine lv_iconst (v := 3) hx hb dX5_init_5 (by decide) ?_
  refine bw_newa (atype := .int) (cA := am_cA g 0) hx hb (hts _ wd_389) hK 0 rfl hB hS (3, .inl (fun _ => 0)) (fun _ => rfl) (by decide) (by decide) (by decide) (Nat.le_of_ble_eq_true rfl) (Nat.le_of_ble_eq_true rfl) dX5_init_6 (fun H hB hS => ?_)
  have hB : bw (am_D g) h0 [.inr (5, [.null, .int 0]), .inl (am_cA g 0, 3, .inl (fun _ => 0))] H := hB
  refine bw_putF (T := TX5) (N := 2) (ty := (.array .int)) 5 (hx := hx) (hb := hb) hts hown hin hK rfl hB hS 0 (by decide) wd_382 rfl rfl (by decide +kernel) rfl rfl (Nat.le_of_ble_eq_true rfl) dX5_init_8 (fun H locs hB hS => ?_)
  have hB : bw (am_D g) h0 [.inr (5, [.ref (h0 + 1), .int 0]), .inl (am_cA g 0, 3, .inl (fun _ => 0))] H := hB
  exact ck_ret (mc := 1) (ms := 3) hx hb hr hlocks hB hS dX5_init_11
def EX9 (g : am_G) (h0 : Nat) : List va_E := [.inr (9, [.int 0, .int 0, .int 0, .int 0, .int 0])]
set_option maxHeartbeats 4000000 in
set_option maxRecDepth 100000 in
theorem ck_X9 (g : am_G) : ck_Met g 9 yX9_init cX9_init 1 1 0 0 [.int 0, .int 0, .int 0, .int 0, .int 0] (EX9 g) := by
  refine ck_of (by decide +kernel) rfl (by decide) ?_
  intro p e s m below meth c ls h0 hx hb hml hown hts hin hlocks hr hK hNb hB hS hl
  refine ck_obj hx hb hml hown hts hl wd_359 wd_244 wd_245 (by decide) dX9_init_0 dX9_init_1 ?_
  exact ck_ret (mc := 0) (ms := 0) hx hb hr hlocks hB hS dX9_init_4
def EX0 (g : am_G) (h0 : Nat) : List va_E := [.inr (0, [.ref (h0 + 1), .ref (h0 + 2), .int 0, .int 0, .int 0, .int 0, .int 0, .int 0, .int 0]), .inl (am_cA g 0, 60, .inl (fun _ => 0)), .inl (am_cA g 0, 49, .inl (fun _ => 0))]
set_option maxHeartbeats 4000000 in
set_option maxRecDepth 100000 in
theorem ck_X0 (g : am_G) : ck_Met g 0 yX0_init cX0_init 1 1 2 109 [.null, .null, .int 0, .int 0, .int 0, .int 0, .int 0, .int 0, .int 0] (EX0 g) := by
  refine ck_of (by decide +kernel) rfl (by decide) ?_
  intro p e s m below meth c ls h0 hx hb hml hown hts hin hlocks hr hK hNb hB hS hl
  refine ck_obj hx hb hml hown hts hl wd_549 wd_244 wd_245 (by decide) dX0_init_0 dX0_init_1 ?_
  refine lv_aload_n hx hb dX0_init_4 rfl (lv_at hl 0 rfl) ?_
  refine lv_bipush (v := 60) hx hb dX0_init_5 (by decide) ?_
  refine bw_newa (atype := .int) (cA := am_cA g 0) hx hb (hts _ wd_389) hK 0 rfl hB hS (60, .inl (fun _ => 0)) (fun _ => rfl) (by decide) (by decide) (by decide) (Nat.le_of_ble_eq_true rfl) (Nat.le_of_ble_eq_true rfl) dX0_init_7 (fun H hB hS => ?_)
  have hB : bw (am_D g) h0 [.inr (0, [.null, .null, .int 0, .int 0, .int 0, .int 0, .int 0, .int 0, .int 0]), .inl (am_cA g 0, 60, .inl (fun _ => 0))] H := hB
  refine bw_putF (T := TX0) (N := 9) (ty := (.array .int)) 0 (hx := hx) (hb := hb) hts hown hin hK rfl hB hS 0 (by decide) wd_550 rfl rfl (by decide +kernel) rfl rfl (Nat.le_of_ble_eq_true rfl) dX0_init_9 (fun H locs hB hS => ?_)
  have hB : bw (am_D g) h0 [.inr (0, [.ref (h0 + 1), .null, .int 0, .int 0, .int 0, .int 0, .int 0, .int 0, .int 0]), .inl (am_cA g 0, 60, .inl (fun _ => 0))] H := hB
  refine lv_aload_n hx hb dX0_init_12 rfl (lv_at hl 0 rfl) ?_
  refine lv_bipush (v := 49) hx hb dX0_init_13 (by decide) ?_
  refine bw_newa (atype := .int) (cA := am_cA g 0) hx hb (hts _ wd_389) hK 0 rfl hB hS (49, .inl (fun _ => 0)) (fun _ => rfl) (by decide) (by decide) (by decide) (Nat.le_of_ble_eq_true rfl) (Nat.le_of_ble_eq_true rfl) dX0_init_15 (fun H hB hS => ?_)
  have hB : bw (am_D g) h0 [.inr (0, [.ref (h0 + 1), .null, .int 0, .int 0, .int 0, .int 0, .int 0, .int 0, .int 0]), .inl (am_cA g 0, 60, .inl (fun _ => 0)), .inl (am_cA g 0, 49, .inl (fun _ => 0))] H := hB
  refine bw_putF (T := TX0) (N := 9) (ty := (.array .int)) 0 (hx := hx) (hb := hb) hts hown hin hK rfl hB hS 1 (by decide) wd_551 rfl rfl (by decide +kernel) rfl rfl (Nat.le_of_ble_eq_true rfl) dX0_init_17 (fun H locs hB hS => ?_)
  have hB : bw (am_D g) h0 [.inr (0, [.ref (h0 + 1), .ref (h0 + 2), .int 0, .int 0, .int 0, .int 0, .int 0, .int 0, .int 0]), .inl (am_cA g 0, 60, .inl (fun _ => 0)), .inl (am_cA g 0, 49, .inl (fun _ => 0))] H := hB
  exact ck_ret (mc := 2) (ms := 109) hx hb hr hlocks hB hS dX0_init_20
def EX2 (g : am_G) (h0 : Nat) : List va_E := [.inr (2, [.ref (h0 + 1), .ref (h0 + 2), .int (-1), .int (-1)]), .inl (am_cA g 0, 196, .inl (fun _ => 0)), .inl (am_cA g 0, 4, .inl (fun _ => 0))]
set_option maxHeartbeats 4000000 in
set_option maxRecDepth 100000 in
theorem ck_X2 (g : am_G) : ck_Met g 2 yX2_init cX2_init 1 1 2 200 [.null, .null, .int 0, .int 0] (EX2 g) := by
  refine ck_of (by decide +kernel) rfl (by decide) ?_
  intro p e s m below meth c ls h0 hx hb hml hown hts hin hlocks hr hK hNb hB hS hl
  refine ck_obj hx hb hml hown hts hl wd_589 wd_244 wd_245 (by decide) dX2_init_0 dX2_init_1 ?_
  refine lv_aload_n hx hb dX2_init_4 rfl (lv_at hl 0 rfl) ?_
  refine lv_sipush (v := 196) hx hb dX2_init_5 (by decide) ?_
  refine bw_newa (atype := .int) (cA := am_cA g 0) hx hb (hts _ wd_389) hK 0 rfl hB hS (196, .inl (fun _ => 0)) (fun _ => rfl) (by decide) (by decide) (by decide) (Nat.le_of_ble_eq_true rfl) (Nat.le_of_ble_eq_true rfl) dX2_init_8 (fun H hB hS => ?_)
  have hB : bw (am_D g) h0 [.inr (2, [.null, .null, .int 0, .int 0]), .inl (am_cA g 0, 196, .inl (fun _ => 0))] H := hB
  refine bw_putF (T := TX2) (N := 4) (ty := (.array .int)) 2 (hx := hx) (hb := hb) hts hown hin hK rfl hB hS 0 (by decide) wd_590 rfl rfl (by decide +kernel) rfl rfl (Nat.le_of_ble_eq_true rfl) dX2_init_10 (fun H locs hB hS => ?_)
  have hB : bw (am_D g) h0 [.inr (2, [.ref (h0 + 1), .null, .int 0, .int 0]), .inl (am_cA g 0, 196, .inl (fun _ => 0))] H := hB
  refine lv_aload_n hx hb dX2_init_13 rfl (lv_at hl 0 rfl) ?_
  refine lv_iconst (v := 4) hx hb dX2_init_14 (by decide) ?_
  refine bw_newa (atype := .int) (cA := am_cA g 0) hx hb (hts _ wd_389) hK 0 rfl hB hS (4, .inl (fun _ => 0)) (fun _ => rfl) (by decide) (by decide) (by decide) (Nat.le_of_ble_eq_true rfl) (Nat.le_of_ble_eq_true rfl) dX2_init_15 (fun H hB hS => ?_)
  have hB : bw (am_D g) h0 [.inr (2, [.ref (h0 + 1), .null, .int 0, .int 0]), .inl (am_cA g 0, 196, .inl (fun _ => 0)), .inl (am_cA g 0, 4, .inl (fun _ => 0))] H := hB
  refine bw_putF (T := TX2) (N := 4) (ty := (.array .int)) 2 (hx := hx) (hb := hb) hts hown hin hK rfl hB hS 1 (by decide) wd_591 rfl rfl (by decide +kernel) rfl rfl (Nat.le_of_ble_eq_true rfl) dX2_init_17 (fun H locs hB hS => ?_)
  have hB : bw (am_D g) h0 [.inr (2, [.ref (h0 + 1), .ref (h0 + 2), .int 0, .int 0]), .inl (am_cA g 0, 196, .inl (fun _ => 0)), .inl (am_cA g 0, 4, .inl (fun _ => 0))] H := hB
  refine lv_aload_n hx hb dX2_init_20 rfl (lv_at hl 0 rfl) ?_
  refine lv_iconst (v := -1) hx hb dX2_init_21 (by decide) ?_
  refine bw_put (T := TX2) (N := 4) (ty := .int) 2 (hx := hx) (hb := hb) hts hown hK rfl hB hS 2 (by decide) wd_592 rfl (by decide +kernel) rfl rfl (Nat.le_of_ble_eq_true rfl) dX2_init_22 (fun H locs hB hS => ?_)
  have hB : bw (am_D g) h0 [.inr (2, [.ref (h0 + 1), .ref (h0 + 2), .int (-1), .int 0]), .inl (am_cA g 0, 196, .inl (fun _ => 0)), .inl (am_cA g 0, 4, .inl (fun _ => 0))] H := hB
  refine lv_aload_n hx hb dX2_init_25 rfl (lv_at hl 0 rfl) ?_
  refine lv_iconst (v := -1) hx hb dX2_init_26 (by decide) ?_
  refine bw_put (T := TX2) (N := 4) (ty := .int) 2 (hx := hx) (hb := hb) hts hown hK rfl hB hS 3 (by decide) wd_594 rfl (by decide +kernel) rfl rfl (Nat.le_of_ble_eq_true rfl) dX2_init_27 (fun H locs hB hS => ?_)
  have hB : bw (am_D g) h0 [.inr (2, [.ref (h0 + 1), .ref (h0 + 2), .int (-1), .int (-1)]), .inl (am_cA g 0, 196, .inl (fun _ => 0)), .inl (am_cA g 0, 4, .inl (fun _ => 0))] H := hB
  exact ck_ret (mc := 2) (ms := 200) hx hb hr hlocks hB hS dX2_init_30
def EX6 (g : am_G) (h0 : Nat) : List va_E := [.inr (6, [.ref (h0 + 1), .ref (h0 + 2), .ref (h0 + 3), .int 0, .int 0, .ref (h0 + 4), .int 4, .int 0, .int 0, .int 0, .int 0, .int 0, .ref (h0 + 5), .ref (h0 + 6)]), .inl (am_cA g 0, 168, .inl (fun _ => 0)), .inl (am_cA g 0, 7, .inl (fun _ => 0)), .inl (am_cA g 0, 24, .inl (fun _ => 0)), .inl (am_cA g 0, 4, .inl (fun _ => 0)), .inl (am_cA g 0, 7, .inl (fun _ => 0)), .inl (am_cA g 0, 4, .inl (fun _ => 0))]
set_option maxHeartbeats 4000000 in
set_option maxRecDepth 100000 in
theorem ck_X6 (g : am_G) : ck_Met g 6 yX6_init cX6_init 1 1 6 214 [.null, .null, .null, .int 0, .int 0, .null, .int 0, .int 0, .int 0, .int 0, .int 0, .int 0, .null, .null] (EX6 g) := by
  refine ck_of (by decide +kernel) rfl (by decide) ?_
  intro p e s m below meth c ls h0 hx hb hml hown hts hin hlocks hr hK hNb hB hS hl
  refine ck_obj hx hb hml hown hts hl wd_401 wd_244 wd_245 (by decide) dX6_init_0 dX6_init_1 ?_
  refine lv_aload_n hx hb dX6_init_4 rfl (lv_at hl 0 rfl) ?_
  refine lv_sipush (v := 168) hx hb dX6_init_5 (by decide) ?_
  refine bw_newa (atype := .int) (cA := am_cA g 0) hx hb (hts _ wd_389) hK 0 rfl hB hS (168, .inl (fun _ => 0)) (fun _ => rfl) (by decide) (by decide) (by decide) (Nat.le_of_ble_eq_true rfl) (Nat.le_of_ble_eq_true rfl) dX6_init_8 (fun H hB hS => ?_)
  have hB : bw (am_D g) h0 [.inr (6, [.null, .null, .null, .int 0, .int 0, .null, .int 0, .int 0, .int 0, .int 0, .int 0, .int 0, .null, .null]), .inl (am_cA g 0, 168, .inl (fun _ => 0))] H := hB
  refine bw_putF (T := TX6) (N := 14) (ty := (.array .int)) 6 (hx := hx) (hb := hb) hts hown hin hK rfl hB hS 0 (by decide) wd_402 rfl rfl (by decide +kernel) rfl rfl (Nat.le_of_ble_eq_true rfl) dX6_init_10 (fun H locs hB hS => ?_)
  have hB : bw (am_D g) h0 [.inr (6, [.ref (h0 + 1), .null, .null, .int 0, .int 0, .null, .int 0, .int 0, .int 0, .int 0, .int 0, .int 0, .null, .null]), .inl (am_cA g 0, 168, .inl (fun _ => 0))] H := hB
  refine lv_aload_n hx hb dX6_init_13 rfl (lv_at hl 0 rfl) ?_
  refine lv_bipush (v := 7) hx hb dX6_init_14 (by decide) ?_
  refine bw_newa (atype := .int) (cA := am_cA g 0) hx hb (hts _ wd_389) hK 0 rfl hB hS (7, .inl (fun _ => 0)) (fun _ => rfl) (by decide) (by decide) (by decide) (Nat.le_of_ble_eq_true rfl) (Nat.le_of_ble_eq_true rfl) dX6_init_16 (fun H hB hS => ?_)
  have hB : bw (am_D g) h0 [.inr (6, [.ref (h0 + 1), .null, .null, .int 0, .int 0, .null, .int 0, .int 0, .int 0, .int 0, .int 0, .int 0, .null, .null]), .inl (am_cA g 0, 168, .inl (fun _ => 0)), .inl (am_cA g 0, 7, .inl (fun _ => 0))] H := hB
  refine bw_putF (T := TX6) (N := 14) (ty := (.array .int)) 6 (hx := hx) (hb := hb) hts hown hin hK rfl hB hS 1 (by decide) wd_403 rfl rfl (by decide +kernel) rfl rfl (Nat.le_of_ble_eq_true rfl) dX6_init_18 (fun H locs hB hS => ?_)
  have hB : bw (am_D g) h0 [.inr (6, [.ref (h0 + 1), .ref (h0 + 2), .null, .int 0, .int 0, .null, .int 0, .int 0, .int 0, .int 0, .int 0, .int 0, .null, .null]), .inl (am_cA g 0, 168, .inl (fun _ => 0)), .inl (am_cA g 0, 7, .inl (fun _ => 0))] H := hB
  refine lv_aload_n hx hb dX6_init_21 rfl (lv_at hl 0 rfl) ?_
  refine lv_bipush (v := 24) hx hb dX6_init_22 (by decide) ?_
  refine bw_newa (atype := .int) (cA := am_cA g 0) hx hb (hts _ wd_389) hK 0 rfl hB hS (24, .inl (fun _ => 0)) (fun _ => rfl) (by decide) (by decide) (by decide) (Nat.le_of_ble_eq_true rfl) (Nat.le_of_ble_eq_true rfl) dX6_init_24 (fun H hB hS => ?_)
  have hB : bw (am_D g) h0 [.inr (6, [.ref (h0 + 1), .ref (h0 + 2), .null, .int 0, .int 0, .null, .int 0, .int 0, .int 0, .int 0, .int 0, .int 0, .null, .null]), .inl (am_cA g 0, 168, .inl (fun _ => 0)), .inl (am_cA g 0, 7, .inl (fun _ => 0)), .inl (am_cA g 0, 24, .inl (fun _ => 0))] H := hB
  refine bw_putF (T := TX6) (N := 14) (ty := (.array .int)) 6 (hx := hx) (hb := hb) hts hown hin hK rfl hB hS 2 (by decide) wd_407 rfl rfl (by decide +kernel) rfl rfl (Nat.le_of_ble_eq_true rfl) dX6_init_26 (fun H locs hB hS => ?_)
  have hB : bw (am_D g) h0 [.inr (6, [.ref (h0 + 1), .ref (h0 + 2), .ref (h0 + 3), .int 0, .int 0, .null, .int 0, .int 0, .int 0, .int 0, .int 0, .int 0, .null, .null]), .inl (am_cA g 0, 168, .inl (fun _ => 0)), .inl (am_cA g 0, 7, .inl (fun _ => 0)), .inl (am_cA g 0, 24, .inl (fun _ => 0))] H := hB
  refine lv_aload_n hx hb dX6_init_29 rfl (lv_at hl 0 rfl) ?_
  refine lv_iconst (v := 4) hx hb dX6_init_30 (by decide) ?_
  refine bw_newa (atype := .int) (cA := am_cA g 0) hx hb (hts _ wd_389) hK 0 rfl hB hS (4, .inl (fun _ => 0)) (fun _ => rfl) (by decide) (by decide) (by decide) (Nat.le_of_ble_eq_true rfl) (Nat.le_of_ble_eq_true rfl) dX6_init_31 (fun H hB hS => ?_)
  have hB : bw (am_D g) h0 [.inr (6, [.ref (h0 + 1), .ref (h0 + 2), .ref (h0 + 3), .int 0, .int 0, .null, .int 0, .int 0, .int 0, .int 0, .int 0, .int 0, .null, .null]), .inl (am_cA g 0, 168, .inl (fun _ => 0)), .inl (am_cA g 0, 7, .inl (fun _ => 0)), .inl (am_cA g 0, 24, .inl (fun _ => 0)), .inl (am_cA g 0, 4, .inl (fun _ => 0))] H := hB
  refine bw_putF (T := TX6) (N := 14) (ty := (.array .int)) 6 (hx := hx) (hb := hb) hts hown hin hK rfl hB hS 5 (by decide) wd_410 rfl rfl (by decide +kernel) rfl rfl (Nat.le_of_ble_eq_true rfl) dX6_init_33 (fun H locs hB hS => ?_)
  have hB : bw (am_D g) h0 [.inr (6, [.ref (h0 + 1), .ref (h0 + 2), .ref (h0 + 3), .int 0, .int 0, .ref (h0 + 4), .int 0, .int 0, .int 0, .int 0, .int 0, .int 0, .null, .null]), .inl (am_cA g 0, 168, .inl (fun _ => 0)), .inl (am_cA g 0, 7, .inl (fun _ => 0)), .inl (am_cA g 0, 24, .inl (fun _ => 0)), .inl (am_cA g 0, 4, .inl (fun _ => 0))] H := hB
  refine lv_aload_n hx hb dX6_init_36 rfl (lv_at hl 0 rfl) ?_
  refine lv_iconst (v := 4) hx hb dX6_init_37 (by decide) ?_
  refine bw_put (T := TX6) (N := 14) (ty := .int) 6 (hx := hx) (hb := hb) hts hown hK rfl hB hS 6 (by decide) wd_414 rfl (by decide +kernel) rfl rfl (Nat.le_of_ble_eq_true rfl) dX6_init_38 (fun H locs hB hS => ?_)
  have hB : bw (am_D g) h0 [.inr (6, [.ref (h0 + 1), .ref (h0 + 2), .ref (h0 + 3), .int 0, .int 0, .ref (h0 + 4), .int 4, .int 0, .int 0, .int 0, .int 0, .int 0, .null, .null]), .inl (am_cA g 0, 168, .inl (fun _ => 0)), .inl (am_cA g 0, 7, .inl (fun _ => 0)), .inl (am_cA g 0, 24, .inl (fun _ => 0)), .inl (am_cA g 0, 4, .inl (fun _ => 0))] H := hB
  refine lv_aload_n hx hb dX6_init_41 rfl (lv_at hl 0 rfl) ?_
  refine lv_bipush (v := 7) hx hb dX6_init_42 (by decide) ?_
  refine bw_newa (atype := .int) (cA := am_cA g 0) hx hb (hts _ wd_389) hK 0 rfl hB hS (7, .inl (fun _ => 0)) (fun _ => rfl) (by decide) (by decide) (by decide) (Nat.le_of_ble_eq_true rfl) (Nat.le_of_ble_eq_true rfl) dX6_init_44 (fun H hB hS => ?_)
  have hB : bw (am_D g) h0 [.inr (6, [.ref (h0 + 1), .ref (h0 + 2), .ref (h0 + 3), .int 0, .int 0, .ref (h0 + 4), .int 4, .int 0, .int 0, .int 0, .int 0, .int 0, .null, .null]), .inl (am_cA g 0, 168, .inl (fun _ => 0)), .inl (am_cA g 0, 7, .inl (fun _ => 0)), .inl (am_cA g 0, 24, .inl (fun _ => 0)), .inl (am_cA g 0, 4, .inl (fun _ => 0)), .inl (am_cA g 0, 7, .inl (fun _ => 0))] H := hB
  refine bw_putF (T := TX6) (N := 14) (ty := (.array .int)) 6 (hx := hx) (hb := hb) hts hown hin hK rfl hB hS 12 (by decide) wd_437 rfl rfl (by decide +kernel) rfl rfl (Nat.le_of_ble_eq_true rfl) dX6_init_46 (fun H locs hB hS => ?_)
  have hB : bw (am_D g) h0 [.inr (6, [.ref (h0 + 1), .ref (h0 + 2), .ref (h0 + 3), .int 0, .int 0, .ref (h0 + 4), .int 4, .int 0, .int 0, .int 0, .int 0, .int 0, .ref (h0 + 5), .null]), .inl (am_cA g 0, 168, .inl (fun _ => 0)), .inl (am_cA g 0, 7, .inl (fun _ => 0)), .inl (am_cA g 0, 24, .inl (fun _ => 0)), .inl (am_cA g 0, 4, .inl (fun _ => 0)), .inl (am_cA g 0, 7, .inl (fun _ => 0))] H := hB
  refine lv_aload_n hx hb dX6_init_49 rfl (lv_at hl 0 rfl) ?_
  refine lv_iconst (v := 4) hx hb dX6_init_50 (by decide) ?_
  refine bw_newa (atype := .int) (cA := am_cA g 0) hx hb (hts _ wd_389) hK 0 rfl hB hS (4, .inl (fun _ => 0)) (fun _ => rfl) (by decide) (by decide) (by decide) (Nat.le_of_ble_eq_true rfl) (Nat.le_of_ble_eq_true rfl) dX6_init_51 (fun H hB hS => ?_)
  have hB : bw (am_D g) h0 [.inr (6, [.ref (h0 + 1), .ref (h0 + 2), .ref (h0 + 3), .int 0, .int 0, .ref (h0 + 4), .int 4, .int 0, .int 0, .int 0, .int 0, .int 0, .ref (h0 + 5), .null]), .inl (am_cA g 0, 168, .inl (fun _ => 0)), .inl (am_cA g 0, 7, .inl (fun _ => 0)), .inl (am_cA g 0, 24, .inl (fun _ => 0)), .inl (am_cA g 0, 4, .inl (fun _ => 0)), .inl (am_cA g 0, 7, .inl (fun _ => 0)), .inl (am_cA g 0, 4, .inl (fun _ => 0))] H := hB
  refine bw_putF (T := TX6) (N := 14) (ty := (.array .int)) 6 (hx := hx) (hb := hb) hts hown hin hK rfl hB hS 13 (by decide) wd_438 rfl rfl (by decide +kernel) rfl rfl (Nat.le_of_ble_eq_true rfl) dX6_init_53 (fun H locs hB hS => ?_)
  have hB : bw (am_D g) h0 [.inr (6, [.ref (h0 + 1), .ref (h0 + 2), .ref (h0 + 3), .int 0, .int 0, .ref (h0 + 4), .int 4, .int 0, .int 0, .int 0, .int 0, .int 0, .ref (h0 + 5), .ref (h0 + 6)]), .inl (am_cA g 0, 168, .inl (fun _ => 0)), .inl (am_cA g 0, 7, .inl (fun _ => 0)), .inl (am_cA g 0, 24, .inl (fun _ => 0)), .inl (am_cA g 0, 4, .inl (fun _ => 0)), .inl (am_cA g 0, 7, .inl (fun _ => 0)), .inl (am_cA g 0, 4, .inl (fun _ => 0))] H := hB
  exact ck_ret (mc := 6) (ms := 214) hx hb hr hlocks hB hS dX6_init_56
def EX1 (g : am_G) (h0 : Nat) : List va_E := [.inr (1, [.ref (h0 + 1), .ref (h0 + 8), .ref (h0 + 9)]), .inr (6, [.ref (h0 + 2), .ref (h0 + 3), .ref (h0 + 4), .int 0, .int 0, .ref (h0 + 5), .int 4, .int 0, .int 0, .int 0, .int 0, .int 0, .ref (h0 + 6), .ref (h0 + 7)]), .inl (am_cA g 0, 168, .inl (fun _ => 0)), .inl (am_cA g 0, 7, .inl (fun _ => 0)), .inl (am_cA g 0, 24, .inl (fun _ => 0)), .inl (am_cA g 0, 4, .inl (fun _ => 0)), .inl (am_cA g 0, 7, .inl (fun _ => 0)), .inl (am_cA g 0, 4, .inl (fun _ => 0)), .inl (am_cA g 0, 24, .inl (fun _ => 0)), .inl (am_cA g 0, 4, .inl (fun _ => 0))]
set_option maxHeartbeats 4000000 in
set_option maxRecDepth 100000 in
theorem ck_X1 (g : am_G) : ck_Met g 1 yX1_init cX1_init 1 2 9 256 [.null, .null, .null] (EX1 g) := by
  refine ck_of (by decide +kernel) rfl (by decide) ?_
  intro p e s m below meth c ls h0 hx hb hml hown hts hin hlocks hr hK hNb hB hS hl
  refine ck_obj hx hb hml hown hts hl wd_610 wd_244 wd_245 (by decide) dX1_init_0 dX1_init_1 ?_
  refine lv_aload_n hx hb dX1_init_4 rfl (lv_at hl 0 rfl) ?_
  refine bw_new (C := RX6) (T := TX6) (N := 14) 6 (hx := hx) (hb := hb) hts tyX6 tyX6_ok hown wd_611 wd_397 wd_228 hK rfl hB hS [.null, .null, .null, .int 0, .int 0, .null, .int 0, .int 0, .int 0, .int 0, .int 0, .int 0, .null, .null] (by decide) (Nat.le_of_ble_eq_true rfl) (Nat.le_of_ble_eq_true rfl) dX1_init_5 (fun H hB hS => ?_)
  refine lv_dup hx hb dX1_init_8 rfl ?_
  refine bw_call hx hb hml hown hts hK hNb (ck_X6 g) lk_RX1_11 yy_X6_init rfl wd_399 (Nat.le_of_ble_eq_true rfl) (Nat.le_of_ble_eq_true rfl) hB hS hl.1 (Nat.le_of_ble_eq_true rfl) (Nat.le_of_ble_eq_true rfl) (Nat.le_of_ble_eq_true rfl) dX1_init_9 (fun H locs hB hS => ?_)
  have hB : bw (am_D g) h0 [.inr (1, [.null, .null, .null]), .inr (6, [.ref (h0 + 2), .ref (h0 + 3), .ref (h0 + 4), .int 0, .int 0, .ref (h0 + 5), .int 4, .int 0, .int 0, .int 0, .int 0, .int 0, .ref (h0 + 6), .ref (h0 + 7)]), .inl (am_cA g 0, 168, .inl (fun _ => 0)), .inl (am_cA g 0, 7, .inl (fun _ => 0)), .inl (am_cA g 0, 24, .inl (fun _ => 0)), .inl (am_cA g 0, 4, .inl (fun _ => 0)), .inl (am_cA g 0, 7, .inl (fun _ => 0)), .inl (am_cA g 0, 4, .inl (fun _ => 0))] H := hB
  refine bw_putF (T := TX1) (N := 3) (ty := (.object "WaterPatience$Table")) 1 (hx := hx) (hb := hb) hts hown hin hK rfl hB hS 0 (by decide) wd_613 rfl rfl (by decide +kernel) rfl rfl (Nat.le_of_ble_eq_true rfl) dX1_init_12 (fun H locs hB hS => ?_)
  have hB : bw (am_D g) h0 [.inr (1, [.ref (h0 + 1), .null, .null]), .inr (6, [.ref (h0 + 2), .ref (h0 + 3), .ref (h0 + 4), .int 0, .int 0, .ref (h0 + 5), .int 4, .int 0, .int 0, .int 0, .int 0, .int 0, .ref (h0 + 6), .ref (h0 + 7)]), .inl (am_cA g 0, 168, .inl (fun _ => 0)), .inl (am_cA g 0, 7, .inl (fun _ => 0)), .inl (am_cA g 0, 24, .inl (fun _ => 0)), .inl (am_cA g 0, 4, .inl (fun _ => 0)), .inl (am_cA g 0, 7, .inl (fun _ => 0)), .inl (am_cA g 0, 4, .inl (fun _ => 0))] H := hB
  refine lv_aload_n hx hb dX1_init_15 rfl (lv_at hl 0 rfl) ?_
  refine lv_bipush (v := 24) hx hb dX1_init_16 (by decide) ?_
  refine bw_newa (atype := .int) (cA := am_cA g 0) hx hb (hts _ wd_389) hK 0 rfl hB hS (24, .inl (fun _ => 0)) (fun _ => rfl) (by decide) (by decide) (by decide) (Nat.le_of_ble_eq_true rfl) (Nat.le_of_ble_eq_true rfl) dX1_init_18 (fun H hB hS => ?_)
  have hB : bw (am_D g) h0 [.inr (1, [.ref (h0 + 1), .null, .null]), .inr (6, [.ref (h0 + 2), .ref (h0 + 3), .ref (h0 + 4), .int 0, .int 0, .ref (h0 + 5), .int 4, .int 0, .int 0, .int 0, .int 0, .int 0, .ref (h0 + 6), .ref (h0 + 7)]), .inl (am_cA g 0, 168, .inl (fun _ => 0)), .inl (am_cA g 0, 7, .inl (fun _ => 0)), .inl (am_cA g 0, 24, .inl (fun _ => 0)), .inl (am_cA g 0, 4, .inl (fun _ => 0)), .inl (am_cA g 0, 7, .inl (fun _ => 0)), .inl (am_cA g 0, 4, .inl (fun _ => 0)), .inl (am_cA g 0, 24, .inl (fun _ => 0))] H := hB
  refine bw_putF (T := TX1) (N := 3) (ty := (.array .int)) 1 (hx := hx) (hb := hb) hts hown hin hK rfl hB hS 1 (by decide) wd_615 rfl rfl (by decide +kernel) rfl rfl (Nat.le_of_ble_eq_true rfl) dX1_init_20 (fun H locs hB hS => ?_)
  have hB : bw (am_D g) h0 [.inr (1, [.ref (h0 + 1), .ref (h0 + 8), .null]), .inr (6, [.ref (h0 + 2), .ref (h0 + 3), .ref (h0 + 4), .int 0, .int 0, .ref (h0 + 5), .int 4, .int 0, .int 0, .int 0, .int 0, .int 0, .ref (h0 + 6), .ref (h0 + 7)]), .inl (am_cA g 0, 168, .inl (fun _ => 0)), .inl (am_cA g 0, 7, .inl (fun _ => 0)), .inl (am_cA g 0, 24, .inl (fun _ => 0)), .inl (am_cA g 0, 4, .inl (fun _ => 0)), .inl (am_cA g 0, 7, .inl (fun _ => 0)), .inl (am_cA g 0, 4, .inl (fun _ => 0)), .inl (am_cA g 0, 24, .inl (fun _ => 0))] H := hB
  refine lv_aload_n hx hb dX1_init_23 rfl (lv_at hl 0 rfl) ?_
  refine lv_iconst (v := 4) hx hb dX1_init_24 (by decide) ?_
  refine bw_newa (atype := .int) (cA := am_cA g 0) hx hb (hts _ wd_389) hK 0 rfl hB hS (4, .inl (fun _ => 0)) (fun _ => rfl) (by decide) (by decide) (by decide) (Nat.le_of_ble_eq_true rfl) (Nat.le_of_ble_eq_true rfl) dX1_init_25 (fun H hB hS => ?_)
  have hB : bw (am_D g) h0 [.inr (1, [.ref (h0 + 1), .ref (h0 + 8), .null]), .inr (6, [.ref (h0 + 2), .ref (h0 + 3), .ref (h0 + 4), .int 0, .int 0, .ref (h0 + 5), .int 4, .int 0, .int 0, .int 0, .int 0, .int 0, .ref (h0 + 6), .ref (h0 + 7)]), .inl (am_cA g 0, 168, .inl (fun _ => 0)), .inl (am_cA g 0, 7, .inl (fun _ => 0)), .inl (am_cA g 0, 24, .inl (fun _ => 0)), .inl (am_cA g 0, 4, .inl (fun _ => 0)), .inl (am_cA g 0, 7, .inl (fun _ => 0)), .inl (am_cA g 0, 4, .inl (fun _ => 0)), .inl (am_cA g 0, 24, .inl (fun _ => 0)), .inl (am_cA g 0, 4, .inl (fun _ => 0))] H := hB
  refine bw_putF (T := TX1) (N := 3) (ty := (.array .int)) 1 (hx := hx) (hb := hb) hts hown hin hK rfl hB hS 2 (by decide) wd_616 rfl rfl (by decide +kernel) rfl rfl (Nat.le_of_ble_eq_true rfl) dX1_init_27 (fun H locs hB hS => ?_)
  have hB : bw (am_D g) h0 [.inr (1, [.ref (h0 + 1), .ref (h0 + 8), .ref (h0 + 9)]), .inr (6, [.ref (h0 + 2), .ref (h0 + 3), .ref (h0 + 4), .int 0, .int 0, .ref (h0 + 5), .int 4, .int 0, .int 0, .int 0, .int 0, .int 0, .ref (h0 + 6), .ref (h0 + 7)]), .inl (am_cA g 0, 168, .inl (fun _ => 0)), .inl (am_cA g 0, 7, .inl (fun _ => 0)), .inl (am_cA g 0, 24, .inl (fun _ => 0)), .inl (am_cA g 0, 4, .inl (fun _ => 0)), .inl (am_cA g 0, 7, .inl (fun _ => 0)), .inl (am_cA g 0, 4, .inl (fun _ => 0)), .inl (am_cA g 0, 24, .inl (fun _ => 0)), .inl (am_cA g 0, 4, .inl (fun _ => 0))] H := hB
  exact ck_ret (mc := 9) (ms := 256) hx hb hr hlocks hB hS dX1_init_30
def EX8 (g : am_G) (h0 : Nat) : List va_E := [.inr (8, [.ref (h0 + 1), .ref (h0 + 8), .ref (h0 + 10), .ref (h0 + 11), .int 0, .int 0, .ref (h0 + 12), .ref (h0 + 13), .ref (h0 + 14), .ref (h0 + 15), .ref (h0 + 16)]), .inr (6, [.ref (h0 + 2), .ref (h0 + 3), .ref (h0 + 4), .int 0, .int 0, .ref (h0 + 5), .int 4, .int 0, .int 0, .int 0, .int 0, .int 0, .ref (h0 + 6), .ref (h0 + 7)]), .inl (am_cA g 0, 168, .inl (fun _ => 0)), .inl (am_cA g 0, 7, .inl (fun _ => 0)), .inl (am_cA g 0, 24, .inl (fun _ => 0)), .inl (am_cA g 0, 4, .inl (fun _ => 0)), .inl (am_cA g 0, 7, .inl (fun _ => 0)), .inl (am_cA g 0, 4, .inl (fun _ => 0)), .inr (4, [.ref (h0 + 9), .int 0, .int 0, .int 0]), .inl (am_cA g 0, 360, .inl (fun _ => 0)), .inl (am_cA g 1, 4, .inr (.inl (fun _ => 0))), .inl (am_cA g 1, 6, .inr (.inl (fun _ => 0))), .inl (am_cA g 0, 6, .inl (fun _ => 0)), .inl (am_cA g 0, 6, .inl (fun _ => 0)), .inl (am_cA g 0, 6, .inl (fun _ => 0)), .inl (am_cA g 0, 6, .inl (fun _ => 0)), .inl (am_cA g 0, 6, .inl (fun _ => 0))]
set_option maxHeartbeats 4000000 in
set_option maxRecDepth 100000 in
theorem ck_X8 (g : am_G) : ck_Met g 8 yX8_init cX8_init 1 2 16 632 [.null, .null, .null, .null, .int 0, .int 0, .null, .null, .null, .null, .null] (EX8 g) := by
  refine ck_of (by decide +kernel) rfl (by decide) ?_
  intro p e s m below meth c ls h0 hx hb hml hown hts hin hlocks hr hK hNb hB hS hl
  refine ck_obj hx hb hml hown hts hl wd_395 wd_244 wd_245 (by decide) dX8_init_0 dX8_init_1 ?_
  refine lv_aload_n hx hb dX8_init_4 rfl (lv_at hl 0 rfl) ?_
  refine bw_new (C := RX6) (T := TX6) (N := 14) 6 (hx := hx) (hb := hb) hts tyX6 tyX6_ok hown wd_396 wd_397 wd_228 hK rfl hB hS [.null, .null, .null, .int 0, .int 0, .null, .int 0, .int 0, .int 0, .int 0, .int 0, .int 0, .null, .null] (by decide) (Nat.le_of_ble_eq_true rfl) (Nat.le_of_ble_eq_true rfl) dX8_init_5 (fun H hB hS => ?_)
  refine lv_dup hx hb dX8_init_8 rfl ?_
  refine bw_call hx hb hml hown hts hK hNb (ck_X6 g) lk_RX8_11 yy_X6_init rfl wd_399 (Nat.le_of_ble_eq_true rfl) (Nat.le_of_ble_eq_true rfl) hB hS hl.1 (Nat.le_of_ble_eq_true rfl) (Nat.le_of_ble_eq_true rfl) (Nat.le_of_ble_eq_true rfl) dX8_init_9 (fun H locs hB hS => ?_)
  have hB : bw (am_D g) h0 [.inr (8, [.null, .null, .null, .null, .int 0, .int 0, .null, .null, .null, .null, .null]), .inr (6, [.ref (h0 + 2), .ref (h0 + 3), .ref (h0 + 4), .int 0, .int 0, .ref (h0 + 5), .int 4, .int 0, .int 0, .int 0, .int 0, .int 0, .ref (h0 + 6), .ref (h0 + 7)]), .inl (am_cA g 0, 168, .inl (fun _ => 0)), .inl (am_cA g 0, 7, .inl (fun _ => 0)), .inl (am_cA g 0, 24, .inl (fun _ => 0)), .inl (am_cA g 0, 4, .inl (fun _ => 0)), .inl (am_cA g 0, 7, .inl (fun _ => 0)), .inl (am_cA g 0, 4, .inl (fun _ => 0))] H := hB
  refine bw_putF (T := TX8) (N := 11) (ty := (.object "WaterPatience$Table")) 8 (hx := hx) (hb := hb) hts hown hin hK rfl hB hS 0 (by decide) wd_493 rfl rfl (by decide +kernel) rfl rfl (Nat.le_of_ble_eq_true rfl) dX8_init_12 (fun H locs hB hS => ?_)
  have hB : bw (am_D g) h0 [.inr (8, [.ref (h0 + 1), .null, .null, .null, .int 0, .int 0, .null, .null, .null, .null, .null]), .inr (6, [.ref (h0 + 2), .ref (h0 + 3), .ref (h0 + 4), .int 0, .int 0, .ref (h0 + 5), .int 4, .int 0, .int 0, .int 0, .int 0, .int 0, .ref (h0 + 6), .ref (h0 + 7)]), .inl (am_cA g 0, 168, .inl (fun _ => 0)), .inl (am_cA g 0, 7, .inl (fun _ => 0)), .inl (am_cA g 0, 24, .inl (fun _ => 0)), .inl (am_cA g 0, 4, .inl (fun _ => 0)), .inl (am_cA g 0, 7, .inl (fun _ => 0)), .inl (am_cA g 0, 4, .inl (fun _ => 0))] H := hB
  refine lv_aload_n hx hb dX8_init_15 rfl (lv_at hl 0 rfl) ?_
  refine bw_new (C := RX4) (T := TX4) (N := 4) 4 (hx := hx) (hb := hb) hts tyX4 tyX4_ok hown wd_469 wd_470 wd_229 hK rfl hB hS [.null, .int 0, .int 0, .int 0] (by decide) (Nat.le_of_ble_eq_true rfl) (Nat.le_of_ble_eq_true rfl) dX8_init_16 (fun H hB hS => ?_)
  refine lv_dup hx hb dX8_init_19 rfl ?_
  refine bw_call hx hb hml hown hts hK hNb (ck_X4 g) lk_RX8_20 yy_X4_init rfl wd_472 (Nat.le_of_ble_eq_true rfl) (Nat.le_of_ble_eq_true rfl) hB hS hl.1 (Nat.le_of_ble_eq_true rfl) (Nat.le_of_ble_eq_true rfl) (Nat.le_of_ble_eq_true rfl) dX8_init_20 (fun H locs hB hS => ?_)
  have hB : bw (am_D g) h0 [.inr (8, [.ref (h0 + 1), .null, .null, .null, .int 0, .int 0, .null, .null, .null, .null, .null]), .inr (6, [.ref (h0 + 2), .ref (h0 + 3), .ref (h0 + 4), .int 0, .int 0, .ref (h0 + 5), .int 4, .int 0, .int 0, .int 0, .int 0, .int 0, .ref (h0 + 6), .ref (h0 + 7)]), .inl (am_cA g 0, 168, .inl (fun _ => 0)), .inl (am_cA g 0, 7, .inl (fun _ => 0)), .inl (am_cA g 0, 24, .inl (fun _ => 0)), .inl (am_cA g 0, 4, .inl (fun _ => 0)), .inl (am_cA g 0, 7, .inl (fun _ => 0)), .inl (am_cA g 0, 4, .inl (fun _ => 0)), .inr (4, [.ref (h0 + 9), .int 0, .int 0, .int 0]), .inl (am_cA g 0, 360, .inl (fun _ => 0))] H := hB
  refine bw_putF (T := TX8) (N := 11) (ty := (.object "WaterPatience$Seasons")) 8 (hx := hx) (hb := hb) hts hown hin hK rfl hB hS 1 (by decide) wd_497 rfl rfl (by decide +kernel) rfl rfl (Nat.le_of_ble_eq_true rfl) dX8_init_23 (fun H locs hB hS => ?_)
  have hB : bw (am_D g) h0 [.inr (8, [.ref (h0 + 1), .ref (h0 + 8), .null, .null, .int 0, .int 0, .null, .null, .null, .null, .null]), .inr (6, [.ref (h0 + 2), .ref (h0 + 3), .ref (h0 + 4), .int 0, .int 0, .ref (h0 + 5), .int 4, .int 0, .int 0, .int 0, .int 0, .int 0, .ref (h0 + 6), .ref (h0 + 7)]), .inl (am_cA g 0, 168, .inl (fun _ => 0)), .inl (am_cA g 0, 7, .inl (fun _ => 0)), .inl (am_cA g 0, 24, .inl (fun _ => 0)), .inl (am_cA g 0, 4, .inl (fun _ => 0)), .inl (am_cA g 0, 7, .inl (fun _ => 0)), .inl (am_cA g 0, 4, .inl (fun _ => 0)), .inr (4, [.ref (h0 + 9), .int 0, .int 0, .int 0]), .inl (am_cA g 0, 360, .inl (fun _ => 0))] H := hB
  refine lv_aload_n hx hb dX8_init_26 rfl (lv_at hl 0 rfl) ?_
  refine lv_iconst (v := 4) hx hb dX8_init_27 (by decide) ?_
  refine bw_newa (atype := .long) (cA := am_cA g 1) hx hb (hts _ wd_353) hK 1 rfl hB hS (4, .inr (.inl (fun _ => 0))) (fun _ => rfl) (by decide) (by decide) (by decide) (Nat.le_of_ble_eq_true rfl) (Nat.le_of_ble_eq_true rfl) dX8_init_28 (fun H hB hS => ?_)
  have hB : bw (am_D g) h0 [.inr (8, [.ref (h0 + 1), .ref (h0 + 8), .null, .null, .int 0, .int 0, .null, .null, .null, .null, .null]), .inr (6, [.ref (h0 + 2), .ref (h0 + 3), .ref (h0 + 4), .int 0, .int 0, .ref (h0 + 5), .int 4, .int 0, .int 0, .int 0, .int 0, .int 0, .ref (h0 + 6), .ref (h0 + 7)]), .inl (am_cA g 0, 168, .inl (fun _ => 0)), .inl (am_cA g 0, 7, .inl (fun _ => 0)), .inl (am_cA g 0, 24, .inl (fun _ => 0)), .inl (am_cA g 0, 4, .inl (fun _ => 0)), .inl (am_cA g 0, 7, .inl (fun _ => 0)), .inl (am_cA g 0, 4, .inl (fun _ => 0)), .inr (4, [.ref (h0 + 9), .int 0, .int 0, .int 0]), .inl (am_cA g 0, 360, .inl (fun _ => 0)), .inl (am_cA g 1, 4, .inr (.inl (fun _ => 0)))] H := hB
  refine bw_putF (T := TX8) (N := 11) (ty := (.array .long)) 8 (hx := hx) (hb := hb) hts hown hin hK rfl hB hS 2 (by decide) wd_500 rfl rfl (by decide +kernel) rfl rfl (Nat.le_of_ble_eq_true rfl) dX8_init_30 (fun H locs hB hS => ?_)
  have hB : bw (am_D g) h0 [.inr (8, [.ref (h0 + 1), .ref (h0 + 8), .ref (h0 + 10), .null, .int 0, .int 0, .null, .null, .null, .null, .null]), .inr (6, [.ref (h0 + 2), .ref (h0 + 3), .ref (h0 + 4), .int 0, .int 0, .ref (h0 + 5), .int 4, .int 0, .int 0, .int 0, .int 0, .int 0, .ref (h0 + 6), .ref (h0 + 7)]), .inl (am_cA g 0, 168, .inl (fun _ => 0)), .inl (am_cA g 0, 7, .inl (fun _ => 0)), .inl (am_cA g 0, 24, .inl (fun _ => 0)), .inl (am_cA g 0, 4, .inl (fun _ => 0)), .inl (am_cA g 0, 7, .inl (fun _ => 0)), .inl (am_cA g 0, 4, .inl (fun _ => 0)), .inr (4, [.ref (h0 + 9), .int 0, .int 0, .int 0]), .inl (am_cA g 0, 360, .inl (fun _ => 0)), .inl (am_cA g 1, 4, .inr (.inl (fun _ => 0)))] H := hB
  refine lv_aload_n hx hb dX8_init_33 rfl (lv_at hl 0 rfl) ?_
  refine lv_bipush (v := 6) hx hb dX8_init_34 (by decide) ?_
  refine bw_newa (atype := .long) (cA := am_cA g 1) hx hb (hts _ wd_353) hK 1 rfl hB hS (6, .inr (.inl (fun _ => 0))) (fun _ => rfl) (by decide) (by decide) (by decide) (Nat.le_of_ble_eq_true rfl) (Nat.le_of_ble_eq_true rfl) dX8_init_36 (fun H hB hS => ?_)
  have hB : bw (am_D g) h0 [.inr (8, [.ref (h0 + 1), .ref (h0 + 8), .ref (h0 + 10), .null, .int 0, .int 0, .null, .null, .null, .null, .null]), .inr (6, [.ref (h0 + 2), .ref (h0 + 3), .ref (h0 + 4), .int 0, .int 0, .ref (h0 + 5), .int 4, .int 0, .int 0, .int 0, .int 0, .int 0, .ref (h0 + 6), .ref (h0 + 7)]), .inl (am_cA g 0, 168, .inl (fun _ => 0)), .inl (am_cA g 0, 7, .inl (fun _ => 0)), .inl (am_cA g 0, 24, .inl (fun _ => 0)), .inl (am_cA g 0, 4, .inl (fun _ => 0)), .inl (am_cA g 0, 7, .inl (fun _ => 0)), .inl (am_cA g 0, 4, .inl (fun _ => 0)), .inr (4, [.ref (h0 + 9), .int 0, .int 0, .int 0]), .inl (am_cA g 0, 360, .inl (fun _ => 0)), .inl (am_cA g 1, 4, .inr (.inl (fun _ => 0))), .inl (am_cA g 1, 6, .inr (.inl (fun _ => 0)))] H := hB
  refine bw_putF (T := TX8) (N := 11) (ty := (.array .long)) 8 (hx := hx) (hb := hb) hts hown hin hK rfl hB hS 3 (by decide) wd_501 rfl rfl (by decide +kernel) rfl rfl (Nat.le_of_ble_eq_true rfl) dX8_init_38 (fun H locs hB hS => ?_)
  have hB : bw (am_D g) h0 [.inr (8, [.ref (h0 + 1), .ref (h0 + 8), .ref (h0 + 10), .ref (h0 + 11), .int 0, .int 0, .null, .null, .null, .null, .null]), .inr (6, [.ref (h0 + 2), .ref (h0 + 3), .ref (h0 + 4), .int 0, .int 0, .ref (h0 + 5), .int 4, .int 0, .int 0, .int 0, .int 0, .int 0, .ref (h0 + 6), .ref (h0 + 7)]), .inl (am_cA g 0, 168, .inl (fun _ => 0)), .inl (am_cA g 0, 7, .inl (fun _ => 0)), .inl (am_cA g 0, 24, .inl (fun _ => 0)), .inl (am_cA g 0, 4, .inl (fun _ => 0)), .inl (am_cA g 0, 7, .inl (fun _ => 0)), .inl (am_cA g 0, 4, .inl (fun _ => 0)), .inr (4, [.ref (h0 + 9), .int 0, .int 0, .int 0]), .inl (am_cA g 0, 360, .inl (fun _ => 0)), .inl (am_cA g 1, 4, .inr (.inl (fun _ => 0))), .inl (am_cA g 1, 6, .inr (.inl (fun _ => 0)))] H := hB
  refine lv_aload_n hx hb dX8_init_41 rfl (lv_at hl 0 rfl) ?_
  refine lv_bipush (v := 6) hx hb dX8_init_42 (by decide) ?_
  refine bw_newa (atype := .int) (cA := am_cA g 0) hx hb (hts _ wd_389) hK 0 rfl hB hS (6, .inl (fun _ => 0)) (fun _ => rfl) (by decide) (by decide) (by decide) (Nat.le_of_ble_eq_true rfl) (Nat.le_of_ble_eq_true rfl) dX8_init_44 (fun H hB hS => ?_)
  have hB : bw (am_D g) h0 [.inr (8, [.ref (h0 + 1), .ref (h0 + 8), .ref (h0 + 10), .ref (h0 + 11), .int 0, .int 0, .null, .null, .null, .null, .null]), .inr (6, [.ref (h0 + 2), .ref (h0 + 3), .ref (h0 + 4), .int 0, .int 0, .ref (h0 + 5), .int 4, .int 0, .int 0, .int 0, .int 0, .int 0, .ref (h0 + 6), .ref (h0 + 7)]), .inl (am_cA g 0, 168, .inl (fun _ => 0)), .inl (am_cA g 0, 7, .inl (fun _ => 0)), .inl (am_cA g 0, 24, .inl (fun _ => 0)), .inl (am_cA g 0, 4, .inl (fun _ => 0)), .inl (am_cA g 0, 7, .inl (fun _ => 0)), .inl (am_cA g 0, 4, .inl (fun _ => 0)), .inr (4, [.ref (h0 + 9), .int 0, .int 0, .int 0]), .inl (am_cA g 0, 360, .inl (fun _ => 0)), .inl (am_cA g 1, 4, .inr (.inl (fun _ => 0))), .inl (am_cA g 1, 6, .inr (.inl (fun _ => 0))), .inl (am_cA g 0, 6, .inl (fun _ => 0))] H := hB
  refine bw_putF (T := TX8) (N := 11) (ty := (.array .int)) 8 (hx := hx) (hb := hb) hts hown hin hK rfl hB hS 6 (by decide) wd_507 rfl rfl (by decide +kernel) rfl rfl (Nat.le_of_ble_eq_true rfl) dX8_init_46 (fun H locs hB hS => ?_)
  have hB : bw (am_D g) h0 [.inr (8, [.ref (h0 + 1), .ref (h0 + 8), .ref (h0 + 10), .ref (h0 + 11), .int 0, .int 0, .ref (h0 + 12), .null, .null, .null, .null]), .inr (6, [.ref (h0 + 2), .ref (h0 + 3), .ref (h0 + 4), .int 0, .int 0, .ref (h0 + 5), .int 4, .int 0, .int 0, .int 0, .int 0, .int 0, .ref (h0 + 6), .ref (h0 + 7)]), .inl (am_cA g 0, 168, .inl (fun _ => 0)), .inl (am_cA g 0, 7, .inl (fun _ => 0)), .inl (am_cA g 0, 24, .inl (fun _ => 0)), .inl (am_cA g 0, 4, .inl (fun _ => 0)), .inl (am_cA g 0, 7, .inl (fun _ => 0)), .inl (am_cA g 0, 4, .inl (fun _ => 0)), .inr (4, [.ref (h0 + 9), .int 0, .int 0, .int 0]), .inl (am_cA g 0, 360, .inl (fun _ => 0)), .inl (am_cA g 1, 4, .inr (.inl (fun _ => 0))), .inl (am_cA g 1, 6, .inr (.inl (fun _ => 0))), .inl (am_cA g 0, 6, .inl (fun _ => 0))] H := hB
  refine lv_aload_n hx hb dX8_init_49 rfl (lv_at hl 0 rfl) ?_
  refine lv_bipush (v := 6) hx hb dX8_init_50 (by decide) ?_
  refine bw_newa (atype := .int) (cA := am_cA g 0) hx hb (hts _ wd_389) hK 0 rfl hB hS (6, .inl (fun _ => 0)) (fun _ => rfl) (by decide) (by decide) (by decide) (Nat.le_of_ble_eq_true rfl) (Nat.le_of_ble_eq_true rfl) dX8_init_52 (fun H hB hS => ?_)
  have hB : bw (am_D g) h0 [.inr (8, [.ref (h0 + 1), .ref (h0 + 8), .ref (h0 + 10), .ref (h0 + 11), .int 0, .int 0, .ref (h0 + 12), .null, .null, .null, .null]), .inr (6, [.ref (h0 + 2), .ref (h0 + 3), .ref (h0 + 4), .int 0, .int 0, .ref (h0 + 5), .int 4, .int 0, .int 0, .int 0, .int 0, .int 0, .ref (h0 + 6), .ref (h0 + 7)]), .inl (am_cA g 0, 168, .inl (fun _ => 0)), .inl (am_cA g 0, 7, .inl (fun _ => 0)), .inl (am_cA g 0, 24, .inl (fun _ => 0)), .inl (am_cA g 0, 4, .inl (fun _ => 0)), .inl (am_cA g 0, 7, .inl (fun _ => 0)), .inl (am_cA g 0, 4, .inl (fun _ => 0)), .inr (4, [.ref (h0 + 9), .int 0, .int 0, .int 0]), .inl (am_cA g 0, 360, .inl (fun _ => 0)), .inl (am_cA g 1, 4, .inr (.inl (fun _ => 0))), .inl (am_cA g 1, 6, .inr (.inl (fun _ => 0))), .inl (am_cA g 0, 6, .inl (fun _ => 0)), .inl (am_cA g 0, 6, .inl (fun _ => 0))] H := hB
  refine bw_putF (T := TX8) (N := 11) (ty := (.array .int)) 8 (hx := hx) (hb := hb) hts hown hin hK rfl hB hS 7 (by decide) wd_509 rfl rfl (by decide +kernel) rfl rfl (Nat.le_of_ble_eq_true rfl) dX8_init_54 (fun H locs hB hS => ?_)
  have hB : bw (am_D g) h0 [.inr (8, [.ref (h0 + 1), .ref (h0 + 8), .ref (h0 + 10), .ref (h0 + 11), .int 0, .int 0, .ref (h0 + 12), .ref (h0 + 13), .null, .null, .null]), .inr (6, [.ref (h0 + 2), .ref (h0 + 3), .ref (h0 + 4), .int 0, .int 0, .ref (h0 + 5), .int 4, .int 0, .int 0, .int 0, .int 0, .int 0, .ref (h0 + 6), .ref (h0 + 7)]), .inl (am_cA g 0, 168, .inl (fun _ => 0)), .inl (am_cA g 0, 7, .inl (fun _ => 0)), .inl (am_cA g 0, 24, .inl (fun _ => 0)), .inl (am_cA g 0, 4, .inl (fun _ => 0)), .inl (am_cA g 0, 7, .inl (fun _ => 0)), .inl (am_cA g 0, 4, .inl (fun _ => 0)), .inr (4, [.ref (h0 + 9), .int 0, .int 0, .int 0]), .inl (am_cA g 0, 360, .inl (fun _ => 0)), .inl (am_cA g 1, 4, .inr (.inl (fun _ => 0))), .inl (am_cA g 1, 6, .inr (.inl (fun _ => 0))), .inl (am_cA g 0, 6, .inl (fun _ => 0)), .inl (am_cA g 0, 6, .inl (fun _ => 0))] H := hB
  refine lv_aload_n hx hb dX8_init_57 rfl (lv_at hl 0 rfl) ?_
  refine lv_bipush (v := 6) hx hb dX8_init_58 (by decide) ?_
  refine bw_newa (atype := .int) (cA := am_cA g 0) hx hb (hts _ wd_389) hK 0 rfl hB hS (6, .inl (fun _ => 0)) (fun _ => rfl) (by decide) (by decide) (by decide) (Nat.le_of_ble_eq_true rfl) (Nat.le_of_ble_eq_true rfl) dX8_init_60 (fun H hB hS => ?_)
  have hB : bw (am_D g) h0 [.inr (8, [.ref (h0 + 1), .ref (h0 + 8), .ref (h0 + 10), .ref (h0 + 11), .int 0, .int 0, .ref (h0 + 12), .ref (h0 + 13), .null, .null, .null]), .inr (6, [.ref (h0 + 2), .ref (h0 + 3), .ref (h0 + 4), .int 0, .int 0, .ref (h0 + 5), .int 4, .int 0, .int 0, .int 0, .int 0, .int 0, .ref (h0 + 6), .ref (h0 + 7)]), .inl (am_cA g 0, 168, .inl (fun _ => 0)), .inl (am_cA g 0, 7, .inl (fun _ => 0)), .inl (am_cA g 0, 24, .inl (fun _ => 0)), .inl (am_cA g 0, 4, .inl (fun _ => 0)), .inl (am_cA g 0, 7, .inl (fun _ => 0)), .inl (am_cA g 0, 4, .inl (fun _ => 0)), .inr (4, [.ref (h0 + 9), .int 0, .int 0, .int 0]), .inl (am_cA g 0, 360, .inl (fun _ => 0)), .inl (am_cA g 1, 4, .inr (.inl (fun _ => 0))), .inl (am_cA g 1, 6, .inr (.inl (fun _ => 0))), .inl (am_cA g 0, 6, .inl (fun _ => 0)), .inl (am_cA g 0, 6, .inl (fun _ => 0)), .inl (am_cA g 0, 6, .inl (fun _ => 0))] H := hB
  refine bw_putF (T := TX8) (N := 11) (ty := (.array .int)) 8 (hx := hx) (hb := hb) hts hown hin hK rfl hB hS 8 (by decide) wd_511 rfl rfl (by decide +kernel) rfl rfl (Nat.le_of_ble_eq_true rfl) dX8_init_62 (fun H locs hB hS => ?_)
  have hB : bw (am_D g) h0 [.inr (8, [.ref (h0 + 1), .ref (h0 + 8), .ref (h0 + 10), .ref (h0 + 11), .int 0, .int 0, .ref (h0 + 12), .ref (h0 + 13), .ref (h0 + 14), .null, .null]), .inr (6, [.ref (h0 + 2), .ref (h0 + 3), .ref (h0 + 4), .int 0, .int 0, .ref (h0 + 5), .int 4, .int 0, .int 0, .int 0, .int 0, .int 0, .ref (h0 + 6), .ref (h0 + 7)]), .inl (am_cA g 0, 168, .inl (fun _ => 0)), .inl (am_cA g 0, 7, .inl (fun _ => 0)), .inl (am_cA g 0, 24, .inl (fun _ => 0)), .inl (am_cA g 0, 4, .inl (fun _ => 0)), .inl (am_cA g 0, 7, .inl (fun _ => 0)), .inl (am_cA g 0, 4, .inl (fun _ => 0)), .inr (4, [.ref (h0 + 9), .int 0, .int 0, .int 0]), .inl (am_cA g 0, 360, .inl (fun _ => 0)), .inl (am_cA g 1, 4, .inr (.inl (fun _ => 0))), .inl (am_cA g 1, 6, .inr (.inl (fun _ => 0))), .inl (am_cA g 0, 6, .inl (fun _ => 0)), .inl (am_cA g 0, 6, .inl (fun _ => 0)), .inl (am_cA g 0, 6, .inl (fun _ => 0))] H := hB
  refine lv_aload_n hx hb dX8_init_65 rfl (lv_at hl 0 rfl) ?_
  refine lv_bipush (v := 6) hx hb dX8_init_66 (by decide) ?_
  refine bw_newa (atype := .int) (cA := am_cA g 0) hx hb (hts _ wd_389) hK 0 rfl hB hS (6, .inl (fun _ => 0)) (fun _ => rfl) (by decide) (by decide) (by decide) (Nat.le_of_ble_eq_true rfl) (Nat.le_of_ble_eq_true rfl) dX8_init_68 (fun H hB hS => ?_)
  have hB : bw (am_D g) h0 [.inr (8, [.ref (h0 + 1), .ref (h0 + 8), .ref (h0 + 10), .ref (h0 + 11), .int 0, .int 0, .ref (h0 + 12), .ref (h0 + 13), .ref (h0 + 14), .null, .null]), .inr (6, [.ref (h0 + 2), .ref (h0 + 3), .ref (h0 + 4), .int 0, .int 0, .ref (h0 + 5), .int 4, .int 0, .int 0, .int 0, .int 0, .int 0, .ref (h0 + 6), .ref (h0 + 7)]), .inl (am_cA g 0, 168, .inl (fun _ => 0)), .inl (am_cA g 0, 7, .inl (fun _ => 0)), .inl (am_cA g 0, 24, .inl (fun _ => 0)), .inl (am_cA g 0, 4, .inl (fun _ => 0)), .inl (am_cA g 0, 7, .inl (fun _ => 0)), .inl (am_cA g 0, 4, .inl (fun _ => 0)), .inr (4, [.ref (h0 + 9), .int 0, .int 0, .int 0]), .inl (am_cA g 0, 360, .inl (fun _ => 0)), .inl (am_cA g 1, 4, .inr (.inl (fun _ => 0))), .inl (am_cA g 1, 6, .inr (.inl (fun _ => 0))), .inl (am_cA g 0, 6, .inl (fun _ => 0)), .inl (am_cA g 0, 6, .inl (fun _ => 0)), .inl (am_cA g 0, 6, .inl (fun _ => 0)), .inl (am_cA g 0, 6, .inl (fun _ => 0))] H := hB
  refine bw_putF (T := TX8) (N := 11) (ty := (.array .int)) 8 (hx := hx) (hb := hb) hts hown hin hK rfl hB hS 9 (by decide) wd_515 rfl rfl (by decide +kernel) rfl rfl (Nat.le_of_ble_eq_true rfl) dX8_init_70 (fun H locs hB hS => ?_)
  have hB : bw (am_D g) h0 [.inr (8, [.ref (h0 + 1), .ref (h0 + 8), .ref (h0 + 10), .ref (h0 + 11), .int 0, .int 0, .ref (h0 + 12), .ref (h0 + 13), .ref (h0 + 14), .ref (h0 + 15), .null]), .inr (6, [.ref (h0 + 2), .ref (h0 + 3), .ref (h0 + 4), .int 0, .int 0, .ref (h0 + 5), .int 4, .int 0, .int 0, .int 0, .int 0, .int 0, .ref (h0 + 6), .ref (h0 + 7)]), .inl (am_cA g 0, 168, .inl (fun _ => 0)), .inl (am_cA g 0, 7, .inl (fun _ => 0)), .inl (am_cA g 0, 24, .inl (fun _ => 0)), .inl (am_cA g 0, 4, .inl (fun _ => 0)), .inl (am_cA g 0, 7, .inl (fun _ => 0)), .inl (am_cA g 0, 4, .inl (fun _ => 0)), .inr (4, [.ref (h0 + 9), .int 0, .int 0, .int 0]), .inl (am_cA g 0, 360, .inl (fun _ => 0)), .inl (am_cA g 1, 4, .inr (.inl (fun _ => 0))), .inl (am_cA g 1, 6, .inr (.inl (fun _ => 0))), .inl (am_cA g 0, 6, .inl (fun _ => 0)), .inl (am_cA g 0, 6, .inl (fun _ => 0)), .inl (am_cA g 0, 6, .inl (fun _ => 0)), .inl (am_cA g 0, 6, .inl (fun _ => 0))] H := hB
  refine lv_aload_n hx hb dX8_init_73 rfl (lv_at hl 0 rfl) ?_
  refine lv_bipush (v := 6) hx hb dX8_init_74 (by decide) ?_
  refine bw_newa (atype := .int) (cA := am_cA g 0) hx hb (hts _ wd_389) hK 0 rfl hB hS (6, .inl (fun _ => 0)) (fun _ => rfl) (by decide) (by decide) (by decide) (Nat.le_of_ble_eq_true rfl) (Nat.le_of_ble_eq_true rfl) dX8_init_76 (fun H hB hS => ?_)
  have hB : bw (am_D g) h0 [.inr (8, [.ref (h0 + 1), .ref (h0 + 8), .ref (h0 + 10), .ref (h0 + 11), .int 0, .int 0, .ref (h0 + 12), .ref (h0 + 13), .ref (h0 + 14), .ref (h0 + 15), .null]), .inr (6, [.ref (h0 + 2), .ref (h0 + 3), .ref (h0 + 4), .int 0, .int 0, .ref (h0 + 5), .int 4, .int 0, .int 0, .int 0, .int 0, .int 0, .ref (h0 + 6), .ref (h0 + 7)]), .inl (am_cA g 0, 168, .inl (fun _ => 0)), .inl (am_cA g 0, 7, .inl (fun _ => 0)), .inl (am_cA g 0, 24, .inl (fun _ => 0)), .inl (am_cA g 0, 4, .inl (fun _ => 0)), .inl (am_cA g 0, 7, .inl (fun _ => 0)), .inl (am_cA g 0, 4, .inl (fun _ => 0)), .inr (4, [.ref (h0 + 9), .int 0, .int 0, .int 0]), .inl (am_cA g 0, 360, .inl (fun _ => 0)), .inl (am_cA g 1, 4, .inr (.inl (fun _ => 0))), .inl (am_cA g 1, 6, .inr (.inl (fun _ => 0))), .inl (am_cA g 0, 6, .inl (fun _ => 0)), .inl (am_cA g 0, 6, .inl (fun _ => 0)), .inl (am_cA g 0, 6, .inl (fun _ => 0)), .inl (am_cA g 0, 6, .inl (fun _ => 0)), .inl (am_cA g 0, 6, .inl (fun _ => 0))] H := hB
  refine bw_putF (T := TX8) (N := 11) (ty := (.array .int)) 8 (hx := hx) (hb := hb) hts hown hin hK rfl hB hS 10 (by decide) wd_518 rfl rfl (by decide +kernel) rfl rfl (Nat.le_of_ble_eq_true rfl) dX8_init_78 (fun H locs hB hS => ?_)
  have hB : bw (am_D g) h0 [.inr (8, [.ref (h0 + 1), .ref (h0 + 8), .ref (h0 + 10), .ref (h0 + 11), .int 0, .int 0, .ref (h0 + 12), .ref (h0 + 13), .ref (h0 + 14), .ref (h0 + 15), .ref (h0 + 16)]), .inr (6, [.ref (h0 + 2), .ref (h0 + 3), .ref (h0 + 4), .int 0, .int 0, .ref (h0 + 5), .int 4, .int 0, .int 0, .int 0, .int 0, .int 0, .ref (h0 + 6), .ref (h0 + 7)]), .inl (am_cA g 0, 168, .inl (fun _ => 0)), .inl (am_cA g 0, 7, .inl (fun _ => 0)), .inl (am_cA g 0, 24, .inl (fun _ => 0)), .inl (am_cA g 0, 4, .inl (fun _ => 0)), .inl (am_cA g 0, 7, .inl (fun _ => 0)), .inl (am_cA g 0, 4, .inl (fun _ => 0)), .inr (4, [.ref (h0 + 9), .int 0, .int 0, .int 0]), .inl (am_cA g 0, 360, .inl (fun _ => 0)), .inl (am_cA g 1, 4, .inr (.inl (fun _ => 0))), .inl (am_cA g 1, 6, .inr (.inl (fun _ => 0))), .inl (am_cA g 0, 6, .inl (fun _ => 0)), .inl (am_cA g 0, 6, .inl (fun _ => 0)), .inl (am_cA g 0, 6, .inl (fun _ => 0)), .inl (am_cA g 0, 6, .inl (fun _ => 0)), .inl (am_cA g 0, 6, .inl (fun _ => 0))] H := hB
  exact ck_ret (mc := 16) (ms := 632) hx hb hr hlocks hB hS dX8_init_81
