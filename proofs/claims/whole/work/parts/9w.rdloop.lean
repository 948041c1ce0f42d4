theorem wd_255 : Cond.methodLink RX3 28 yJ0_length_8abf5 ∈ am_TB := List.mem_filter.mpr ⟨List.mem_of_getElem? (i := 255) (by decide +kernel), by decide +kernel⟩
theorem wd_258 : Cond.code yJ0_length_8abf5 cJ0_length_8abf5 1 (some .int) ∈ am_TB := List.mem_filter.mpr ⟨List.mem_of_getElem? (i := 258) (by decide +kernel), by decide +kernel⟩
theorem yy_J0_length_8abf5 : am_Y yJ0_length_8abf5 cJ0_length_8abf5 1 (some .int) 0 := ⟨wd_258, wd_221, by decide +kernel, by decide +kernel, by decide⟩
theorem wd_256 : Cond.instanceMethod yJ0_length_8abf5 ∈ am_TB := List.mem_filter.mpr ⟨List.mem_of_getElem? (i := 256) (by decide +kernel), by decide +kernel⟩
theorem wd_257 : Cond.selects "java/lang/String" yJ0_length_8abf5 yJ0_length_8abf5 ∈ am_TB := List.mem_filter.mpr ⟨List.mem_of_getElem? (i := 257) (by decide +kernel), by decide +kernel⟩
theorem wd_265 : Cond.methodLink RX3 34 yJ0_charAt_5068e ∈ am_TB := List.mem_filter.mpr ⟨List.mem_of_getElem? (i := 265) (by decide +kernel), by decide +kernel⟩
theorem wd_268 : Cond.code yJ0_charAt_5068e cJ0_charAt_5068e 2 (some .char) ∈ am_TB := List.mem_filter.mpr ⟨List.mem_of_getElem? (i := 268) (by decide +kernel), by decide +kernel⟩
theorem yy_J0_charAt_5068e : am_Y yJ0_charAt_5068e cJ0_charAt_5068e 2 (some .char) 1 := ⟨wd_268, wd_221, by decide +kernel, by decide +kernel, by decide⟩
theorem wd_266 : Cond.instanceMethod yJ0_charAt_5068e ∈ am_TB := List.mem_filter.mpr ⟨List.mem_of_getElem? (i := 266) (by decide +kernel), by decide +kernel⟩
theorem wd_267 : Cond.selects "java/lang/String" yJ0_charAt_5068e yJ0_charAt_5068e ∈ am_TB := List.mem_filter.mpr ⟨List.mem_of_getElem? (i := 267) (by decide +kernel), by decide +kernel⟩
def rdG : Nat → Nat → Nat → Int64 → (Nat → Int64) → (Nat → Int64)
  | 0, _, _, _, f => f
  | n + 1, i, many, key, f => if many < 23 then (if sgC i = 32 then rdG n (i + 1) (many + 1) 0 (vp_updL f many key) else rdG n (i + 1) many (key * 27 + (sgC i - 97 + 1).toInt64) f) else f
abbrev rdO (h0 : Nat) : va_E := .inr (3, [.ref (h0 + 1), .ref (h0 + 2), .int 0, .int 0, .int 0, .int 0, .int 0, .long 0, .int 0, .int 0, .int (-1), .int (-1)])
abbrev rdT (g : am_G) : va_E := .inl (am_cA g 2, 0, .inl (fun _ => 0))
set_option maxHeartbeats 4000000 in
set_option maxRecDepth 100000 in
theorem rd_loop {g : am_G} {q : gS} {p : Program} {e : Env} {R : Room} {s : State} {m : MethodId} {args : Array Value} {below : List Frame} {meth : Method} {c : Code} {cells slots : Nat} {Q : State → Prop} {h0 : Nat} (hx : p.tables.exec = Jvm.exec) (hb : c.code = cX3_init) (hml : c.maxLocals = 6) (hown : s.vm.findClass RX3 = some m.cls) (hts : ∀ w ∈ am_TB, w.before args s = true) (hK : va_K (am_D g) vwCl (am_ty g) s) (hG : sg q s) (hb0 : q.1 ≤ h0) (hfr : 4 ≤ R.frames) (hlo : 160 ≤ R.locals) (hce : cells ≤ R.cells) (hsl : slots ≤ R.slots) : ∀ (n i many : Nat) (key : Int64) (f : Nat → Int64) (H : Heap) (locs : List Loc) (ls : Array Slot), i + n = 115 → many ≤ 23 → bw (am_D g) h0 [rdO h0, .inl (am_cA g 1, 23, .inr (.inl f)), rdT g] H → va_S (bA h0) s.heap H locs → lv_has ls 6 [(4, .int (nI i)), (2, .long key), (1, .int (nI many)), (0, .ref h0)] →
    (∀ (H1 : Heap) (locs1 : List Loc) (ls1 : Array Slot), bw (am_D g) h0 [rdO h0, .inl (am_cA g 1, 23, .inr (.inl (rdG n i many key f))), rdT g] H1 → va_S (bA h0) s.heap H1 locs1 → W p g.1 e R s m args below meth c H1 locs1 cells slots Q (F0 m 96 ls1 [])) → W p g.1 e R s m args below meth c H locs cells slots Q (F0 m 36 ls []) := by
  intro n
  induction n with
  | zero =>
    intro i many key f H locs ls hi hm hB hS hl kk
    refine lv_iload hx hb dX3_init_36 (lv_at hl 0 rfl) ?_
    refine va_ldcS hx hb hown hG.2.1 dX3_init_38 ?_
    refine jm_callV (As := []) (jm_length g.1 q) hx hb hml hown hts hG hS hb0 wd_255 yy_J0_length_8abf5 wd_256 wd_257 (by omega) (by omega) rfl hl.1 (Nat.le_of_ble_eq_true rfl) hce hsl dX3_init_40 ?_
    refine lv_icmp_ge (tgt := 96) hx hb dX3_init_43 rfl (fun _ => kk _ _ _ hB hS) (fun h => absurd ?_ h)
    show nI 115 ≤ nI i
    rw [x_le (by omega) (by omega)]
    omega
  | succ n ih =>
    intro i many key f H locs ls hi hm hB hS hl kk
    refine lv_iload hx hb dX3_init_36 (lv_at hl 0 rfl) ?_
    refine va_ldcS hx hb hown hG.2.1 dX3_init_38 ?_
    refine jm_callV (As := []) (jm_length g.1 q) hx hb hml hown hts hG hS hb0 wd_255 yy_J0_length_8abf5 wd_256 wd_257 (by omega) (by omega) rfl hl.1 (Nat.le_of_ble_eq_true rfl) hce hsl dX3_init_40 ?_
    refine lv_icmp_ge (tgt := 96) hx hb dX3_init_43 rfl (fun h => absurd (show nI 115 ≤ nI i from h) (by rw [x_le (by omega) (by omega)]; omega)) (fun _ => ?_)
    refine lv_iload_n hx hb dX3_init_46 rfl (lv_at hl 2 rfl) ?_
    refine lv_bipush (v := nI 23) hx hb dX3_init_47 (by decide) ?_
    by_cases hmm : many < 23
    · refine lv_icmp_ge (tgt := 96) hx hb dX3_init_49 rfl (fun h => absurd h (by rw [x_le (by omega) (by omega)]; omega)) (fun _ => ?_)
      refine va_ldcS hx hb hown hG.2.1 dX3_init_52 ?_
      refine lv_iload hx hb dX3_init_54 (lv_at hl 0 rfl) ?_
      refine jm_callV (As := [.int (nI i)]) (rest := []) (jm_charAt g.1 q (k := i) (by omega)) hx hb hml hown hts hG hS hb0 wd_265 yy_J0_charAt_5068e wd_266 wd_267 (by omega) (by omega) rfl hl.1 (Nat.le_of_ble_eq_true rfl) hce hsl dX3_init_56 ?_
      refine lv_istore (lv' := (5, .int (sgC i)) :: [(4, .int (nI i)), (2, .long key), (1, .int (nI many)), (0, .ref h0)]) hx hb dX3_init_59 hl (by decide) rfl (fun ls hl => ?_)
      refine lv_iload hx hb dX3_init_61 (lv_at hl 0 rfl) ?_
      refine lv_bipush (v := 32) hx hb dX3_init_63 (by decide) ?_
      refine lv_icmp_ne (tgt := 83) hx hb dX3_init_65 rfl (fun hc => ?_) (fun hc => ?_)
      · refine lv_lload_n hx hb dX3_init_83 rfl (lv_at hl 2 rfl) ?_
        refine lv_iload hx hb dX3_init_84 (lv_at hl 0 rfl) ?_
        refine jm_callS (As := [.long key, .int (sgC i)]) (rest := []) (jm_letter g.1 q key (sgC i)) hx hb hml hown hts hG hS hb0 wd_303 yy_X3_withLetter wd_304 (by omega) (by omega) rfl hl.1 (Nat.le_of_ble_eq_true rfl) hce hsl dX3_init_86 ?_
        refine lv_lstore_n (lv' := [(2, .long (key * 27 + (sgC i - 97 + 1).toInt64)), (5, .int (sgC i)), (4, .int (nI i)), (1, .int (nI many)), (0, .ref h0)]) hx hb dX3_init_89 rfl hl (by decide) rfl (fun ls hl => ?_)
        refine lv_iinc (k := 2) (v := nI (i + 1)) (lv' := [(4, .int (nI (i + 1))), (2, .long (key * 27 + (sgC i - 97 + 1).toInt64)), (5, .int (sgC i)), (1, .int (nI many)), (0, .ref h0)]) hx hb dX3_init_90 hl rfl (nI_succ i).symm (by decide) rfl (fun ls hl => ?_)
        refine lv_goto (tgt := 36) hx hb dX3_init_93 rfl ?_
        refine ih (i + 1) many _ f H locs ls (by omega) hm hB hS (lv_sub hl [0, 1, 3, 4] rfl) (fun H1 locs1 ls1 b1 s1 => kk H1 locs1 ls1 ?_ s1)
        rw [rdG, if_pos hmm, if_neg hc]
        exact b1
      · refine lv_aload_n hx hb dX3_init_68 rfl (lv_at hl 4 rfl) ?_
        refine bw_get (T := TX3) (N := 12) 3 (hx := hx) (hb := hb) hts hown hK rfl hB 0 (by decide) wd_307 rfl dX3_init_69 ?_
        refine lv_iload_n hx hb dX3_init_72 rfl (lv_at hl 3 rfl) ?_
        refine lv_lload_n hx hb dX3_init_73 rfl (lv_at hl 2 rfl) ?_
        refine bw_last hx hb hK 1 hB hS rfl (fun h => by rcases h with h | h; rw [show (0 : Int32) = nI 0 from rfl, x_lt (by omega) (by omega)] at h; omega; rw [x_cl (by omega)] at h; omega) dX3_init_74 (fun H locs hB hS => ?_)
        rw [x_cl (by omega)] at hB
        refine lv_iinc (k := 3) (v := nI (many + 1)) (lv' := [(1, .int (nI (many + 1))), (5, .int (sgC i)), (4, .int (nI i)), (2, .long key), (0, .ref h0)]) hx hb dX3_init_75 hl rfl (nI_succ many).symm (by decide) rfl (fun ls hl => ?_)
        refine lv_lconst (v := 0) hx hb dX3_init_78 rfl ?_
        refine lv_lstore_n (lv' := [(2, .long 0), (1, .int (nI (many + 1))), (5, .int (sgC i)), (4, .int (nI i)), (0, .ref h0)]) hx hb dX3_init_79 rfl hl (by decide) rfl (fun ls hl => ?_)
        refine lv_goto (tgt := 90) hx hb dX3_init_80 rfl ?_
        refine lv_iinc (k := 3) (v := nI (i + 1)) (lv' := [(4, .int (nI (i + 1))), (2, .long 0), (1, .int (nI (many + 1))), (5, .int (sgC i)), (0, .ref h0)]) hx hb dX3_init_90 hl rfl (nI_succ i).symm (by decide) rfl (fun ls hl => ?_)
        refine lv_goto (tgt := 36) hx hb dX3_init_93 rfl ?_
        refine ih (i + 1) (many + 1) 0 (vp_updL f many key) H locs ls (by omega) (by omega) hB hS (lv_sub hl [0, 1, 2, 4] rfl) (fun H1 locs1 ls1 b1 s1 => kk H1 locs1 ls1 ?_ s1)
        rw [rdG, if_pos hmm, if_pos hc]
        exact b1
    · refine lv_icmp_ge (tgt := 96) hx hb dX3_init_49 rfl (fun _ => kk _ _ _ (by rw [rdG, if_neg hmm]; exact hB) hS) (fun h => absurd ?_ h)
      rw [x_le (by omega) (by omega)]
      omega
