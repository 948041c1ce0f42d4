/-! what the constructors leave, cell by cell, is the memory s0 -/
def lwG (l : Launch) (D : va_G) (cA : Nat → ClassId) (b bs : Nat) : am_G := (l, D, cA, (fun h => if h = 999 then bs else b + h), bA b)
theorem at_refs {D : va_G} {a n : Nat} {cA : ClassId} {f f' : Nat → Option Nat} {H : Heap} (h : va_at D vwCl (a, .inl (cA, n, .inr (.inr (.inr (.inr f))))) H) (e : ∀ j, j < n → f j = f' j) : va_at D vwCl (a, .inl (cA, n, .inr (.inr (.inr (.inr f'))))) H := by
  have h1 : H[a]? = some (vp_cell cA (n, .inr (.inr (.inr (.inr f))))) := h
  show H[a]? = some (vp_cell cA (n, .inr (.inr (.inr (.inr f')))))
  rw [h1, vp_cell_q, vp_cell_q]
  unfold arrV
  congr 3
  funext j
  show va_rf (f j.val) = va_rf (f' j.val)
  rw [e j.val j.isLt]
abbrev lwE (g : am_G) (b : Nat) : List va_E := EX10 g b ++ EX11 g (b + 123)
set_option maxRecDepth 100000 in
theorem st_0 {l : Launch} {D : va_G} {cA : Nat → ClassId} {b bs : Nat} {H : Heap} (hB : bw D b (lwE (lwG l D cA b bs) b) H) : va_at D vwCl (b + 0, am_ce (lwG l D cA b bs) s0 0) H := hB.2 0 _ rfl
set_option maxRecDepth 100000 in
theorem st_1 {l : Launch} {D : va_G} {cA : Nat → ClassId} {b bs : Nat} {H : Heap} (hB : bw D b (lwE (lwG l D cA b bs) b) H) : va_at D vwCl (b + 1, am_ce (lwG l D cA b bs) s0 1) H :=
  at_refs (f' := fun j => some (am_ad (lwG l D cA b bs) (am_la 1 j))) (hB.2 1 _ rfl) (fun j hj => match j, hj with
    | 0, _ => rfl
    | 1, _ => rfl
    | 2, _ => rfl
    | 3, _ => rfl)
set_option maxRecDepth 100000 in
theorem st_2 {l : Launch} {D : va_G} {cA : Nat → ClassId} {b bs : Nat} {H : Heap} (hB : bw D b (lwE (lwG l D cA b bs) b) H) : va_at D vwCl (b + 2, am_ce (lwG l D cA b bs) s0 2) H := hB.2 2 _ rfl
set_option maxRecDepth 100000 in
theorem st_3 {l : Launch} {D : va_G} {cA : Nat → ClassId} {b bs : Nat} {H : Heap} (hB : bw D b (lwE (lwG l D cA b bs) b) H) : va_at D vwCl (b + 3, am_ce (lwG l D cA b bs) s0 3) H := hB.2 3 _ rfl
theorem ce_4 (g : am_G) (σ : am_M) : am_ce g σ 4 = .inl (am_cA g 1, 23, .inr (.inl (σ.2 4))) := rfl
set_option maxRecDepth 100000 in
theorem st_4 {l : Launch} {D : va_G} {cA : Nat → ClassId} {b bs : Nat} {H : Heap} (hB : bw D b (lwE (lwG l D cA b bs) b) H) : va_at D vwCl (b + 4, am_ce (lwG l D cA b bs) s0 4) H := by
  rw [ce_4, s0_2, s0L_4]
  exact hB.2 4 _ rfl
set_option maxRecDepth 100000 in
theorem st_5 {l : Launch} {D : va_G} {cA : Nat → ClassId} {b bs : Nat} {H : Heap} (hB : bw D b (lwE (lwG l D cA b bs) b) H) : va_at D vwCl (b + 5, am_ce (lwG l D cA b bs) s0 5) H := hB.2 5 _ rfl
set_option maxRecDepth 100000 in
theorem st_6 {l : Launch} {D : va_G} {cA : Nat → ClassId} {b bs : Nat} {H : Heap} (hB : bw D b (lwE (lwG l D cA b bs) b) H) : va_at D vwCl (b + 6, am_ce (lwG l D cA b bs) s0 6) H := hB.2 6 _ rfl
set_option maxRecDepth 100000 in
theorem st_7 {l : Launch} {D : va_G} {cA : Nat → ClassId} {b bs : Nat} {H : Heap} (hB : bw D b (lwE (lwG l D cA b bs) b) H) : va_at D vwCl (b + 7, am_ce (lwG l D cA b bs) s0 7) H := hB.2 7 _ rfl
set_option maxRecDepth 100000 in
theorem st_8 {l : Launch} {D : va_G} {cA : Nat → ClassId} {b bs : Nat} {H : Heap} (hB : bw D b (lwE (lwG l D cA b bs) b) H) : va_at D vwCl (b + 8, am_ce (lwG l D cA b bs) s0 8) H := hB.2 8 _ rfl
set_option maxRecDepth 100000 in
theorem st_9 {l : Launch} {D : va_G} {cA : Nat → ClassId} {b bs : Nat} {H : Heap} (hB : bw D b (lwE (lwG l D cA b bs) b) H) : va_at D vwCl (b + 9, am_ce (lwG l D cA b bs) s0 9) H := hB.2 9 _ rfl
set_option maxRecDepth 100000 in
theorem st_10 {l : Launch} {D : va_G} {cA : Nat → ClassId} {b bs : Nat} {H : Heap} (hB : bw D b (lwE (lwG l D cA b bs) b) H) : va_at D vwCl (b + 10, am_ce (lwG l D cA b bs) s0 10) H := hB.2 10 _ rfl
set_option maxRecDepth 100000 in
theorem st_11 {l : Launch} {D : va_G} {cA : Nat → ClassId} {b bs : Nat} {H : Heap} (hB : bw D b (lwE (lwG l D cA b bs) b) H) : va_at D vwCl (b + 11, am_ce (lwG l D cA b bs) s0 11) H := hB.2 11 _ rfl
set_option maxRecDepth 100000 in
theorem st_12 {l : Launch} {D : va_G} {cA : Nat → ClassId} {b bs : Nat} {H : Heap} (hB : bw D b (lwE (lwG l D cA b bs) b) H) : va_at D vwCl (b + 12, am_ce (lwG l D cA b bs) s0 12) H := hB.2 12 _ rfl
set_option maxRecDepth 100000 in
theorem st_13 {l : Launch} {D : va_G} {cA : Nat → ClassId} {b bs : Nat} {H : Heap} (hB : bw D b (lwE (lwG l D cA b bs) b) H) : va_at D vwCl (b + 13, am_ce (lwG l D cA b bs) s0 13) H := hB.2 13 _ rfl
set_option maxRecDepth 100000 in
theorem st_14 {l : Launch} {D : va_G} {cA : Nat → ClassId} {b bs : Nat} {H : Heap} (hB : bw D b (lwE (lwG l D cA b bs) b) H) : va_at D vwCl (b + 14, am_ce (lwG l D cA b bs) s0 14) H := hB.2 14 _ rfl
set_option maxRecDepth 100000 in
theorem st_15 {l : Launch} {D : va_G} {cA : Nat → ClassId} {b bs : Nat} {H : Heap} (hB : bw D b (lwE (lwG l D cA b bs) b) H) : va_at D vwCl (b + 15, am_ce (lwG l D cA b bs) s0 15) H := hB.2 15 _ rfl
set_option maxRecDepth 100000 in
theorem st_16 {l : Launch} {D : va_G} {cA : Nat → ClassId} {b bs : Nat} {H : Heap} (hB : bw D b (lwE (lwG l D cA b bs) b) H) : va_at D vwCl (b + 16, am_ce (lwG l D cA b bs) s0 16) H := hB.2 16 _ rfl
set_option maxRecDepth 100000 in
theorem st_17 {l : Launch} {D : va_G} {cA : Nat → ClassId} {b bs : Nat} {H : Heap} (hB : bw D b (lwE (lwG l D cA b bs) b) H) : va_at D vwCl (b + 17, am_ce (lwG l D cA b bs) s0 17) H := hB.2 17 _ rfl
set_option maxRecDepth 100000 in
theorem st_18 {l : Launch} {D : va_G} {cA : Nat → ClassId} {b bs : Nat} {H : Heap} (hB : bw D b (lwE (lwG l D cA b bs) b) H) : va_at D vwCl (b + 18, am_ce (lwG l D cA b bs) s0 18) H := hB.2 18 _ rfl
set_option maxRecDepth 100000 in
theorem st_19 {l : Launch} {D : va_G} {cA : Nat → ClassId} {b bs : Nat} {H : Heap} (hB : bw D b (lwE (lwG l D cA b bs) b) H) : va_at D vwCl (b + 19, am_ce (lwG l D cA b bs) s0 19) H := hB.2 19 _ rfl
set_option maxRecDepth 100000 in
theorem st_20 {l : Launch} {D : va_G} {cA : Nat → ClassId} {b bs : Nat} {H : Heap} (hB : bw D b (lwE (lwG l D cA b bs) b) H) : va_at D vwCl (b + 20, am_ce (lwG l D cA b bs) s0 20) H := hB.2 20 _ rfl
set_option maxRecDepth 100000 in
theorem st_21 {l : Launch} {D : va_G} {cA : Nat → ClassId} {b bs : Nat} {H : Heap} (hB : bw D b (lwE (lwG l D cA b bs) b) H) : va_at D vwCl (b + 21, am_ce (lwG l D cA b bs) s0 21) H := hB.2 21 _ rfl
set_option maxRecDepth 100000 in
theorem st_22 {l : Launch} {D : va_G} {cA : Nat → ClassId} {b bs : Nat} {H : Heap} (hB : bw D b (lwE (lwG l D cA b bs) b) H) : va_at D vwCl (b + 22, am_ce (lwG l D cA b bs) s0 22) H := hB.2 22 _ rfl
set_option maxRecDepth 100000 in
theorem st_23 {l : Launch} {D : va_G} {cA : Nat → ClassId} {b bs : Nat} {H : Heap} (hB : bw D b (lwE (lwG l D cA b bs) b) H) : va_at D vwCl (b + 23, am_ce (lwG l D cA b bs) s0 23) H := hB.2 23 _ rfl
set_option maxRecDepth 100000 in
theorem st_24 {l : Launch} {D : va_G} {cA : Nat → ClassId} {b bs : Nat} {H : Heap} (hB : bw D b (lwE (lwG l D cA b bs) b) H) : va_at D vwCl (b + 24, am_ce (lwG l D cA b bs) s0 24) H := hB.2 24 _ rfl
set_option maxRecDepth 100000 in
theorem st_25 {l : Launch} {D : va_G} {cA : Nat → ClassId} {b bs : Nat} {H : Heap} (hB : bw D b (lwE (lwG l D cA b bs) b) H) : va_at D vwCl (b + 25, am_ce (lwG l D cA b bs) s0 25) H := hB.2 25 _ rfl
set_option maxRecDepth 100000 in
theorem st_26 {l : Launch} {D : va_G} {cA : Nat → ClassId} {b bs : Nat} {H : Heap} (hB : bw D b (lwE (lwG l D cA b bs) b) H) : va_at D vwCl (b + 26, am_ce (lwG l D cA b bs) s0 26) H := hB.2 26 _ rfl
set_option maxRecDepth 100000 in
theorem st_27 {l : Launch} {D : va_G} {cA : Nat → ClassId} {b bs : Nat} {H : Heap} (hB : bw D b (lwE (lwG l D cA b bs) b) H) : va_at D vwCl (b + 27, am_ce (lwG l D cA b bs) s0 27) H := hB.2 27 _ rfl
set_option maxRecDepth 100000 in
theorem st_28 {l : Launch} {D : va_G} {cA : Nat → ClassId} {b bs : Nat} {H : Heap} (hB : bw D b (lwE (lwG l D cA b bs) b) H) : va_at D vwCl (b + 28, am_ce (lwG l D cA b bs) s0 28) H := hB.2 28 _ rfl
set_option maxRecDepth 100000 in
theorem st_29 {l : Launch} {D : va_G} {cA : Nat → ClassId} {b bs : Nat} {H : Heap} (hB : bw D b (lwE (lwG l D cA b bs) b) H) : va_at D vwCl (b + 29, am_ce (lwG l D cA b bs) s0 29) H := hB.2 29 _ rfl
set_option maxRecDepth 100000 in
theorem st_30 {l : Launch} {D : va_G} {cA : Nat → ClassId} {b bs : Nat} {H : Heap} (hB : bw D b (lwE (lwG l D cA b bs) b) H) : va_at D vwCl (b + 30, am_ce (lwG l D cA b bs) s0 30) H := hB.2 30 _ rfl
set_option maxRecDepth 100000 in
theorem st_31 {l : Launch} {D : va_G} {cA : Nat → ClassId} {b bs : Nat} {H : Heap} (hB : bw D b (lwE (lwG l D cA b bs) b) H) : va_at D vwCl (b + 31, am_ce (lwG l D cA b bs) s0 31) H := hB.2 31 _ rfl
set_option maxRecDepth 100000 in
theorem st_32 {l : Launch} {D : va_G} {cA : Nat → ClassId} {b bs : Nat} {H : Heap} (hB : bw D b (lwE (lwG l D cA b bs) b) H) : va_at D vwCl (b + 32, am_ce (lwG l D cA b bs) s0 32) H := hB.2 32 _ rfl
set_option maxRecDepth 100000 in
theorem st_33 {l : Launch} {D : va_G} {cA : Nat → ClassId} {b bs : Nat} {H : Heap} (hB : bw D b (lwE (lwG l D cA b bs) b) H) : va_at D vwCl (b + 33, am_ce (lwG l D cA b bs) s0 33) H := hB.2 33 _ rfl
set_option maxRecDepth 100000 in
theorem st_34 {l : Launch} {D : va_G} {cA : Nat → ClassId} {b bs : Nat} {H : Heap} (hB : bw D b (lwE (lwG l D cA b bs) b) H) : va_at D vwCl (b + 34, am_ce (lwG l D cA b bs) s0 34) H := hB.2 34 _ rfl
set_option maxRecDepth 100000 in
theorem st_35 {l : Launch} {D : va_G} {cA : Nat → ClassId} {b bs : Nat} {H : Heap} (hB : bw D b (lwE (lwG l D cA b bs) b) H) : va_at D vwCl (b + 35, am_ce (lwG l D cA b bs) s0 35) H := hB.2 35 _ rfl
set_option maxRecDepth 100000 in
theorem st_36 {l : Launch} {D : va_G} {cA : Nat → ClassId} {b bs : Nat} {H : Heap} (hB : bw D b (lwE (lwG l D cA b bs) b) H) : va_at D vwCl (b + 36, am_ce (lwG l D cA b bs) s0 36) H := hB.2 36 _ rfl
set_option maxRecDepth 100000 in
theorem st_37 {l : Launch} {D : va_G} {cA : Nat → ClassId} {b bs : Nat} {H : Heap} (hB : bw D b (lwE (lwG l D cA b bs) b) H) : va_at D vwCl (b + 37, am_ce (lwG l D cA b bs) s0 37) H := hB.2 37 _ rfl
set_option maxRecDepth 100000 in
theorem st_38 {l : Launch} {D : va_G} {cA : Nat → ClassId} {b bs : Nat} {H : Heap} (hB : bw D b (lwE (lwG l D cA b bs) b) H) : va_at D vwCl (b + 38, am_ce (lwG l D cA b bs) s0 38) H := hB.2 38 _ rfl
set_option maxRecDepth 100000 in
theorem st_39 {l : Launch} {D : va_G} {cA : Nat → ClassId} {b bs : Nat} {H : Heap} (hB : bw D b (lwE (lwG l D cA b bs) b) H) : va_at D vwCl (b + 39, am_ce (lwG l D cA b bs) s0 39) H := hB.2 39 _ rfl
set_option maxRecDepth 100000 in
theorem st_40 {l : Launch} {D : va_G} {cA : Nat → ClassId} {b bs : Nat} {H : Heap} (hB : bw D b (lwE (lwG l D cA b bs) b) H) : va_at D vwCl (b + 40, am_ce (lwG l D cA b bs) s0 40) H := hB.2 40 _ rfl
set_option maxRecDepth 100000 in
theorem st_41 {l : Launch} {D : va_G} {cA : Nat → ClassId} {b bs : Nat} {H : Heap} (hB : bw D b (lwE (lwG l D cA b bs) b) H) : va_at D vwCl (b + 41, am_ce (lwG l D cA b bs) s0 41) H := hB.2 41 _ rfl
set_option maxRecDepth 100000 in
theorem st_42 {l : Launch} {D : va_G} {cA : Nat → ClassId} {b bs : Nat} {H : Heap} (hB : bw D b (lwE (lwG l D cA b bs) b) H) : va_at D vwCl (b + 42, am_ce (lwG l D cA b bs) s0 42) H := hB.2 42 _ rfl
set_option maxRecDepth 100000 in
theorem st_43 {l : Launch} {D : va_G} {cA : Nat → ClassId} {b bs : Nat} {H : Heap} (hB : bw D b (lwE (lwG l D cA b bs) b) H) : va_at D vwCl (b + 43, am_ce (lwG l D cA b bs) s0 43) H :=
  at_refs (f' := fun j => some (am_ad (lwG l D cA b bs) (am_la 43 j))) (hB.2 43 _ rfl) (fun j hj => match j, hj with
    | 0, _ => rfl
    | 1, _ => rfl
    | 2, _ => rfl)
set_option maxRecDepth 100000 in
theorem st_44 {l : Launch} {D : va_G} {cA : Nat → ClassId} {b bs : Nat} {H : Heap} (hB : bw D b (lwE (lwG l D cA b bs) b) H) : va_at D vwCl (b + 44, am_ce (lwG l D cA b bs) s0 44) H := hB.2 44 _ rfl
set_option maxRecDepth 100000 in
theorem st_45 {l : Launch} {D : va_G} {cA : Nat → ClassId} {b bs : Nat} {H : Heap} (hB : bw D b (lwE (lwG l D cA b bs) b) H) : va_at D vwCl (b + 45, am_ce (lwG l D cA b bs) s0 45) H := hB.2 45 _ rfl
set_option maxRecDepth 100000 in
theorem st_46 {l : Launch} {D : va_G} {cA : Nat → ClassId} {b bs : Nat} {H : Heap} (hB : bw D b (lwE (lwG l D cA b bs) b) H) : va_at D vwCl (b + 46, am_ce (lwG l D cA b bs) s0 46) H := hB.2 46 _ rfl
set_option maxRecDepth 100000 in
theorem st_47 {l : Launch} {D : va_G} {cA : Nat → ClassId} {b bs : Nat} {H : Heap} (hB : bw D b (lwE (lwG l D cA b bs) b) H) : va_at D vwCl (b + 47, am_ce (lwG l D cA b bs) s0 47) H := hB.2 47 _ rfl
set_option maxRecDepth 100000 in
theorem st_48 {l : Launch} {D : va_G} {cA : Nat → ClassId} {b bs : Nat} {H : Heap} (hB : bw D b (lwE (lwG l D cA b bs) b) H) : va_at D vwCl (b + 48, am_ce (lwG l D cA b bs) s0 48) H := hB.2 48 _ rfl
set_option maxRecDepth 100000 in
theorem st_49 {l : Launch} {D : va_G} {cA : Nat → ClassId} {b bs : Nat} {H : Heap} (hB : bw D b (lwE (lwG l D cA b bs) b) H) : va_at D vwCl (b + 49, am_ce (lwG l D cA b bs) s0 49) H := hB.2 49 _ rfl
set_option maxRecDepth 100000 in
theorem st_50 {l : Launch} {D : va_G} {cA : Nat → ClassId} {b bs : Nat} {H : Heap} (hB : bw D b (lwE (lwG l D cA b bs) b) H) : va_at D vwCl (b + 50, am_ce (lwG l D cA b bs) s0 50) H := hB.2 50 _ rfl
set_option maxRecDepth 100000 in
theorem st_51 {l : Launch} {D : va_G} {cA : Nat → ClassId} {b bs : Nat} {H : Heap} (hB : bw D b (lwE (lwG l D cA b bs) b) H) : va_at D vwCl (b + 51, am_ce (lwG l D cA b bs) s0 51) H := hB.2 51 _ rfl
set_option maxRecDepth 100000 in
theorem st_52 {l : Launch} {D : va_G} {cA : Nat → ClassId} {b bs : Nat} {H : Heap} (hB : bw D b (lwE (lwG l D cA b bs) b) H) : va_at D vwCl (b + 52, am_ce (lwG l D cA b bs) s0 52) H := hB.2 52 _ rfl
set_option maxRecDepth 100000 in
theorem st_53 {l : Launch} {D : va_G} {cA : Nat → ClassId} {b bs : Nat} {H : Heap} (hB : bw D b (lwE (lwG l D cA b bs) b) H) : va_at D vwCl (b + 53, am_ce (lwG l D cA b bs) s0 53) H := hB.2 53 _ rfl
set_option maxRecDepth 100000 in
theorem st_54 {l : Launch} {D : va_G} {cA : Nat → ClassId} {b bs : Nat} {H : Heap} (hB : bw D b (lwE (lwG l D cA b bs) b) H) : va_at D vwCl (b + 54, am_ce (lwG l D cA b bs) s0 54) H := hB.2 54 _ rfl
set_option maxRecDepth 100000 in
theorem st_55 {l : Launch} {D : va_G} {cA : Nat → ClassId} {b bs : Nat} {H : Heap} (hB : bw D b (lwE (lwG l D cA b bs) b) H) : va_at D vwCl (b + 55, am_ce (lwG l D cA b bs) s0 55) H := hB.2 55 _ rfl
set_option maxRecDepth 100000 in
theorem st_56 {l : Launch} {D : va_G} {cA : Nat → ClassId} {b bs : Nat} {H : Heap} (hB : bw D b (lwE (lwG l D cA b bs) b) H) : va_at D vwCl (b + 56, am_ce (lwG l D cA b bs) s0 56) H := hB.2 56 _ rfl
set_option maxRecDepth 100000 in
theorem st_57 {l : Launch} {D : va_G} {cA : Nat → ClassId} {b bs : Nat} {H : Heap} (hB : bw D b (lwE (lwG l D cA b bs) b) H) : va_at D vwCl (b + 57, am_ce (lwG l D cA b bs) s0 57) H := hB.2 57 _ rfl
set_option maxRecDepth 100000 in
theorem st_58 {l : Launch} {D : va_G} {cA : Nat → ClassId} {b bs : Nat} {H : Heap} (hB : bw D b (lwE (lwG l D cA b bs) b) H) : va_at D vwCl (b + 58, am_ce (lwG l D cA b bs) s0 58) H := hB.2 58 _ rfl
set_option maxRecDepth 100000 in
theorem st_59 {l : Launch} {D : va_G} {cA : Nat → ClassId} {b bs : Nat} {H : Heap} (hB : bw D b (lwE (lwG l D cA b bs) b) H) : va_at D vwCl (b + 59, am_ce (lwG l D cA b bs) s0 59) H := hB.2 59 _ rfl
set_option maxRecDepth 100000 in
theorem st_60 {l : Launch} {D : va_G} {cA : Nat → ClassId} {b bs : Nat} {H : Heap} (hB : bw D b (lwE (lwG l D cA b bs) b) H) : va_at D vwCl (b + 60, am_ce (lwG l D cA b bs) s0 60) H := hB.2 60 _ rfl
set_option maxRecDepth 100000 in
theorem st_61 {l : Launch} {D : va_G} {cA : Nat → ClassId} {b bs : Nat} {H : Heap} (hB : bw D b (lwE (lwG l D cA b bs) b) H) : va_at D vwCl (b + 61, am_ce (lwG l D cA b bs) s0 61) H := hB.2 61 _ rfl
set_option maxRecDepth 100000 in
theorem st_62 {l : Launch} {D : va_G} {cA : Nat → ClassId} {b bs : Nat} {H : Heap} (hB : bw D b (lwE (lwG l D cA b bs) b) H) : va_at D vwCl (b + 62, am_ce (lwG l D cA b bs) s0 62) H := hB.2 62 _ rfl
set_option maxRecDepth 100000 in
theorem st_63 {l : Launch} {D : va_G} {cA : Nat → ClassId} {b bs : Nat} {H : Heap} (hB : bw D b (lwE (lwG l D cA b bs) b) H) : va_at D vwCl (b + 63, am_ce (lwG l D cA b bs) s0 63) H := hB.2 63 _ rfl
set_option maxRecDepth 100000 in
theorem st_64 {l : Launch} {D : va_G} {cA : Nat → ClassId} {b bs : Nat} {H : Heap} (hB : bw D b (lwE (lwG l D cA b bs) b) H) : va_at D vwCl (b + 64, am_ce (lwG l D cA b bs) s0 64) H := hB.2 64 _ rfl
set_option maxRecDepth 100000 in
theorem st_65 {l : Launch} {D : va_G} {cA : Nat → ClassId} {b bs : Nat} {H : Heap} (hB : bw D b (lwE (lwG l D cA b bs) b) H) : va_at D vwCl (b + 65, am_ce (lwG l D cA b bs) s0 65) H := hB.2 65 _ rfl
set_option maxRecDepth 100000 in
theorem st_66 {l : Launch} {D : va_G} {cA : Nat → ClassId} {b bs : Nat} {H : Heap} (hB : bw D b (lwE (lwG l D cA b bs) b) H) : va_at D vwCl (b + 66, am_ce (lwG l D cA b bs) s0 66) H := hB.2 66 _ rfl
set_option maxRecDepth 100000 in
theorem st_67 {l : Launch} {D : va_G} {cA : Nat → ClassId} {b bs : Nat} {H : Heap} (hB : bw D b (lwE (lwG l D cA b bs) b) H) : va_at D vwCl (b + 67, am_ce (lwG l D cA b bs) s0 67) H := hB.2 67 _ rfl
set_option maxRecDepth 100000 in
theorem st_68 {l : Launch} {D : va_G} {cA : Nat → ClassId} {b bs : Nat} {H : Heap} (hB : bw D b (lwE (lwG l D cA b bs) b) H) : va_at D vwCl (b + 68, am_ce (lwG l D cA b bs) s0 68) H := hB.2 68 _ rfl
set_option maxRecDepth 100000 in
theorem st_69 {l : Launch} {D : va_G} {cA : Nat → ClassId} {b bs : Nat} {H : Heap} (hB : bw D b (lwE (lwG l D cA b bs) b) H) : va_at D vwCl (b + 69, am_ce (lwG l D cA b bs) s0 69) H := hB.2 69 _ rfl
set_option maxRecDepth 100000 in
theorem st_70 {l : Launch} {D : va_G} {cA : Nat → ClassId} {b bs : Nat} {H : Heap} (hB : bw D b (lwE (lwG l D cA b bs) b) H) : va_at D vwCl (b + 70, am_ce (lwG l D cA b bs) s0 70) H := hB.2 70 _ rfl
set_option maxRecDepth 100000 in
theorem st_71 {l : Launch} {D : va_G} {cA : Nat → ClassId} {b bs : Nat} {H : Heap} (hB : bw D b (lwE (lwG l D cA b bs) b) H) : va_at D vwCl (b + 71, am_ce (lwG l D cA b bs) s0 71) H := hB.2 71 _ rfl
set_option maxRecDepth 100000 in
theorem st_72 {l : Launch} {D : va_G} {cA : Nat → ClassId} {b bs : Nat} {H : Heap} (hB : bw D b (lwE (lwG l D cA b bs) b) H) : va_at D vwCl (b + 72, am_ce (lwG l D cA b bs) s0 72) H := hB.2 72 _ rfl
set_option maxRecDepth 100000 in
theorem st_73 {l : Launch} {D : va_G} {cA : Nat → ClassId} {b bs : Nat} {H : Heap} (hB : bw D b (lwE (lwG l D cA b bs) b) H) : va_at D vwCl (b + 73, am_ce (lwG l D cA b bs) s0 73) H := hB.2 73 _ rfl
set_option maxRecDepth 100000 in
theorem st_74 {l : Launch} {D : va_G} {cA : Nat → ClassId} {b bs : Nat} {H : Heap} (hB : bw D b (lwE (lwG l D cA b bs) b) H) : va_at D vwCl (b + 74, am_ce (lwG l D cA b bs) s0 74) H := hB.2 74 _ rfl
set_option maxRecDepth 100000 in
theorem st_75 {l : Launch} {D : va_G} {cA : Nat → ClassId} {b bs : Nat} {H : Heap} (hB : bw D b (lwE (lwG l D cA b bs) b) H) : va_at D vwCl (b + 75, am_ce (lwG l D cA b bs) s0 75) H := hB.2 75 _ rfl
set_option maxRecDepth 100000 in
theorem st_76 {l : Launch} {D : va_G} {cA : Nat → ClassId} {b bs : Nat} {H : Heap} (hB : bw D b (lwE (lwG l D cA b bs) b) H) : va_at D vwCl (b + 76, am_ce (lwG l D cA b bs) s0 76) H := hB.2 76 _ rfl
set_option maxRecDepth 100000 in
theorem st_77 {l : Launch} {D : va_G} {cA : Nat → ClassId} {b bs : Nat} {H : Heap} (hB : bw D b (lwE (lwG l D cA b bs) b) H) : va_at D vwCl (b + 77, am_ce (lwG l D cA b bs) s0 77) H := hB.2 77 _ rfl
set_option maxRecDepth 100000 in
theorem st_78 {l : Launch} {D : va_G} {cA : Nat → ClassId} {b bs : Nat} {H : Heap} (hB : bw D b (lwE (lwG l D cA b bs) b) H) : va_at D vwCl (b + 78, am_ce (lwG l D cA b bs) s0 78) H := hB.2 78 _ rfl
set_option maxRecDepth 100000 in
theorem st_79 {l : Launch} {D : va_G} {cA : Nat → ClassId} {b bs : Nat} {H : Heap} (hB : bw D b (lwE (lwG l D cA b bs) b) H) : va_at D vwCl (b + 79, am_ce (lwG l D cA b bs) s0 79) H := hB.2 79 _ rfl
set_option maxRecDepth 100000 in
theorem st_80 {l : Launch} {D : va_G} {cA : Nat → ClassId} {b bs : Nat} {H : Heap} (hB : bw D b (lwE (lwG l D cA b bs) b) H) : va_at D vwCl (b + 80, am_ce (lwG l D cA b bs) s0 80) H := hB.2 80 _ rfl
set_option maxRecDepth 100000 in
theorem st_81 {l : Launch} {D : va_G} {cA : Nat → ClassId} {b bs : Nat} {H : Heap} (hB : bw D b (lwE (lwG l D cA b bs) b) H) : va_at D vwCl (b + 81, am_ce (lwG l D cA b bs) s0 81) H := hB.2 81 _ rfl
set_option maxRecDepth 100000 in
theorem st_82 {l : Launch} {D : va_G} {cA : Nat → ClassId} {b bs : Nat} {H : Heap} (hB : bw D b (lwE (lwG l D cA b bs) b) H) : va_at D vwCl (b + 82, am_ce (lwG l D cA b bs) s0 82) H := hB.2 82 _ rfl
set_option maxRecDepth 100000 in
theorem st_83 {l : Launch} {D : va_G} {cA : Nat → ClassId} {b bs : Nat} {H : Heap} (hB : bw D b (lwE (lwG l D cA b bs) b) H) : va_at D vwCl (b + 83, am_ce (lwG l D cA b bs) s0 83) H := hB.2 83 _ rfl
set_option maxRecDepth 100000 in
theorem st_84 {l : Launch} {D : va_G} {cA : Nat → ClassId} {b bs : Nat} {H : Heap} (hB : bw D b (lwE (lwG l D cA b bs) b) H) : va_at D vwCl (b + 84, am_ce (lwG l D cA b bs) s0 84) H := hB.2 84 _ rfl
set_option maxRecDepth 100000 in
theorem st_85 {l : Launch} {D : va_G} {cA : Nat → ClassId} {b bs : Nat} {H : Heap} (hB : bw D b (lwE (lwG l D cA b bs) b) H) : va_at D vwCl (b + 85, am_ce (lwG l D cA b bs) s0 85) H := hB.2 85 _ rfl
set_option maxRecDepth 100000 in
theorem st_86 {l : Launch} {D : va_G} {cA : Nat → ClassId} {b bs : Nat} {H : Heap} (hB : bw D b (lwE (lwG l D cA b bs) b) H) : va_at D vwCl (b + 86, am_ce (lwG l D cA b bs) s0 86) H := hB.2 86 _ rfl
set_option maxRecDepth 100000 in
theorem st_87 {l : Launch} {D : va_G} {cA : Nat → ClassId} {b bs : Nat} {H : Heap} (hB : bw D b (lwE (lwG l D cA b bs) b) H) : va_at D vwCl (b + 87, am_ce (lwG l D cA b bs) s0 87) H := hB.2 87 _ rfl
set_option maxRecDepth 100000 in
theorem st_88 {l : Launch} {D : va_G} {cA : Nat → ClassId} {b bs : Nat} {H : Heap} (hB : bw D b (lwE (lwG l D cA b bs) b) H) : va_at D vwCl (b + 88, am_ce (lwG l D cA b bs) s0 88) H := hB.2 88 _ rfl
set_option maxRecDepth 100000 in
theorem st_89 {l : Launch} {D : va_G} {cA : Nat → ClassId} {b bs : Nat} {H : Heap} (hB : bw D b (lwE (lwG l D cA b bs) b) H) : va_at D vwCl (b + 89, am_ce (lwG l D cA b bs) s0 89) H := hB.2 89 _ rfl
set_option maxRecDepth 100000 in
theorem st_90 {l : Launch} {D : va_G} {cA : Nat → ClassId} {b bs : Nat} {H : Heap} (hB : bw D b (lwE (lwG l D cA b bs) b) H) : va_at D vwCl (b + 90, am_ce (lwG l D cA b bs) s0 90) H := hB.2 90 _ rfl
set_option maxRecDepth 100000 in
theorem st_91 {l : Launch} {D : va_G} {cA : Nat → ClassId} {b bs : Nat} {H : Heap} (hB : bw D b (lwE (lwG l D cA b bs) b) H) : va_at D vwCl (b + 91, am_ce (lwG l D cA b bs) s0 91) H := hB.2 91 _ rfl
set_option maxRecDepth 100000 in
theorem st_92 {l : Launch} {D : va_G} {cA : Nat → ClassId} {b bs : Nat} {H : Heap} (hB : bw D b (lwE (lwG l D cA b bs) b) H) : va_at D vwCl (b + 92, am_ce (lwG l D cA b bs) s0 92) H := hB.2 92 _ rfl
set_option maxRecDepth 100000 in
theorem st_93 {l : Launch} {D : va_G} {cA : Nat → ClassId} {b bs : Nat} {H : Heap} (hB : bw D b (lwE (lwG l D cA b bs) b) H) : va_at D vwCl (b + 93, am_ce (lwG l D cA b bs) s0 93) H := hB.2 93 _ rfl
set_option maxRecDepth 100000 in
theorem st_94 {l : Launch} {D : va_G} {cA : Nat → ClassId} {b bs : Nat} {H : Heap} (hB : bw D b (lwE (lwG l D cA b bs) b) H) : va_at D vwCl (b + 94, am_ce (lwG l D cA b bs) s0 94) H := hB.2 94 _ rfl
set_option maxRecDepth 100000 in
theorem st_95 {l : Launch} {D : va_G} {cA : Nat → ClassId} {b bs : Nat} {H : Heap} (hB : bw D b (lwE (lwG l D cA b bs) b) H) : va_at D vwCl (b + 95, am_ce (lwG l D cA b bs) s0 95) H := hB.2 95 _ rfl
set_option maxRecDepth 100000 in
theorem st_96 {l : Launch} {D : va_G} {cA : Nat → ClassId} {b bs : Nat} {H : Heap} (hB : bw D b (lwE (lwG l D cA b bs) b) H) : va_at D vwCl (b + 96, am_ce (lwG l D cA b bs) s0 96) H := hB.2 96 _ rfl
set_option maxRecDepth 100000 in
theorem st_97 {l : Launch} {D : va_G} {cA : Nat → ClassId} {b bs : Nat} {H : Heap} (hB : bw D b (lwE (lwG l D cA b bs) b) H) : va_at D vwCl (b + 97, am_ce (lwG l D cA b bs) s0 97) H := hB.2 97 _ rfl
set_option maxRecDepth 100000 in
theorem st_98 {l : Launch} {D : va_G} {cA : Nat → ClassId} {b bs : Nat} {H : Heap} (hB : bw D b (lwE (lwG l D cA b bs) b) H) : va_at D vwCl (b + 98, am_ce (lwG l D cA b bs) s0 98) H := hB.2 98 _ rfl
set_option maxRecDepth 100000 in
theorem st_99 {l : Launch} {D : va_G} {cA : Nat → ClassId} {b bs : Nat} {H : Heap} (hB : bw D b (lwE (lwG l D cA b bs) b) H) : va_at D vwCl (b + 99, am_ce (lwG l D cA b bs) s0 99) H := hB.2 99 _ rfl
set_option maxRecDepth 100000 in
theorem st_100 {l : Launch} {D : va_G} {cA : Nat → ClassId} {b bs : Nat} {H : Heap} (hB : bw D b (lwE (lwG l D cA b bs) b) H) : va_at D vwCl (b + 100, am_ce (lwG l D cA b bs) s0 100) H := hB.2 100 _ rfl
set_option maxRecDepth 100000 in
theorem st_101 {l : Launch} {D : va_G} {cA : Nat → ClassId} {b bs : Nat} {H : Heap} (hB : bw D b (lwE (lwG l D cA b bs) b) H) : va_at D vwCl (b + 101, am_ce (lwG l D cA b bs) s0 101) H := hB.2 101 _ rfl
set_option maxRecDepth 100000 in
theorem st_102 {l : Launch} {D : va_G} {cA : Nat → ClassId} {b bs : Nat} {H : Heap} (hB : bw D b (lwE (lwG l D cA b bs) b) H) : va_at D vwCl (b + 102, am_ce (lwG l D cA b bs) s0 102) H := hB.2 102 _ rfl
set_option maxRecDepth 100000 in
theorem st_103 {l : Launch} {D : va_G} {cA : Nat → ClassId} {b bs : Nat} {H : Heap} (hB : bw D b (lwE (lwG l D cA b bs) b) H) : va_at D vwCl (b + 103, am_ce (lwG l D cA b bs) s0 103) H := hB.2 103 _ rfl
set_option maxRecDepth 100000 in
theorem st_104 {l : Launch} {D : va_G} {cA : Nat → ClassId} {b bs : Nat} {H : Heap} (hB : bw D b (lwE (lwG l D cA b bs) b) H) : va_at D vwCl (b + 104, am_ce (lwG l D cA b bs) s0 104) H := hB.2 104 _ rfl
set_option maxRecDepth 100000 in
theorem st_105 {l : Launch} {D : va_G} {cA : Nat → ClassId} {b bs : Nat} {H : Heap} (hB : bw D b (lwE (lwG l D cA b bs) b) H) : va_at D vwCl (b + 105, am_ce (lwG l D cA b bs) s0 105) H := hB.2 105 _ rfl
set_option maxRecDepth 100000 in
theorem st_106 {l : Launch} {D : va_G} {cA : Nat → ClassId} {b bs : Nat} {H : Heap} (hB : bw D b (lwE (lwG l D cA b bs) b) H) : va_at D vwCl (b + 106, am_ce (lwG l D cA b bs) s0 106) H := hB.2 106 _ rfl
set_option maxRecDepth 100000 in
theorem st_107 {l : Launch} {D : va_G} {cA : Nat → ClassId} {b bs : Nat} {H : Heap} (hB : bw D b (lwE (lwG l D cA b bs) b) H) : va_at D vwCl (b + 107, am_ce (lwG l D cA b bs) s0 107) H := hB.2 107 _ rfl
set_option maxRecDepth 100000 in
theorem st_108 {l : Launch} {D : va_G} {cA : Nat → ClassId} {b bs : Nat} {H : Heap} (hB : bw D b (lwE (lwG l D cA b bs) b) H) : va_at D vwCl (b + 108, am_ce (lwG l D cA b bs) s0 108) H := hB.2 108 _ rfl
set_option maxRecDepth 100000 in
theorem st_109 {l : Launch} {D : va_G} {cA : Nat → ClassId} {b bs : Nat} {H : Heap} (hB : bw D b (lwE (lwG l D cA b bs) b) H) : va_at D vwCl (b + 109, am_ce (lwG l D cA b bs) s0 109) H := hB.2 109 _ rfl
set_option maxRecDepth 100000 in
theorem st_110 {l : Launch} {D : va_G} {cA : Nat → ClassId} {b bs : Nat} {H : Heap} (hB : bw D b (lwE (lwG l D cA b bs) b) H) : va_at D vwCl (b + 110, am_ce (lwG l D cA b bs) s0 110) H := hB.2 110 _ rfl
set_option maxRecDepth 100000 in
theorem st_111 {l : Launch} {D : va_G} {cA : Nat → ClassId} {b bs : Nat} {H : Heap} (hB : bw D b (lwE (lwG l D cA b bs) b) H) : va_at D vwCl (b + 111, am_ce (lwG l D cA b bs) s0 111) H := hB.2 111 _ rfl
set_option maxRecDepth 100000 in
theorem st_112 {l : Launch} {D : va_G} {cA : Nat → ClassId} {b bs : Nat} {H : Heap} (hB : bw D b (lwE (lwG l D cA b bs) b) H) : va_at D vwCl (b + 112, am_ce (lwG l D cA b bs) s0 112) H := hB.2 112 _ rfl
set_option maxRecDepth 100000 in
theorem st_113 {l : Launch} {D : va_G} {cA : Nat → ClassId} {b bs : Nat} {H : Heap} (hB : bw D b (lwE (lwG l D cA b bs) b) H) : va_at D vwCl (b + 113, am_ce (lwG l D cA b bs) s0 113) H := hB.2 113 _ rfl
set_option maxRecDepth 100000 in
theorem st_114 {l : Launch} {D : va_G} {cA : Nat → ClassId} {b bs : Nat} {H : Heap} (hB : bw D b (lwE (lwG l D cA b bs) b) H) : va_at D vwCl (b + 114, am_ce (lwG l D cA b bs) s0 114) H := hB.2 114 _ rfl
set_option maxRecDepth 100000 in
theorem st_115 {l : Launch} {D : va_G} {cA : Nat → ClassId} {b bs : Nat} {H : Heap} (hB : bw D b (lwE (lwG l D cA b bs) b) H) : va_at D vwCl (b + 115, am_ce (lwG l D cA b bs) s0 115) H := hB.2 115 _ rfl
set_option maxRecDepth 100000 in
theorem st_116 {l : Launch} {D : va_G} {cA : Nat → ClassId} {b bs : Nat} {H : Heap} (hB : bw D b (lwE (lwG l D cA b bs) b) H) : va_at D vwCl (b + 116, am_ce (lwG l D cA b bs) s0 116) H := hB.2 116 _ rfl
set_option maxRecDepth 100000 in
theorem st_117 {l : Launch} {D : va_G} {cA : Nat → ClassId} {b bs : Nat} {H : Heap} (hB : bw D b (lwE (lwG l D cA b bs) b) H) : va_at D vwCl (b + 117, am_ce (lwG l D cA b bs) s0 117) H := hB.2 117 _ rfl
set_option maxRecDepth 100000 in
theorem st_118 {l : Launch} {D : va_G} {cA : Nat → ClassId} {b bs : Nat} {H : Heap} (hB : bw D b (lwE (lwG l D cA b bs) b) H) : va_at D vwCl (b + 118, am_ce (lwG l D cA b bs) s0 118) H := hB.2 118 _ rfl
set_option maxRecDepth 100000 in
theorem st_119 {l : Launch} {D : va_G} {cA : Nat → ClassId} {b bs : Nat} {H : Heap} (hB : bw D b (lwE (lwG l D cA b bs) b) H) : va_at D vwCl (b + 119, am_ce (lwG l D cA b bs) s0 119) H := hB.2 119 _ rfl
set_option maxRecDepth 100000 in
theorem st_120 {l : Launch} {D : va_G} {cA : Nat → ClassId} {b bs : Nat} {H : Heap} (hB : bw D b (lwE (lwG l D cA b bs) b) H) : va_at D vwCl (b + 120, am_ce (lwG l D cA b bs) s0 120) H := hB.2 120 _ rfl
set_option maxRecDepth 100000 in
theorem st_121 {l : Launch} {D : va_G} {cA : Nat → ClassId} {b bs : Nat} {H : Heap} (hB : bw D b (lwE (lwG l D cA b bs) b) H) : va_at D vwCl (b + 121, am_ce (lwG l D cA b bs) s0 121) H := hB.2 121 _ rfl
set_option maxRecDepth 100000 in
theorem st_122 {l : Launch} {D : va_G} {cA : Nat → ClassId} {b bs : Nat} {H : Heap} (hB : bw D b (lwE (lwG l D cA b bs) b) H) : va_at D vwCl (b + 122, am_ce (lwG l D cA b bs) s0 122) H := hB.2 122 _ rfl
set_option maxRecDepth 100000 in
theorem st_123 {l : Launch} {D : va_G} {cA : Nat → ClassId} {b bs : Nat} {H : Heap} (hB : bw D b (lwE (lwG l D cA b bs) b) H) : va_at D vwCl (b + 123, am_ce (lwG l D cA b bs) s0 123) H := hB.2 123 _ rfl
set_option maxRecDepth 100000 in
theorem st_124 {l : Launch} {D : va_G} {cA : Nat → ClassId} {b bs : Nat} {H : Heap} (hB : bw D b (lwE (lwG l D cA b bs) b) H) : va_at D vwCl (b + 124, am_ce (lwG l D cA b bs) s0 124) H := hB.2 124 _ rfl
set_option maxRecDepth 100000 in
theorem st_125 {l : Launch} {D : va_G} {cA : Nat → ClassId} {b bs : Nat} {H : Heap} (hB : bw D b (lwE (lwG l D cA b bs) b) H) : va_at D vwCl (b + 125, am_ce (lwG l D cA b bs) s0 125) H := hB.2 125 _ rfl
set_option maxRecDepth 100000 in
theorem st_126 {l : Launch} {D : va_G} {cA : Nat → ClassId} {b bs : Nat} {H : Heap} (hB : bw D b (lwE (lwG l D cA b bs) b) H) : va_at D vwCl (b + 126, am_ce (lwG l D cA b bs) s0 126) H := hB.2 126 _ rfl
set_option maxRecDepth 100000 in
theorem st_127 {l : Launch} {D : va_G} {cA : Nat → ClassId} {b bs : Nat} {H : Heap} (hB : bw D b (lwE (lwG l D cA b bs) b) H) : va_at D vwCl (b + 127, am_ce (lwG l D cA b bs) s0 127) H := hB.2 127 _ rfl
set_option maxRecDepth 100000 in
theorem st_128 {l : Launch} {D : va_G} {cA : Nat → ClassId} {b bs : Nat} {H : Heap} (hB : bw D b (lwE (lwG l D cA b bs) b) H) : va_at D vwCl (b + 128, am_ce (lwG l D cA b bs) s0 128) H := hB.2 128 _ rfl
set_option maxRecDepth 100000 in
theorem st_129 {l : Launch} {D : va_G} {cA : Nat → ClassId} {b bs : Nat} {H : Heap} (hB : bw D b (lwE (lwG l D cA b bs) b) H) : va_at D vwCl (b + 129, am_ce (lwG l D cA b bs) s0 129) H := hB.2 129 _ rfl
set_option maxRecDepth 100000 in
theorem st_130 {l : Launch} {D : va_G} {cA : Nat → ClassId} {b bs : Nat} {H : Heap} (hB : bw D b (lwE (lwG l D cA b bs) b) H) : va_at D vwCl (b + 130, am_ce (lwG l D cA b bs) s0 130) H := hB.2 130 _ rfl
set_option maxRecDepth 100000 in
theorem st_131 {l : Launch} {D : va_G} {cA : Nat → ClassId} {b bs : Nat} {H : Heap} (hB : bw D b (lwE (lwG l D cA b bs) b) H) : va_at D vwCl (b + 131, am_ce (lwG l D cA b bs) s0 131) H := hB.2 131 _ rfl
set_option maxRecDepth 100000 in
theorem st_132 {l : Launch} {D : va_G} {cA : Nat → ClassId} {b bs : Nat} {H : Heap} (hB : bw D b (lwE (lwG l D cA b bs) b) H) : va_at D vwCl (b + 132, am_ce (lwG l D cA b bs) s0 132) H := hB.2 132 _ rfl
set_option maxRecDepth 100000 in
theorem st_133 {l : Launch} {D : va_G} {cA : Nat → ClassId} {b bs : Nat} {H : Heap} (hB : bw D b (lwE (lwG l D cA b bs) b) H) : va_at D vwCl (b + 133, am_ce (lwG l D cA b bs) s0 133) H := hB.2 133 _ rfl
set_option maxRecDepth 100000 in
theorem st_134 {l : Launch} {D : va_G} {cA : Nat → ClassId} {b bs : Nat} {H : Heap} (hB : bw D b (lwE (lwG l D cA b bs) b) H) : va_at D vwCl (b + 134, am_ce (lwG l D cA b bs) s0 134) H := hB.2 134 _ rfl
set_option maxRecDepth 100000 in
theorem st_135 {l : Launch} {D : va_G} {cA : Nat → ClassId} {b bs : Nat} {H : Heap} (hB : bw D b (lwE (lwG l D cA b bs) b) H) : va_at D vwCl (b + 135, am_ce (lwG l D cA b bs) s0 135) H := hB.2 135 _ rfl
