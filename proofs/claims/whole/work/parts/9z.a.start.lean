/-! the memory that the constructors leave, and that it is a kept pair -/
def s0I (h : Nat) : Nat → Int32 := if h = 3 then (fun k => if k = 10 ∨ k = 11 then -1 else 0) else if h = 10 ∨ h = 27 ∨ h = 54 ∨ h = 73 ∨ h = 90 ∨ h = 107 then (fun k => if k = 6 then 4 else 0) else if h = 50 then (fun k => if k = 2 ∨ k = 3 then -1 else 0) else if h = 123 then (fun k => if k = 10 ∨ k = 11 then -1 else 0) else if h = 125 then upd (upd (upd (upd (fun _ => 0) 0 (-1)) 1 (-1)) 2 (-1)) 3 (-1) else if h = 128 then upd (fun _ => 0) 0 4 else fun _ => 0
def s0L (h : Nat) : Nat → Int64 := if h = 0 then (fun k => if k = 2 then 1 else 0) else if h = 4 then rdF else if h = 123 then (fun k => if k = 3 then 1 else 0) else fun _ => 0
def s0 : am_M := (s0I, s0L)
theorem s0_z {h : Nat} (k : Nat) (hh : h ≠ 3 ∧ h ≠ 10 ∧ h ≠ 27 ∧ h ≠ 54 ∧ h ≠ 73 ∧ h ≠ 90 ∧ h ≠ 107 ∧ h ≠ 50 ∧ h ≠ 123 ∧ h ≠ 125 ∧ h ≠ 128) : s0.1 h k = nI 0 := by
  obtain ⟨a1, a2, a3, a4, a5, a6, a7, a8, a9, a10, a11⟩ := hh
  show s0I h k = _
  unfold s0I
  rw [if_neg a1, if_neg (by simp only [a2, a3, a4, a5, a6, a7, or_self, not_false_eq_true]), if_neg a8, if_neg a9, if_neg a10, if_neg a11]
  rfl
theorem s0_128 (k : Nat) : s0.1 128 k = if k = 0 then nI 4 else nI 0 := by
  show s0I 128 k = _
  by_cases h : k = 0
  · subst h; rfl
  · rw [if_neg h]
    show upd (fun _ => 0) 0 4 k = _
    unfold upd
    rw [if_neg h]
    rfl
theorem rdF_ok : ∀ i, i < 23 → rdF i = lN (keyR 27 (KWs.getD i [])) := by decide +kernel
theorem s0L_4 : s0L 4 = rdF := by
  generalize hr : rdF = r
  unfold s0L
  rw [hr, if_neg (by decide), if_pos rfl]
theorem s0_2 : s0.2 = s0L := rfl
theorem s0_4k (i : Nat) (hi : i < 23) : s0.2 4 i = lN (keyR 27 (KWs.getD i [])) := by
  rw [s0_2, s0L_4]
  exact rdF_ok i hi
theorem VG_s0 : VG s0 9 V0 := by
  refine ⟨⟨rfl, rfl, rfl, rfl, rfl, rfl⟩, ⟨fun p hp => s0_z p (by decide), fun p hp k c h => absurd (show ([] : List Nat)[k]? = some c from h) (by simp), ⟨0, rfl, rfl, by decide, fun k c h => absurd (show ([] : List Nat)[k]? = some c from h) (by simp)⟩, fun s hs => s0_z s (by decide)⟩, ⟨rfl, rfl, fun f hf => absurd hf (Nat.not_lt_zero _)⟩⟩
theorem MC_s0 : MC (s0.1 128) 0 V0 := by
  refine ⟨fun k hk => ?_, ⟨?_, fun k c h => absurd (show ([] : List Nat)[k]? = some c from h) (by simp)⟩, ⟨?_, fun k c h => absurd (show ([] : List Nat)[k]? = some c from h) (by simp)⟩, fun s hs => ?_, fun p hp => ⟨?_, fun k c h => absurd (show ([] : List Nat)[k]? = some c from h) (by simp)⟩, fun w i hw hi => absurd hi (Nat.not_lt_zero _)⟩
  · rw [s0_128]
    by_cases h : k = 0
    · subst h; rfl
    · rw [if_neg (by omega)]
      show nI 0 = nI (if k = 0 then 4 else 0)
      rw [if_neg h]
  · rw [s0_128]; rfl
  · rw [s0_128]; rfl
  · rw [s0_128, if_neg (by omega)]; rfl
  · rw [s0_128, if_neg (by omega)]; rfl
theorem Inv_s0 : Inv s0 s0 := by
  refine ⟨V0, rfl, ⟨rfl, rfl⟩, fun j hj => Or.inl ?_, ⟨⟨0, fun _ => 0, by decide, rfl, rfl, fun _ => Nat.le_of_ble_eq_true rfl, fun j _ => ?_, fun j _ => ?_⟩, s0_4k⟩, ⟨rfl, rfl⟩, ⟨⟨VG_s0, WG_V0, MC_s0⟩, ⟨[], [], rfl, rfl, fun r h => absurd h List.not_mem_nil, fun r h => absurd h List.not_mem_nil, fun i r h => by simp at h, fun i r h => by simp at h, fun i r h => by simp at h, fun i r h => by simp at h⟩, Or.inl ⟨rfl, ?_⟩⟩, ⟨0, by decide, rfl, rfl, fun i hi => absurd hi (Nat.not_lt_zero _)⟩, ⟨false, rfl, rfl, fun h => by cases h⟩⟩
  · match j, hj with
    | 0, _ => exact ⟨rfl, by decide⟩
    | 1, _ => exact ⟨rfl, by decide⟩
    | 2, _ => exact ⟨rfl, by decide⟩
    | 3, _ => exact ⟨rfl, by decide⟩
  · exact (s0_z j (by decide)).trans (show nI 0 = bI 0 by decide)
  · exact (s0_z j (by decide)).trans (show nI 0 = bI 0 by decide)
  · rw [s0_128]; rfl
