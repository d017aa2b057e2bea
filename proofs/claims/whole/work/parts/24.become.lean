theorem c_become_15_7 {I : I2} {J : J2} : CT mX0_become 2 58 58 [.ref 15, .ref 7] I J RF (RVP RF (fun I1 J1 => J1 = J ∧ Cq 8 6 (cOf I1 15) (cOf I 7) ∧ Fr 15 I I1)) := by
  refine CT_of okX0_become (Nat.le_of_ble_eq_true rfl) ?_
  show V _ _ _ _ _ _ [(0, _), (1, _)] _ _ _ _ _
  refine V_go 27 rfl ?_
  refine V_copy (wl1 := 675) (wn := 677) (ws9 := 676) (wi1 := 125) rfl (by decide +kernel) (by decide +kernel) (by decide +kernel) (by decide +kernel) (Nat.le_of_ble_eq_true rfl) (Nat.le_of_ble_eq_true rfl) rfl rfl (Nat.le_of_ble_eq_true rfl) (Nat.le_of_ble_eq_true rfl) (by decide) (by decide) (by decide) (by decide) (by decide) ?_
  refine V_go 7 rfl ?_
  refine V_copy (wl1 := 675) (wn := 677) (ws9 := 676) (wi1 := 125) rfl (by decide +kernel) (by decide +kernel) (by decide +kernel) (by decide +kernel) (Nat.le_of_ble_eq_true rfl) (Nat.le_of_ble_eq_true rfl) rfl rfl (Nat.le_of_ble_eq_true rfl) (Nat.le_of_ble_eq_true rfl) (by decide) (by decide) (by decide) (by decide) (by decide) ?_
  refine V_go 7 rfl ?_
  refine V_copy (wl1 := 675) (wn := 677) (ws9 := 676) (wi1 := 125) rfl (by decide +kernel) (by decide +kernel) (by decide +kernel) (by decide +kernel) (Nat.le_of_ble_eq_true rfl) (Nat.le_of_ble_eq_true rfl) rfl rfl (Nat.le_of_ble_eq_true rfl) (Nat.le_of_ble_eq_true rfl) (by decide) (by decide) (by decide) (by decide) (by decide) ?_
  refine V_go 7 rfl ?_
  refine V_copy (wl1 := 675) (wn := 677) (ws9 := 676) (wi1 := 125) rfl (by decide +kernel) (by decide +kernel) (by decide +kernel) (by decide +kernel) (Nat.le_of_ble_eq_true rfl) (Nat.le_of_ble_eq_true rfl) rfl rfl (Nat.le_of_ble_eq_true rfl) (Nat.le_of_ble_eq_true rfl) (by decide) (by decide) (by decide) (by decide) (by decide) ?_
  refine V_go 7 rfl ?_
  refine V_copy (wl1 := 675) (wn := 677) (ws9 := 676) (wi1 := 125) rfl (by decide +kernel) (by decide +kernel) (by decide +kernel) (by decide +kernel) (Nat.le_of_ble_eq_true rfl) (Nat.le_of_ble_eq_true rfl) rfl rfl (Nat.le_of_ble_eq_true rfl) (Nat.le_of_ble_eq_true rfl) (by decide) (by decide) (by decide) (by decide) (by decide) ?_
  refine V_go 7 rfl ?_
  refine V_copy (wl1 := 675) (wn := 677) (ws9 := 676) (wi1 := 125) rfl (by decide +kernel) (by decide +kernel) (by decide +kernel) (by decide +kernel) (Nat.le_of_ble_eq_true rfl) (Nat.le_of_ble_eq_true rfl) rfl rfl (Nat.le_of_ble_eq_true rfl) (Nat.le_of_ble_eq_true rfl) (by decide) (by decide) (by decide) (by decide) (by decide) ?_
  refine V_vret rfl rfl rfl ?_
  refine RVP.mk ⟨rfl, ⟨?_, ?_, ?_⟩, ?_⟩
  · intro j hj
    have : j = 0 ∨ j = 1 ∨ j = 2 ∨ j = 3 ∨ j = 4 := by omega
    rcases this with rfl | rfl | rfl | rfl | rfl <;> simp [cOf, up2_rd, row2_rd]
  · intro g j h1 h2 h3
    have : g = 1 ∨ g = 2 ∨ g = 3 := by omega
    rcases this with rfl | rfl | rfl <;> simp [cOf, up2_rd, row2_rd, va_cpy, h3, Int32.toNatClampNeg] <;> (intro h9; exact absurd h3 (Nat.not_lt.mpr h9))
  · intro g j h1 h2 h3
    have : g = 4 ∨ g = 5 ∨ g = 6 := by omega
    rcases this with rfl | rfl | rfl <;> simp [cOf, up2_rd, row2_rd, va_cpy, h3, Int32.toNatClampNeg] <;> (intro h9; exact absurd h3 (Nat.not_lt.mpr h9))
  · intro a h1 h2
    funext j
    simp only [up2_rd, row2_rd]
    simp (disch := omega) only [if_neg]
theorem c_become_23_7 {I : I2} {J : J2} : CT mX0_become 2 58 58 [.ref 23, .ref 7] I J RF (RVP RF (fun I1 J1 => J1 = J ∧ Cq 8 6 (cOf I1 23) (cOf I 7) ∧ Fr 23 I I1)) := by
  refine CT_of okX0_become (Nat.le_of_ble_eq_true rfl) ?_
  show V _ _ _ _ _ _ [(0, _), (1, _)] _ _ _ _ _
  refine V_go 27 rfl ?_
  refine V_copy (wl1 := 675) (wn := 677) (ws9 := 676) (wi1 := 125) rfl (by decide +kernel) (by decide +kernel) (by decide +kernel) (by decide +kernel) (Nat.le_of_ble_eq_true rfl) (Nat.le_of_ble_eq_true rfl) rfl rfl (Nat.le_of_ble_eq_true rfl) (Nat.le_of_ble_eq_true rfl) (by decide) (by decide) (by decide) (by decide) (by decide) ?_
  refine V_go 7 rfl ?_
  refine V_copy (wl1 := 675) (wn := 677) (ws9 := 676) (wi1 := 125) rfl (by decide +kernel) (by decide +kernel) (by decide +kernel) (by decide +kernel) (Nat.le_of_ble_eq_true rfl) (Nat.le_of_ble_eq_true rfl) rfl rfl (Nat.le_of_ble_eq_true rfl) (Nat.le_of_ble_eq_true rfl) (by decide) (by decide) (by decide) (by decide) (by decide) ?_
  refine V_go 7 rfl ?_
  refine V_copy (wl1 := 675) (wn := 677) (ws9 := 676) (wi1 := 125) rfl (by decide +kernel) (by decide +kernel) (by decide +kernel) (by decide +kernel) (Nat.le_of_ble_eq_true rfl) (Nat.le_of_ble_eq_true rfl) rfl rfl (Nat.le_of_ble_eq_true rfl) (Nat.le_of_ble_eq_true rfl) (by decide) (by decide) (by decide) (by decide) (by decide) ?_
  refine V_go 7 rfl ?_
  refine V_copy (wl1 := 675) (wn := 677) (ws9 := 676) (wi1 := 125) rfl (by decide +kernel) (by decide +kernel) (by decide +kernel) (by decide +kernel) (Nat.le_of_ble_eq_true rfl) (Nat.le_of_ble_eq_true rfl) rfl rfl (Nat.le_of_ble_eq_true rfl) (Nat.le_of_ble_eq_true rfl) (by decide) (by decide) (by decide) (by decide) (by decide) ?_
  refine V_go 7 rfl ?_
  refine V_copy (wl1 := 675) (wn := 677) (ws9 := 676) (wi1 := 125) rfl (by decide +kernel) (by decide +kernel) (by decide +kernel) (by decide +kernel) (Nat.le_of_ble_eq_true rfl) (Nat.le_of_ble_eq_true rfl) rfl rfl (Nat.le_of_ble_eq_true rfl) (Nat.le_of_ble_eq_true rfl) (by decide) (by decide) (by decide) (by decide) (by decide) ?_
  refine V_go 7 rfl ?_
  refine V_copy (wl1 := 675) (wn := 677) (ws9 := 676) (wi1 := 125) rfl (by decide +kernel) (by decide +kernel) (by decide +kernel) (by decide +kernel) (Nat.le_of_ble_eq_true rfl) (Nat.le_of_ble_eq_true rfl) rfl rfl (Nat.le_of_ble_eq_true rfl) (Nat.le_of_ble_eq_true rfl) (by decide) (by decide) (by decide) (by decide) (by decide) ?_
  refine V_vret rfl rfl rfl ?_
  refine RVP.mk ⟨rfl, ⟨?_, ?_, ?_⟩, ?_⟩
  · intro j hj
    have : j = 0 ∨ j = 1 ∨ j = 2 ∨ j = 3 ∨ j = 4 := by omega
    rcases this with rfl | rfl | rfl | rfl | rfl <;> simp [cOf, up2_rd, row2_rd]
  · intro g j h1 h2 h3
    have : g = 1 ∨ g = 2 ∨ g = 3 := by omega
    rcases this with rfl | rfl | rfl <;> simp [cOf, up2_rd, row2_rd, va_cpy, h3, Int32.toNatClampNeg] <;> (intro h9; exact absurd h3 (Nat.not_lt.mpr h9))
  · intro g j h1 h2 h3
    have : g = 4 ∨ g = 5 ∨ g = 6 := by omega
    rcases this with rfl | rfl | rfl <;> simp [cOf, up2_rd, row2_rd, va_cpy, h3, Int32.toNatClampNeg] <;> (intro h9; exact absurd h3 (Nat.not_lt.mpr h9))
  · intro a h1 h2
    funext j
    simp only [up2_rd, row2_rd]
    simp (disch := omega) only [if_neg]
theorem c_become_7_23 {I : I2} {J : J2} : CT mX0_become 2 58 58 [.ref 7, .ref 23] I J RF (RVP RF (fun I1 J1 => J1 = J ∧ Cq 8 6 (cOf I1 7) (cOf I 23) ∧ Fr 7 I I1)) := by
  refine CT_of okX0_become (Nat.le_of_ble_eq_true rfl) ?_
  show V _ _ _ _ _ _ [(0, _), (1, _)] _ _ _ _ _
  refine V_go 27 rfl ?_
  refine V_copy (wl1 := 675) (wn := 677) (ws9 := 676) (wi1 := 125) rfl (by decide +kernel) (by decide +kernel) (by decide +kernel) (by decide +kernel) (Nat.le_of_ble_eq_true rfl) (Nat.le_of_ble_eq_true rfl) rfl rfl (Nat.le_of_ble_eq_true rfl) (Nat.le_of_ble_eq_true rfl) (by decide) (by decide) (by decide) (by decide) (by decide) ?_
  refine V_go 7 rfl ?_
  refine V_copy (wl1 := 675) (wn := 677) (ws9 := 676) (wi1 := 125) rfl (by decide +kernel) (by decide +kernel) (by decide +kernel) (by decide +kernel) (Nat.le_of_ble_eq_true rfl) (Nat.le_of_ble_eq_true rfl) rfl rfl (Nat.le_of_ble_eq_true rfl) (Nat.le_of_ble_eq_true rfl) (by decide) (by decide) (by decide) (by decide) (by decide) ?_
  refine V_go 7 rfl ?_
  refine V_copy (wl1 := 675) (wn := 677) (ws9 := 676) (wi1 := 125) rfl (by decide +kernel) (by decide +kernel) (by decide +kernel) (by decide +kernel) (Nat.le_of_ble_eq_true rfl) (Nat.le_of_ble_eq_true rfl) rfl rfl (Nat.le_of_ble_eq_true rfl) (Nat.le_of_ble_eq_true rfl) (by decide) (by decide) (by decide) (by decide) (by decide) ?_
  refine V_go 7 rfl ?_
  refine V_copy (wl1 := 675) (wn := 677) (ws9 := 676) (wi1 := 125) rfl (by decide +kernel) (by decide +kernel) (by decide +kernel) (by decide +kernel) (Nat.le_of_ble_eq_true rfl) (Nat.le_of_ble_eq_true rfl) rfl rfl (Nat.le_of_ble_eq_true rfl) (Nat.le_of_ble_eq_true rfl) (by decide) (by decide) (by decide) (by decide) (by decide) ?_
  refine V_go 7 rfl ?_
  refine V_copy (wl1 := 675) (wn := 677) (ws9 := 676) (wi1 := 125) rfl (by decide +kernel) (by decide +kernel) (by decide +kernel) (by decide +kernel) (Nat.le_of_ble_eq_true rfl) (Nat.le_of_ble_eq_true rfl) rfl rfl (Nat.le_of_ble_eq_true rfl) (Nat.le_of_ble_eq_true rfl) (by decide) (by decide) (by decide) (by decide) (by decide) ?_
  refine V_go 7 rfl ?_
  refine V_copy (wl1 := 675) (wn := 677) (ws9 := 676) (wi1 := 125) rfl (by decide +kernel) (by decide +kernel) (by decide +kernel) (by decide +kernel) (Nat.le_of_ble_eq_true rfl) (Nat.le_of_ble_eq_true rfl) rfl rfl (Nat.le_of_ble_eq_true rfl) (Nat.le_of_ble_eq_true rfl) (by decide) (by decide) (by decide) (by decide) (by decide) ?_
  refine V_vret rfl rfl rfl ?_
  refine RVP.mk ⟨rfl, ⟨?_, ?_, ?_⟩, ?_⟩
  · intro j hj
    have : j = 0 ∨ j = 1 ∨ j = 2 ∨ j = 3 ∨ j = 4 := by omega
    rcases this with rfl | rfl | rfl | rfl | rfl <;> simp [cOf, up2_rd, row2_rd]
  · intro g j h1 h2 h3
    have : g = 1 ∨ g = 2 ∨ g = 3 := by omega
    rcases this with rfl | rfl | rfl <;> simp [cOf, up2_rd, row2_rd, va_cpy, h3, Int32.toNatClampNeg] <;> (intro h9; exact absurd h3 (Nat.not_lt.mpr h9))
  · intro g j h1 h2 h3
    have : g = 4 ∨ g = 5 ∨ g = 6 := by omega
    rcases this with rfl | rfl | rfl <;> simp [cOf, up2_rd, row2_rd, va_cpy, h3, Int32.toNatClampNeg] <;> (intro h9; exact absurd h3 (Nat.not_lt.mpr h9))
  · intro a h1 h2
    funext j
    simp only [up2_rd, row2_rd]
    simp (disch := omega) only [if_neg]
