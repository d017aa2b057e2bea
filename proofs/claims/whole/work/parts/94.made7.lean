def F7 (F : F2) : F2 := (up2 (row2 (up2 (row2 (up2 (row2 (up2 (row2 (up2 (row2 (up2 (row2 (up2 (row2 (up2 (row2 (up2 (row2 (up2 (row2 (up2 (row2 (up2 (row2 (up2 (row2 (up2 (row2 (up2 (row2 (up2 (row2 (up2 (row2 (up2 (row2 (up2 (row2 F 39 fun _ => none) 38 1 (some 39)) 40 fun _ => none) 38 2 (some 40)) 41 fun _ => none) 38 5 (some 41)) 42 fun _ => none) 38 9 (some 42)) 43 fun _ => none) 38 10 (some 43)) 44 fun _ => none) 38 11 (some 44)) 45 fun _ => none) 38 13 (some 45)) 46 fun _ => none) 38 30 (some 46)) 47 fun _ => none) 38 31 (some 47)) 48 fun _ => none) 38 33 (some 48)) 49 fun _ => none) 38 35 (some 49)) 50 fun _ => none) 38 42 (some 50)) 51 fun _ => none) 38 43 (some 51)) 52 fun _ => none) 38 44 (some 52)) 53 fun _ => none) 38 45 (some 53)) 54 fun _ => none) 38 51 (some 54)) 55 fun _ => none) 38 52 (some 55)) 56 fun _ => none) 38 53 (some 56)) 57 fun _ => none) 38 54 (some 57))
def spM (I : I2) (k : Nat) (x0 x1 x2 x3 x4 x5 x6 x7 : Int32) : I2 := up2 (up2 (up2 (up2 (up2 (up2 (up2 (up2 I 39 k x0) 39 (k + 1) x1) 39 (k + 2) x2) 39 (k + 3) x3) 39 (k + 4) x4) 39 (k + 5) x5) 39 (k + 6) x6) 39 (k + 7) x7
set_option maxRecDepth 20000 in
theorem c_spell7 {k : Nat} {x0 x1 x2 x3 x4 x5 x6 x7 : Int32} {I : I2} {J : J2} {F : F2} (hk : k + 8 ≤ 960) : CT mX7_spell 1 58 58 [.ref 38, .int (i32 k), .int x0, .int x1, .int x2, .int x3, .int x4, .int x5, .int x6, .int x7] I J (F7 F) (RV (F7 F) (spM I k x0 x1 x2 x3 x4 x5 x6 x7) J) := by
  obtain ⟨i1, n1⟩ : inb (i32 k + 1) 960 ∧ (i32 k + 1).toNatClampNeg = k + 1 := by
    rw [show i32 k + 1 = i32 (k + 1) from (i32_add k 1).symm]
    exact ⟨inb_i32 (by omega) (by omega), tn_of (by omega)⟩
  obtain ⟨i2, n2⟩ : inb (i32 k + 2) 960 ∧ (i32 k + 2).toNatClampNeg = k + 2 := by
    rw [show i32 k + 2 = i32 (k + 2) from (i32_add k 2).symm]
    exact ⟨inb_i32 (by omega) (by omega), tn_of (by omega)⟩
  obtain ⟨i3, n3⟩ : inb (i32 k + 3) 960 ∧ (i32 k + 3).toNatClampNeg = k + 3 := by
    rw [show i32 k + 3 = i32 (k + 3) from (i32_add k 3).symm]
    exact ⟨inb_i32 (by omega) (by omega), tn_of (by omega)⟩
  obtain ⟨i4, n4⟩ : inb (i32 k + 4) 960 ∧ (i32 k + 4).toNatClampNeg = k + 4 := by
    rw [show i32 k + 4 = i32 (k + 4) from (i32_add k 4).symm]
    exact ⟨inb_i32 (by omega) (by omega), tn_of (by omega)⟩
  obtain ⟨i5, n5⟩ : inb (i32 k + 5) 960 ∧ (i32 k + 5).toNatClampNeg = k + 5 := by
    rw [show i32 k + 5 = i32 (k + 5) from (i32_add k 5).symm]
    exact ⟨inb_i32 (by omega) (by omega), tn_of (by omega)⟩
  obtain ⟨i6, n6⟩ : inb (i32 k + 6) 960 ∧ (i32 k + 6).toNatClampNeg = k + 6 := by
    rw [show i32 k + 6 = i32 (k + 6) from (i32_add k 6).symm]
    exact ⟨inb_i32 (by omega) (by omega), tn_of (by omega)⟩
  obtain ⟨i7, n7⟩ : inb (i32 k + 7) 960 ∧ (i32 k + 7).toNatClampNeg = k + 7 := by
    rw [show i32 k + 7 = i32 (k + 7) from (i32_add k 7).symm]
    exact ⟨inb_i32 (by omega) (by omega), tn_of (by omega)⟩
  refine CT_of okX7_spell (Nat.le_of_ble_eq_true rfl) ?_
  show V _ _ _ _ _ _ [(0, _), (1, _), (2, _), (3, _), (4, _), (5, _), (6, _), (7, _), (8, _), (9, _)] _ _ _ _ _
  refine V_go 4 rfl ?_
  refine V_iast rfl rfl (Nat.le_of_ble_eq_true rfl) ((inb_i32 (by omega) (by omega))) ?_
  refine V_go 6 rfl ?_
  refine V_iast rfl rfl (Nat.le_of_ble_eq_true rfl) (i1) ?_
  refine V_go 6 rfl ?_
  refine V_iast rfl rfl (Nat.le_of_ble_eq_true rfl) (i2) ?_
  refine V_go 6 rfl ?_
  refine V_iast rfl rfl (Nat.le_of_ble_eq_true rfl) (i3) ?_
  refine V_go 6 rfl ?_
  refine V_iast rfl rfl (Nat.le_of_ble_eq_true rfl) (i4) ?_
  refine V_go 6 rfl ?_
  refine V_iast rfl rfl (Nat.le_of_ble_eq_true rfl) (i5) ?_
  refine V_go 6 rfl ?_
  refine V_iast rfl rfl (Nat.le_of_ble_eq_true rfl) (i6) ?_
  refine V_go 6 rfl ?_
  refine V_iast rfl rfl (Nat.le_of_ble_eq_true rfl) (i7) ?_
  refine V_vret rfl rfl rfl ?_
  refine RV.mk2 ?_
  unfold spM
  rw [tn_of (show k < 2147483648 by omega), n1, n2, n3, n4, n5, n6, n7]
def I7 (I : I2) : I2 := (up2 (up2 (spM (spM (spM (spM (spM (row2 (row2 (row2 (row2 (up2 (row2 (row2 (row2 (row2 (row2 (row2 (row2 (row2 (row2 (row2 (row2 (row2 (up2 (row2 (row2 (row2 I 39 fun _ => 0) 40 fun _ => 0) 41 fun _ => 0) 38 8 (60)) 42 fun _ => 0) 43 fun _ => 0) 44 fun _ => 0) 45 fun _ => 0) 46 fun _ => 0) 47 fun _ => 0) 48 fun _ => 0) 49 fun _ => 0) 50 fun _ => 0) 51 fun _ => 0) 52 fun _ => 0) 53 fun _ => 0) 38 46 (-1)) 54 fun _ => 0) 55 fun _ => 0) 56 fun _ => 0) 57 fun _ => 0) 0 (114) (101) (97) (100) (115) (32) (98) (114)) 8 (105) (98) (101) (32) (59) (32) (115) (116)) 16 (105) (108) (108) (115) (32) (51) (32) (59)) 24 (32) (110) (97) (109) (101) (115) (32) (49)) 32 (32) (59) (32) (32) (32) (32) (32) (32)) 40 0 (40)) 38 3 (1))
def J7 (J : J2) : J2 := (row2 (row2 (row2 (row2 (row2 (row2 (row2 (row2 (row2 (row2 (row2 (row2 (row2 (row2 (row2 (row2 (row2 (row2 (row2 J 39 fun _ => 0) 40 fun _ => 0) 41 fun _ => 0) 42 fun _ => 0) 43 fun _ => 0) 44 fun _ => 0) 45 fun _ => 0) 46 fun _ => 0) 47 fun _ => 0) 48 fun _ => 0) 49 fun _ => 0) 50 fun _ => 0) 51 fun _ => 0) 52 fun _ => 0) 53 fun _ => 0) 54 fun _ => 0) 55 fun _ => 0) 56 fun _ => 0) 57 fun _ => 0)
set_option maxRecDepth 20000 in
theorem c_X7i {I : I2} {J : J2} {F : F2} : CT mX7_init 2 39 58 [.ref 38] I J F (RM0 (I7 I) (J7 J) (F7 F)) := by
  refine CT_of okX7_init (Nat.le_of_ble_eq_true rfl) ?_ (by decide)
  show V _ _ _ _ _ _ [(0, _)] _ _ _ _ _
  refine V_go 1 rfl ?_
  refine V_objInit (wl1 := 878) (wi1 := 132) (wc1 := 133) rfl (by decide +kernel) (by decide +kernel) (by decide +kernel) (by decide) (by decide) ?_
  refine V_go 2 rfl ?_
  refine V_newa (wa := 176) (len := 960) rfl rfl (Or.inl rfl) (by decide +kernel) (by decide) rfl (by decide) rfl (by decide) (by decide) (okrL_1 (okr_r (by decide))) (okr_1 (okr_r (by decide))) ?_
  refine V_putR rfl rfl (by decide) (by decide) rfl rfl rfl (by decide +kernel) (Or.inr ⟨_, rfl⟩) ?_
  refine V_go 2 rfl ?_
  refine V_newa (wa := 176) (len := 6) rfl rfl (Or.inl rfl) (by decide +kernel) (by decide) rfl (by decide) rfl (by decide) (by decide) (okrL_1 (okr_r (by decide))) (okr_1 (okr_r (by decide))) ?_
  refine V_putR rfl rfl (by decide) (by decide) rfl rfl rfl (by decide +kernel) (Or.inr ⟨_, rfl⟩) ?_
  refine V_go 2 rfl ?_
  refine V_newa (wa := 176) (len := 160) rfl rfl (Or.inl rfl) (by decide +kernel) (by decide) rfl (by decide) rfl (by decide) (by decide) (okrL_1 (okr_r (by decide))) (okr_1 (okr_r (by decide))) ?_
  refine V_putR rfl rfl (by decide) (by decide) rfl rfl rfl (by decide +kernel) (Or.inr ⟨_, rfl⟩) ?_
  refine V_go 5 rfl ?_
  refine V_newa (wa := 176) (len := 8) rfl rfl (Or.inl rfl) (by decide +kernel) (by decide) rfl (by decide) rfl (by decide) (by decide) (okrL_1 (okr_r (by decide))) (okr_1 (okr_r (by decide))) ?_
  refine V_putR rfl rfl (by decide) (by decide) rfl rfl rfl (by decide +kernel) (Or.inr ⟨_, rfl⟩) ?_
  refine V_go 2 rfl ?_
  refine V_newa (wa := 176) (len := 8) rfl rfl (Or.inl rfl) (by decide +kernel) (by decide) rfl (by decide) rfl (by decide) (by decide) (okrL_1 (okr_r (by decide))) (okr_1 (okr_r (by decide))) ?_
  refine V_putR rfl rfl (by decide) (by decide) rfl rfl rfl (by decide +kernel) (Or.inr ⟨_, rfl⟩) ?_
  refine V_go 2 rfl ?_
  refine V_newa (wa := 176) (len := 8) rfl rfl (Or.inl rfl) (by decide +kernel) (by decide) rfl (by decide) rfl (by decide) (by decide) (okrL_1 (okr_r (by decide))) (okr_1 (okr_r (by decide))) ?_
  refine V_putR rfl rfl (by decide) (by decide) rfl rfl rfl (by decide +kernel) (Or.inr ⟨_, rfl⟩) ?_
  refine V_go 2 rfl ?_
  refine V_newa (wa := 176) (len := 18) rfl rfl (Or.inl rfl) (by decide +kernel) (by decide) rfl (by decide) rfl (by decide) (by decide) (okrL_1 (okr_r (by decide))) (okr_1 (okr_r (by decide))) ?_
  refine V_putR rfl rfl (by decide) (by decide) rfl rfl rfl (by decide +kernel) (Or.inr ⟨_, rfl⟩) ?_
  refine V_go 2 rfl ?_
  refine V_newa (wa := 1048) (len := 1024) rfl rfl (Or.inr (Or.inl rfl)) (by decide +kernel) (by decide) rfl (by decide) rfl (by decide) (by decide) (okrL_1 (okr_r (by decide))) (okr_1 (okr_r (by decide))) ?_
  refine V_putR rfl rfl (by decide) (by decide) rfl rfl rfl (by decide +kernel) (Or.inr ⟨_, rfl⟩) ?_
  refine V_go 2 rfl ?_
  refine V_newa (wa := 176) (len := 1024) rfl rfl (Or.inl rfl) (by decide +kernel) (by decide) rfl (by decide) rfl (by decide) (by decide) (okrL_1 (okr_r (by decide))) (okr_1 (okr_r (by decide))) ?_
  refine V_putR rfl rfl (by decide) (by decide) rfl rfl rfl (by decide +kernel) (Or.inr ⟨_, rfl⟩) ?_
  refine V_go 2 rfl ?_
  refine V_newa (wa := 176) (len := 18) rfl rfl (Or.inl rfl) (by decide +kernel) (by decide) rfl (by decide) rfl (by decide) (by decide) (okrL_1 (okr_r (by decide))) (okr_1 (okr_r (by decide))) ?_
  refine V_putR rfl rfl (by decide) (by decide) rfl rfl rfl (by decide +kernel) (Or.inr ⟨_, rfl⟩) ?_
  refine V_go 2 rfl ?_
  refine V_newa (wa := 176) (len := 41) rfl rfl (Or.inl rfl) (by decide +kernel) (by decide) rfl (by decide) rfl (by decide) (by decide) (okrL_1 (okr_r (by decide))) (okr_1 (okr_r (by decide))) ?_
  refine V_putR rfl rfl (by decide) (by decide) rfl rfl rfl (by decide +kernel) (Or.inr ⟨_, rfl⟩) ?_
  refine V_go 2 rfl ?_
  refine V_newa (wa := 176) (len := 8) rfl rfl (Or.inl rfl) (by decide +kernel) (by decide) rfl (by decide) rfl (by decide) (by decide) (okrL_1 (okr_r (by decide))) (okr_1 (okr_r (by decide))) ?_
  refine V_putR rfl rfl (by decide) (by decide) rfl rfl rfl (by decide +kernel) (Or.inr ⟨_, rfl⟩) ?_
  refine V_go 2 rfl ?_
  refine V_newa (wa := 176) (len := 8) rfl rfl (Or.inl rfl) (by decide +kernel) (by decide) rfl (by decide) rfl (by decide) (by decide) (okrL_1 (okr_r (by decide))) (okr_1 (okr_r (by decide))) ?_
  refine V_putR rfl rfl (by decide) (by decide) rfl rfl rfl (by decide +kernel) (Or.inr ⟨_, rfl⟩) ?_
  refine V_go 2 rfl ?_
  refine V_newa (wa := 176) (len := 8) rfl rfl (Or.inl rfl) (by decide +kernel) (by decide) rfl (by decide) rfl (by decide) (by decide) (okrL_1 (okr_r (by decide))) (okr_1 (okr_r (by decide))) ?_
  refine V_putR rfl rfl (by decide) (by decide) rfl rfl rfl (by decide +kernel) (Or.inr ⟨_, rfl⟩) ?_
  refine V_go 2 rfl ?_
  refine V_newa (wa := 176) (len := 18) rfl rfl (Or.inl rfl) (by decide +kernel) (by decide) rfl (by decide) rfl (by decide) (by decide) (okrL_1 (okr_r (by decide))) (okr_1 (okr_r (by decide))) ?_
  refine V_putR rfl rfl (by decide) (by decide) rfl rfl rfl (by decide +kernel) (Or.inr ⟨_, rfl⟩) ?_
  refine V_go 5 rfl ?_
  refine V_newa (wa := 1049) (len := 4) rfl rfl (Or.inr (Or.inr rfl)) (by decide +kernel) (by decide) rfl (by decide) rfl (by decide) (by decide) (okrL_1 (okr_r (by decide))) (okr_1 (okr_r (by decide))) ?_
  refine V_putR rfl rfl (by decide) (by decide) rfl rfl rfl (by decide +kernel) (Or.inr ⟨_, rfl⟩) ?_
  refine V_go 2 rfl ?_
  refine V_newa (wa := 176) (len := 4) rfl rfl (Or.inl rfl) (by decide +kernel) (by decide) rfl (by decide) rfl (by decide) (by decide) (okrL_1 (okr_r (by decide))) (okr_1 (okr_r (by decide))) ?_
  refine V_putR rfl rfl (by decide) (by decide) rfl rfl rfl (by decide +kernel) (Or.inr ⟨_, rfl⟩) ?_
  refine V_go 2 rfl ?_
  refine V_newa (wa := 176) (len := 4) rfl rfl (Or.inl rfl) (by decide +kernel) (by decide) rfl (by decide) rfl (by decide) (by decide) (okrL_1 (okr_r (by decide))) (okr_1 (okr_r (by decide))) ?_
  refine V_putR rfl rfl (by decide) (by decide) rfl rfl rfl (by decide +kernel) (Or.inr ⟨_, rfl⟩) ?_
  refine V_go 2 rfl ?_
  refine V_newa (wa := 176) (len := 160) rfl rfl (Or.inl rfl) (by decide +kernel) (by decide) rfl (by decide) rfl (by decide) (by decide) (okrL_1 (okr_r (by decide))) (okr_1 (okr_r (by decide))) ?_
  refine V_putR rfl rfl (by decide) (by decide) rfl rfl rfl (by decide +kernel) (Or.inr ⟨_, rfl⟩) ?_
  refine V_go 10 rfl ?_
  show V _ _ _ _ _ _ _ _ _ _ _ (F7 F)
  refine cVV (mt' := mX7_spell) rfl kX7_79 fX7_spell rfl rfl rfl (Nat.le_of_ble_eq_true rfl) (Nat.le_of_ble_eq_true rfl) (by decide) (Nat.le_of_ble_eq_true rfl) (Nat.le_refl _) (c_spell7 (k := 0) (by decide)) ?_
  refine V_go 10 rfl ?_
  refine cVV (mt' := mX7_spell) rfl kX7_79 fX7_spell rfl rfl rfl (Nat.le_of_ble_eq_true rfl) (Nat.le_of_ble_eq_true rfl) (by decide) (Nat.le_of_ble_eq_true rfl) (Nat.le_refl _) (c_spell7 (k := 8) (by decide)) ?_
  refine V_go 10 rfl ?_
  refine cVV (mt' := mX7_spell) rfl kX7_79 fX7_spell rfl rfl rfl (Nat.le_of_ble_eq_true rfl) (Nat.le_of_ble_eq_true rfl) (by decide) (Nat.le_of_ble_eq_true rfl) (Nat.le_refl _) (c_spell7 (k := 16) (by decide)) ?_
  refine V_go 10 rfl ?_
  refine cVV (mt' := mX7_spell) rfl kX7_79 fX7_spell rfl rfl rfl (Nat.le_of_ble_eq_true rfl) (Nat.le_of_ble_eq_true rfl) (by decide) (Nat.le_of_ble_eq_true rfl) (Nat.le_refl _) (c_spell7 (k := 24) (by decide)) ?_
  refine V_go 10 rfl ?_
  refine cVV (mt' := mX7_spell) rfl kX7_79 fX7_spell rfl rfl rfl (Nat.le_of_ble_eq_true rfl) (Nat.le_of_ble_eq_true rfl) (by decide) (Nat.le_of_ble_eq_true rfl) (Nat.le_refl _) (c_spell7 (k := 32) (by decide)) ?_
  refine V_go 4 rfl ?_
  refine V_iast rfl rfl (Nat.le_of_ble_eq_true rfl) (by unfold inb; decide) ?_
  refine V_go 3 rfl ?_
  refine V_vret rfl rfl rfl ?_
  exact ⟨rfl, rfl, rfl, rfl⟩
