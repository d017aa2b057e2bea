theorem p5i {u : Nat} (hu : u < 160) : inb (0 * 160 + i32 u) 960 ∧ (0 * 160 + i32 u).toNatClampNeg = u := by
  rw [Int32.zero_mul, Int32.zero_add]
  exact ⟨inb_i32 (by omega) (by omega), tn_of (by omega)⟩
theorem e5i {w : Int32} (h0 : 0 ≤ w) (h3 : w < 3) : inb (0 * 3 + w) 18 ∧ (0 * 3 + w).toNatClampNeg = w.toNatClampNeg := by
  rw [Int32.zero_mul, Int32.zero_add]
  refine ⟨inb_ofN (by decide) h0 (Int32.lt_trans h3 (by decide)), rfl⟩

theorem c_begin5 {I : I2} {J : J2} {F : F2} : CT mX5_begin 1 5 5 [.ref 1] I J F (RV F (up2 I 1 1 0) J) := by
  refine CT_of okX5_begin (Nat.le_of_ble_eq_true rfl) ?_
  show V _ _ _ _ _ _ [(0, _)] _ _ _ _ _
  refine V_go 3 rfl ?_
  refine V_vret rfl rfl rfl ?_
  exact RV.mk2 rfl
theorem c_cellOfName5 {x : Int32} {I : I2} {J : J2} {F : F2} : CT mX5_cellOfName 1 5 5 [.int x] I J F (RI F (-1 - x) I J) := by
  refine CT_of okX5_cellOfName (Nat.le_of_ble_eq_true rfl) ?_
  show V _ _ _ _ _ _ [(0, _)] _ _ _ _ _
  refine V_go 3 rfl ?_
  refine V_iret rfl rfl rfl ?_
  exact RI.mk rfl
theorem c_put5 {c : Int32} {u : Nat} {I : I2} {J : J2} {F : F2} (e0 : I 1 0 = 0) (e1 : I 1 1 = i32 u) (hu : u < 160) : CT mX5_put 1 5 5 [.ref 1, .int c] I J (up2 (row2 (up2 (row2 (up2 (row2 F 2 fun _ => none) 1 2 (some 2)) 3 fun _ => none) 1 3 (some 3)) 4 fun _ => none) 1 4 (some 4)) (RV (up2 (row2 (up2 (row2 (up2 (row2 F 2 fun _ => none) 1 2 (some 2)) 3 fun _ => none) 1 3 (some 3)) 4 fun _ => none) 1 4 (some 4)) (up2 (up2 I 2 u c) 1 1 (i32 (u + 1))) J) := by
  refine CT_of okX5_put (Nat.le_of_ble_eq_true rfl) ?_
  show V _ _ _ _ _ _ [(0, _), (1, _)] _ _ _ _ _
  refine V_go 3 rfl ?_
  refine V_icmp_ge rfl (fun h1 => ?_) (fun h1 => ?_)
  · skip
    exact absurd h1 (by rw [e0]; decide)
  · skip
    refine V_go 3 rfl ?_
    refine V_icmp_ge rfl (fun h2 => ?_) (fun h2 => ?_)
    · skip
      exact absurd h2 (by rw [e1]; exact Int32.not_le.mpr ((i32_lt (b := 160) (by omega) (by omega)).mpr hu))
    · skip
      refine V_go 10 rfl ?_
      refine V_iast rfl rfl (Nat.le_of_ble_eq_true rfl) ((by rw [e0, e1]; exact (p5i hu).1)) ?_
      refine V_go 6 rfl ?_
      refine V_vret rfl rfl rfl ?_
      refine RV.mk2 ?_
      rw [e0, e1, (p5i hu).2, i32_s]
      congr 2
theorem c_endPart5 {w : Int32} {I : I2} {J : J2} {F : F2} (e0 : I 1 0 = 0) (w0 : 0 ≤ w) (w3 : w < 3) : CT mX5_endPart 1 5 5 [.ref 1, .int w] I J (up2 (row2 (up2 (row2 (up2 (row2 F 2 fun _ => none) 1 2 (some 2)) 3 fun _ => none) 1 3 (some 3)) 4 fun _ => none) 1 4 (some 4)) (RV (up2 (row2 (up2 (row2 (up2 (row2 F 2 fun _ => none) 1 2 (some 2)) 3 fun _ => none) 1 3 (some 3)) 4 fun _ => none) 1 4 (some 4)) (up2 I 3 w.toNatClampNeg (I 1 1)) J) := by
  refine CT_of okX5_endPart (Nat.le_of_ble_eq_true rfl) ?_
  show V _ _ _ _ _ _ [(0, _), (1, _)] _ _ _ _ _
  refine V_go 3 rfl ?_
  refine V_icmp_ge rfl (fun h1 => ?_) (fun h1 => ?_)
  · skip
    exact absurd h1 (by rw [e0]; decide)
  · skip
    refine V_go 1 rfl ?_
    refine V_if_lt rfl (fun h2 => ?_) (fun h2 => ?_)
    · skip
      exact absurd h2 (Int32.not_lt.mpr w0)
    · skip
      refine V_go 2 rfl ?_
      refine V_icmp_ge rfl (fun h3 => ?_) (fun h3 => ?_)
      · skip
        exact absurd h3 (Int32.not_le.mpr w3)
      · skip
        refine V_go 10 rfl ?_
        refine V_iast rfl rfl (Nat.le_of_ble_eq_true rfl) ((by rw [e0]; exact (e5i w0 w3).1)) ?_
        refine V_vret rfl rfl rfl ?_
        refine RV.mk2 ?_
        rw [e0, (e5i w0 w3).2]
theorem c_keep5 {I : I2} {J : J2} {F : F2} : CT mX5_keep 1 5 5 [.ref 1] I J F (RI F (I 1 0) (up2 I 1 0 (I 1 0 + 1)) J) := by
  refine CT_of okX5_keep (Nat.le_of_ble_eq_true rfl) ?_
  show V _ _ _ _ _ _ [(0, _)] _ _ _ _ _
  refine V_go 7 rfl ?_
  refine V_iret rfl rfl rfl ?_
  exact RI.mk2 rfl rfl
theorem c_X5i {I : I2} {J : J2} {F : F2} (z0 : I 1 0 = 0) : CT mX5_init 2 2 5 [.ref 1] I J F (fun rv I9 J9 F9 => rv = none ∧ J9 = (row2 (row2 (row2 J 2 fun _ => 0) 3 fun _ => 0) 4 fun _ => 0) ∧ F9 = (up2 (row2 (up2 (row2 (up2 (row2 F 2 fun _ => none) 1 2 (some 2)) 3 fun _ => none) 1 3 (some 3)) 4 fun _ => none) 1 4 (some 4)) ∧ (∀ o, o ≠ 1 → o ≠ 2 → o ≠ 3 → o ≠ 4 → I9 o = I o) ∧ I9 1 0 = 1 ∧ I9 2 0 = -2 ∧ I9 2 1 = 3 ∧ I9 2 2 = 1 ∧ I9 3 0 = 1 ∧ I9 3 1 = 2 ∧ I9 3 2 = 3) := by
  refine CT_of okX5_init (Nat.le_of_ble_eq_true rfl) ?_ (by decide)
  show V _ _ _ _ _ _ [(0, _)] _ _ _ _ _
  refine V_go 1 rfl ?_
  refine V_objInit (wl1 := 139) (wi1 := 132) (wc1 := 133) rfl (by decide +kernel) (by decide +kernel) (by decide +kernel) (by decide) (by decide) ?_
  refine V_go 2 rfl ?_
  refine V_newa (wa := 176) (len := 960) rfl rfl (Or.inl rfl) (by decide +kernel) (by decide) rfl (by decide) rfl (by decide) (by decide) (okrL_1 (okr_r (by decide))) (okr_1 (okr_r (by decide))) ?_
  refine V_putR rfl rfl (by decide) (by decide) rfl rfl rfl (by decide +kernel) (Or.inr ⟨_, rfl⟩) ?_
  refine V_go 2 rfl ?_
  refine V_newa (wa := 176) (len := 18) rfl rfl (Or.inl rfl) (by decide +kernel) (by decide) rfl (by decide) rfl (by decide) (by decide) (okrL_1 (okr_r (by decide))) (okr_1 (okr_r (by decide))) ?_
  refine V_putR rfl rfl (by decide) (by decide) rfl rfl rfl (by decide +kernel) (Or.inr ⟨_, rfl⟩) ?_
  refine V_go 2 rfl ?_
  refine V_newa (wa := 176) (len := 160) rfl rfl (Or.inl rfl) (by decide +kernel) (by decide) rfl (by decide) rfl (by decide) (by decide) (okrL_1 (okr_r (by decide))) (okr_1 (okr_r (by decide))) ?_
  refine V_putR rfl rfl (by decide) (by decide) rfl rfl rfl (by decide +kernel) (Or.inr ⟨_, rfl⟩) ?_
  refine V_go 1 rfl ?_
  refine cVV (mt' := mX5_begin) rfl kX5_19 fX5_begin rfl rfl rfl (Nat.le_of_ble_eq_true rfl) (Nat.le_of_ble_eq_true rfl) (Nat.le_of_ble_eq_true rfl) (Nat.le_of_ble_eq_true rfl) (Nat.le_refl _) (c_begin5) ?_
  refine V_go 2 rfl ?_
  refine cSI (mt' := mX5_cellOfName) rfl kX5_22 fX5_cellOfName rfl (Nat.le_of_ble_eq_true rfl) (Nat.le_of_ble_eq_true rfl) (Nat.le_refl _) (c_cellOfName5) ?_
  refine cVV (mt' := mX5_put) rfl kX5_26 fX5_put rfl rfl rfl (Nat.le_of_ble_eq_true rfl) (Nat.le_of_ble_eq_true rfl) (Nat.le_of_ble_eq_true rfl) (Nat.le_of_ble_eq_true rfl) (Nat.le_refl _) (c_put5 (u := 0) (by exact z0) rfl (by decide)) ?_
  refine V_go 2 rfl ?_
  refine cVV (mt' := mX5_endPart) rfl kX5_30 fX5_endPart rfl rfl rfl (Nat.le_of_ble_eq_true rfl) (Nat.le_of_ble_eq_true rfl) (Nat.le_of_ble_eq_true rfl) (Nat.le_of_ble_eq_true rfl) (Nat.le_refl _) (c_endPart5 (by exact z0) (by decide) (by decide)) ?_
  refine V_go 2 rfl ?_
  refine cVV (mt' := mX5_put) rfl kX5_26 fX5_put rfl rfl rfl (Nat.le_of_ble_eq_true rfl) (Nat.le_of_ble_eq_true rfl) (Nat.le_of_ble_eq_true rfl) (Nat.le_of_ble_eq_true rfl) (Nat.le_refl _) (c_put5 (u := 1) (by exact z0) rfl (by decide)) ?_
  refine V_go 2 rfl ?_
  refine cVV (mt' := mX5_endPart) rfl kX5_30 fX5_endPart rfl rfl rfl (Nat.le_of_ble_eq_true rfl) (Nat.le_of_ble_eq_true rfl) (Nat.le_of_ble_eq_true rfl) (Nat.le_of_ble_eq_true rfl) (Nat.le_refl _) (c_endPart5 (by exact z0) (by decide) (by decide)) ?_
  refine V_go 2 rfl ?_
  refine cVV (mt' := mX5_put) rfl kX5_26 fX5_put rfl rfl rfl (Nat.le_of_ble_eq_true rfl) (Nat.le_of_ble_eq_true rfl) (Nat.le_of_ble_eq_true rfl) (Nat.le_of_ble_eq_true rfl) (Nat.le_refl _) (c_put5 (u := 2) (by exact z0) rfl (by decide)) ?_
  refine V_go 2 rfl ?_
  refine cVV (mt' := mX5_endPart) rfl kX5_30 fX5_endPart rfl rfl rfl (Nat.le_of_ble_eq_true rfl) (Nat.le_of_ble_eq_true rfl) (Nat.le_of_ble_eq_true rfl) (Nat.le_of_ble_eq_true rfl) (Nat.le_refl _) (c_endPart5 (by exact z0) (by decide) (by decide)) ?_
  refine V_go 1 rfl ?_
  refine cVI (mt' := mX5_keep) rfl kX5_33 fX5_keep rfl rfl rfl (Nat.le_of_ble_eq_true rfl) (Nat.le_of_ble_eq_true rfl) (Nat.le_of_ble_eq_true rfl) (Nat.le_of_ble_eq_true rfl) (Nat.le_refl _) (c_keep5) ?_
  refine V_go 1 rfl ?_
  refine V_vret rfl rfl rfl ?_
  refine ⟨rfl, rfl, rfl, fun o h1 h2 h3 h4 => ?_, (by show I 1 0 + 1 = 1; rw [z0]; rfl), rfl, rfl, rfl, rfl, rfl, rfl⟩
  simp only [up2_ne h1, up2_ne h2, up2_ne h3]
  rw [row2_ne h4, row2_ne h3, row2_ne h2]
