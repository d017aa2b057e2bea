theorem okr_2 {n : Nat} {v w : Value} (h : okr n v) (h' : okr n w) : ∀ q ∈ [v, w], okr n q := fun q hq => by
  rcases List.mem_cons.mp hq with e | hq
  · rw [e]; exact h
  · rw [List.mem_singleton.mp hq]; exact h'

def I6 (I1 : I2) : I2 := (row2 (row2 (up2 (up2 (up2 (up2 (row2 (row2 (row2 (row2 (row2 (up2 (up2 (row2 (row2 (row2 (row2 (row2 (row2 (row2 (row2 (up2 (row2 (row2 (row2 (row2 (row2 (row2 (row2 (row2 (up2 (row2 (row2 (row2 (row2 (row2 (row2 (row2 (row2 (row2 (row2 I1 5 fun _ => 0) 6 fun _ => 0) 7 fun _ => 0) 8 fun _ => 0) 9 fun _ => 0) 10 fun _ => 0) 11 fun _ => 0) 12 fun _ => 0) 13 fun _ => 0) 14 fun _ => 0) 7 3 60) 15 fun _ => 0) 16 fun _ => 0) 17 fun _ => 0) 18 fun _ => 0) 19 fun _ => 0) 20 fun _ => 0) 21 fun _ => 0) 22 fun _ => 0) 15 3 60) 23 fun _ => 0) 24 fun _ => 0) 25 fun _ => 0) 26 fun _ => 0) 27 fun _ => 0) 28 fun _ => 0) 29 fun _ => 0) 30 fun _ => 0) 23 3 60) 0 5 0) 31 fun _ => 0) 32 fun _ => 0) 33 fun _ => 0) 34 fun _ => 0) 35 fun _ => 0) 35 0 (-1)) 35 1 (-1)) 35 2 (-1)) 35 3 (-1)) 36 fun _ => 0) 37 fun _ => 0)
def F6 (F : F2) : F2 := (up2 (up2 (row2 (up2 (row2 (up2 (row2 (row2 (up2 (up2 (row2 (up2 (row2 (row2 (up2 (up2 (up2 (row2 (up2 (row2 (up2 (row2 (up2 (row2 (up2 (row2 (up2 (row2 (up2 (row2 (row2 (up2 (up2 (up2 (row2 (up2 (row2 (up2 (row2 (up2 (row2 (up2 (row2 (up2 (row2 (up2 (row2 (row2 (up2 (up2 (up2 (row2 (up2 (row2 (up2 (row2 (up2 (row2 (up2 (row2 (up2 (row2 (up2 (row2 (row2 (up2 (up2 (up2 (row2 (row2 (up2 (up2 (row2 (up2 (row2 (up2 (row2 (row2 F 1 fun _ => none) 2 fun _ => none) 1 2 (some 2)) 3 fun _ => none) 1 3 (some 3)) 4 fun _ => none) 1 4 (some 4)) 0 0 (some 1)) 5 fun _ => none) 6 fun _ => none) 5 1 (some 6)) 5 0 (some 1)) 0 1 (some 5)) 7 fun _ => none) 8 fun _ => none) 7 1 (some 8)) 9 fun _ => none) 7 6 (some 9)) 10 fun _ => none) 7 7 (some 10)) 11 fun _ => none) 7 8 (some 11)) 12 fun _ => none) 7 10 (some 12)) 13 fun _ => none) 7 11 (some 13)) 14 fun _ => none) 7 12 (some 14)) 7 0 (some 1)) 0 2 (some 7)) 15 fun _ => none) 16 fun _ => none) 15 1 (some 16)) 17 fun _ => none) 15 6 (some 17)) 18 fun _ => none) 15 7 (some 18)) 19 fun _ => none) 15 8 (some 19)) 20 fun _ => none) 15 10 (some 20)) 21 fun _ => none) 15 11 (some 21)) 22 fun _ => none) 15 12 (some 22)) 15 0 (some 1)) 0 3 (some 15)) 23 fun _ => none) 24 fun _ => none) 23 1 (some 24)) 25 fun _ => none) 23 6 (some 25)) 26 fun _ => none) 23 7 (some 26)) 27 fun _ => none) 23 8 (some 27)) 28 fun _ => none) 23 10 (some 28)) 29 fun _ => none) 23 11 (some 29)) 30 fun _ => none) 23 12 (some 30)) 23 0 (some 1)) 0 4 (some 23)) 31 fun _ => none) 32 fun _ => none) 31 0 (some 32)) 33 fun _ => none) 31 1 (some 33)) 0 6 (some 31)) 34 fun _ => none) 35 fun _ => none) 34 0 (some 35)) 36 fun _ => none) 34 1 (some 36)) 37 fun _ => none) 34 2 (some 37)) 0 7 (some 34))
/-- the texts of the class as they are made -/
def Tx1 (I I1 : I2) : Prop := (∀ o, o ≠ 1 → o ≠ 2 → o ≠ 3 → o ≠ 4 → I1 o = I o) ∧ I1 1 0 = 1 ∧ I1 2 0 = -2 ∧ I1 2 1 = 3 ∧ I1 2 2 = 1 ∧ I1 3 0 = 1 ∧ I1 3 1 = 2 ∧ I1 3 2 = 3
set_option maxRecDepth 20000 in
theorem c_X6i {I : I2} {J : J2} {F : F2} : CT mX6_init 3 1 38 [.ref 0] I J F (fun rv I9 J9 F9 => rv = none ∧ ∃ I1, Tx1 (row2 I 1 fun _ => 0) I1 ∧ I9 = I6 I1 ∧ F9 = F6 F) := by
  refine CT_of okX6_init (Nat.le_of_ble_eq_true rfl) ?_ (by decide)
  show V _ _ _ _ _ _ [(0, _)] _ _ _ _ _
  refine V_go 1 rfl ?_
  refine V_objInit (wl1 := 131) (wi1 := 132) (wc1 := 133) rfl (by decide +kernel) (by decide +kernel) (by decide +kernel) (by decide) (by decide) ?_
  refine V_go 1 rfl ?_
  refine V_new (wini := 112) rfl (by decide) (by decide +kernel) (by decide +kernel) (by decide +kernel) rfl (by decide) (by decide) (okrL_1 (okr_r (by decide))) (okr_1 (okr_r (by decide))) ?_
  refine V_go 1 rfl ?_
  refine V_callI (mt' := mX5_init) (As := []) rfl kX6_9 fX5_init rfl rfl (c_X5i rfl) (by decide) (by decide) (by decide) (Or.inr ⟨okrL_1 (okr_r (by decide)), okr_2 (okr_r (by decide)) (okr_r (by decide))⟩) ?_
  intro rv1 I1 J1 F1 g1
  obtain ⟨rfl, rfl, rfl, t1, t2, t3, t4, t5, t6, t7, t8⟩ := g1
  refine V_putR rfl rfl (by decide) (by decide) rfl rfl rfl (by decide +kernel) (Or.inl ⟨_, rfl⟩) ?_
  refine V_go 1 rfl ?_
  refine V_new (wini := 113) rfl (by decide) (by decide +kernel) (by decide +kernel) (by decide +kernel) rfl (by decide) (by decide) (okrL_1 (okr_r (by decide))) (okr_1 (okr_r (by decide))) ?_
  refine V_go 3 rfl ?_
  refine V_callI (mt' := mX3_init) (As := [.ref 1]) rfl kX6_18 fX3_init rfl rfl (c_X3i) (by decide) (by decide) (by decide) (Or.inr ⟨okrL_1 (okr_r (by decide)), okr_2 (okr_r (by decide)) (okr_r (by decide))⟩) ?_
  intro rv2 I2 J2 F2 g2
  obtain ⟨rfl, rfl, rfl, rfl⟩ := g2
  refine V_putR rfl rfl (by decide) (by decide) rfl rfl rfl (by decide +kernel) (Or.inl ⟨_, rfl⟩) ?_
  refine V_go 1 rfl ?_
  refine V_new (wini := 114) rfl (by decide) (by decide +kernel) (by decide +kernel) (by decide +kernel) rfl (by decide) (by decide) (okrL_1 (okr_r (by decide))) (okr_1 (okr_r (by decide))) ?_
  refine V_go 3 rfl ?_
  refine V_callI (mt' := mX0_init) (As := [.ref 1]) rfl kX6_27 fX0_init rfl rfl (c_X0i7) (by decide) (by decide) (by decide) (Or.inr ⟨okrL_1 (okr_r (by decide)), okr_2 (okr_r (by decide)) (okr_r (by decide))⟩) ?_
  intro rv3 I3 J3 F3 g3
  obtain ⟨rfl, rfl, rfl, rfl⟩ := g3
  refine V_putR rfl rfl (by decide) (by decide) rfl rfl rfl (by decide +kernel) (Or.inl ⟨_, rfl⟩) ?_
  refine V_go 1 rfl ?_
  refine V_new (wini := 114) rfl (by decide) (by decide +kernel) (by decide +kernel) (by decide +kernel) rfl (by decide) (by decide) (okrL_1 (okr_r (by decide))) (okr_1 (okr_r (by decide))) ?_
  refine V_go 3 rfl ?_
  refine V_callI (mt' := mX0_init) (As := [.ref 1]) rfl kX6_27 fX0_init rfl rfl (c_X0i15) (by decide) (by decide) (by decide) (Or.inr ⟨okrL_1 (okr_r (by decide)), okr_2 (okr_r (by decide)) (okr_r (by decide))⟩) ?_
  intro rv4 I4 J4 F4 g4
  obtain ⟨rfl, rfl, rfl, rfl⟩ := g4
  refine V_putR rfl rfl (by decide) (by decide) rfl rfl rfl (by decide +kernel) (Or.inl ⟨_, rfl⟩) ?_
  refine V_go 1 rfl ?_
  refine V_new (wini := 114) rfl (by decide) (by decide +kernel) (by decide +kernel) (by decide +kernel) rfl (by decide) (by decide) (okrL_1 (okr_r (by decide))) (okr_1 (okr_r (by decide))) ?_
  refine V_go 3 rfl ?_
  refine V_callI (mt' := mX0_init) (As := [.ref 1]) rfl kX6_27 fX0_init rfl rfl (c_X0i23) (by decide) (by decide) (by decide) (Or.inr ⟨okrL_1 (okr_r (by decide)), okr_2 (okr_r (by decide)) (okr_r (by decide))⟩) ?_
  intro rv5 I5 J5 F5 g5
  obtain ⟨rfl, rfl, rfl, rfl⟩ := g5
  refine V_putR rfl rfl (by decide) (by decide) rfl rfl rfl (by decide +kernel) (Or.inl ⟨_, rfl⟩) ?_
  refine V_go 2 rfl ?_
  refine V_putZ rfl rfl (Nat.le_of_ble_eq_true rfl) rfl rfl (Or.inl rfl) ?_
  refine V_go 1 rfl ?_
  refine V_new (wini := 115) rfl (by decide) (by decide +kernel) (by decide +kernel) (by decide +kernel) rfl (by decide) (by decide) (okrL_1 (okr_r (by decide))) (okr_1 (okr_r (by decide))) ?_
  refine V_go 1 rfl ?_
  refine V_callI (mt' := mX2_init) (As := []) rfl kX6_44 fX2_init rfl rfl (c_X2i) (by decide) (by decide) (by decide) (Or.inr ⟨okrL_1 (okr_r (by decide)), okr_2 (okr_r (by decide)) (okr_r (by decide))⟩) ?_
  intro rv6 I6 J6 F6 g6
  obtain ⟨rfl, rfl, rfl, rfl⟩ := g6
  refine V_putR rfl rfl (by decide) (by decide) rfl rfl rfl (by decide +kernel) (Or.inl ⟨_, rfl⟩) ?_
  refine V_go 1 rfl ?_
  refine V_new (wini := 116) rfl (by decide) (by decide +kernel) (by decide +kernel) (by decide +kernel) rfl (by decide) (by decide) (okrL_1 (okr_r (by decide))) (okr_1 (okr_r (by decide))) ?_
  refine V_go 1 rfl ?_
  refine V_callI (mt' := mX4_init) (As := []) rfl kX6_51 fX4_init rfl rfl (c_X4i) (by decide) (by decide) (by decide) (Or.inr ⟨okrL_1 (okr_r (by decide)), okr_2 (okr_r (by decide)) (okr_r (by decide))⟩) ?_
  intro rv7 I7 J7 F7 g7
  obtain ⟨rfl, rfl, rfl, rfl⟩ := g7
  refine V_putR rfl rfl (by decide) (by decide) rfl rfl rfl (by decide +kernel) (Or.inl ⟨_, rfl⟩) ?_
  refine V_vret rfl rfl rfl ?_
  exact ⟨rfl, I1, ⟨t1, t2, t3, t4, t5, t6, t7, t8⟩, rfl, rfl⟩
