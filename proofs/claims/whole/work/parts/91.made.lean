/-- a constructor leaves nothing on the stack -/
def RM0 (I1 : I2) (J1 : J2) (F1 : F2) : QT := fun rv I J F => rv = none ∧ I = I1 ∧ J = J1 ∧ F = F1
theorem okr_i {n : Nat} {x : Int32} : okr n (.int x) := fun _ h => nomatch h
theorem okr_r {n j : Nat} (h : j < n) : okr n (.ref j) := fun i e => Or.inl (by cases e; exact h)
theorem okr_nil {n : Nat} : ∀ v ∈ ([] : List Value), okr n v := fun _ h => nomatch h
theorem okr_1 {n : Nat} {v : Value} (h : okr n v) : ∀ w ∈ [v], okr n w := fun w hw => by rw [List.mem_singleton.mp hw]; exact h
theorem okrL_1 {n a : Nat} {v : Value} (h : okr n v) : ∀ q ∈ [(a, v)], okr n q.2 := fun w hw => by rw [List.mem_singleton.mp hw]; exact h
theorem okrL_2 {n a b : Nat} {v w : Value} (h : okr n v) (h' : okr n w) : ∀ q ∈ [(a, v), (b, w)], okr n q.2 := fun q hq => by
  rcases List.mem_cons.mp hq with e | hq
  · rw [e]; exact h
  · rw [List.mem_singleton.mp hq]; exact h'

theorem c_X3i {I : I2} {J : J2} {F : F2} : CT mX3_init 1 6 7 [.ref 5, .ref 1] I J F (RM0 (row2 I 6 fun _ => 0) (row2 J 6 fun _ => 0) (up2 (up2 (row2 F 6 fun _ => none) 5 1 (some 6)) 5 0 (some 1))) := by
  refine CT_of okX3_init (Nat.le_of_ble_eq_true rfl) ?_ (by decide)
  show V _ _ _ _ _ _ [(0, _), (1, _)] _ _ _ _ _
  refine V_go 1 rfl ?_
  refine V_objInit (wl1 := 182) (wi1 := 132) (wc1 := 133) rfl (by decide +kernel) (by decide +kernel) (by decide +kernel) (by decide) (by decide) ?_
  refine V_go 2 rfl ?_
  refine V_newa (wa := 176) (len := 160) rfl rfl (Or.inl rfl) (by decide +kernel) (by decide) rfl (by decide) rfl (by decide) (by decide) (okrL_2 (okr_r (by decide)) (okr_r (by decide))) (okr_1 (okr_r (by decide))) ?_
  refine V_putR rfl rfl (by decide) (by decide) rfl rfl rfl (by decide +kernel) (Or.inr ⟨_, rfl⟩) ?_
  refine V_go 2 rfl ?_
  refine V_putR rfl rfl (by decide) (by decide) rfl rfl rfl (by decide +kernel) (Or.inl ⟨_, rfl⟩) ?_
  refine V_vret rfl rfl rfl ?_
  exact ⟨rfl, rfl, rfl, rfl⟩
theorem c_X0i7 {I : I2} {J : J2} {F : F2} : CT mX0_init 1 8 15 [.ref 7, .ref 1] I J F (RM0 (up2 (row2 (row2 (row2 (row2 (row2 (row2 (row2 I 8 fun _ => 0) 9 fun _ => 0) 10 fun _ => 0) 11 fun _ => 0) 12 fun _ => 0) 13 fun _ => 0) 14 fun _ => 0) 7 3 60) (row2 (row2 (row2 (row2 (row2 (row2 (row2 J 8 fun _ => 0) 9 fun _ => 0) 10 fun _ => 0) 11 fun _ => 0) 12 fun _ => 0) 13 fun _ => 0) 14 fun _ => 0) (up2 (up2 (row2 (up2 (row2 (up2 (row2 (up2 (row2 (up2 (row2 (up2 (row2 (up2 (row2 F 8 fun _ => none) 7 1 (some 8)) 9 fun _ => none) 7 6 (some 9)) 10 fun _ => none) 7 7 (some 10)) 11 fun _ => none) 7 8 (some 11)) 12 fun _ => none) 7 10 (some 12)) 13 fun _ => none) 7 11 (some 13)) 14 fun _ => none) 7 12 (some 14)) 7 0 (some 1))) := by
  refine CT_of okX0_init (Nat.le_of_ble_eq_true rfl) ?_ (by decide)
  show V _ _ _ _ _ _ [(0, _), (1, _)] _ _ _ _ _
  refine V_go 1 rfl ?_
  refine V_objInit (wl1 := 211) (wi1 := 132) (wc1 := 133) rfl (by decide +kernel) (by decide +kernel) (by decide +kernel) (by decide) (by decide) ?_
  refine V_go 2 rfl ?_
  refine V_newa (wa := 176) (len := 6) rfl rfl (Or.inl rfl) (by decide +kernel) (by decide) rfl (by decide) rfl (by decide) (by decide) (okrL_2 (okr_r (by decide)) (okr_r (by decide))) (okr_1 (okr_r (by decide))) ?_
  refine V_putR rfl rfl (by decide) (by decide) rfl rfl rfl (by decide +kernel) (Or.inr ⟨_, rfl⟩) ?_
  refine V_go 2 rfl ?_
  refine V_newa (wa := 176) (len := 8) rfl rfl (Or.inl rfl) (by decide +kernel) (by decide) rfl (by decide) rfl (by decide) (by decide) (okrL_2 (okr_r (by decide)) (okr_r (by decide))) (okr_1 (okr_r (by decide))) ?_
  refine V_putR rfl rfl (by decide) (by decide) rfl rfl rfl (by decide +kernel) (Or.inr ⟨_, rfl⟩) ?_
  refine V_go 2 rfl ?_
  refine V_newa (wa := 176) (len := 8) rfl rfl (Or.inl rfl) (by decide +kernel) (by decide) rfl (by decide) rfl (by decide) (by decide) (okrL_2 (okr_r (by decide)) (okr_r (by decide))) (okr_1 (okr_r (by decide))) ?_
  refine V_putR rfl rfl (by decide) (by decide) rfl rfl rfl (by decide +kernel) (Or.inr ⟨_, rfl⟩) ?_
  refine V_go 2 rfl ?_
  refine V_newa (wa := 176) (len := 8) rfl rfl (Or.inl rfl) (by decide +kernel) (by decide) rfl (by decide) rfl (by decide) (by decide) (okrL_2 (okr_r (by decide)) (okr_r (by decide))) (okr_1 (okr_r (by decide))) ?_
  refine V_putR rfl rfl (by decide) (by decide) rfl rfl rfl (by decide +kernel) (Or.inr ⟨_, rfl⟩) ?_
  refine V_go 2 rfl ?_
  refine V_newa (wa := 176) (len := 6) rfl rfl (Or.inl rfl) (by decide +kernel) (by decide) rfl (by decide) rfl (by decide) (by decide) (okrL_2 (okr_r (by decide)) (okr_r (by decide))) (okr_1 (okr_r (by decide))) ?_
  refine V_putR rfl rfl (by decide) (by decide) rfl rfl rfl (by decide +kernel) (Or.inr ⟨_, rfl⟩) ?_
  refine V_go 2 rfl ?_
  refine V_newa (wa := 176) (len := 6) rfl rfl (Or.inl rfl) (by decide +kernel) (by decide) rfl (by decide) rfl (by decide) (by decide) (okrL_2 (okr_r (by decide)) (okr_r (by decide))) (okr_1 (okr_r (by decide))) ?_
  refine V_putR rfl rfl (by decide) (by decide) rfl rfl rfl (by decide +kernel) (Or.inr ⟨_, rfl⟩) ?_
  refine V_go 2 rfl ?_
  refine V_newa (wa := 176) (len := 6) rfl rfl (Or.inl rfl) (by decide +kernel) (by decide) rfl (by decide) rfl (by decide) (by decide) (okrL_2 (okr_r (by decide)) (okr_r (by decide))) (okr_1 (okr_r (by decide))) ?_
  refine V_putR rfl rfl (by decide) (by decide) rfl rfl rfl (by decide +kernel) (Or.inr ⟨_, rfl⟩) ?_
  refine V_go 2 rfl ?_
  refine V_putR rfl rfl (by decide) (by decide) rfl rfl rfl (by decide +kernel) (Or.inl ⟨_, rfl⟩) ?_
  refine V_go 3 rfl ?_
  refine V_vret rfl rfl rfl ?_
  exact ⟨rfl, rfl, rfl, rfl⟩
theorem c_X0i15 {I : I2} {J : J2} {F : F2} : CT mX0_init 1 16 23 [.ref 15, .ref 1] I J F (RM0 (up2 (row2 (row2 (row2 (row2 (row2 (row2 (row2 I 16 fun _ => 0) 17 fun _ => 0) 18 fun _ => 0) 19 fun _ => 0) 20 fun _ => 0) 21 fun _ => 0) 22 fun _ => 0) 15 3 60) (row2 (row2 (row2 (row2 (row2 (row2 (row2 J 16 fun _ => 0) 17 fun _ => 0) 18 fun _ => 0) 19 fun _ => 0) 20 fun _ => 0) 21 fun _ => 0) 22 fun _ => 0) (up2 (up2 (row2 (up2 (row2 (up2 (row2 (up2 (row2 (up2 (row2 (up2 (row2 (up2 (row2 F 16 fun _ => none) 15 1 (some 16)) 17 fun _ => none) 15 6 (some 17)) 18 fun _ => none) 15 7 (some 18)) 19 fun _ => none) 15 8 (some 19)) 20 fun _ => none) 15 10 (some 20)) 21 fun _ => none) 15 11 (some 21)) 22 fun _ => none) 15 12 (some 22)) 15 0 (some 1))) := by
  refine CT_of okX0_init (Nat.le_of_ble_eq_true rfl) ?_ (by decide)
  show V _ _ _ _ _ _ [(0, _), (1, _)] _ _ _ _ _
  refine V_go 1 rfl ?_
  refine V_objInit (wl1 := 211) (wi1 := 132) (wc1 := 133) rfl (by decide +kernel) (by decide +kernel) (by decide +kernel) (by decide) (by decide) ?_
  refine V_go 2 rfl ?_
  refine V_newa (wa := 176) (len := 6) rfl rfl (Or.inl rfl) (by decide +kernel) (by decide) rfl (by decide) rfl (by decide) (by decide) (okrL_2 (okr_r (by decide)) (okr_r (by decide))) (okr_1 (okr_r (by decide))) ?_
  refine V_putR rfl rfl (by decide) (by decide) rfl rfl rfl (by decide +kernel) (Or.inr ⟨_, rfl⟩) ?_
  refine V_go 2 rfl ?_
  refine V_newa (wa := 176) (len := 8) rfl rfl (Or.inl rfl) (by decide +kernel) (by decide) rfl (by decide) rfl (by decide) (by decide) (okrL_2 (okr_r (by decide)) (okr_r (by decide))) (okr_1 (okr_r (by decide))) ?_
  refine V_putR rfl rfl (by decide) (by decide) rfl rfl rfl (by decide +kernel) (Or.inr ⟨_, rfl⟩) ?_
  refine V_go 2 rfl ?_
  refine V_newa (wa := 176) (len := 8) rfl rfl (Or.inl rfl) (by decide +kernel) (by decide) rfl (by decide) rfl (by decide) (by decide) (okrL_2 (okr_r (by decide)) (okr_r (by decide))) (okr_1 (okr_r (by decide))) ?_
  refine V_putR rfl rfl (by decide) (by decide) rfl rfl rfl (by decide +kernel) (Or.inr ⟨_, rfl⟩) ?_
  refine V_go 2 rfl ?_
  refine V_newa (wa := 176) (len := 8) rfl rfl (Or.inl rfl) (by decide +kernel) (by decide) rfl (by decide) rfl (by decide) (by decide) (okrL_2 (okr_r (by decide)) (okr_r (by decide))) (okr_1 (okr_r (by decide))) ?_
  refine V_putR rfl rfl (by decide) (by decide) rfl rfl rfl (by decide +kernel) (Or.inr ⟨_, rfl⟩) ?_
  refine V_go 2 rfl ?_
  refine V_newa (wa := 176) (len := 6) rfl rfl (Or.inl rfl) (by decide +kernel) (by decide) rfl (by decide) rfl (by decide) (by decide) (okrL_2 (okr_r (by decide)) (okr_r (by decide))) (okr_1 (okr_r (by decide))) ?_
  refine V_putR rfl rfl (by decide) (by decide) rfl rfl rfl (by decide +kernel) (Or.inr ⟨_, rfl⟩) ?_
  refine V_go 2 rfl ?_
  refine V_newa (wa := 176) (len := 6) rfl rfl (Or.inl rfl) (by decide +kernel) (by decide) rfl (by decide) rfl (by decide) (by decide) (okrL_2 (okr_r (by decide)) (okr_r (by decide))) (okr_1 (okr_r (by decide))) ?_
  refine V_putR rfl rfl (by decide) (by decide) rfl rfl rfl (by decide +kernel) (Or.inr ⟨_, rfl⟩) ?_
  refine V_go 2 rfl ?_
  refine V_newa (wa := 176) (len := 6) rfl rfl (Or.inl rfl) (by decide +kernel) (by decide) rfl (by decide) rfl (by decide) (by decide) (okrL_2 (okr_r (by decide)) (okr_r (by decide))) (okr_1 (okr_r (by decide))) ?_
  refine V_putR rfl rfl (by decide) (by decide) rfl rfl rfl (by decide +kernel) (Or.inr ⟨_, rfl⟩) ?_
  refine V_go 2 rfl ?_
  refine V_putR rfl rfl (by decide) (by decide) rfl rfl rfl (by decide +kernel) (Or.inl ⟨_, rfl⟩) ?_
  refine V_go 3 rfl ?_
  refine V_vret rfl rfl rfl ?_
  exact ⟨rfl, rfl, rfl, rfl⟩
theorem c_X0i23 {I : I2} {J : J2} {F : F2} : CT mX0_init 1 24 31 [.ref 23, .ref 1] I J F (RM0 (up2 (row2 (row2 (row2 (row2 (row2 (row2 (row2 I 24 fun _ => 0) 25 fun _ => 0) 26 fun _ => 0) 27 fun _ => 0) 28 fun _ => 0) 29 fun _ => 0) 30 fun _ => 0) 23 3 60) (row2 (row2 (row2 (row2 (row2 (row2 (row2 J 24 fun _ => 0) 25 fun _ => 0) 26 fun _ => 0) 27 fun _ => 0) 28 fun _ => 0) 29 fun _ => 0) 30 fun _ => 0) (up2 (up2 (row2 (up2 (row2 (up2 (row2 (up2 (row2 (up2 (row2 (up2 (row2 (up2 (row2 F 24 fun _ => none) 23 1 (some 24)) 25 fun _ => none) 23 6 (some 25)) 26 fun _ => none) 23 7 (some 26)) 27 fun _ => none) 23 8 (some 27)) 28 fun _ => none) 23 10 (some 28)) 29 fun _ => none) 23 11 (some 29)) 30 fun _ => none) 23 12 (some 30)) 23 0 (some 1))) := by
  refine CT_of okX0_init (Nat.le_of_ble_eq_true rfl) ?_ (by decide)
  show V _ _ _ _ _ _ [(0, _), (1, _)] _ _ _ _ _
  refine V_go 1 rfl ?_
  refine V_objInit (wl1 := 211) (wi1 := 132) (wc1 := 133) rfl (by decide +kernel) (by decide +kernel) (by decide +kernel) (by decide) (by decide) ?_
  refine V_go 2 rfl ?_
  refine V_newa (wa := 176) (len := 6) rfl rfl (Or.inl rfl) (by decide +kernel) (by decide) rfl (by decide) rfl (by decide) (by decide) (okrL_2 (okr_r (by decide)) (okr_r (by decide))) (okr_1 (okr_r (by decide))) ?_
  refine V_putR rfl rfl (by decide) (by decide) rfl rfl rfl (by decide +kernel) (Or.inr ⟨_, rfl⟩) ?_
  refine V_go 2 rfl ?_
  refine V_newa (wa := 176) (len := 8) rfl rfl (Or.inl rfl) (by decide +kernel) (by decide) rfl (by decide) rfl (by decide) (by decide) (okrL_2 (okr_r (by decide)) (okr_r (by decide))) (okr_1 (okr_r (by decide))) ?_
  refine V_putR rfl rfl (by decide) (by decide) rfl rfl rfl (by decide +kernel) (Or.inr ⟨_, rfl⟩) ?_
  refine V_go 2 rfl ?_
  refine V_newa (wa := 176) (len := 8) rfl rfl (Or.inl rfl) (by decide +kernel) (by decide) rfl (by decide) rfl (by decide) (by decide) (okrL_2 (okr_r (by decide)) (okr_r (by decide))) (okr_1 (okr_r (by decide))) ?_
  refine V_putR rfl rfl (by decide) (by decide) rfl rfl rfl (by decide +kernel) (Or.inr ⟨_, rfl⟩) ?_
  refine V_go 2 rfl ?_
  refine V_newa (wa := 176) (len := 8) rfl rfl (Or.inl rfl) (by decide +kernel) (by decide) rfl (by decide) rfl (by decide) (by decide) (okrL_2 (okr_r (by decide)) (okr_r (by decide))) (okr_1 (okr_r (by decide))) ?_
  refine V_putR rfl rfl (by decide) (by decide) rfl rfl rfl (by decide +kernel) (Or.inr ⟨_, rfl⟩) ?_
  refine V_go 2 rfl ?_
  refine V_newa (wa := 176) (len := 6) rfl rfl (Or.inl rfl) (by decide +kernel) (by decide) rfl (by decide) rfl (by decide) (by decide) (okrL_2 (okr_r (by decide)) (okr_r (by decide))) (okr_1 (okr_r (by decide))) ?_
  refine V_putR rfl rfl (by decide) (by decide) rfl rfl rfl (by decide +kernel) (Or.inr ⟨_, rfl⟩) ?_
  refine V_go 2 rfl ?_
  refine V_newa (wa := 176) (len := 6) rfl rfl (Or.inl rfl) (by decide +kernel) (by decide) rfl (by decide) rfl (by decide) (by decide) (okrL_2 (okr_r (by decide)) (okr_r (by decide))) (okr_1 (okr_r (by decide))) ?_
  refine V_putR rfl rfl (by decide) (by decide) rfl rfl rfl (by decide +kernel) (Or.inr ⟨_, rfl⟩) ?_
  refine V_go 2 rfl ?_
  refine V_newa (wa := 176) (len := 6) rfl rfl (Or.inl rfl) (by decide +kernel) (by decide) rfl (by decide) rfl (by decide) (by decide) (okrL_2 (okr_r (by decide)) (okr_r (by decide))) (okr_1 (okr_r (by decide))) ?_
  refine V_putR rfl rfl (by decide) (by decide) rfl rfl rfl (by decide +kernel) (Or.inr ⟨_, rfl⟩) ?_
  refine V_go 2 rfl ?_
  refine V_putR rfl rfl (by decide) (by decide) rfl rfl rfl (by decide +kernel) (Or.inl ⟨_, rfl⟩) ?_
  refine V_go 3 rfl ?_
  refine V_vret rfl rfl rfl ?_
  exact ⟨rfl, rfl, rfl, rfl⟩
theorem c_X2i {I : I2} {J : J2} {F : F2} : CT mX2_init 1 32 34 [.ref 31] I J F (RM0 (row2 (row2 I 32 fun _ => 0) 33 fun _ => 0) (row2 (row2 J 32 fun _ => 0) 33 fun _ => 0) (up2 (row2 (up2 (row2 F 32 fun _ => none) 31 0 (some 32)) 33 fun _ => none) 31 1 (some 33))) := by
  refine CT_of okX2_init (Nat.le_of_ble_eq_true rfl) ?_ (by decide)
  show V _ _ _ _ _ _ [(0, _)] _ _ _ _ _
  refine V_go 1 rfl ?_
  refine V_objInit (wl1 := 263) (wi1 := 132) (wc1 := 133) rfl (by decide +kernel) (by decide +kernel) (by decide +kernel) (by decide) (by decide) ?_
  refine V_go 2 rfl ?_
  refine V_newa (wa := 176) (len := 6) rfl rfl (Or.inl rfl) (by decide +kernel) (by decide) rfl (by decide) rfl (by decide) (by decide) (okrL_1 (okr_r (by decide))) (okr_1 (okr_r (by decide))) ?_
  refine V_putR rfl rfl (by decide) (by decide) rfl rfl rfl (by decide +kernel) (Or.inr ⟨_, rfl⟩) ?_
  refine V_go 2 rfl ?_
  refine V_newa (wa := 176) (len := 40) rfl rfl (Or.inl rfl) (by decide +kernel) (by decide) rfl (by decide) rfl (by decide) (by decide) (okrL_1 (okr_r (by decide))) (okr_1 (okr_r (by decide))) ?_
  refine V_putR rfl rfl (by decide) (by decide) rfl rfl rfl (by decide +kernel) (Or.inr ⟨_, rfl⟩) ?_
  refine V_vret rfl rfl rfl ?_
  exact ⟨rfl, rfl, rfl, rfl⟩
theorem c_X4i {I : I2} {J : J2} {F : F2} : CT mX4_init 1 35 38 [.ref 34] I J F (RM0 (row2 (row2 (up2 (up2 (up2 (up2 (row2 I 35 fun _ => 0) 35 0 (-1)) 35 1 (-1)) 35 2 (-1)) 35 3 (-1)) 36 fun _ => 0) 37 fun _ => 0) (row2 (row2 (row2 J 35 fun _ => 0) 36 fun _ => 0) 37 fun _ => 0) (up2 (row2 (up2 (row2 (up2 (row2 F 35 fun _ => none) 34 0 (some 35)) 36 fun _ => none) 34 1 (some 36)) 37 fun _ => none) 34 2 (some 37))) := by
  refine CT_of okX4_init (Nat.le_of_ble_eq_true rfl) ?_ (by decide)
  show V _ _ _ _ _ _ [(0, _)] _ _ _ _ _
  refine V_go 1 rfl ?_
  refine V_objInit (wl1 := 287) (wi1 := 132) (wc1 := 133) rfl (by decide +kernel) (by decide +kernel) (by decide +kernel) (by decide) (by decide) ?_
  refine V_go 2 rfl ?_
  refine V_newa (wa := 176) (len := 4) rfl rfl (Or.inl rfl) (by decide +kernel) (by decide) rfl (by decide) rfl (by decide) (by decide) (okrL_1 (okr_r (by decide))) (okr_1 (okr_r (by decide))) ?_
  refine V_go 3 rfl ?_
  refine V_iast rfl rfl (Nat.le_of_ble_eq_true rfl) (by unfold inb; decide) ?_
  refine V_go 3 rfl ?_
  refine V_iast rfl rfl (Nat.le_of_ble_eq_true rfl) (by unfold inb; decide) ?_
  refine V_go 3 rfl ?_
  refine V_iast rfl rfl (Nat.le_of_ble_eq_true rfl) (by unfold inb; decide) ?_
  refine V_go 3 rfl ?_
  refine V_iast rfl rfl (Nat.le_of_ble_eq_true rfl) (by unfold inb; decide) ?_
  refine V_putR rfl rfl (by decide) (by decide) rfl rfl rfl (by decide +kernel) (Or.inr ⟨_, rfl⟩) ?_
  refine V_go 2 rfl ?_
  refine V_newa (wa := 176) (len := 4) rfl rfl (Or.inl rfl) (by decide +kernel) (by decide) rfl (by decide) rfl (by decide) (by decide) (okrL_1 (okr_r (by decide))) (okr_1 (okr_r (by decide))) ?_
  refine V_putR rfl rfl (by decide) (by decide) rfl rfl rfl (by decide +kernel) (Or.inr ⟨_, rfl⟩) ?_
  refine V_go 2 rfl ?_
  refine V_newa (wa := 176) (len := 160) rfl rfl (Or.inl rfl) (by decide +kernel) (by decide) rfl (by decide) rfl (by decide) (by decide) (okrL_1 (okr_r (by decide))) (okr_1 (okr_r (by decide))) ?_
  refine V_putR rfl rfl (by decide) (by decide) rfl rfl rfl (by decide +kernel) (Or.inr ⟨_, rfl⟩) ?_
  refine V_vret rfl rfl rfl ?_
  exact ⟨rfl, rfl, rfl, rfl⟩
