/-- a constructor leaves nothing on the stack -/
def RM0 (I1 : I2) (J1 : J2) (F1 : F2) : QT := fun rv I J F => rv = none ∧ I = I1 ∧ J = J1 ∧ F = F1
theorem okr_i {n : Nat} {x : Int32} : okr n (.int x) := fun _ h => nomatch h
theorem okr_r {n j : Nat} (h : j < n) : okr n (.ref j) := fun i e => Or.inl (by cases e; exact h)
theorem okr_nil {n : Nat} : ∀ v ∈ ([] : List Value), okr n v := fun _ h => nomatch h
theorem okr_1 {n : Nat} {v : Value} (h : okr n v) : ∀ w ∈ [v], okr n w := fun w hw => by rw [List.mem_singleton.mp hw]; exact h
theorem okrL_1 {n a : Nat} {v : Value} (h : okr n v) : ∀ q ∈ [(a, v)], okr n q.2 := fun w hw => by rw [List.mem_singleton.mp hw]; exact h

theorem c_X2i {I : I2} {J : J2} {F : F2} : CT mX2_init 1 32 34 [.ref 31] I J F (RM0 (row2 (row2 I 32 fun _ => 0) 33 fun _ => 0) (row2 (row2 J 32 fun _ => 0) 33 fun _ => 0) (up2 (row2 (up2 (row2 F 32 fun _ => none) 31 0 (some 32)) 33 fun _ => none) 31 1 (some 33))) := by
  refine CT_of okX2_init (Nat.le_of_ble_eq_true rfl) ?_ (by decide)
  show V _ _ _ _ _ _ [(0, _)] _ _ _ _ _
  refine V_go 1 rfl ?_
  refine V_objInit (wl1 := 263) (wi1 := 132) (wc1 := 133) rfl (by decide +kernel) (by decide +kernel) (by decide +kernel) (by decide) (by decide) ?_
  refine V_go 2 rfl ?_
  refine V_newa (wa := 176) (len := 6) rfl rfl (Or.inl rfl) (by decide +kernel) (by decide) rfl (by decide) rfl (by decide) (by decide) (okrL_1 (okr_r (by decide))) (okr_1 (okr_r (by decide))) ?_
  refine V_putR rfl rfl (by decide) (by decide) rfl rfl rfl (by decide +kernel) (Or.inr ⟨_, rfl⟩) ?_
  refine V_go 2 rfl ?_
  refine V_newa (wa := 176) (len := 40) rfl rfl (Or.inl rfl) (by decide +kernel) (by decide) rfl (by decide) rfl (by decide) (by decide) (okrL_1 (okr_r (by decide))) (okr_1 (okr_r (by decide))) ?_
  refine V_putR rfl rfl (by decide) (by decide) rfl rfl rfl (by decide +kernel) (Or.inr ⟨_, rfl⟩) ?_
  refine V_vret rfl rfl rfl ?_
  exact ⟨rfl, rfl, rfl, rfl⟩
