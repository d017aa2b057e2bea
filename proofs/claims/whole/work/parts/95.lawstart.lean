theorem okr_b {n j : Nat} (h : 1000 ≤ j) : okr n (.ref j) := fun i e => Or.inr (by cases e; exact h)
set_option maxRecDepth 20000 in
theorem law_start {L9 : Nat} {xs : Nat → Int32} {Q : QT} {I : I2} {J : J2} {F : F2} (kk : ∀ (I1 : I2) (J1 : J2), Tx1 (row2 (row2 I 0 fun _ => 0) 1 fun _ => 0) I1 → V mL_law (some (L9, xs)) 53 58 Q 18 [(0, .ref 4000), (1, .ref 0), (2, .ref 38), (3, .int (i32 0))] [] 58 (I7 (row2 (I6 I1) 38 fun _ => 0)) (J7 (row2 J1 38 fun _ => 0)) (F7 (row2 (F6 (row2 F 0 fun _ => none)) 38 fun _ => none))) : V mL_law (some (L9, xs)) 53 58 Q 0 [(0, .ref 4000)] [] 0 I J F := by
  refine V_new (wini := 111) rfl (by decide) (by decide +kernel) (by decide +kernel) (by decide +kernel) rfl (by decide) (by decide) (okrL_1 (okr_b (by decide))) okr_nil ?_
  refine V_go 1 rfl ?_
  refine V_callI (mt' := mX6_init) (As := []) rfl kL_9 fX6_init rfl rfl c_X6i (by decide) (by decide) (by decide) (Or.inr ⟨okrL_1 (okr_b (by decide)), okr_1 (okr_r (by decide))⟩) ?_
  intro rv1 I1 J1 F1 g1
  obtain ⟨rfl, I4, t1, rfl, rfl⟩ := g1
  refine V_go 1 rfl ?_
  refine V_new (wini := 117) rfl (by decide) (by decide +kernel) (by decide +kernel) (by decide +kernel) rfl (by decide) (by decide) (okrL_2 (okr_b (by decide)) (okr_r (by decide))) okr_nil ?_
  refine V_go 1 rfl ?_
  refine V_callI (mt' := mX7_init) (As := []) rfl kL_12 fX7_init rfl rfl c_X7i (by decide) (by decide) (by decide) (Or.inr ⟨okrL_2 (okr_b (by decide)) (okr_r (by decide)), okr_1 (okr_r (by decide))⟩) ?_
  intro rv2 I2' J2' F2' g2
  obtain ⟨rfl, rfl, rfl, rfl⟩ := g2
  refine V_go 3 rfl ?_
  exact kk I4 J1 t1

