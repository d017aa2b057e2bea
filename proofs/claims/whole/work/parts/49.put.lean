theorem c_isBlank {x : Int32} {I : I2} {J : J2} : CT mX3_isBlank 1 58 58 [.int x] I J RF (RI RF (if isBl x then 1 else 0) I J) := by
  refine CT_of okX3_isBlank (Nat.le_of_ble_eq_true rfl) ?_
  show V _ _ _ _ _ _ [(0, _)] _ _ _ _ _
  refine V_go 2 rfl ?_
  refine V_icmp_eq rfl (fun h1 => ?_) (fun h1 => ?_)
  · skip
    refine V_go 2 rfl ?_
    refine V_zret rfl rfl rfl (by first | exact Or.inl rfl | exact Or.inr rfl | exact b2i_or _ | assumption) ?_
    refine RI.mk ?_
    unfold isBl
    first
      | (rw [if_pos (by simp only [decide_eq_true_eq]; first | assumption | (simp only [*]; done) | grind)]; done)
      | (rw [if_neg (by simp only [decide_eq_true_eq]; grind)]; done)
  · skip
    refine V_go 2 rfl ?_
    refine V_icmp_ne rfl (fun h2 => ?_) (fun h2 => ?_)
    · skip
      refine V_go 1 rfl ?_
      refine V_zret rfl rfl rfl (by first | exact Or.inl rfl | exact Or.inr rfl | exact b2i_or _ | assumption) ?_
      refine RI.mk ?_
      unfold isBl
      first
        | (rw [if_pos (by simp only [decide_eq_true_eq]; first | assumption | (simp only [*]; done) | grind)]; done)
        | (rw [if_neg (by simp only [decide_eq_true_eq]; grind)]; done)
    · skip
      refine V_go 2 rfl ?_
      refine V_zret rfl rfl rfl (by first | exact Or.inl rfl | exact Or.inr rfl | exact b2i_or _ | assumption) ?_
      refine RI.mk ?_
      unfold isBl
      first
        | (rw [if_pos (by simp only [decide_eq_true_eq]; first | assumption | (simp only [*]; done) | grind)]; done)
        | (rw [if_neg (by simp only [decide_eq_true_eq]; grind)]; done)
theorem c_isLetter {x : Int32} {I : I2} {J : J2} : CT mX3_isLetter 1 58 58 [.int x] I J RF (RI RF (if isLe x then 1 else 0) I J) := by
  refine CT_of okX3_isLetter (Nat.le_of_ble_eq_true rfl) ?_
  show V _ _ _ _ _ _ [(0, _)] _ _ _ _ _
  refine V_go 2 rfl ?_
  refine V_icmp_lt rfl (fun h1 => ?_) (fun h1 => ?_)
  · skip
    refine V_go 1 rfl ?_
    refine V_zret rfl rfl rfl (by first | exact Or.inl rfl | exact Or.inr rfl | exact b2i_or _ | assumption) ?_
    refine RI.mk ?_
    unfold isLe
    first
      | (rw [if_pos (by simp only [decide_eq_true_eq]; first | assumption | (simp only [*]; done) | grind)]; done)
      | (rw [if_neg (by simp only [decide_eq_true_eq]; grind)]; done)
  · skip
    refine V_go 2 rfl ?_
    refine V_icmp_gt rfl (fun h2 => ?_) (fun h2 => ?_)
    · skip
      refine V_go 1 rfl ?_
      refine V_zret rfl rfl rfl (by first | exact Or.inl rfl | exact Or.inr rfl | exact b2i_or _ | assumption) ?_
      refine RI.mk ?_
      unfold isLe
      first
        | (rw [if_pos (by simp only [decide_eq_true_eq]; first | assumption | (simp only [*]; done) | grind)]; done)
        | (rw [if_neg (by simp only [decide_eq_true_eq]; grind)]; done)
    · skip
      refine V_go 2 rfl ?_
      refine V_zret rfl rfl rfl (by first | exact Or.inl rfl | exact Or.inr rfl | exact b2i_or _ | assumption) ?_
      refine RI.mk ?_
      unfold isLe
      first
        | (rw [if_pos (by simp only [decide_eq_true_eq]; first | assumption | (simp only [*]; done) | grind)]; done)
        | (rw [if_neg (by simp only [decide_eq_true_eq]; grind)]; done)
theorem c_isDigit {x : Int32} {I : I2} {J : J2} : CT mX3_isDigit 1 58 58 [.int x] I J RF (RI RF (if isDi x then 1 else 0) I J) := by
  refine CT_of okX3_isDigit (Nat.le_of_ble_eq_true rfl) ?_
  show V _ _ _ _ _ _ [(0, _)] _ _ _ _ _
  refine V_go 2 rfl ?_
  refine V_icmp_lt rfl (fun h1 => ?_) (fun h1 => ?_)
  · skip
    refine V_go 1 rfl ?_
    refine V_zret rfl rfl rfl (by first | exact Or.inl rfl | exact Or.inr rfl | exact b2i_or _ | assumption) ?_
    refine RI.mk ?_
    unfold isDi
    first
      | (rw [if_pos (by simp only [decide_eq_true_eq]; first | assumption | (simp only [*]; done) | grind)]; done)
      | (rw [if_neg (by simp only [decide_eq_true_eq]; grind)]; done)
  · skip
    refine V_go 2 rfl ?_
    refine V_icmp_gt rfl (fun h2 => ?_) (fun h2 => ?_)
    · skip
      refine V_go 1 rfl ?_
      refine V_zret rfl rfl rfl (by first | exact Or.inl rfl | exact Or.inr rfl | exact b2i_or _ | assumption) ?_
      refine RI.mk ?_
      unfold isDi
      first
        | (rw [if_pos (by simp only [decide_eq_true_eq]; first | assumption | (simp only [*]; done) | grind)]; done)
        | (rw [if_neg (by simp only [decide_eq_true_eq]; grind)]; done)
    · skip
      refine V_go 2 rfl ?_
      refine V_zret rfl rfl rfl (by first | exact Or.inl rfl | exact Or.inr rfl | exact b2i_or _ | assumption) ?_
      refine RI.mk ?_
      unfold isDi
      first
        | (rw [if_pos (by simp only [decide_eq_true_eq]; first | assumption | (simp only [*]; done) | grind)]; done)
        | (rw [if_neg (by simp only [decide_eq_true_eq]; grind)]; done)
theorem c_begin {I : I2} {J : J2} : CT mX5_begin 1 58 58 [.ref 1] I J RF (RV RF (up2 I 1 1 0) J) := by
  refine CT_of okX5_begin (Nat.le_of_ble_eq_true rfl) ?_
  show V _ _ _ _ _ _ [(0, _)] _ _ _ _ _
  refine V_go 3 rfl ?_
  refine V_vret rfl rfl rfl ?_
  exact RV.mk
theorem c_cellOfName {x : Int32} {I : I2} {J : J2} : CT mX5_cellOfName 1 58 58 [.int x] I J RF (RI RF (-1 - x) I J) := by
  refine CT_of okX5_cellOfName (Nat.le_of_ble_eq_true rfl) ?_
  show V _ _ _ _ _ _ [(0, _)] _ _ _ _ _
  refine V_go 3 rfl ?_
  refine V_iret rfl rfl rfl ?_
  exact RI.mk rfl
theorem c_keep {I : I2} {J : J2} : CT mX5_keep 1 58 58 [.ref 1] I J RF (RI RF (I 1 0) (up2 I 1 0 (I 1 0 + 1)) J) := by
  refine CT_of okX5_keep (Nat.le_of_ble_eq_true rfl) ?_
  show V _ _ _ _ _ _ [(0, _)] _ _ _ _ _
  refine V_go 7 rfl ?_
  refine V_iret rfl rfl rfl ?_
  exact RI.mk rfl
