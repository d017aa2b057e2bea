theorem c_hasCitizen {o : Nat} {x : Int32} {I : I2} {J : J2} (ho : oC o) : CT mX0_hasCitizen 1 58 58 [.ref o, .int x] I J RF (RI RF (b2i (0 ≤ x ∧ x < I o 5 ∧ x < 8)) I J) := by
  rcases ho with rfl | rfl | rfl
  all_goals
    refine CT_of okX0_hasCitizen (Nat.le_of_ble_eq_true rfl) ?_
    show V _ _ _ _ _ _ [(0, _), (1, _)] _ _ _ _ _
    refine V_go 1 rfl ?_
    refine V_if_lt rfl (fun h1 => ?_) (fun h1 => ?_)
    · skip
      refine V_go 1 rfl ?_
      refine V_zret rfl rfl rfl (by first | exact Or.inl rfl | exact Or.inr rfl | exact b2i_or _ | assumption) ?_
      exact RI.mk (by grind [b2i, i32_ti, tcn])
    · skip
      refine V_go 3 rfl ?_
      refine V_icmp_ge rfl (fun h2 => ?_) (fun h2 => ?_)
      · skip
        refine V_go 1 rfl ?_
        refine V_zret rfl rfl rfl (by first | exact Or.inl rfl | exact Or.inr rfl | exact b2i_or _ | assumption) ?_
        exact RI.mk (by grind [b2i, i32_ti, tcn])
      · skip
        refine V_go 2 rfl ?_
        refine V_icmp_ge rfl (fun h3 => ?_) (fun h3 => ?_)
        · skip
          refine V_go 1 rfl ?_
          refine V_zret rfl rfl rfl (by first | exact Or.inl rfl | exact Or.inr rfl | exact b2i_or _ | assumption) ?_
          exact RI.mk (by grind [b2i, i32_ti, tcn])
        · skip
          refine V_go 2 rfl ?_
          refine V_zret rfl rfl rfl (by first | exact Or.inl rfl | exact Or.inr rfl | exact b2i_or _ | assumption) ?_
          exact RI.mk (by grind [b2i, i32_ti, tcn])
theorem c_hasItem {o : Nat} {x : Int32} {I : I2} {J : J2} (ho : oC o) : CT mX0_hasItem 1 58 58 [.ref o, .int x] I J RF (RI RF (b2i (0 ≤ x ∧ x < I o 9 ∧ x < 6)) I J) := by
  rcases ho with rfl | rfl | rfl
  all_goals
    refine CT_of okX0_hasItem (Nat.le_of_ble_eq_true rfl) ?_
    show V _ _ _ _ _ _ [(0, _), (1, _)] _ _ _ _ _
    refine V_go 1 rfl ?_
    refine V_if_lt rfl (fun h1 => ?_) (fun h1 => ?_)
    · skip
      refine V_go 1 rfl ?_
      refine V_zret rfl rfl rfl (by first | exact Or.inl rfl | exact Or.inr rfl | exact b2i_or _ | assumption) ?_
      exact RI.mk (by grind [b2i, i32_ti, tcn])
    · skip
      refine V_go 3 rfl ?_
      refine V_icmp_ge rfl (fun h2 => ?_) (fun h2 => ?_)
      · skip
        refine V_go 1 rfl ?_
        refine V_zret rfl rfl rfl (by first | exact Or.inl rfl | exact Or.inr rfl | exact b2i_or _ | assumption) ?_
        exact RI.mk (by grind [b2i, i32_ti, tcn])
      · skip
        refine V_go 2 rfl ?_
        refine V_icmp_ge rfl (fun h3 => ?_) (fun h3 => ?_)
        · skip
          refine V_go 1 rfl ?_
          refine V_zret rfl rfl rfl (by first | exact Or.inl rfl | exact Or.inr rfl | exact b2i_or _ | assumption) ?_
          exact RI.mk (by grind [b2i, i32_ti, tcn])
        · skip
          refine V_go 2 rfl ?_
          refine V_zret rfl rfl rfl (by first | exact Or.inl rfl | exact Or.inr rfl | exact b2i_or _ | assumption) ?_
          exact RI.mk (by grind [b2i, i32_ti, tcn])
theorem c_everyone {o : Nat} {I : I2} {J : J2} (ho : oC o) : CT mX0_everyone 1 58 58 [.ref o] I J RF (RI RF ((1 : Int32) <<< (I o 5 &&& 31) - 1) I J) := by
  rcases ho with rfl | rfl | rfl
  all_goals
    refine CT_of okX0_everyone (Nat.le_of_ble_eq_true rfl) ?_
    show V _ _ _ _ _ _ [(0, _)] _ _ _ _ _
    refine V_go 6 rfl ?_
    refine V_iret rfl rfl rfl ?_
    exact RI.mk (by grind [b2i, i32_ti, tcn])
theorem c_kindOf {o : Nat} {x : Int32} {I : I2} {J : J2} (ho : oC o) : CT mX0_kindOf 2 58 58 [.ref o, .int x] I J RF (RI RF (if 0 ≤ x ∧ x < I o 5 ∧ x < 8 then I (o + 2) x.toNatClampNeg else -1) I J) := by
  rcases ho with rfl | rfl | rfl
  all_goals
    refine CT_of okX0_kindOf (Nat.le_of_ble_eq_true rfl) ?_
    show V _ _ _ _ _ _ [(0, _), (1, _)] _ _ _ _ _
    refine V_go 2 rfl ?_
    refine cVI (mt' := mX0_hasCitizen) rfl kX0_61 fX0_hasCitizen rfl rfl rfl (Nat.le_of_ble_eq_true rfl) (Nat.le_of_ble_eq_true rfl) (Nat.le_of_ble_eq_true rfl) (Nat.le_of_ble_eq_true rfl) (Nat.le_refl _) (c_hasCitizen (by unfold oC; decide)) ?_
    refine V_if_eq rfl (fun h2 => ?_) (fun h2 => ?_)
    · skip
      refine V_go 1 rfl ?_
      refine V_iret rfl rfl rfl ?_
      exact RI.mk (by grind [b2i, i32_ti, tcn])
    · skip
      refine V_go 3 rfl ?_
      refine V_iald rfl rfl (Nat.le_of_ble_eq_true rfl) (inb_ofN (by decide) (by grind [b2i, i32_ti, tcn]) (by grind [b2i, i32_ti, tcn])) ?_
      refine V_go 1 rfl ?_
      refine V_iret rfl rfl rfl ?_
      exact RI.mk (by grind [b2i, i32_ti, tcn])
theorem c_numberOf {o : Nat} {x : Int32} {I : I2} {J : J2} (ho : oC o) : CT mX0_numberOf 2 58 58 [.ref o, .int x] I J RF (RI RF (if 0 ≤ x ∧ x < I o 5 ∧ x < 8 then I (o + 3) x.toNatClampNeg else -1) I J) := by
  rcases ho with rfl | rfl | rfl
  all_goals
    refine CT_of okX0_numberOf (Nat.le_of_ble_eq_true rfl) ?_
    show V _ _ _ _ _ _ [(0, _), (1, _)] _ _ _ _ _
    refine V_go 2 rfl ?_
    refine cVI (mt' := mX0_hasCitizen) rfl kX0_61 fX0_hasCitizen rfl rfl rfl (Nat.le_of_ble_eq_true rfl) (Nat.le_of_ble_eq_true rfl) (Nat.le_of_ble_eq_true rfl) (Nat.le_of_ble_eq_true rfl) (Nat.le_refl _) (c_hasCitizen (by unfold oC; decide)) ?_
    refine V_if_eq rfl (fun h2 => ?_) (fun h2 => ?_)
    · skip
      refine V_go 1 rfl ?_
      refine V_iret rfl rfl rfl ?_
      exact RI.mk (by grind [b2i, i32_ti, tcn])
    · skip
      refine V_go 3 rfl ?_
      refine V_iald rfl rfl (Nat.le_of_ble_eq_true rfl) (inb_ofN (by decide) (by grind [b2i, i32_ti, tcn]) (by grind [b2i, i32_ti, tcn])) ?_
      refine V_go 1 rfl ?_
      refine V_iret rfl rfl rfl ?_
      exact RI.mk (by grind [b2i, i32_ti, tcn])
theorem c_bribeOf {o : Nat} {x : Int32} {I : I2} {J : J2} (ho : oC o) : CT mX0_bribeOf 2 58 58 [.ref o, .int x] I J RF (RI RF (if 0 ≤ x ∧ x < I o 5 ∧ x < 8 then I (o + 4) x.toNatClampNeg else -1) I J) := by
  rcases ho with rfl | rfl | rfl
  all_goals
    refine CT_of okX0_bribeOf (Nat.le_of_ble_eq_true rfl) ?_
    show V _ _ _ _ _ _ [(0, _), (1, _)] _ _ _ _ _
    refine V_go 2 rfl ?_
    refine cVI (mt' := mX0_hasCitizen) rfl kX0_61 fX0_hasCitizen rfl rfl rfl (Nat.le_of_ble_eq_true rfl) (Nat.le_of_ble_eq_true rfl) (Nat.le_of_ble_eq_true rfl) (Nat.le_of_ble_eq_true rfl) (Nat.le_refl _) (c_hasCitizen (by unfold oC; decide)) ?_
    refine V_if_eq rfl (fun h2 => ?_) (fun h2 => ?_)
    · skip
      refine V_go 1 rfl ?_
      refine V_iret rfl rfl rfl ?_
      exact RI.mk (by grind [b2i, i32_ti, tcn])
    · skip
      refine V_go 3 rfl ?_
      refine V_iald rfl rfl (Nat.le_of_ble_eq_true rfl) (inb_ofN (by decide) (by grind [b2i, i32_ti, tcn]) (by grind [b2i, i32_ti, tcn])) ?_
      refine V_go 1 rfl ?_
      refine V_iret rfl rfl rfl ?_
      exact RI.mk (by grind [b2i, i32_ti, tcn])
theorem c_takesOf {o : Nat} {x : Int32} {I : I2} {J : J2} (ho : oC o) : CT mX0_takesOf 2 58 58 [.ref o, .int x] I J RF (RI RF (if 0 ≤ x ∧ x < I o 9 ∧ x < 6 then I (o + 5) x.toNatClampNeg else -1) I J) := by
  rcases ho with rfl | rfl | rfl
  all_goals
    refine CT_of okX0_takesOf (Nat.le_of_ble_eq_true rfl) ?_
    show V _ _ _ _ _ _ [(0, _), (1, _)] _ _ _ _ _
    refine V_go 2 rfl ?_
    refine cVI (mt' := mX0_hasItem) rfl kX0_65 fX0_hasItem rfl rfl rfl (Nat.le_of_ble_eq_true rfl) (Nat.le_of_ble_eq_true rfl) (Nat.le_of_ble_eq_true rfl) (Nat.le_of_ble_eq_true rfl) (Nat.le_refl _) (c_hasItem (by unfold oC; decide)) ?_
    refine V_if_eq rfl (fun h2 => ?_) (fun h2 => ?_)
    · skip
      refine V_go 1 rfl ?_
      refine V_iret rfl rfl rfl ?_
      exact RI.mk (by grind [b2i, i32_ti, tcn])
    · skip
      refine V_go 3 rfl ?_
      refine V_iald rfl rfl (Nat.le_of_ble_eq_true rfl) (inb_ofN (by decide) (by grind [b2i, i32_ti, tcn]) (by grind [b2i, i32_ti, tcn])) ?_
      refine V_go 1 rfl ?_
      refine V_iret rfl rfl rfl ?_
      exact RI.mk (by grind [b2i, i32_ti, tcn])
theorem c_soFarOf {o : Nat} {x : Int32} {I : I2} {J : J2} (ho : oC o) : CT mX0_soFarOf 2 58 58 [.ref o, .int x] I J RF (RI RF (if 0 ≤ x ∧ x < I o 9 ∧ x < 6 then I (o + 6) x.toNatClampNeg else -1) I J) := by
  rcases ho with rfl | rfl | rfl
  all_goals
    refine CT_of okX0_soFarOf (Nat.le_of_ble_eq_true rfl) ?_
    show V _ _ _ _ _ _ [(0, _), (1, _)] _ _ _ _ _
    refine V_go 2 rfl ?_
    refine cVI (mt' := mX0_hasItem) rfl kX0_65 fX0_hasItem rfl rfl rfl (Nat.le_of_ble_eq_true rfl) (Nat.le_of_ble_eq_true rfl) (Nat.le_of_ble_eq_true rfl) (Nat.le_of_ble_eq_true rfl) (Nat.le_refl _) (c_hasItem (by unfold oC; decide)) ?_
    refine V_if_eq rfl (fun h2 => ?_) (fun h2 => ?_)
    · skip
      refine V_go 1 rfl ?_
      refine V_iret rfl rfl rfl ?_
      exact RI.mk (by grind [b2i, i32_ti, tcn])
    · skip
      refine V_go 3 rfl ?_
      refine V_iald rfl rfl (Nat.le_of_ble_eq_true rfl) (inb_ofN (by decide) (by grind [b2i, i32_ti, tcn]) (by grind [b2i, i32_ti, tcn])) ?_
      refine V_go 1 rfl ?_
      refine V_iret rfl rfl rfl ?_
      exact RI.mk (by grind [b2i, i32_ti, tcn])
theorem c_doneAt {o : Nat} {x : Int32} {I : I2} {J : J2} (ho : oC o) : CT mX0_doneAt 2 58 58 [.ref o, .int x] I J RF (RI RF (if 0 ≤ x ∧ x < I o 9 ∧ x < 6 then I (o + 7) x.toNatClampNeg else -1) I J) := by
  rcases ho with rfl | rfl | rfl
  all_goals
    refine CT_of okX0_doneAt (Nat.le_of_ble_eq_true rfl) ?_
    show V _ _ _ _ _ _ [(0, _), (1, _)] _ _ _ _ _
    refine V_go 2 rfl ?_
    refine cVI (mt' := mX0_hasItem) rfl kX0_65 fX0_hasItem rfl rfl rfl (Nat.le_of_ble_eq_true rfl) (Nat.le_of_ble_eq_true rfl) (Nat.le_of_ble_eq_true rfl) (Nat.le_of_ble_eq_true rfl) (Nat.le_refl _) (c_hasItem (by unfold oC; decide)) ?_
    refine V_if_eq rfl (fun h2 => ?_) (fun h2 => ?_)
    · skip
      refine V_go 1 rfl ?_
      refine V_iret rfl rfl rfl ?_
      exact RI.mk (by grind [b2i, i32_ti, tcn])
    · skip
      refine V_go 3 rfl ?_
      refine V_iald rfl rfl (Nat.le_of_ble_eq_true rfl) (inb_ofN (by decide) (by grind [b2i, i32_ti, tcn]) (by grind [b2i, i32_ti, tcn])) ?_
      refine V_go 1 rfl ?_
      refine V_iret rfl rfl rfl ?_
      exact RI.mk (by grind [b2i, i32_ti, tcn])
theorem c_putKind {o : Nat} {x v : Int32} {I : I2} {J : J2} (ho : oC o) : CT mX0_putKind 2 58 58 [.ref o, .int x, .int v] I J RF (RV RF (if 0 ≤ x ∧ x < I o 5 ∧ x < 8 then up2 I (o + 2) x.toNatClampNeg v else I) J) := by
  rcases ho with rfl | rfl | rfl
  all_goals
    refine CT_of okX0_putKind (Nat.le_of_ble_eq_true rfl) ?_
    show V _ _ _ _ _ _ [(0, _), (1, _), (2, _)] _ _ _ _ _
    refine V_go 2 rfl ?_
    refine cVI (mt' := mX0_hasCitizen) rfl kX0_61 fX0_hasCitizen rfl rfl rfl (Nat.le_of_ble_eq_true rfl) (Nat.le_of_ble_eq_true rfl) (Nat.le_of_ble_eq_true rfl) (Nat.le_of_ble_eq_true rfl) (Nat.le_refl _) (c_hasCitizen (by unfold oC; decide)) ?_
    refine V_if_eq rfl (fun h2 => ?_) (fun h2 => ?_)
    · skip
      refine V_vret rfl rfl rfl ?_
      exact RV.mk2 (by grind [b2i])
    · skip
      refine V_go 4 rfl ?_
      refine V_iast rfl rfl (Nat.le_of_ble_eq_true rfl) (inb_ofN (by decide) (by grind [b2i, i32_ti, tcn]) (by grind [b2i, i32_ti, tcn])) ?_
      refine V_vret rfl rfl rfl ?_
      exact RV.mk2 (by grind [b2i])
theorem c_putNumber {o : Nat} {x v : Int32} {I : I2} {J : J2} (ho : oC o) : CT mX0_putNumber 2 58 58 [.ref o, .int x, .int v] I J RF (RV RF (if 0 ≤ x ∧ x < I o 5 ∧ x < 8 then up2 I (o + 3) x.toNatClampNeg v else I) J) := by
  rcases ho with rfl | rfl | rfl
  all_goals
    refine CT_of okX0_putNumber (Nat.le_of_ble_eq_true rfl) ?_
    show V _ _ _ _ _ _ [(0, _), (1, _), (2, _)] _ _ _ _ _
    refine V_go 2 rfl ?_
    refine cVI (mt' := mX0_hasCitizen) rfl kX0_61 fX0_hasCitizen rfl rfl rfl (Nat.le_of_ble_eq_true rfl) (Nat.le_of_ble_eq_true rfl) (Nat.le_of_ble_eq_true rfl) (Nat.le_of_ble_eq_true rfl) (Nat.le_refl _) (c_hasCitizen (by unfold oC; decide)) ?_
    refine V_if_eq rfl (fun h2 => ?_) (fun h2 => ?_)
    · skip
      refine V_vret rfl rfl rfl ?_
      exact RV.mk2 (by grind [b2i])
    · skip
      refine V_go 4 rfl ?_
      refine V_iast rfl rfl (Nat.le_of_ble_eq_true rfl) (inb_ofN (by decide) (by grind [b2i, i32_ti, tcn]) (by grind [b2i, i32_ti, tcn])) ?_
      refine V_vret rfl rfl rfl ?_
      exact RV.mk2 (by grind [b2i])
theorem c_putBribe {o : Nat} {x v : Int32} {I : I2} {J : J2} (ho : oC o) : CT mX0_putBribe 2 58 58 [.ref o, .int x, .int v] I J RF (RV RF (if 0 ≤ x ∧ x < I o 5 ∧ x < 8 then up2 I (o + 4) x.toNatClampNeg v else I) J) := by
  rcases ho with rfl | rfl | rfl
  all_goals
    refine CT_of okX0_putBribe (Nat.le_of_ble_eq_true rfl) ?_
    show V _ _ _ _ _ _ [(0, _), (1, _), (2, _)] _ _ _ _ _
    refine V_go 2 rfl ?_
    refine cVI (mt' := mX0_hasCitizen) rfl kX0_61 fX0_hasCitizen rfl rfl rfl (Nat.le_of_ble_eq_true rfl) (Nat.le_of_ble_eq_true rfl) (Nat.le_of_ble_eq_true rfl) (Nat.le_of_ble_eq_true rfl) (Nat.le_refl _) (c_hasCitizen (by unfold oC; decide)) ?_
    refine V_if_eq rfl (fun h2 => ?_) (fun h2 => ?_)
    · skip
      refine V_vret rfl rfl rfl ?_
      exact RV.mk2 (by grind [b2i])
    · skip
      refine V_go 4 rfl ?_
      refine V_iast rfl rfl (Nat.le_of_ble_eq_true rfl) (inb_ofN (by decide) (by grind [b2i, i32_ti, tcn]) (by grind [b2i, i32_ti, tcn])) ?_
      refine V_vret rfl rfl rfl ?_
      exact RV.mk2 (by grind [b2i])
theorem c_addCitizen {o : Nat} {k x : Int32} {I : I2} {J : J2} (ho : oC o) : CT mX0_addCitizen 1 58 58 [.ref o, .int k, .int x] I J RF (RI RF (if 0 ≤ I o 5 ∧ I o 5 < 8 then I o 5 else -4) (if 0 ≤ I o 5 ∧ I o 5 < 8 then up2 (up2 (up2 (up2 I (o + 2) (I o 5).toNatClampNeg k) (o + 3) (I o 5).toNatClampNeg x) (o + 4) (I o 5).toNatClampNeg 0) o 5 (I o 5 + 1) else I) J) := by
  rcases ho with rfl | rfl | rfl
  all_goals
    refine CT_of okX0_addCitizen (Nat.le_of_ble_eq_true rfl) ?_
    show V _ _ _ _ _ _ [(0, _), (1, _), (2, _)] _ _ _ _ _
    refine V_go 2 rfl ?_
    try simp only [up2_rd, row2_rd, reduceIte, Nat.reduceEqDiff]
    refine V_if_lt rfl (fun h1 => ?_) (fun h1 => ?_)
    · skip
      refine V_go 1 rfl ?_
      try simp only [up2_rd, row2_rd, reduceIte, Nat.reduceEqDiff]
      refine V_iret rfl rfl rfl ?_
      exact RI.mk2 (by grind) (by grind)
    · skip
      refine V_go 3 rfl ?_
      try simp only [up2_rd, row2_rd, reduceIte, Nat.reduceEqDiff]
      refine V_icmp_lt rfl (fun h2 => ?_) (fun h2 => ?_)
      · skip
        refine V_go 5 rfl ?_
        try simp only [up2_rd, row2_rd, reduceIte, Nat.reduceEqDiff]
        refine V_iast rfl rfl (Nat.le_of_ble_eq_true rfl) (inb_ofN (by decide) (by grind [b2i, i32_ti, tcn]) (by grind [b2i, i32_ti, tcn])) ?_
        refine V_go 5 rfl ?_
        try simp only [up2_rd, row2_rd, reduceIte, Nat.reduceEqDiff]
        refine V_iast rfl rfl (Nat.le_of_ble_eq_true rfl) (inb_ofN (by decide) (by grind [b2i, i32_ti, tcn]) (by grind [b2i, i32_ti, tcn])) ?_
        refine V_go 5 rfl ?_
        try simp only [up2_rd, row2_rd, reduceIte, Nat.reduceEqDiff]
        refine V_iast rfl rfl (Nat.le_of_ble_eq_true rfl) (inb_ofN (by decide) (by grind [b2i, i32_ti, tcn]) (by grind [b2i, i32_ti, tcn])) ?_
        refine V_go 7 rfl ?_
        try simp only [up2_rd, row2_rd, reduceIte, Nat.reduceEqDiff]
        refine V_iret rfl rfl rfl ?_
        exact RI.mk2 (by grind) (by grind)
      · skip
        refine V_go 1 rfl ?_
        try simp only [up2_rd, row2_rd, reduceIte, Nat.reduceEqDiff]
        refine V_iret rfl rfl rfl ?_
        exact RI.mk2 (by grind) (by grind)
theorem c_addItem {o : Nat} {x : Int32} {I : I2} {J : J2} (ho : oC o) : CT mX0_addItem 1 58 58 [.ref o, .int x] I J RF (RI RF (if 0 ≤ I o 9 ∧ I o 9 < 6 then I o 9 else -4) (if 0 ≤ I o 9 ∧ I o 9 < 6 then up2 (up2 (up2 (up2 I (o + 5) (I o 9).toNatClampNeg x) (o + 6) (I o 9).toNatClampNeg 0) (o + 7) (I o 9).toNatClampNeg (-1)) o 9 (I o 9 + 1) else I) J) := by
  rcases ho with rfl | rfl | rfl
  all_goals
    refine CT_of okX0_addItem (Nat.le_of_ble_eq_true rfl) ?_
    show V _ _ _ _ _ _ [(0, _), (1, _)] _ _ _ _ _
    refine V_go 2 rfl ?_
    try simp only [up2_rd, row2_rd, reduceIte, Nat.reduceEqDiff]
    refine V_if_lt rfl (fun h1 => ?_) (fun h1 => ?_)
    · skip
      refine V_go 1 rfl ?_
      try simp only [up2_rd, row2_rd, reduceIte, Nat.reduceEqDiff]
      refine V_iret rfl rfl rfl ?_
      exact RI.mk2 (by grind) (by grind)
    · skip
      refine V_go 3 rfl ?_
      try simp only [up2_rd, row2_rd, reduceIte, Nat.reduceEqDiff]
      refine V_icmp_lt rfl (fun h2 => ?_) (fun h2 => ?_)
      · skip
        refine V_go 5 rfl ?_
        try simp only [up2_rd, row2_rd, reduceIte, Nat.reduceEqDiff]
        refine V_iast rfl rfl (Nat.le_of_ble_eq_true rfl) (inb_ofN (by decide) (by grind [b2i, i32_ti, tcn]) (by grind [b2i, i32_ti, tcn])) ?_
        refine V_go 5 rfl ?_
        try simp only [up2_rd, row2_rd, reduceIte, Nat.reduceEqDiff]
        refine V_iast rfl rfl (Nat.le_of_ble_eq_true rfl) (inb_ofN (by decide) (by grind [b2i, i32_ti, tcn]) (by grind [b2i, i32_ti, tcn])) ?_
        refine V_go 5 rfl ?_
        try simp only [up2_rd, row2_rd, reduceIte, Nat.reduceEqDiff]
        refine V_iast rfl rfl (Nat.le_of_ble_eq_true rfl) (inb_ofN (by decide) (by grind [b2i, i32_ti, tcn]) (by grind [b2i, i32_ti, tcn])) ?_
        refine V_go 7 rfl ?_
        try simp only [up2_rd, row2_rd, reduceIte, Nat.reduceEqDiff]
        refine V_iret rfl rfl rfl ?_
        exact RI.mk2 (by grind) (by grind)
      · skip
        refine V_go 1 rfl ?_
        try simp only [up2_rd, row2_rd, reduceIte, Nat.reduceEqDiff]
        refine V_iret rfl rfl rfl ?_
        exact RI.mk2 (by grind) (by grind)
