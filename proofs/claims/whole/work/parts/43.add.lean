def sAddC (C : CC) (k x : Int32) : Int32 × CC := if (0 ≤ k ∧ k ≤ 5) ∧ 0 ≤ x ∧ x ≤ 9 then (if C 0 3 < 8 then (C 0 3, up2 (up2 (up2 (up2 C 1 (nC C) k) 2 (nC C) x) 3 (nC C) 0) 0 3 (C 0 3 + 1)) else (-4, C)) else (-2, C)
def sAddI (C : CC) (x : Int32) : Int32 × CC := if 1 ≤ x ∧ x ≤ 999 then (if C 0 4 < 6 then (C 0 4, up2 (up2 (up2 (up2 C 4 (mC C) x) 5 (mC C) 0) 6 (mC C) (-1)) 0 4 (C 0 4 + 1)) else (-4, C)) else (-2, C)
def addCr (I : I2) : Int32 := if 0 ≤ I 7 5 ∧ I 7 5 < 8 then I 7 5 else -4
def addCm (I : I2) (k x : Int32) : I2 := if 0 ≤ I 7 5 ∧ I 7 5 < 8 then up2 (up2 (up2 (up2 I (7 + 2) (I 7 5).toNatClampNeg k) (7 + 3) (I 7 5).toNatClampNeg x) (7 + 4) (I 7 5).toNatClampNeg 0) 7 5 (I 7 5 + 1) else I
def addIr (I : I2) : Int32 := if 0 ≤ I 7 9 ∧ I 7 9 < 6 then I 7 9 else -4
def addIm (I : I2) (x : Int32) : I2 := if 0 ≤ I 7 9 ∧ I 7 9 < 6 then up2 (up2 (up2 (up2 I (7 + 5) (I 7 9).toNatClampNeg x) (7 + 6) (I 7 9).toNatClampNeg 0) (7 + 7) (I 7 9).toNatClampNeg (-1)) 7 9 (I 7 9 + 1) else I
theorem addC_ok {I : I2} {k x : Int32} (h0 : 0 ≤ I 7 5) (hk : (0 ≤ k ∧ k ≤ 5) ∧ 0 ≤ x ∧ x ≤ 9) : Fr 7 I (addCm I k x) ∧ addCr I = (sAddC (cOf I 7) k x).1 ∧ cOf (addCm I k x) 7 = (sAddC (cOf I 7) k x).2 := by
  unfold addCr addCm sAddC
  rw [if_pos hk]
  by_cases h : I 7 5 < 8
  · rw [if_pos ⟨h0, h⟩, if_pos ⟨h0, h⟩, if_pos (show cOf I 7 0 3 < 8 from h)]
    refine ⟨(((Fr.up (by omega)).tr (Fr.up (by omega))).tr (Fr.up (by omega))).tr (Fr.up (by omega)), rfl, ?_⟩
    rw [cOf_fld (o := 7) (f := 5) (by omega), cOf_row (o := 7) (g := 3) (by omega) (by omega), cOf_row (o := 7) (g := 2) (by omega) (by omega), cOf_row (o := 7) (g := 1) (by omega) (by omega)]
    rfl
  · rw [if_neg (fun q => h q.2), if_neg (fun q => h q.2), if_neg (show ¬ cOf I 7 0 3 < 8 from h)]
    exact ⟨Fr.rf, rfl, rfl⟩
theorem addI_ok {I : I2} {x : Int32} (h0 : 0 ≤ I 7 9) (hk : 1 ≤ x ∧ x ≤ 999) : Fr 7 I (addIm I x) ∧ addIr I = (sAddI (cOf I 7) x).1 ∧ cOf (addIm I x) 7 = (sAddI (cOf I 7) x).2 := by
  unfold addIr addIm sAddI
  rw [if_pos hk]
  by_cases h : I 7 9 < 6
  · rw [if_pos ⟨h0, h⟩, if_pos ⟨h0, h⟩, if_pos (show cOf I 7 0 4 < 6 from h)]
    refine ⟨(((Fr.up (by omega)).tr (Fr.up (by omega))).tr (Fr.up (by omega))).tr (Fr.up (by omega)), rfl, ?_⟩
    rw [cOf_fld (o := 7) (f := 9) (by omega), cOf_row (o := 7) (g := 6) (by omega) (by omega), cOf_row (o := 7) (g := 5) (by omega) (by omega), cOf_row (o := 7) (g := 4) (by omega) (by omega)]
    rfl
  · rw [if_neg (fun q => h q.2), if_neg (fun q => h q.2), if_neg (show ¬ cOf I 7 0 4 < 6 from h)]
    exact ⟨Fr.rf, rfl, rfl⟩
theorem c_addC {k x : Int32} {I : I2} {J : J2} : CT mX0_addCitizen 1 58 58 [.ref 7, .int k, .int x] I J RF (RI RF (addCr I) (addCm I k x) J) := c_addCitizen (Or.inl rfl)
theorem c_addI {x : Int32} {I : I2} {J : J2} : CT mX0_addItem 1 58 58 [.ref 7, .int x] I J RF (RI RF (addIr I) (addIm I x) J) := c_addItem (Or.inl rfl)

theorem c_citizen {k x : Int32} {I : I2} {J : J2} {T : TV} (hC : Cok I 7 T) : CT mX6_citizen 2 58 58 [.ref 0, .int k, .int x] I J RF (RP RF (fun r I1 J1 => J1 = J ∧ Fr 7 I I1 ∧ r = (sAddC (cOf I 7) k x).1 ∧ cOf I1 7 = (sAddC (cOf I 7) k x).2)) := by
  refine CT_of okX6_citizen (Nat.le_of_ble_eq_true rfl) ?_
  show V _ _ _ _ _ _ [(0, _), (1, _), (2, _)] _ _ _ _ _
  refine V_go 1 rfl ?_
  refine cSI (mt' := mX1_isOne) rfl kX6_78 fX1_isOne rfl (Nat.le_of_ble_eq_true rfl) (Nat.le_of_ble_eq_true rfl) (Nat.le_refl _) (c_isOne) ?_
  refine V_if_eq rfl (fun h2 => ?_) (fun h2 => ?_)
  · skip
    refine V_go 1 rfl ?_
    refine V_iret rfl rfl rfl ?_
    refine RP.mk ⟨rfl, Fr.rf, ?_⟩
    unfold sAddC
    rw [if_neg]
    · exact ⟨rfl, rfl⟩
    · intro k
      first
        | exact absurd (b2i_1 k.1) (by rw [show b2i _ = 0 from by assumption]; decide)
        | exact absurd k.2.1 (by first | assumption | exact Int32.not_le.mpr (by assumption))
        | exact absurd k.2.2 (by first | assumption | exact Int32.not_le.mpr (by assumption))
  · skip
    refine V_go 1 rfl ?_
    refine V_if_lt rfl (fun h3 => ?_) (fun h3 => ?_)
    · skip
      refine V_go 1 rfl ?_
      refine V_iret rfl rfl rfl ?_
      refine RP.mk ⟨rfl, Fr.rf, ?_⟩
      unfold sAddC
      rw [if_neg]
      · exact ⟨rfl, rfl⟩
      · intro k
        first
          | exact absurd (b2i_1 k.1) (by rw [show b2i _ = 0 from by assumption]; decide)
          | exact absurd k.2.1 (by first | assumption | exact Int32.not_le.mpr (by assumption))
          | exact absurd k.2.2 (by first | assumption | exact Int32.not_le.mpr (by assumption))
    · skip
      refine V_go 2 rfl ?_
      refine V_icmp_le rfl (fun h4 => ?_) (fun h4 => ?_)
      · skip
        refine V_go 4 rfl ?_
        refine cVI (mt' := mX0_addCitizen) rfl kX6_84 fX0_addCitizen rfl rfl rfl (Nat.le_of_ble_eq_true rfl) (Nat.le_of_ble_eq_true rfl) (Nat.le_of_ble_eq_true rfl) (Nat.le_of_ble_eq_true rfl) (Nat.le_refl _) (c_addC) ?_
        refine V_iret rfl rfl rfl ?_
        obtain ⟨a1, a2, a3⟩ := addC_ok (I := I) (k := k) (x := x) hC.2.2.2.2.1 ⟨b2i_eq1.mp ((b2i_or _).resolve_left (by assumption)), (by first | assumption | exact Int32.not_lt.mp (by assumption)), by assumption⟩
        exact RP.mk ⟨rfl, a1, a2, a3⟩
      · skip
        refine V_go 1 rfl ?_
        refine V_iret rfl rfl rfl ?_
        refine RP.mk ⟨rfl, Fr.rf, ?_⟩
        unfold sAddC
        rw [if_neg]
        · exact ⟨rfl, rfl⟩
        · intro k
          first
            | exact absurd (b2i_1 k.1) (by rw [show b2i _ = 0 from by assumption]; decide)
            | exact absurd k.2.1 (by first | assumption | exact Int32.not_le.mpr (by assumption))
            | exact absurd k.2.2 (by first | assumption | exact Int32.not_le.mpr (by assumption))
theorem c_business {x : Int32} {I : I2} {J : J2} {T : TV} (hC : Cok I 7 T) : CT mX6_business 2 58 58 [.ref 0, .int x] I J RF (RP RF (fun r I1 J1 => J1 = J ∧ Fr 7 I I1 ∧ r = (sAddI (cOf I 7) x).1 ∧ cOf I1 7 = (sAddI (cOf I 7) x).2)) := by
  refine CT_of okX6_business (Nat.le_of_ble_eq_true rfl) ?_
  show V _ _ _ _ _ _ [(0, _), (1, _)] _ _ _ _ _
  refine V_go 2 rfl ?_
  refine V_icmp_lt rfl (fun h1 => ?_) (fun h1 => ?_)
  · skip
    refine V_go 1 rfl ?_
    refine V_iret rfl rfl rfl ?_
    refine RP.mk ⟨rfl, Fr.rf, ?_⟩
    unfold sAddI
    rw [if_neg]
    · exact ⟨rfl, rfl⟩
    · intro k
      first
        | exact absurd k.1 (by first | assumption | exact Int32.not_le.mpr (by assumption))
        | exact absurd k.2 (by first | assumption | exact Int32.not_le.mpr (by assumption))
  · skip
    refine V_go 2 rfl ?_
    refine V_icmp_le rfl (fun h2 => ?_) (fun h2 => ?_)
    · skip
      refine V_go 3 rfl ?_
      refine cVI (mt' := mX0_addItem) rfl kX6_87 fX0_addItem rfl rfl rfl (Nat.le_of_ble_eq_true rfl) (Nat.le_of_ble_eq_true rfl) (Nat.le_of_ble_eq_true rfl) (Nat.le_of_ble_eq_true rfl) (Nat.le_refl _) (c_addI) ?_
      refine V_iret rfl rfl rfl ?_
      obtain ⟨a1, a2, a3⟩ := addI_ok (I := I) (x := x) hC.2.2.2.2.2.2.1 ⟨(by first | assumption | exact Int32.not_lt.mp (by assumption)), by assumption⟩
      exact RP.mk ⟨rfl, a1, a2, a3⟩
    · skip
      refine V_go 1 rfl ?_
      refine V_iret rfl rfl rfl ?_
      refine RP.mk ⟨rfl, Fr.rf, ?_⟩
      unfold sAddI
      rw [if_neg]
      · exact ⟨rfl, rfl⟩
      · intro k
        first
          | exact absurd k.1 (by first | assumption | exact Int32.not_le.mpr (by assumption))
          | exact absurd k.2 (by first | assumption | exact Int32.not_le.mpr (by assumption))
def sCount (C : CC) (nt sz w : Int32) : Int32 := if w = 0 then C 0 3 else if w = 1 then C 0 4 else if w = 2 then sCntD C (mC C) else if w = 3 then nt else if w = 4 then sz else if w = 5 then C 0 2 else -2
def sTaken (C : CC) (x k : Int32) : Int32 := if 0 ≤ k ∧ k ≤ 5 then (if isCi C x then (if sUnder 6 (C 1 x.toNatClampNeg) k = k then C 2 x.toNatClampNeg else -13) else -11) else -2
theorem c_count {w : Int32} {I : I2} {J : J2} {T : TV} (hC : Cok I 7 T) : CT mX6_count 4 58 58 [.ref 0, .int w] I J RF (RI RF (sCount (cOf I 7) (I 1 0) (I 5 2) w) I J) := by
  refine CT_of okX6_count (Nat.le_of_ble_eq_true rfl) ?_
  show V _ _ _ _ _ _ [(0, _), (1, _)] _ _ _ _ _
  refine V_go 1 rfl ?_
  refine V_tswC (v := 0) rfl (by decide) (by decide) rfl (fun h2 => ?_) (fun h2 => ?_)
  · skip
    refine V_go 3 rfl ?_
    refine V_iret rfl rfl rfl ?_
    refine RI.mk ?_
    unfold sCount
    first
      | (rw [if_pos (by assumption)]; try rfl; done)
      | (rw [if_neg (by assumption), if_pos (by assumption)]; try rfl; done)
      | (rw [if_neg (by assumption), if_neg (by assumption), if_pos (by assumption)]; try rfl; done)
      | (rw [if_neg (by assumption), if_neg (by assumption), if_neg (by assumption), if_pos (by assumption)]; try rfl; done)
      | (rw [if_neg (by assumption), if_neg (by assumption), if_neg (by assumption), if_neg (by assumption), if_pos (by assumption)]; try rfl; done)
      | (rw [if_neg (by assumption), if_neg (by assumption), if_neg (by assumption), if_neg (by assumption), if_neg (by assumption), if_pos (by assumption)]; try rfl; done)
      | (rw [if_neg (by assumption), if_neg (by assumption), if_neg (by assumption), if_neg (by assumption), if_neg (by assumption), if_neg (by assumption)]; try rfl; done)
  refine V_tswC (v := 1) rfl (by decide) (by decide) rfl (fun h3 => ?_) (fun h3 => ?_)
  · skip
    refine V_go 3 rfl ?_
    refine V_iret rfl rfl rfl ?_
    refine RI.mk ?_
    unfold sCount
    first
      | (rw [if_pos (by assumption)]; try rfl; done)
      | (rw [if_neg (by assumption), if_pos (by assumption)]; try rfl; done)
      | (rw [if_neg (by assumption), if_neg (by assumption), if_pos (by assumption)]; try rfl; done)
      | (rw [if_neg (by assumption), if_neg (by assumption), if_neg (by assumption), if_pos (by assumption)]; try rfl; done)
      | (rw [if_neg (by assumption), if_neg (by assumption), if_neg (by assumption), if_neg (by assumption), if_pos (by assumption)]; try rfl; done)
      | (rw [if_neg (by assumption), if_neg (by assumption), if_neg (by assumption), if_neg (by assumption), if_neg (by assumption), if_pos (by assumption)]; try rfl; done)
      | (rw [if_neg (by assumption), if_neg (by assumption), if_neg (by assumption), if_neg (by assumption), if_neg (by assumption), if_neg (by assumption)]; try rfl; done)
  refine V_tswC (v := 2) rfl (by decide) (by decide) rfl (fun h4 => ?_) (fun h4 => ?_)
  · skip
    refine V_go 2 rfl ?_
    refine cVI (mt' := mX0_itemsDone) rfl kX6_167 fX0_itemsDone rfl rfl rfl (Nat.le_of_ble_eq_true rfl) (Nat.le_of_ble_eq_true rfl) (Nat.le_of_ble_eq_true rfl) (Nat.le_of_ble_eq_true rfl) (Nat.le_refl _) (c_itemsDone hC) ?_
    refine V_iret rfl rfl rfl ?_
    refine RI.mk ?_
    unfold sCount
    first
      | (rw [if_pos (by assumption)]; try rfl; done)
      | (rw [if_neg (by assumption), if_pos (by assumption)]; try rfl; done)
      | (rw [if_neg (by assumption), if_neg (by assumption), if_pos (by assumption)]; try rfl; done)
      | (rw [if_neg (by assumption), if_neg (by assumption), if_neg (by assumption), if_pos (by assumption)]; try rfl; done)
      | (rw [if_neg (by assumption), if_neg (by assumption), if_neg (by assumption), if_neg (by assumption), if_pos (by assumption)]; try rfl; done)
      | (rw [if_neg (by assumption), if_neg (by assumption), if_neg (by assumption), if_neg (by assumption), if_neg (by assumption), if_pos (by assumption)]; try rfl; done)
      | (rw [if_neg (by assumption), if_neg (by assumption), if_neg (by assumption), if_neg (by assumption), if_neg (by assumption), if_neg (by assumption)]; try rfl; done)
  refine V_tswC (v := 3) rfl (by decide) (by decide) rfl (fun h6 => ?_) (fun h6 => ?_)
  · skip
    refine V_go 3 rfl ?_
    refine V_iret rfl rfl rfl ?_
    refine RI.mk ?_
    unfold sCount
    first
      | (rw [if_pos (by assumption)]; try rfl; done)
      | (rw [if_neg (by assumption), if_pos (by assumption)]; try rfl; done)
      | (rw [if_neg (by assumption), if_neg (by assumption), if_pos (by assumption)]; try rfl; done)
      | (rw [if_neg (by assumption), if_neg (by assumption), if_neg (by assumption), if_pos (by assumption)]; try rfl; done)
      | (rw [if_neg (by assumption), if_neg (by assumption), if_neg (by assumption), if_neg (by assumption), if_pos (by assumption)]; try rfl; done)
      | (rw [if_neg (by assumption), if_neg (by assumption), if_neg (by assumption), if_neg (by assumption), if_neg (by assumption), if_pos (by assumption)]; try rfl; done)
      | (rw [if_neg (by assumption), if_neg (by assumption), if_neg (by assumption), if_neg (by assumption), if_neg (by assumption), if_neg (by assumption)]; try rfl; done)
  refine V_tswC (v := 4) rfl (by decide) (by decide) rfl (fun h7 => ?_) (fun h7 => ?_)
  · skip
    refine V_go 3 rfl ?_
    refine V_iret rfl rfl rfl ?_
    refine RI.mk ?_
    unfold sCount
    first
      | (rw [if_pos (by assumption)]; try rfl; done)
      | (rw [if_neg (by assumption), if_pos (by assumption)]; try rfl; done)
      | (rw [if_neg (by assumption), if_neg (by assumption), if_pos (by assumption)]; try rfl; done)
      | (rw [if_neg (by assumption), if_neg (by assumption), if_neg (by assumption), if_pos (by assumption)]; try rfl; done)
      | (rw [if_neg (by assumption), if_neg (by assumption), if_neg (by assumption), if_neg (by assumption), if_pos (by assumption)]; try rfl; done)
      | (rw [if_neg (by assumption), if_neg (by assumption), if_neg (by assumption), if_neg (by assumption), if_neg (by assumption), if_pos (by assumption)]; try rfl; done)
      | (rw [if_neg (by assumption), if_neg (by assumption), if_neg (by assumption), if_neg (by assumption), if_neg (by assumption), if_neg (by assumption)]; try rfl; done)
  refine V_tswC (v := 5) rfl (by decide) (by decide) rfl (fun h8 => ?_) (fun h8 => ?_)
  · skip
    refine V_go 3 rfl ?_
    refine V_iret rfl rfl rfl ?_
    refine RI.mk ?_
    unfold sCount
    first
      | (rw [if_pos (by assumption)]; try rfl; done)
      | (rw [if_neg (by assumption), if_pos (by assumption)]; try rfl; done)
      | (rw [if_neg (by assumption), if_neg (by assumption), if_pos (by assumption)]; try rfl; done)
      | (rw [if_neg (by assumption), if_neg (by assumption), if_neg (by assumption), if_pos (by assumption)]; try rfl; done)
      | (rw [if_neg (by assumption), if_neg (by assumption), if_neg (by assumption), if_neg (by assumption), if_pos (by assumption)]; try rfl; done)
      | (rw [if_neg (by assumption), if_neg (by assumption), if_neg (by assumption), if_neg (by assumption), if_neg (by assumption), if_pos (by assumption)]; try rfl; done)
      | (rw [if_neg (by assumption), if_neg (by assumption), if_neg (by assumption), if_neg (by assumption), if_neg (by assumption), if_neg (by assumption)]; try rfl; done)
  refine V_tswD rfl (by decide) (by decide) (t9 := 88) rfl (by have q0 := lv_neT h2 (a := 0) (by decide); have q1 := lv_neT h3 (a := 1) (by decide); have q2 := lv_neT h4 (a := 2) (by decide); have q3 := lv_neT h6 (a := 3) (by decide); have q4 := lv_neT h7 (a := 4) (by decide); have q5 := lv_neT h8 (a := 5) (by decide); omega) ?_
  refine V_go 1 rfl ?_
  refine V_iret rfl rfl rfl ?_
  refine RI.mk ?_
  unfold sCount
  first
    | (rw [if_pos (by assumption)]; try rfl; done)
    | (rw [if_neg (by assumption), if_pos (by assumption)]; try rfl; done)
    | (rw [if_neg (by assumption), if_neg (by assumption), if_pos (by assumption)]; try rfl; done)
    | (rw [if_neg (by assumption), if_neg (by assumption), if_neg (by assumption), if_pos (by assumption)]; try rfl; done)
    | (rw [if_neg (by assumption), if_neg (by assumption), if_neg (by assumption), if_neg (by assumption), if_pos (by assumption)]; try rfl; done)
    | (rw [if_neg (by assumption), if_neg (by assumption), if_neg (by assumption), if_neg (by assumption), if_neg (by assumption), if_pos (by assumption)]; try rfl; done)
    | (rw [if_neg (by assumption), if_neg (by assumption), if_neg (by assumption), if_neg (by assumption), if_neg (by assumption), if_neg (by assumption)]; try rfl; done)
theorem c_taken {x k : Int32} {I : I2} {J : J2} {T : TV} (hC : Cok I 7 T) : CT mX6_taken 4 58 58 [.ref 0, .int x, .int k] I J RF (RI RF (sTaken (cOf I 7) x k) I J) := by
  refine CT_of okX6_taken (Nat.le_of_ble_eq_true rfl) ?_
  show V _ _ _ _ _ _ [(0, _), (1, _), (2, _)] _ _ _ _ _
  refine V_go 1 rfl ?_
  refine cSI (mt' := mX1_isOne) rfl kX6_78 fX1_isOne rfl (Nat.le_of_ble_eq_true rfl) (Nat.le_of_ble_eq_true rfl) (Nat.le_refl _) (c_isOne) ?_
  refine V_if_ne rfl (fun h2 => ?_) (fun h2 => ?_)
  · skip
    refine V_go 3 rfl ?_
    refine cVI (mt' := mX0_hasCitizen) rfl kX6_90 fX0_hasCitizen rfl rfl rfl (Nat.le_of_ble_eq_true rfl) (Nat.le_of_ble_eq_true rfl) (Nat.le_of_ble_eq_true rfl) (Nat.le_of_ble_eq_true rfl) (Nat.le_refl _) (c_hasCitizen hC.1) ?_
    refine V_if_ne rfl (fun h4 => ?_) (fun h4 => ?_)
    · skip
      refine V_go 3 rfl ?_
      refine cVI (mt' := mX0_kindOf) rfl kX6_108 fX0_kindOf rfl rfl rfl (Nat.le_of_ble_eq_true rfl) (Nat.le_of_ble_eq_true rfl) (Nat.le_of_ble_eq_true rfl) (Nat.le_of_ble_eq_true rfl) (Nat.le_refl _) (c_kindOfX hC (b2i_eq1.mp ((b2i_or _).resolve_left (by assumption)))) ?_
      refine V_go 1 rfl ?_
      refine cSI (mt' := mX1_isUnder) rfl kX6_277 fX1_isUnder rfl (Nat.le_of_ble_eq_true rfl) (Nat.le_of_ble_eq_true rfl) (Nat.le_refl _) (c_isUnder) ?_
      refine V_if_eq rfl (fun h7 => ?_) (fun h7 => ?_)
      · skip
        refine V_go 1 rfl ?_
        refine V_iret rfl rfl rfl ?_
        refine RI.mk ?_
        unfold sTaken
        first
          | (rw [if_pos (b2i_eq1.mp ((b2i_or _).resolve_left (by assumption))), if_pos ((isCi_ok hC x).mp (b2i_eq1.mp ((b2i_or _).resolve_left (by assumption)))), if_pos (b2i_eq1.mp ((b2i_or _).resolve_left (by assumption)))]; rfl)
          | (rw [if_pos (b2i_eq1.mp ((b2i_or _).resolve_left (by assumption))), if_pos ((isCi_ok hC x).mp (b2i_eq1.mp ((b2i_or _).resolve_left (by assumption)))), if_neg (fun q => absurd (b2i_1 q) (by rw [show b2i _ = 0 from by assumption]; decide))])
      · skip
        refine V_go 3 rfl ?_
        refine cVI (mt' := mX0_numberOf) rfl kX6_102 fX0_numberOf rfl rfl rfl (Nat.le_of_ble_eq_true rfl) (Nat.le_of_ble_eq_true rfl) (Nat.le_of_ble_eq_true rfl) (Nat.le_of_ble_eq_true rfl) (Nat.le_refl _) (c_numberOfX hC (b2i_eq1.mp ((b2i_or _).resolve_left (by assumption)))) ?_
        refine V_go 1 rfl ?_
        refine V_iret rfl rfl rfl ?_
        refine RI.mk ?_
        unfold sTaken
        first
          | (rw [if_pos (b2i_eq1.mp ((b2i_or _).resolve_left (by assumption))), if_pos ((isCi_ok hC x).mp (b2i_eq1.mp ((b2i_or _).resolve_left (by assumption)))), if_pos (b2i_eq1.mp ((b2i_or _).resolve_left (by assumption)))]; rfl)
          | (rw [if_pos (b2i_eq1.mp ((b2i_or _).resolve_left (by assumption))), if_pos ((isCi_ok hC x).mp (b2i_eq1.mp ((b2i_or _).resolve_left (by assumption)))), if_neg (fun q => absurd (b2i_1 q) (by rw [show b2i _ = 0 from by assumption]; decide))])
    · skip
      refine V_go 1 rfl ?_
      refine V_iret rfl rfl rfl ?_
      refine RI.mk ?_
      unfold sTaken
      rw [if_pos (b2i_eq1.mp ((b2i_or _).resolve_left (by assumption))), if_neg (fun q => absurd (b2i_1 ((isCi_ok hC x).mpr q)) (by rw [show b2i _ = 0 from by assumption]; decide))]
  · skip
    refine V_go 1 rfl ?_
    refine V_iret rfl rfl rfl ?_
    refine RI.mk ?_
    unfold sTaken
    exact (if_neg (fun q => absurd (b2i_1 q) (by rw [show b2i _ = 0 from by assumption]; decide))).symm
theorem c_force {x : Int32} {I : I2} {J : J2} {T : TV} (hC : Cok I 7 T) : CT mX6_force 2 58 58 [.ref 0, .int x] I J RF (RP RF (fun r I1 J1 => J1 = J ∧ Fr 7 I I1 ∧ (((0 ≤ x ∧ x < I 1 0) ∧ r = cOf I 7 0 2 ∧ cOf I1 7 = up2 (cOf I 7) 0 2 x) ∨ (¬ (0 ≤ x ∧ x < I 1 0) ∧ r = -2 ∧ cOf I1 7 = cOf I 7)))) := by
  refine CT_of okX6_force (Nat.le_of_ble_eq_true rfl) ?_
  show V _ _ _ _ _ _ [(0, _), (1, _)] _ _ _ _ _
  refine V_go 3 rfl ?_
  refine cVI (mt' := mX5_hasText) rfl kX6_144 fX5_hasText rfl rfl rfl (Nat.le_of_ble_eq_true rfl) (Nat.le_of_ble_eq_true rfl) (Nat.le_of_ble_eq_true rfl) (Nat.le_of_ble_eq_true rfl) (Nat.le_refl _) (c_hasText) ?_
  refine V_if_ne rfl (fun h2 => ?_) (fun h2 => ?_)
  · skip
    refine V_go 9 rfl ?_
    refine V_iret rfl rfl rfl ?_
    have q := b2i_eq1.mp ((b2i_or _).resolve_left (show ¬ b2i _ = 0 from by assumption))
    exact RP.mk ⟨rfl, Fr.up (by omega), Or.inl ⟨⟨q.1, q.2.1⟩, rfl, cOf_fld (o := 7) (f := 4) (by omega)⟩⟩
  · skip
    refine V_go 1 rfl ?_
    refine V_iret rfl rfl rfl ?_
    refine RP.mk ⟨rfl, Fr.rf, Or.inr ⟨fun q => ?_, rfl, rfl⟩⟩
    have q2 : 0 ≤ x ∧ x < I 1 0 ∧ x < 6 := ⟨q.1, q.2, Int32.lt_of_lt_of_le q.2 hC.2.1.2.1⟩
    exact absurd (b2i_1 q2) (by rw [show b2i (0 ≤ x ∧ x < I 1 0 ∧ x < 6) = 0 from by assumption]; decide)
theorem c_image {I : I2} {J : J2} {T : TV} (hC : Cok I 7 T) : CT mX6_image 3 58 58 [.ref 0] I J RF (RP RF (fun r I1 J1 => J1 = J ∧ r = cOf I 7 0 3 ∧ Cq 8 6 (cOf I1 23) (cOf I 7) ∧ I1 0 5 = 1 ∧ ∀ a, a ≠ 0 → a ≠ 4 → (a < 23 ∨ 31 ≤ a) → I1 a = I a)) := by
  refine CT_of okX6_image (Nat.le_of_ble_eq_true rfl) ?_
  show V _ _ _ _ _ _ [(0, _)] _ _ _ _ _
  refine V_go 4 rfl ?_
  refine cVW (mt' := mX0_become) rfl kX6_173 fX0_become rfl rfl rfl (Nat.le_of_ble_eq_true rfl) (Nat.le_of_ble_eq_true rfl) (Nat.le_of_ble_eq_true rfl) (Nat.le_of_ble_eq_true rfl) (Nat.le_refl _) (c_become_23_7) ?_
  intro Ir1 Jr1 h1
  obtain ⟨rfl, hc, hq⟩ := h1
  refine V_go 2 rfl ?_
  refine V_putZ rfl rfl (Nat.le_of_ble_eq_true rfl) rfl rfl (by first | exact Or.inl rfl | exact Or.inr rfl | assumption) ?_
  refine V_go 3 rfl ?_
  refine V_iret rfl rfl rfl ?_
  refine RP.mk ⟨rfl, ?_, ?_, ?_, ?_⟩
  · show up2 _ 0 5 1 7 5 = I 7 5
    rw [up2_ne (by omega), hq 7 (by omega) (by omega)]
  · exact hc
  · simp only [up2_rd, reduceIte]
  · intro a h1 h2 h3
    rw [up2_ne h1, hq a h2 (by omega)]
theorem c_back {I : I2} {J : J2} {T : TV} (hC : Cok I 7 T) : CT mX6_back 3 58 58 [.ref 0] I J RF (RP RF (fun r I1 J1 => J1 = J ∧ Fr 7 I I1 ∧ ((I 0 5 = 0 ∧ r = -3 ∧ I1 = I) ∨ (¬ I 0 5 = 0 ∧ r = cOf I1 7 0 3 ∧ Cq 8 6 (cOf I1 7) (cOf I 23))))) := by
  refine CT_of okX6_back (Nat.le_of_ble_eq_true rfl) ?_
  show V _ _ _ _ _ _ [(0, _)] _ _ _ _ _
  refine V_go 2 rfl ?_
  refine V_if_ne rfl (fun h1 => ?_) (fun h1 => ?_)
  · skip
    refine V_go 4 rfl ?_
    refine cVW (mt' := mX0_become) rfl kX6_173 fX0_become rfl rfl rfl (Nat.le_of_ble_eq_true rfl) (Nat.le_of_ble_eq_true rfl) (Nat.le_of_ble_eq_true rfl) (Nat.le_of_ble_eq_true rfl) (Nat.le_refl _) (c_become_7_23) ?_
    intro Ir2 Jr2 h2
    obtain ⟨rfl, hc, hq⟩ := h2
    refine V_go 3 rfl ?_
    refine V_iret rfl rfl rfl ?_
    exact RP.mk ⟨rfl, hq, Or.inr ⟨by assumption, rfl, hc⟩⟩
  · skip
    refine V_go 1 rfl ?_
    refine V_iret rfl rfl rfl ?_
    exact RP.mk ⟨rfl, Fr.rf, Or.inl ⟨by assumption, rfl, rfl⟩⟩
theorem c_addByte {x : Int32} {I : I2} {J : J2} : CT mX3_addByte 1 58 58 [.ref 5, .int x] I J RF (RP RF (fun r I1 J1 => J1 = J ∧ (((0 ≤ I 5 2 ∧ I 5 2 < 160) ∧ r = I 5 2 + 1 ∧ I1 = up2 (up2 I 6 (I 5 2).toNatClampNeg x) 5 2 (I 5 2 + 1)) ∨ (¬ (0 ≤ I 5 2 ∧ I 5 2 < 160) ∧ r = -4 ∧ I1 = I)))) := by
  refine CT_of okX3_addByte (Nat.le_of_ble_eq_true rfl) ?_
  show V _ _ _ _ _ _ [(0, _), (1, _)] _ _ _ _ _
  refine V_go 2 rfl ?_
  refine V_if_lt rfl (fun h1 => ?_) (fun h1 => ?_)
  · skip
    refine V_go 1 rfl ?_
    refine V_iret rfl rfl rfl ?_
    refine RP.mk ⟨rfl, Or.inr ⟨fun q => ?_, rfl, rfl⟩⟩
    first
      | exact absurd q.1 (by first | assumption | exact Int32.not_le.mpr (by assumption))
      | exact absurd q.2 (by first | assumption | exact Int32.not_lt.mpr (by assumption))
  · skip
    refine V_go 5 rfl ?_
    refine V_icmp_lt rfl (fun h2 => ?_) (fun h2 => ?_)
    · skip
      refine V_go 5 rfl ?_
      refine V_iast rfl rfl (Nat.le_of_ble_eq_true rfl) (inb_ofN (by decide) ((by first | assumption | exact Int32.not_lt.mp (by assumption))) ((by first | assumption | exact Int32.not_le.mp (by assumption)))) ?_
      refine V_go 8 rfl ?_
      refine V_iret rfl rfl rfl ?_
      refine RP.mk ⟨rfl, Or.inl ⟨⟨(by first | assumption | exact Int32.not_lt.mp (by assumption)), (by first | assumption | exact Int32.not_le.mp (by assumption))⟩, ?_, ?_⟩⟩
      · simp only [up2_rd, reduceIte, Nat.reduceEqDiff]
      · simp only [up2_rd, reduceIte, Nat.reduceEqDiff]
    · skip
      refine V_go 1 rfl ?_
      refine V_iret rfl rfl rfl ?_
      refine RP.mk ⟨rfl, Or.inr ⟨fun q => ?_, rfl, rfl⟩⟩
      first
        | exact absurd q.1 (by first | assumption | exact Int32.not_le.mpr (by assumption))
        | exact absurd q.2 (by first | assumption | exact Int32.not_lt.mpr (by assumption))
theorem c_feed {x : Int32} {I : I2} {J : J2} : CT mX6_feed 2 58 58 [.ref 0, .int x] I J RF (RP RF (fun r I1 J1 => J1 = J ∧ (((0 ≤ x ∧ x ≤ 255) ∧ (((0 ≤ I 5 2 ∧ I 5 2 < 160) ∧ r = I 5 2 + 1 ∧ I1 = up2 (up2 I 6 (I 5 2).toNatClampNeg x) 5 2 (I 5 2 + 1)) ∨ (¬ (0 ≤ I 5 2 ∧ I 5 2 < 160) ∧ r = -4 ∧ I1 = I))) ∨ (¬ (0 ≤ x ∧ x ≤ 255) ∧ r = -2 ∧ I1 = I)))) := by
  refine CT_of okX6_feed (Nat.le_of_ble_eq_true rfl) ?_
  show V _ _ _ _ _ _ [(0, _), (1, _)] _ _ _ _ _
  refine V_go 1 rfl ?_
  refine V_if_lt rfl (fun h1 => ?_) (fun h1 => ?_)
  · skip
    refine V_go 1 rfl ?_
    refine V_iret rfl rfl rfl ?_
    refine RP.mk ⟨rfl, Or.inr ⟨fun q => ?_, rfl, rfl⟩⟩
    first
      | exact absurd q.1 (by first | assumption | exact Int32.not_le.mpr (by assumption))
      | exact absurd q.2 (by first | assumption | exact Int32.not_le.mpr (by assumption))
  · skip
    refine V_go 2 rfl ?_
    refine V_icmp_le rfl (fun h2 => ?_) (fun h2 => ?_)
    · skip
      refine V_go 3 rfl ?_
      refine cVP (mt' := mX3_addByte) rfl kX6_134 fX3_addByte rfl rfl rfl (Nat.le_of_ble_eq_true rfl) (Nat.le_of_ble_eq_true rfl) (Nat.le_of_ble_eq_true rfl) (Nat.le_of_ble_eq_true rfl) (Nat.le_refl _) (c_addByte) ?_
      intro r3 Ir3 Jr3 h3
      obtain ⟨rfl, hf⟩ := h3
      refine V_iret rfl rfl rfl ?_
      exact RP.mk ⟨rfl, Or.inl ⟨⟨(by first | assumption | exact Int32.not_lt.mp (by assumption)), by assumption⟩, hf⟩⟩
    · skip
      refine V_go 1 rfl ?_
      refine V_iret rfl rfl rfl ?_
      refine RP.mk ⟨rfl, Or.inr ⟨fun q => ?_, rfl, rfl⟩⟩
      first
        | exact absurd q.1 (by first | assumption | exact Int32.not_le.mpr (by assumption))
        | exact absurd q.2 (by first | assumption | exact Int32.not_le.mpr (by assumption))
