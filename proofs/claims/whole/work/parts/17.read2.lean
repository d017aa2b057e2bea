theorem c_value_0 {x : Int32} {nm : Nat} {I : I2} {J : J2} {T : TV} (hnm : nm = 8 ∨ nm = 16 ∨ nm = 24) (h0 : 0 ≤ x) (hm : x < I 1 0) (hT : EvC I T) : CT mX5_value 2 58 58 [.ref 1, .int x, .int 0, .ref nm] I J RF (RP RF (fun r I1 J1 => r = T x 0 (I nm 0) (I nm 1) (I nm 2) (I nm 3) (I nm 4) (I nm 5) ∧ J1 = J ∧ ∃ g, I1 = row2 I 4 g)) := by
  have e : i32 x.toNatClampNeg = x := Int32.ofNat_toNatClampNeg _ h0
  have h6 : x < 6 := by have := hT.2.1; grind
  have h := c_value (t := x.toNatClampNeg) (part := 0) (J := J) (by grind [tcn]) (by omega) hnm (by rw [e]; exact hm) hT
  rw [e] at h
  exact h
theorem c_value_1 {x : Int32} {nm : Nat} {I : I2} {J : J2} {T : TV} (hnm : nm = 8 ∨ nm = 16 ∨ nm = 24) (h0 : 0 ≤ x) (hm : x < I 1 0) (hT : EvC I T) : CT mX5_value 2 58 58 [.ref 1, .int x, .int 1, .ref nm] I J RF (RP RF (fun r I1 J1 => r = T x 1 (I nm 0) (I nm 1) (I nm 2) (I nm 3) (I nm 4) (I nm 5) ∧ J1 = J ∧ ∃ g, I1 = row2 I 4 g)) := by
  have e : i32 x.toNatClampNeg = x := Int32.ofNat_toNatClampNeg _ h0
  have h6 : x < 6 := by have := hT.2.1; grind
  have h := c_value (t := x.toNatClampNeg) (part := 1) (J := J) (by grind [tcn]) (by omega) hnm (by rw [e]; exact hm) hT
  rw [e] at h
  exact h
theorem c_value_2 {x : Int32} {nm : Nat} {I : I2} {J : J2} {T : TV} (hnm : nm = 8 ∨ nm = 16 ∨ nm = 24) (h0 : 0 ≤ x) (hm : x < I 1 0) (hT : EvC I T) : CT mX5_value 2 58 58 [.ref 1, .int x, .int 2, .ref nm] I J RF (RP RF (fun r I1 J1 => r = T x 2 (I nm 0) (I nm 1) (I nm 2) (I nm 3) (I nm 4) (I nm 5) ∧ J1 = J ∧ ∃ g, I1 = row2 I 4 g)) := by
  have e : i32 x.toNatClampNeg = x := Int32.ofNat_toNatClampNeg _ h0
  have h6 : x < 6 := by have := hT.2.1; grind
  have h := c_value (t := x.toNatClampNeg) (part := 2) (J := J) (by grind [tcn]) (by omega) hnm (by rw [e]; exact hm) hT
  rw [e] at h
  exact h
theorem EvC.names {I : I2} {T : TV} {g : Nat → Int32} {o c m : Nat} (hT : EvC I T) : (EvC (row2 I 8 g) T ∧ EvC (row2 I 16 g) T) ∧ EvC (row2 I 24 g) T := by
  refine ⟨⟨?_, ?_⟩, ?_⟩ <;> exact hT
theorem Sq.two {o : Nat} {I : I2} {g g' : Nat → Int32} : Sq o I (row2 (row2 I (o + 1) g) 4 g') := Sq.rowN.tr (fun a h _ => row2_ne h)
theorem c_kindOfR {o c : Nat} {I : I2} {J : J2} (ho : oC o) (h1 : i32 c < I o 5) (h2 : c < 8) : CT mX0_kindOf 2 58 58 [.ref o, .int (i32 c)] I J RF (RI RF (I (o + 2) c) I J) := by
  have h := c_kindOf (x := i32 c) (I := I) (J := J) ho
  rw [if_pos ⟨by grind [i32_ti], h1, by grind [i32_ti]⟩, tn_of (by omega)] at h
  exact h
theorem c_numberOfR {o c : Nat} {I : I2} {J : J2} (ho : oC o) (h1 : i32 c < I o 5) (h2 : c < 8) : CT mX0_numberOf 2 58 58 [.ref o, .int (i32 c)] I J RF (RI RF (I (o + 3) c) I J) := by
  have h := c_numberOf (x := i32 c) (I := I) (J := J) ho
  rw [if_pos ⟨by grind [i32_ti], h1, by grind [i32_ti]⟩, tn_of (by omega)] at h
  exact h
theorem c_bribeOfR {o c : Nat} {I : I2} {J : J2} (ho : oC o) (h1 : i32 c < I o 5) (h2 : c < 8) : CT mX0_bribeOf 2 58 58 [.ref o, .int (i32 c)] I J RF (RI RF (I (o + 4) c) I J) := by
  have h := c_bribeOf (x := i32 c) (I := I) (J := J) ho
  rw [if_pos ⟨by grind [i32_ti], h1, by grind [i32_ti]⟩, tn_of (by omega)] at h
  exact h
theorem c_takesOfR {o c : Nat} {I : I2} {J : J2} (ho : oC o) (h1 : i32 c < I o 9) (h2 : c < 6) : CT mX0_takesOf 2 58 58 [.ref o, .int (i32 c)] I J RF (RI RF (I (o + 5) c) I J) := by
  have h := c_takesOf (x := i32 c) (I := I) (J := J) ho
  rw [if_pos ⟨by grind [i32_ti], h1, by grind [i32_ti]⟩, tn_of (by omega)] at h
  exact h
theorem c_soFarOfR {o c : Nat} {I : I2} {J : J2} (ho : oC o) (h1 : i32 c < I o 9) (h2 : c < 6) : CT mX0_soFarOf 2 58 58 [.ref o, .int (i32 c)] I J RF (RI RF (I (o + 6) c) I J) := by
  have h := c_soFarOf (x := i32 c) (I := I) (J := J) ho
  rw [if_pos ⟨by grind [i32_ti], h1, by grind [i32_ti]⟩, tn_of (by omega)] at h
  exact h
theorem c_doneAtR {o c : Nat} {I : I2} {J : J2} (ho : oC o) (h1 : i32 c < I o 9) (h2 : c < 6) : CT mX0_doneAt 2 58 58 [.ref o, .int (i32 c)] I J RF (RI RF (I (o + 7) c) I J) := by
  have h := c_doneAt (x := i32 c) (I := I) (J := J) ho
  rw [if_pos ⟨by grind [i32_ti], h1, by grind [i32_ti]⟩, tn_of (by omega)] at h
  exact h
theorem sKRd_or (k yes num bri sit : Int32) : sKRd k yes num bri sit = 0 ∨ sKRd k yes num bri sit = 1 := by grind [sKRd, b2i]
theorem c_isRead {o c m : Nat} {I : I2} {J : J2} {T : TV} (hC : Cok I o T) (hc : c < nC (cOf I o)) (hm : m < 256) : CT mX0_isRead 3 58 58 [.ref o, .int (i32 c), .int (i32 m)] I J RF (RP RF (fun r I1 J1 => r = sRd T (cOf I o) c (cnt m c) ∧ J1 = J ∧ Sq o I I1)) := by
  have ho := hC.1
  obtain ⟨-, hT, hr0, hr1, hn0, hn8, hi0, hi6⟩ := hC
  obtain ⟨hc8, hcn, hc0, hcx, hct⟩ := nC_lt hn0 hn8 hc
  rcases ho with rfl | rfl | rfl
  · refine CT_of okX0_isRead (Nat.le_of_ble_eq_true rfl) ?_
    show V _ _ _ _ _ _ [(0, _), (1, _), (2, _)] _ _ _ _ _
    refine V_go 3 rfl ?_
    refine cVV (mt' := mX0_lookAt) rfl kX0_81 fX0_lookAt rfl rfl rfl (Nat.le_of_ble_eq_true rfl) (Nat.le_of_ble_eq_true rfl) (Nat.le_of_ble_eq_true rfl) (Nat.le_of_ble_eq_true rfl) (Nat.le_refl _) (c_lookAt (o := 7) (c := c) (m := m) (by unfold oC; decide) hn0 hn8 hc hm) ?_
    refine V_go 7 rfl ?_
    refine cVP (mt' := mX5_value) rfl kX0_84 fX5_value rfl rfl rfl (Nat.le_of_ble_eq_true rfl) (Nat.le_of_ble_eq_true rfl) (Nat.le_of_ble_eq_true rfl) (Nat.le_of_ble_eq_true rfl) (Nat.le_refl _) (c_value_0 (by decide) hr0 hr1 (T := T) hT) ?_
    intro r2 Ir2 Jr2 h2
    obtain ⟨hv, rfl, g, rfl⟩ := h2
    simp only [row2_rd, reduceIte, Nat.reduceEqDiff, Nat.reduceAdd, lookG] at hv
    refine V_if_eq rfl (fun h3 => ?_) (fun h3 => ?_)
    · skip
      refine V_go 4 rfl ?_
      refine cVI (mt' := mX0_kindOf) rfl kX0_88 fX0_kindOf rfl rfl rfl (Nat.le_of_ble_eq_true rfl) (Nat.le_of_ble_eq_true rfl) (Nat.le_of_ble_eq_true rfl) (Nat.le_of_ble_eq_true rfl) (Nat.le_refl _) (c_kindOfR (by unfold oC; decide) hcn hc8) ?_
      refine V_go 3 rfl ?_
      refine cVI (mt' := mX0_numberOf) rfl kX0_91 fX0_numberOf rfl rfl rfl (Nat.le_of_ble_eq_true rfl) (Nat.le_of_ble_eq_true rfl) (Nat.le_of_ble_eq_true rfl) (Nat.le_of_ble_eq_true rfl) (Nat.le_refl _) (c_numberOfR (by unfold oC; decide) hcn hc8) ?_
      refine V_go 2 rfl ?_
      refine cVI (mt' := mX0_bribeOf) rfl kX0_94 fX0_bribeOf rfl rfl rfl (Nat.le_of_ble_eq_true rfl) (Nat.le_of_ble_eq_true rfl) (Nat.le_of_ble_eq_true rfl) (Nat.le_of_ble_eq_true rfl) (Nat.le_refl _) (c_bribeOfR (by unfold oC; decide) hcn hc8) ?_
      refine V_go 2 rfl ?_
      refine cSI (mt' := mX1_isRead) rfl kX0_97 fX1_isRead rfl (Nat.le_of_ble_eq_true rfl) (Nat.le_of_ble_eq_true rfl) (Nat.le_refl _) (c_kRead (by first | exact Or.inl rfl | exact Or.inr rfl)) ?_
      refine V_zret rfl rfl rfl (by first | exact Or.inl rfl | exact Or.inr rfl | exact sKRd_or _ _ _ _ _) ?_
      refine RP.mk ⟨?_, rfl, Sq.two⟩
      simp only [row2_rd, reduceIte, Nat.reduceEqDiff, Nat.reduceAdd]
      simp only [sRd, askT, cOf, Nat.reduceAdd]
      rw [← hv]
      first
        | rw [b2i_1 (by grind)]
        | rw [b2i_0 (by grind)]
    · skip
      refine V_go 5 rfl ?_
      refine cVI (mt' := mX0_kindOf) rfl kX0_88 fX0_kindOf rfl rfl rfl (Nat.le_of_ble_eq_true rfl) (Nat.le_of_ble_eq_true rfl) (Nat.le_of_ble_eq_true rfl) (Nat.le_of_ble_eq_true rfl) (Nat.le_refl _) (c_kindOfR (by unfold oC; decide) hcn hc8) ?_
      refine V_go 3 rfl ?_
      refine cVI (mt' := mX0_numberOf) rfl kX0_91 fX0_numberOf rfl rfl rfl (Nat.le_of_ble_eq_true rfl) (Nat.le_of_ble_eq_true rfl) (Nat.le_of_ble_eq_true rfl) (Nat.le_of_ble_eq_true rfl) (Nat.le_refl _) (c_numberOfR (by unfold oC; decide) hcn hc8) ?_
      refine V_go 2 rfl ?_
      refine cVI (mt' := mX0_bribeOf) rfl kX0_94 fX0_bribeOf rfl rfl rfl (Nat.le_of_ble_eq_true rfl) (Nat.le_of_ble_eq_true rfl) (Nat.le_of_ble_eq_true rfl) (Nat.le_of_ble_eq_true rfl) (Nat.le_refl _) (c_bribeOfR (by unfold oC; decide) hcn hc8) ?_
      refine V_go 2 rfl ?_
      refine cSI (mt' := mX1_isRead) rfl kX0_97 fX1_isRead rfl (Nat.le_of_ble_eq_true rfl) (Nat.le_of_ble_eq_true rfl) (Nat.le_refl _) (c_kRead (by first | exact Or.inl rfl | exact Or.inr rfl)) ?_
      refine V_zret rfl rfl rfl (by first | exact Or.inl rfl | exact Or.inr rfl | exact sKRd_or _ _ _ _ _) ?_
      refine RP.mk ⟨?_, rfl, Sq.two⟩
      simp only [row2_rd, reduceIte, Nat.reduceEqDiff, Nat.reduceAdd]
      simp only [sRd, askT, cOf, Nat.reduceAdd]
      rw [← hv]
      first
        | rw [b2i_1 (by grind)]
        | rw [b2i_0 (by grind)]
  · refine CT_of okX0_isRead (Nat.le_of_ble_eq_true rfl) ?_
    show V _ _ _ _ _ _ [(0, _), (1, _), (2, _)] _ _ _ _ _
    refine V_go 3 rfl ?_
    refine cVV (mt' := mX0_lookAt) rfl kX0_81 fX0_lookAt rfl rfl rfl (Nat.le_of_ble_eq_true rfl) (Nat.le_of_ble_eq_true rfl) (Nat.le_of_ble_eq_true rfl) (Nat.le_of_ble_eq_true rfl) (Nat.le_refl _) (c_lookAt (o := 15) (c := c) (m := m) (by unfold oC; decide) hn0 hn8 hc hm) ?_
    refine V_go 7 rfl ?_
    refine cVP (mt' := mX5_value) rfl kX0_84 fX5_value rfl rfl rfl (Nat.le_of_ble_eq_true rfl) (Nat.le_of_ble_eq_true rfl) (Nat.le_of_ble_eq_true rfl) (Nat.le_of_ble_eq_true rfl) (Nat.le_refl _) (c_value_0 (by decide) hr0 hr1 (T := T) hT) ?_
    intro r2 Ir2 Jr2 h2
    obtain ⟨hv, rfl, g, rfl⟩ := h2
    simp only [row2_rd, reduceIte, Nat.reduceEqDiff, Nat.reduceAdd, lookG] at hv
    refine V_if_eq rfl (fun h3 => ?_) (fun h3 => ?_)
    · skip
      refine V_go 4 rfl ?_
      refine cVI (mt' := mX0_kindOf) rfl kX0_88 fX0_kindOf rfl rfl rfl (Nat.le_of_ble_eq_true rfl) (Nat.le_of_ble_eq_true rfl) (Nat.le_of_ble_eq_true rfl) (Nat.le_of_ble_eq_true rfl) (Nat.le_refl _) (c_kindOfR (by unfold oC; decide) hcn hc8) ?_
      refine V_go 3 rfl ?_
      refine cVI (mt' := mX0_numberOf) rfl kX0_91 fX0_numberOf rfl rfl rfl (Nat.le_of_ble_eq_true rfl) (Nat.le_of_ble_eq_true rfl) (Nat.le_of_ble_eq_true rfl) (Nat.le_of_ble_eq_true rfl) (Nat.le_refl _) (c_numberOfR (by unfold oC; decide) hcn hc8) ?_
      refine V_go 2 rfl ?_
      refine cVI (mt' := mX0_bribeOf) rfl kX0_94 fX0_bribeOf rfl rfl rfl (Nat.le_of_ble_eq_true rfl) (Nat.le_of_ble_eq_true rfl) (Nat.le_of_ble_eq_true rfl) (Nat.le_of_ble_eq_true rfl) (Nat.le_refl _) (c_bribeOfR (by unfold oC; decide) hcn hc8) ?_
      refine V_go 2 rfl ?_
      refine cSI (mt' := mX1_isRead) rfl kX0_97 fX1_isRead rfl (Nat.le_of_ble_eq_true rfl) (Nat.le_of_ble_eq_true rfl) (Nat.le_refl _) (c_kRead (by first | exact Or.inl rfl | exact Or.inr rfl)) ?_
      refine V_zret rfl rfl rfl (by first | exact Or.inl rfl | exact Or.inr rfl | exact sKRd_or _ _ _ _ _) ?_
      refine RP.mk ⟨?_, rfl, Sq.two⟩
      simp only [row2_rd, reduceIte, Nat.reduceEqDiff, Nat.reduceAdd]
      simp only [sRd, askT, cOf, Nat.reduceAdd]
      rw [← hv]
      first
        | rw [b2i_1 (by grind)]
        | rw [b2i_0 (by grind)]
    · skip
      refine V_go 5 rfl ?_
      refine cVI (mt' := mX0_kindOf) rfl kX0_88 fX0_kindOf rfl rfl rfl (Nat.le_of_ble_eq_true rfl) (Nat.le_of_ble_eq_true rfl) (Nat.le_of_ble_eq_true rfl) (Nat.le_of_ble_eq_true rfl) (Nat.le_refl _) (c_kindOfR (by unfold oC; decide) hcn hc8) ?_
      refine V_go 3 rfl ?_
      refine cVI (mt' := mX0_numberOf) rfl kX0_91 fX0_numberOf rfl rfl rfl (Nat.le_of_ble_eq_true rfl) (Nat.le_of_ble_eq_true rfl) (Nat.le_of_ble_eq_true rfl) (Nat.le_of_ble_eq_true rfl) (Nat.le_refl _) (c_numberOfR (by unfold oC; decide) hcn hc8) ?_
      refine V_go 2 rfl ?_
      refine cVI (mt' := mX0_bribeOf) rfl kX0_94 fX0_bribeOf rfl rfl rfl (Nat.le_of_ble_eq_true rfl) (Nat.le_of_ble_eq_true rfl) (Nat.le_of_ble_eq_true rfl) (Nat.le_of_ble_eq_true rfl) (Nat.le_refl _) (c_bribeOfR (by unfold oC; decide) hcn hc8) ?_
      refine V_go 2 rfl ?_
      refine cSI (mt' := mX1_isRead) rfl kX0_97 fX1_isRead rfl (Nat.le_of_ble_eq_true rfl) (Nat.le_of_ble_eq_true rfl) (Nat.le_refl _) (c_kRead (by first | exact Or.inl rfl | exact Or.inr rfl)) ?_
      refine V_zret rfl rfl rfl (by first | exact Or.inl rfl | exact Or.inr rfl | exact sKRd_or _ _ _ _ _) ?_
      refine RP.mk ⟨?_, rfl, Sq.two⟩
      simp only [row2_rd, reduceIte, Nat.reduceEqDiff, Nat.reduceAdd]
      simp only [sRd, askT, cOf, Nat.reduceAdd]
      rw [← hv]
      first
        | rw [b2i_1 (by grind)]
        | rw [b2i_0 (by grind)]
  · refine CT_of okX0_isRead (Nat.le_of_ble_eq_true rfl) ?_
    show V _ _ _ _ _ _ [(0, _), (1, _), (2, _)] _ _ _ _ _
    refine V_go 3 rfl ?_
    refine cVV (mt' := mX0_lookAt) rfl kX0_81 fX0_lookAt rfl rfl rfl (Nat.le_of_ble_eq_true rfl) (Nat.le_of_ble_eq_true rfl) (Nat.le_of_ble_eq_true rfl) (Nat.le_of_ble_eq_true rfl) (Nat.le_refl _) (c_lookAt (o := 23) (c := c) (m := m) (by unfold oC; decide) hn0 hn8 hc hm) ?_
    refine V_go 7 rfl ?_
    refine cVP (mt' := mX5_value) rfl kX0_84 fX5_value rfl rfl rfl (Nat.le_of_ble_eq_true rfl) (Nat.le_of_ble_eq_true rfl) (Nat.le_of_ble_eq_true rfl) (Nat.le_of_ble_eq_true rfl) (Nat.le_refl _) (c_value_0 (by decide) hr0 hr1 (T := T) hT) ?_
    intro r2 Ir2 Jr2 h2
    obtain ⟨hv, rfl, g, rfl⟩ := h2
    simp only [row2_rd, reduceIte, Nat.reduceEqDiff, Nat.reduceAdd, lookG] at hv
    refine V_if_eq rfl (fun h3 => ?_) (fun h3 => ?_)
    · skip
      refine V_go 4 rfl ?_
      refine cVI (mt' := mX0_kindOf) rfl kX0_88 fX0_kindOf rfl rfl rfl (Nat.le_of_ble_eq_true rfl) (Nat.le_of_ble_eq_true rfl) (Nat.le_of_ble_eq_true rfl) (Nat.le_of_ble_eq_true rfl) (Nat.le_refl _) (c_kindOfR (by unfold oC; decide) hcn hc8) ?_
      refine V_go 3 rfl ?_
      refine cVI (mt' := mX0_numberOf) rfl kX0_91 fX0_numberOf rfl rfl rfl (Nat.le_of_ble_eq_true rfl) (Nat.le_of_ble_eq_true rfl) (Nat.le_of_ble_eq_true rfl) (Nat.le_of_ble_eq_true rfl) (Nat.le_refl _) (c_numberOfR (by unfold oC; decide) hcn hc8) ?_
      refine V_go 2 rfl ?_
      refine cVI (mt' := mX0_bribeOf) rfl kX0_94 fX0_bribeOf rfl rfl rfl (Nat.le_of_ble_eq_true rfl) (Nat.le_of_ble_eq_true rfl) (Nat.le_of_ble_eq_true rfl) (Nat.le_of_ble_eq_true rfl) (Nat.le_refl _) (c_bribeOfR (by unfold oC; decide) hcn hc8) ?_
      refine V_go 2 rfl ?_
      refine cSI (mt' := mX1_isRead) rfl kX0_97 fX1_isRead rfl (Nat.le_of_ble_eq_true rfl) (Nat.le_of_ble_eq_true rfl) (Nat.le_refl _) (c_kRead (by first | exact Or.inl rfl | exact Or.inr rfl)) ?_
      refine V_zret rfl rfl rfl (by first | exact Or.inl rfl | exact Or.inr rfl | exact sKRd_or _ _ _ _ _) ?_
      refine RP.mk ⟨?_, rfl, Sq.two⟩
      simp only [row2_rd, reduceIte, Nat.reduceEqDiff, Nat.reduceAdd]
      simp only [sRd, askT, cOf, Nat.reduceAdd]
      rw [← hv]
      first
        | rw [b2i_1 (by grind)]
        | rw [b2i_0 (by grind)]
    · skip
      refine V_go 5 rfl ?_
      refine cVI (mt' := mX0_kindOf) rfl kX0_88 fX0_kindOf rfl rfl rfl (Nat.le_of_ble_eq_true rfl) (Nat.le_of_ble_eq_true rfl) (Nat.le_of_ble_eq_true rfl) (Nat.le_of_ble_eq_true rfl) (Nat.le_refl _) (c_kindOfR (by unfold oC; decide) hcn hc8) ?_
      refine V_go 3 rfl ?_
      refine cVI (mt' := mX0_numberOf) rfl kX0_91 fX0_numberOf rfl rfl rfl (Nat.le_of_ble_eq_true rfl) (Nat.le_of_ble_eq_true rfl) (Nat.le_of_ble_eq_true rfl) (Nat.le_of_ble_eq_true rfl) (Nat.le_refl _) (c_numberOfR (by unfold oC; decide) hcn hc8) ?_
      refine V_go 2 rfl ?_
      refine cVI (mt' := mX0_bribeOf) rfl kX0_94 fX0_bribeOf rfl rfl rfl (Nat.le_of_ble_eq_true rfl) (Nat.le_of_ble_eq_true rfl) (Nat.le_of_ble_eq_true rfl) (Nat.le_of_ble_eq_true rfl) (Nat.le_refl _) (c_bribeOfR (by unfold oC; decide) hcn hc8) ?_
      refine V_go 2 rfl ?_
      refine cSI (mt' := mX1_isRead) rfl kX0_97 fX1_isRead rfl (Nat.le_of_ble_eq_true rfl) (Nat.le_of_ble_eq_true rfl) (Nat.le_refl _) (c_kRead (by first | exact Or.inl rfl | exact Or.inr rfl)) ?_
      refine V_zret rfl rfl rfl (by first | exact Or.inl rfl | exact Or.inr rfl | exact sKRd_or _ _ _ _ _) ?_
      refine RP.mk ⟨?_, rfl, Sq.two⟩
      simp only [row2_rd, reduceIte, Nat.reduceEqDiff, Nat.reduceAdd]
      simp only [sRd, askT, cOf, Nat.reduceAdd]
      rw [← hv]
      first
        | rw [b2i_1 (by grind)]
        | rw [b2i_0 (by grind)]
theorem c_silenceOf {o c m : Nat} {I : I2} {J : J2} {T : TV} (hC : Cok I o T) (hc : c < nC (cOf I o)) (hm : m < 256) : CT mX0_silenceOf 3 58 58 [.ref o, .int (i32 c), .int (i32 m)] I J RF (RP RF (fun r I1 J1 => r = sSl T (cOf I o) c (cnt m c) ∧ J1 = J ∧ Sq o I I1)) := by
  have ho := hC.1
  obtain ⟨-, hT, hr0, hr1, hn0, hn8, hi0, hi6⟩ := hC
  obtain ⟨hc8, hcn, hc0, hcx, hct⟩ := nC_lt hn0 hn8 hc
  rcases ho with rfl | rfl | rfl
  · refine CT_of okX0_silenceOf (Nat.le_of_ble_eq_true rfl) ?_
    show V _ _ _ _ _ _ [(0, _), (1, _), (2, _)] _ _ _ _ _
    refine V_go 3 rfl ?_
    refine cVV (mt' := mX0_lookAt) rfl kX0_81 fX0_lookAt rfl rfl rfl (Nat.le_of_ble_eq_true rfl) (Nat.le_of_ble_eq_true rfl) (Nat.le_of_ble_eq_true rfl) (Nat.le_of_ble_eq_true rfl) (Nat.le_refl _) (c_lookAt (o := 7) (c := c) (m := m) (by unfold oC; decide) hn0 hn8 hc hm) ?_
    refine V_go 2 rfl ?_
    refine cVI (mt' := mX0_kindOf) rfl kX0_88 fX0_kindOf rfl rfl rfl (Nat.le_of_ble_eq_true rfl) (Nat.le_of_ble_eq_true rfl) (Nat.le_of_ble_eq_true rfl) (Nat.le_of_ble_eq_true rfl) (Nat.le_refl _) (c_kindOfR (by unfold oC; decide) hcn hc8) ?_
    refine V_go 7 rfl ?_
    refine cVP (mt' := mX5_value) rfl kX0_84 fX5_value rfl rfl rfl (Nat.le_of_ble_eq_true rfl) (Nat.le_of_ble_eq_true rfl) (Nat.le_of_ble_eq_true rfl) (Nat.le_of_ble_eq_true rfl) (Nat.le_refl _) (c_value_1 (by decide) hr0 hr1 (T := T) hT) ?_
    intro r3 Ir3 Jr3 h3
    obtain ⟨hv, rfl, g, rfl⟩ := h3
    simp only [row2_rd, reduceIte, Nat.reduceEqDiff, Nat.reduceAdd, lookG] at hv
    refine V_go 2 rfl ?_
    refine cVI (mt' := mX0_numberOf) rfl kX0_91 fX0_numberOf rfl rfl rfl (Nat.le_of_ble_eq_true rfl) (Nat.le_of_ble_eq_true rfl) (Nat.le_of_ble_eq_true rfl) (Nat.le_of_ble_eq_true rfl) (Nat.le_refl _) (c_numberOfR (by unfold oC; decide) hcn hc8) ?_
    refine cSI (mt' := mX1_silence) rfl kX0_103 fX1_silence rfl (Nat.le_of_ble_eq_true rfl) (Nat.le_of_ble_eq_true rfl) (Nat.le_refl _) (c_kSil) ?_
    refine V_iret rfl rfl rfl ?_
    refine RP.mk ⟨?_, rfl, Sq.two⟩
    simp only [row2_rd, reduceIte, Nat.reduceEqDiff, Nat.reduceAdd]
    simp only [sSl, askT, cOf, Nat.reduceAdd]
    rw [← hv]
    done
  · refine CT_of okX0_silenceOf (Nat.le_of_ble_eq_true rfl) ?_
    show V _ _ _ _ _ _ [(0, _), (1, _), (2, _)] _ _ _ _ _
    refine V_go 3 rfl ?_
    refine cVV (mt' := mX0_lookAt) rfl kX0_81 fX0_lookAt rfl rfl rfl (Nat.le_of_ble_eq_true rfl) (Nat.le_of_ble_eq_true rfl) (Nat.le_of_ble_eq_true rfl) (Nat.le_of_ble_eq_true rfl) (Nat.le_refl _) (c_lookAt (o := 15) (c := c) (m := m) (by unfold oC; decide) hn0 hn8 hc hm) ?_
    refine V_go 2 rfl ?_
    refine cVI (mt' := mX0_kindOf) rfl kX0_88 fX0_kindOf rfl rfl rfl (Nat.le_of_ble_eq_true rfl) (Nat.le_of_ble_eq_true rfl) (Nat.le_of_ble_eq_true rfl) (Nat.le_of_ble_eq_true rfl) (Nat.le_refl _) (c_kindOfR (by unfold oC; decide) hcn hc8) ?_
    refine V_go 7 rfl ?_
    refine cVP (mt' := mX5_value) rfl kX0_84 fX5_value rfl rfl rfl (Nat.le_of_ble_eq_true rfl) (Nat.le_of_ble_eq_true rfl) (Nat.le_of_ble_eq_true rfl) (Nat.le_of_ble_eq_true rfl) (Nat.le_refl _) (c_value_1 (by decide) hr0 hr1 (T := T) hT) ?_
    intro r3 Ir3 Jr3 h3
    obtain ⟨hv, rfl, g, rfl⟩ := h3
    simp only [row2_rd, reduceIte, Nat.reduceEqDiff, Nat.reduceAdd, lookG] at hv
    refine V_go 2 rfl ?_
    refine cVI (mt' := mX0_numberOf) rfl kX0_91 fX0_numberOf rfl rfl rfl (Nat.le_of_ble_eq_true rfl) (Nat.le_of_ble_eq_true rfl) (Nat.le_of_ble_eq_true rfl) (Nat.le_of_ble_eq_true rfl) (Nat.le_refl _) (c_numberOfR (by unfold oC; decide) hcn hc8) ?_
    refine cSI (mt' := mX1_silence) rfl kX0_103 fX1_silence rfl (Nat.le_of_ble_eq_true rfl) (Nat.le_of_ble_eq_true rfl) (Nat.le_refl _) (c_kSil) ?_
    refine V_iret rfl rfl rfl ?_
    refine RP.mk ⟨?_, rfl, Sq.two⟩
    simp only [row2_rd, reduceIte, Nat.reduceEqDiff, Nat.reduceAdd]
    simp only [sSl, askT, cOf, Nat.reduceAdd]
    rw [← hv]
    done
  · refine CT_of okX0_silenceOf (Nat.le_of_ble_eq_true rfl) ?_
    show V _ _ _ _ _ _ [(0, _), (1, _), (2, _)] _ _ _ _ _
    refine V_go 3 rfl ?_
    refine cVV (mt' := mX0_lookAt) rfl kX0_81 fX0_lookAt rfl rfl rfl (Nat.le_of_ble_eq_true rfl) (Nat.le_of_ble_eq_true rfl) (Nat.le_of_ble_eq_true rfl) (Nat.le_of_ble_eq_true rfl) (Nat.le_refl _) (c_lookAt (o := 23) (c := c) (m := m) (by unfold oC; decide) hn0 hn8 hc hm) ?_
    refine V_go 2 rfl ?_
    refine cVI (mt' := mX0_kindOf) rfl kX0_88 fX0_kindOf rfl rfl rfl (Nat.le_of_ble_eq_true rfl) (Nat.le_of_ble_eq_true rfl) (Nat.le_of_ble_eq_true rfl) (Nat.le_of_ble_eq_true rfl) (Nat.le_refl _) (c_kindOfR (by unfold oC; decide) hcn hc8) ?_
    refine V_go 7 rfl ?_
    refine cVP (mt' := mX5_value) rfl kX0_84 fX5_value rfl rfl rfl (Nat.le_of_ble_eq_true rfl) (Nat.le_of_ble_eq_true rfl) (Nat.le_of_ble_eq_true rfl) (Nat.le_of_ble_eq_true rfl) (Nat.le_refl _) (c_value_1 (by decide) hr0 hr1 (T := T) hT) ?_
    intro r3 Ir3 Jr3 h3
    obtain ⟨hv, rfl, g, rfl⟩ := h3
    simp only [row2_rd, reduceIte, Nat.reduceEqDiff, Nat.reduceAdd, lookG] at hv
    refine V_go 2 rfl ?_
    refine cVI (mt' := mX0_numberOf) rfl kX0_91 fX0_numberOf rfl rfl rfl (Nat.le_of_ble_eq_true rfl) (Nat.le_of_ble_eq_true rfl) (Nat.le_of_ble_eq_true rfl) (Nat.le_of_ble_eq_true rfl) (Nat.le_refl _) (c_numberOfR (by unfold oC; decide) hcn hc8) ?_
    refine cSI (mt' := mX1_silence) rfl kX0_103 fX1_silence rfl (Nat.le_of_ble_eq_true rfl) (Nat.le_of_ble_eq_true rfl) (Nat.le_refl _) (c_kSil) ?_
    refine V_iret rfl rfl rfl ?_
    refine RP.mk ⟨?_, rfl, Sq.two⟩
    simp only [row2_rd, reduceIte, Nat.reduceEqDiff, Nat.reduceAdd]
    simp only [sSl, askT, cOf, Nat.reduceAdd]
    rw [← hv]
    done
theorem c_timeOf {o c m : Nat} {I : I2} {J : J2} {T : TV} (hC : Cok I o T) (hc : c < nC (cOf I o)) (hm : m < 256) : CT mX0_timeOf 3 58 58 [.ref o, .int (i32 c), .int (i32 m)] I J RF (RP RF (fun r I1 J1 => r = sTm T (cOf I o) c (cnt m c) ∧ J1 = J ∧ Sq o I I1)) := by
  have ho := hC.1
  obtain ⟨-, hT, hr0, hr1, hn0, hn8, hi0, hi6⟩ := hC
  obtain ⟨hc8, hcn, hc0, hcx, hct⟩ := nC_lt hn0 hn8 hc
  rcases ho with rfl | rfl | rfl
  · refine CT_of okX0_timeOf (Nat.le_of_ble_eq_true rfl) ?_
    show V _ _ _ _ _ _ [(0, _), (1, _), (2, _)] _ _ _ _ _
    refine V_go 3 rfl ?_
    refine cVV (mt' := mX0_lookAt) rfl kX0_81 fX0_lookAt rfl rfl rfl (Nat.le_of_ble_eq_true rfl) (Nat.le_of_ble_eq_true rfl) (Nat.le_of_ble_eq_true rfl) (Nat.le_of_ble_eq_true rfl) (Nat.le_refl _) (c_lookAt (o := 7) (c := c) (m := m) (by unfold oC; decide) hn0 hn8 hc hm) ?_
    refine V_go 2 rfl ?_
    refine cVI (mt' := mX0_kindOf) rfl kX0_88 fX0_kindOf rfl rfl rfl (Nat.le_of_ble_eq_true rfl) (Nat.le_of_ble_eq_true rfl) (Nat.le_of_ble_eq_true rfl) (Nat.le_of_ble_eq_true rfl) (Nat.le_refl _) (c_kindOfR (by unfold oC; decide) hcn hc8) ?_
    refine V_go 7 rfl ?_
    refine cVP (mt' := mX5_value) rfl kX0_84 fX5_value rfl rfl rfl (Nat.le_of_ble_eq_true rfl) (Nat.le_of_ble_eq_true rfl) (Nat.le_of_ble_eq_true rfl) (Nat.le_of_ble_eq_true rfl) (Nat.le_refl _) (c_value_2 (by decide) hr0 hr1 (T := T) hT) ?_
    intro r3 Ir3 Jr3 h3
    obtain ⟨hv, rfl, g, rfl⟩ := h3
    simp only [row2_rd, reduceIte, Nat.reduceEqDiff, Nat.reduceAdd, lookG] at hv
    refine V_go 2 rfl ?_
    refine cVI (mt' := mX0_numberOf) rfl kX0_91 fX0_numberOf rfl rfl rfl (Nat.le_of_ble_eq_true rfl) (Nat.le_of_ble_eq_true rfl) (Nat.le_of_ble_eq_true rfl) (Nat.le_of_ble_eq_true rfl) (Nat.le_refl _) (c_numberOfR (by unfold oC; decide) hcn hc8) ?_
    refine V_go 2 rfl ?_
    refine cSI (mt' := mX1_time) rfl kX0_107 fX1_time rfl (Nat.le_of_ble_eq_true rfl) (Nat.le_of_ble_eq_true rfl) (Nat.le_refl _) (c_kTim) ?_
    refine V_iret rfl rfl rfl ?_
    refine RP.mk ⟨?_, rfl, Sq.two⟩
    simp only [row2_rd, reduceIte, Nat.reduceEqDiff, Nat.reduceAdd]
    simp only [sTm, askT, cOf, Nat.reduceAdd]
    rw [← hv]
    done
  · refine CT_of okX0_timeOf (Nat.le_of_ble_eq_true rfl) ?_
    show V _ _ _ _ _ _ [(0, _), (1, _), (2, _)] _ _ _ _ _
    refine V_go 3 rfl ?_
    refine cVV (mt' := mX0_lookAt) rfl kX0_81 fX0_lookAt rfl rfl rfl (Nat.le_of_ble_eq_true rfl) (Nat.le_of_ble_eq_true rfl) (Nat.le_of_ble_eq_true rfl) (Nat.le_of_ble_eq_true rfl) (Nat.le_refl _) (c_lookAt (o := 15) (c := c) (m := m) (by unfold oC; decide) hn0 hn8 hc hm) ?_
    refine V_go 2 rfl ?_
    refine cVI (mt' := mX0_kindOf) rfl kX0_88 fX0_kindOf rfl rfl rfl (Nat.le_of_ble_eq_true rfl) (Nat.le_of_ble_eq_true rfl) (Nat.le_of_ble_eq_true rfl) (Nat.le_of_ble_eq_true rfl) (Nat.le_refl _) (c_kindOfR (by unfold oC; decide) hcn hc8) ?_
    refine V_go 7 rfl ?_
    refine cVP (mt' := mX5_value) rfl kX0_84 fX5_value rfl rfl rfl (Nat.le_of_ble_eq_true rfl) (Nat.le_of_ble_eq_true rfl) (Nat.le_of_ble_eq_true rfl) (Nat.le_of_ble_eq_true rfl) (Nat.le_refl _) (c_value_2 (by decide) hr0 hr1 (T := T) hT) ?_
    intro r3 Ir3 Jr3 h3
    obtain ⟨hv, rfl, g, rfl⟩ := h3
    simp only [row2_rd, reduceIte, Nat.reduceEqDiff, Nat.reduceAdd, lookG] at hv
    refine V_go 2 rfl ?_
    refine cVI (mt' := mX0_numberOf) rfl kX0_91 fX0_numberOf rfl rfl rfl (Nat.le_of_ble_eq_true rfl) (Nat.le_of_ble_eq_true rfl) (Nat.le_of_ble_eq_true rfl) (Nat.le_of_ble_eq_true rfl) (Nat.le_refl _) (c_numberOfR (by unfold oC; decide) hcn hc8) ?_
    refine V_go 2 rfl ?_
    refine cSI (mt' := mX1_time) rfl kX0_107 fX1_time rfl (Nat.le_of_ble_eq_true rfl) (Nat.le_of_ble_eq_true rfl) (Nat.le_refl _) (c_kTim) ?_
    refine V_iret rfl rfl rfl ?_
    refine RP.mk ⟨?_, rfl, Sq.two⟩
    simp only [row2_rd, reduceIte, Nat.reduceEqDiff, Nat.reduceAdd]
    simp only [sTm, askT, cOf, Nat.reduceAdd]
    rw [← hv]
    done
  · refine CT_of okX0_timeOf (Nat.le_of_ble_eq_true rfl) ?_
    show V _ _ _ _ _ _ [(0, _), (1, _), (2, _)] _ _ _ _ _
    refine V_go 3 rfl ?_
    refine cVV (mt' := mX0_lookAt) rfl kX0_81 fX0_lookAt rfl rfl rfl (Nat.le_of_ble_eq_true rfl) (Nat.le_of_ble_eq_true rfl) (Nat.le_of_ble_eq_true rfl) (Nat.le_of_ble_eq_true rfl) (Nat.le_refl _) (c_lookAt (o := 23) (c := c) (m := m) (by unfold oC; decide) hn0 hn8 hc hm) ?_
    refine V_go 2 rfl ?_
    refine cVI (mt' := mX0_kindOf) rfl kX0_88 fX0_kindOf rfl rfl rfl (Nat.le_of_ble_eq_true rfl) (Nat.le_of_ble_eq_true rfl) (Nat.le_of_ble_eq_true rfl) (Nat.le_of_ble_eq_true rfl) (Nat.le_refl _) (c_kindOfR (by unfold oC; decide) hcn hc8) ?_
    refine V_go 7 rfl ?_
    refine cVP (mt' := mX5_value) rfl kX0_84 fX5_value rfl rfl rfl (Nat.le_of_ble_eq_true rfl) (Nat.le_of_ble_eq_true rfl) (Nat.le_of_ble_eq_true rfl) (Nat.le_of_ble_eq_true rfl) (Nat.le_refl _) (c_value_2 (by decide) hr0 hr1 (T := T) hT) ?_
    intro r3 Ir3 Jr3 h3
    obtain ⟨hv, rfl, g, rfl⟩ := h3
    simp only [row2_rd, reduceIte, Nat.reduceEqDiff, Nat.reduceAdd, lookG] at hv
    refine V_go 2 rfl ?_
    refine cVI (mt' := mX0_numberOf) rfl kX0_91 fX0_numberOf rfl rfl rfl (Nat.le_of_ble_eq_true rfl) (Nat.le_of_ble_eq_true rfl) (Nat.le_of_ble_eq_true rfl) (Nat.le_of_ble_eq_true rfl) (Nat.le_refl _) (c_numberOfR (by unfold oC; decide) hcn hc8) ?_
    refine V_go 2 rfl ?_
    refine cSI (mt' := mX1_time) rfl kX0_107 fX1_time rfl (Nat.le_of_ble_eq_true rfl) (Nat.le_of_ble_eq_true rfl) (Nat.le_refl _) (c_kTim) ?_
    refine V_iret rfl rfl rfl ?_
    refine RP.mk ⟨?_, rfl, Sq.two⟩
    simp only [row2_rd, reduceIte, Nat.reduceEqDiff, Nat.reduceAdd]
    simp only [sTm, askT, cOf, Nat.reduceAdd]
    rw [← hv]
    done
