theorem c_bitCount {x : Int32} {I : I2} {J : J2} : CT mJ6_bitCount_0f7a4 1 58 58 [.int x] I J RF (RI RF (bitc x) I J) := by
  refine CT_of okJ6_bitCount_0f7a4 (Nat.le_of_ble_eq_true rfl) ?_
  show V _ _ _ _ _ _ [(0, _)] _ _ _ _ _
  refine V_go 41 rfl ?_
  refine V_iret rfl rfl rfl ?_
  exact RI.mk rfl
def EvC (I : I2) (T : TV) : Prop := 1 ≤ I 1 0 ∧ I 1 0 ≤ 6 ∧ ∀ (t part : Nat) (stk names : Nat → Int32), i32 t < I 1 0 → t < 6 → part < 3 → vVal (I 2) (I 3) stk t part names = T (i32 t) part (names 0) (names 1) (names 2) (names 3) (names 4) (names 5)
/-- but for what is worked with -/
def Sq (o : Nat) (I I1 : I2) : Prop := ∀ a, a ≠ 4 → a ≠ o + 1 → I1 a = I a
def Cok (I : I2) (o : Nat) (T : TV) : Prop := oC o ∧ EvC I T ∧ 0 ≤ I o 4 ∧ I o 4 < I 1 0 ∧ 0 ≤ I o 5 ∧ I o 5 ≤ 8 ∧ 0 ≤ I o 9 ∧ I o 9 ≤ 6
theorem Sq.rf {o : Nat} {I : I2} : Sq o I I := fun _ _ _ => rfl
theorem Sq.tr {o : Nat} {I I1 I2' : I2} (h1 : Sq o I I1) (h2 : Sq o I1 I2') : Sq o I I2' := fun a h3 h4 => (h2 a h3 h4).trans (h1 a h3 h4)
theorem Sq.row4 {o : Nat} {I : I2} {g : Nat → Int32} : Sq o I (row2 I 4 g) := fun a h _ => row2_ne h
theorem Sq.rowN {o : Nat} {I : I2} {g : Nat → Int32} : Sq o I (row2 I (o + 1) g) := fun a _ h => row2_ne h
theorem Cok.sq {I I1 : I2} {o : Nat} {T : TV} (h : Cok I o T) (q : Sq o I I1) : Cok I1 o T := by
  obtain ⟨ho, ⟨h1, h2, h3⟩, h4⟩ := h
  have e1 : I1 1 = I 1 := q 1 (by omega) (by rcases ho with rfl | rfl | rfl <;> omega)
  have e2 : I1 2 = I 2 := q 2 (by omega) (by rcases ho with rfl | rfl | rfl <;> omega)
  have e3 : I1 3 = I 3 := q 3 (by omega) (by rcases ho with rfl | rfl | rfl <;> omega)
  have e4 : I1 o = I o := q o (by rcases ho with rfl | rfl | rfl <;> omega) (by omega)
  refine ⟨ho, ⟨?_, ?_, ?_⟩, ?_⟩
  · rw [e1]; exact h1
  · rw [e1]; exact h2
  · rw [e1, e2, e3]; exact h3
  · rw [e4, e1]; exact h4
theorem cOf_sq {I I1 : I2} {o : Nat} (ho : oC o) (q : Sq o I I1) : cOf I1 o = cOf I o := by
  have e (k : Nat) (h : k ≠ 1) (h2 : k < 8) : I1 (o + k) = I (o + k) := q _ (by rcases ho with rfl | rfl | rfl <;> omega) (by omega)
  funext g j
  have h0 := e 0 (by omega) (by omega)
  simp only [Nat.add_zero] at h0
  simp only [cOf, h0, e 2 (by omega) (by omega), e 3 (by omega) (by omega), e 4 (by omega) (by omega), e 5 (by omega) (by omega), e 6 (by omega) (by omega), e 7 (by omega) (by omega)]
theorem nC_lt {I : I2} {o c : Nat} (h0 : 0 ≤ I o 5) (h8 : I o 5 ≤ 8) (hc : c < nC (cOf I o)) : c < 8 ∧ i32 c < I o 5 ∧ 0 ≤ i32 c ∧ i32 c < 8 ∧ (i32 c).toNatClampNeg = c := by
  have h1 : c < (I o 5).toNatClampNeg := hc
  have h2 := tcn (I o 5) h0
  have h3 : c < 8 := by grind
  exact ⟨h3, by grind [i32_ti], by grind [i32_ti], by grind [i32_ti], tn_of (by omega)⟩
def lookG (I : I2) (o c m : Nat) : Nat → Int32 := fun j => if j = 0 then I (o + 3) c else if j = 1 then I (o + 4) c else if j = 2 then I o 2 else if j = 3 then i32 (cnt m c) else if j = 4 then i32 c else if j = 5 then I o 5 else I (o + 1) j
theorem c_value {t part nm : Nat} {I : I2} {J : J2} {T : TV} (ht : t < 6) (hp : part < 3) (hnm : nm = 8 ∨ nm = 16 ∨ nm = 24) (hm : i32 t < I 1 0) (hT : EvC I T) : CT mX5_value 2 58 58 [.ref 1, .int (i32 t), .int (i32 part), .ref nm] I J RF (RP RF (fun r I1 J1 => r = T (i32 t) part (I nm 0) (I nm 1) (I nm 2) (I nm 3) (I nm 4) (I nm 5) ∧ J1 = J ∧ ∃ g, I1 = row2 I 4 g)) := by
  have h := c_value0 (J := J) ht hp hnm hm
  rw [hT.2.2 t part (I 4) (I nm) hm ht hp] at h
  exact h
theorem c_lookAt {o c m : Nat} {I : I2} {J : J2} (ho : oC o) (h0 : 0 ≤ I o 5) (h8 : I o 5 ≤ 8) (hc : c < nC (cOf I o)) (hm : m < 256) : CT mX0_lookAt 2 58 58 [.ref o, .int (i32 c), .int (i32 m)] I J RF (RV RF (row2 I (o + 1) (lookG I o c m)) J) := by
  rcases ho with rfl | rfl | rfl
  all_goals
    obtain ⟨hc8, hcn, hc0, hcx, hct⟩ := nC_lt h0 h8 hc
    refine CT_of okX0_lookAt (Nat.le_of_ble_eq_true rfl) ?_
    show V _ _ _ _ _ _ [(0, _), (1, _), (2, _)] _ _ _ _ _
    refine V_go 2 rfl ?_
    try simp only [up2_rd, row2_rd, reduceIte, Nat.reduceEqDiff]
    refine cVI (mt' := mX0_hasCitizen) rfl kX0_61 fX0_hasCitizen rfl rfl rfl (Nat.le_of_ble_eq_true rfl) (Nat.le_of_ble_eq_true rfl) (Nat.le_of_ble_eq_true rfl) (Nat.le_of_ble_eq_true rfl) (Nat.le_refl _) (c_hasCitizen (by unfold oC; decide)) ?_
    refine V_if_eq rfl (fun h2 => ?_) (fun h2 => ?_)
    · skip
      refine V_vret rfl rfl rfl ?_
      first
        | (refine RV.mk2 ?_
           simp only [hct, bitc_ok m hm c (by omega)]
           funext a b
           simp only [up2_rd, row2_rd, lookG, Nat.reduceAdd]
           grind)
        | (exfalso; grind [b2i])
    · skip
      refine V_go 6 rfl ?_
      try simp only [up2_rd, row2_rd, reduceIte, Nat.reduceEqDiff]
      refine V_iald rfl rfl (Nat.le_of_ble_eq_true rfl) (inb_ofN (by decide) (by grind [b2i, i32_ti, tcn]) (by grind [b2i, i32_ti, tcn])) ?_
      try simp only [up2_rd, row2_rd, reduceIte, Nat.reduceEqDiff]
      refine V_iast rfl rfl (Nat.le_of_ble_eq_true rfl) (inb_ofN (by decide) (by grind [b2i, i32_ti, tcn]) (by grind [b2i, i32_ti, tcn])) ?_
      refine V_go 6 rfl ?_
      try simp only [up2_rd, row2_rd, reduceIte, Nat.reduceEqDiff]
      refine V_iald rfl rfl (Nat.le_of_ble_eq_true rfl) (inb_ofN (by decide) (by grind [b2i, i32_ti, tcn]) (by grind [b2i, i32_ti, tcn])) ?_
      try simp only [up2_rd, row2_rd, reduceIte, Nat.reduceEqDiff]
      refine V_iast rfl rfl (Nat.le_of_ble_eq_true rfl) (inb_ofN (by decide) (by grind [b2i, i32_ti, tcn]) (by grind [b2i, i32_ti, tcn])) ?_
      refine V_go 5 rfl ?_
      try simp only [up2_rd, row2_rd, reduceIte, Nat.reduceEqDiff]
      refine V_iast rfl rfl (Nat.le_of_ble_eq_true rfl) (inb_ofN (by decide) (by grind [b2i, i32_ti, tcn]) (by grind [b2i, i32_ti, tcn])) ?_
      refine V_go 10 rfl ?_
      try simp only [up2_rd, row2_rd, reduceIte, Nat.reduceEqDiff]
      refine cSI (mt' := mJ6_bitCount_0f7a4) rfl kX0_76 fJ6_bitCount_0f7a4 rfl (Nat.le_of_ble_eq_true rfl) (Nat.le_of_ble_eq_true rfl) (Nat.le_refl _) (c_bitCount) ?_
      refine V_iast rfl rfl (Nat.le_of_ble_eq_true rfl) (inb_ofN (by decide) (by grind [b2i, i32_ti, tcn]) (by grind [b2i, i32_ti, tcn])) ?_
      refine V_go 4 rfl ?_
      try simp only [up2_rd, row2_rd, reduceIte, Nat.reduceEqDiff]
      refine V_iast rfl rfl (Nat.le_of_ble_eq_true rfl) (inb_ofN (by decide) (by grind [b2i, i32_ti, tcn]) (by grind [b2i, i32_ti, tcn])) ?_
      refine V_go 5 rfl ?_
      try simp only [up2_rd, row2_rd, reduceIte, Nat.reduceEqDiff]
      refine V_iast rfl rfl (Nat.le_of_ble_eq_true rfl) (inb_ofN (by decide) (by grind [b2i, i32_ti, tcn]) (by grind [b2i, i32_ti, tcn])) ?_
      refine V_vret rfl rfl rfl ?_
      first
        | (refine RV.mk2 ?_
           simp only [hct, bitc_ok m hm c (by omega)]
           funext a b
           simp only [up2_rd, row2_rd, lookG, Nat.reduceAdd]
           grind)
        | (exfalso; grind [b2i])
