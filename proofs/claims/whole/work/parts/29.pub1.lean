/-- but for what is worked with: the stack, the council's names, the thought council, the weighed orders -/
def Scr (I I1 : I2) : Prop := ∀ a, a ≠ 4 → a ≠ 8 → (a < 15 ∨ 23 ≤ a) → a ≠ 31 → a ≠ 32 → a ≠ 33 → I1 a = I a
theorem Scr.rf {I : I2} : Scr I I := fun _ _ _ _ _ _ _ => rfl
theorem Scr.tr {I I1 I2' : I2} (h : Scr I I1) (h' : Scr I1 I2') : Scr I I2' := fun a h1 h2 h3 h4 h5 h6 => (h' a h1 h2 h3 h4 h5 h6).trans (h a h1 h2 h3 h4 h5 h6)
theorem Sq.scr7 {I I1 : I2} (h : Sq 7 I I1) : Scr I I1 := fun a h1 h2 _ _ _ _ => h a h1 h2
theorem Fr.scr15 {I I1 : I2} (h : Fr 15 I I1) : Scr I I1 := fun a h1 _ h3 _ _ _ => h a h1 h3
theorem Sq.scr15 {I I1 : I2} (h : Sq 15 I I1) : Scr I I1 := h.fr.scr15
theorem FrW.scr {I I1 : I2} (h : FrW I I1) : Scr I I1 := fun a h1 _ h3 h4 h5 h6 => h a h1 h4 h5 h6 h3
theorem cOf_scr {I I1 : I2} (q : Scr I I1) : cOf I1 7 = cOf I 7 := by
  have e (a : Nat) (h1 : a ≠ 4) (h2 : a ≠ 8) (h3 : a < 15) : I1 a = I a := q a h1 h2 (Or.inl h3) (by omega) (by omega) (by omega)
  funext g j
  simp only [cOf, Nat.reduceAdd, e 7 (by omega) (by omega) (by omega), e 9 (by omega) (by omega) (by omega), e 10 (by omega) (by omega) (by omega), e 11 (by omega) (by omega) (by omega), e 12 (by omega) (by omega) (by omega), e 13 (by omega) (by omega) (by omega), e 14 (by omega) (by omega) (by omega)]
theorem EvC.rows {I I1 : I2} {T : TV} (h : EvC I T) (e1 : I1 1 = I 1) (e2 : I1 2 = I 2) (e3 : I1 3 = I 3) : EvC I1 T := by
  obtain ⟨h1, h2, h3⟩ := h
  refine ⟨?_, ?_, ?_⟩
  · rw [e1]; exact h1
  · rw [e1]; exact h2
  · rw [e1, e2, e3]; exact h3
theorem EvC.scr {I I1 : I2} {T : TV} (h : EvC I T) (q : Scr I I1) : EvC I1 T := h.rows (q 1 (by omega) (by omega) (by omega) (by omega) (by omega) (by omega)) (q 2 (by omega) (by omega) (by omega) (by omega) (by omega) (by omega)) (q 3 (by omega) (by omega) (by omega) (by omega) (by omega) (by omega))
theorem Cok.scr {I I1 : I2} {T : TV} (h : Cok I 7 T) (q : Scr I I1) : Cok I1 7 T := by
  obtain ⟨ho, h1, h4⟩ := h
  have e7 : I1 7 = I 7 := q 7 (by omega) (by omega) (by omega) (by omega) (by omega) (by omega)
  have e1 : I1 1 = I 1 := q 1 (by omega) (by omega) (by omega) (by omega) (by omega) (by omega)
  refine ⟨ho, h1.scr q, ?_⟩
  rw [e7, e1]
  exact h4
/-- the thought council, once it has become another -/
theorem Cok.bec {I I1 : I2} {T : TV} (h : Cok I 7 T) (q : Fr 15 I I1) (e : Cq 8 6 (cOf I1 15) (cOf I 7)) : Cok I1 15 T := by
  obtain ⟨ho, h1, h4⟩ := h
  have e1 : I1 1 = I 1 := q 1 (by omega) (by omega)
  have f2 : I1 15 4 = I 7 4 := e.1 2 (by omega)
  have f3 : I1 15 5 = I 7 5 := e.1 3 (by omega)
  have f4 : I1 15 9 = I 7 9 := e.1 4 (by omega)
  refine ⟨Or.inr (Or.inl rfl), h1.scr q.scr15, ?_⟩
  rw [f2, f3, f4, e1]
  exact h4
theorem nC8 {I : I2} {T : TV} {o : Nat} (h : Cok I o T) : nC (cOf I o) ≤ 8 ∧ mC (cOf I o) ≤ 6 := ⟨(nC_i h.2.2.2.2.1 h.2.2.2.2.2.1).2, (mC_i h.2.2.2.2.2.2.1 h.2.2.2.2.2.2.2).2⟩
theorem evr {I : I2} {T : TV} {o : Nat} (h : Cok I o T) : (1 : Int32) <<< (I o 5 &&& 31) - 1 = i32 (2 ^ nC (cOf I o) - 1) ∧ 2 ^ nC (cOf I o) ≤ 256 ∧ 1 ≤ 2 ^ nC (cOf I o) := by
  obtain ⟨h1, h2⟩ := nC_i h.2.2.2.2.1 h.2.2.2.2.2.1
  refine ⟨?_, pow_lt8 h2, Nat.one_le_two_pow⟩
  rw [h1]
  exact evr_ok _ (by omega)
def sShort (T : TV) (C : CC) : Nat → Nat × Int32
  | 0 => (0, sGone T C 0)
  | k + 1 => if sGone T C (k + 1) < (sShort T C k).2 then (k + 1, sGone T C (k + 1)) else sShort T C k
def sFew (T : TV) (C : CC) (k : Int32) : Nat → Int32 × Int32
  | 0 => (-1, -1)
  | m + 1 => if (sFew T C k m).2 < i32 (cnt m 8) ∧ sGone T C m ≤ k then (i32 m, i32 (cnt m 8)) else sFew T C k m

def sList (T : TV) (C : CC) (w : Int32) : Int32 := if w = 0 then i32 (sLst T C) else if w = 1 then i32 (cnt (sLst T C) 8) else if w = 2 then sGn T C (fun i => !(sLst T C).testBit i) (sLst T C) (nC C) else if w = 3 then sGn T C (fun i => (sLst T C).testBit i) (sLst T C) (nC C) else if w = 4 then sLeft T C else -2
theorem bitP (m : Nat) (h : m < 256) : ∀ i, i < 8 → (i32 m >>> (i32 i &&& 31)) &&& 1 = if (fun i => m.testBit i) i = true then 1 else 0 := fun i hi => bit_ok m h i hi
theorem bitN (m : Nat) (h : m < 256) : ∀ i, i < 8 → ((i32 m ^^^ -1) >>> (i32 i &&& 31)) &&& 1 = if (fun i => !m.testBit i) i = true then 1 else 0 := fun i hi => by
  rw [bitn_ok m h i hi]
  cases hb : m.testBit i <;> simp [hb]
theorem sList_0 {T : TV} {C : CC} {w : Int32} (h : w = 0) : sList T C w = i32 (sLst T C) := by unfold sList; rw [if_pos h]
theorem sList_1 {T : TV} {C : CC} {w : Int32} (h : w = 1) : sList T C w = i32 (cnt (sLst T C) 8) := by subst h; rfl
theorem sList_2 {T : TV} {C : CC} {w : Int32} (h : w = 2) : sList T C w = sGn T C (fun i => !(sLst T C).testBit i) (sLst T C) (nC C) := by subst h; rfl
theorem sList_3 {T : TV} {C : CC} {w : Int32} (h : w = 3) : sList T C w = sGn T C (fun i => (sLst T C).testBit i) (sLst T C) (nC C) := by subst h; rfl
theorem sList_4 {T : TV} {C : CC} {w : Int32} (h : w = 4) : sList T C w = sLeft T C := by subst h; rfl
theorem sList_9 {T : TV} {C : CC} {w : Int32} (h0 : ¬ w = 0) (h1 : ¬ w = 1) (h2 : ¬ w = 2) (h3 : ¬ w = 3) (h4 : ¬ w = 4) : sList T C w = -2 := by unfold sList; rw [if_neg h0, if_neg h1, if_neg h2, if_neg h3, if_neg h4]

theorem c_xlist {w : Int32} {I : I2} {J : J2} {T : TV} (hC : Cok I 7 T) : CT mX6_list 7 58 58 [.ref 0, .int w] I J RF (RP RF (fun r I1 J1 => r = sList T (cOf I 7) w ∧ J1 = J ∧ Scr I I1)) := by
  obtain ⟨hN8, hM6⟩ := nC8 hC
  obtain ⟨hev, hp, hp1⟩ := evr hC
  
  refine CT_of okX6_list (Nat.le_of_ble_eq_true rfl) ?_
  show V _ _ _ _ _ _ [(0, _), (1, _)] _ _ _ _ _
  refine V_go 2 rfl ?_
  refine cVP (mt' := mX0_listed) rfl kX6_111 fX0_listed rfl rfl rfl (Nat.le_of_ble_eq_true rfl) (Nat.le_of_ble_eq_true rfl) (Nat.le_of_ble_eq_true rfl) (Nat.le_of_ble_eq_true rfl) (Nat.le_refl _) (c_listed hC) ?_
  intro r1 Ir1 Jr1 h1
  obtain ⟨rfl, rfl, hq⟩ := h1
  refine V_go 2 rfl ?_
  refine V_tswC (v := 0) rfl (by decide) (by decide) rfl (fun h3 => ?_) (fun h3 => ?_)
  · skip
    refine V_go 1 rfl ?_
    refine V_iret rfl rfl rfl ?_
    exact RP.mk ⟨(sList_0 (by assumption)).symm, rfl, hq.scr7⟩
  refine V_tswC (v := 1) rfl (by decide) (by decide) rfl (fun h4 => ?_) (fun h4 => ?_)
  · skip
    refine V_go 1 rfl ?_
    refine cSI (mt' := mJ6_bitCount_0f7a4) rfl kX6_150 fJ6_bitCount_0f7a4 rfl (Nat.le_of_ble_eq_true rfl) (Nat.le_of_ble_eq_true rfl) (Nat.le_refl _) (c_bitCount) ?_
    refine V_iret rfl rfl rfl ?_
    exact RP.mk ⟨(bitc_all _ (sLs_256 T _ hN8)).trans (sList_1 (by assumption)).symm, rfl, hq.scr7⟩
  refine V_tswC (v := 2) rfl (by decide) (by decide) rfl (fun h6 => ?_) (fun h6 => ?_)
  · skip
    refine V_go 6 rfl ?_
    refine cVP (mt' := mX0_spentOn) rfl kX6_155 fX0_spentOn rfl rfl rfl (Nat.le_of_ble_eq_true rfl) (Nat.le_of_ble_eq_true rfl) (Nat.le_of_ble_eq_true rfl) (Nat.le_of_ble_eq_true rfl) (Nat.le_refl _) (c_spentOn (m := sLst T (cOf I 7)) (p := fun i => !(sLst T (cOf I 7)).testBit i) (hC.sq hq) (bitN _ (sLs_256 T _ hN8)) (sLs_256 T _ hN8)) ?_
    intro r7 Ir7 Jr7 h7
    obtain ⟨hv2, rfl, hq2⟩ := h7
    refine V_iret rfl rfl rfl ?_
    exact RP.mk ⟨by rw [hv2, cOf_sq (Or.inl rfl) hq]; exact (sList_2 (by assumption)).symm, rfl, (hq.tr hq2).scr7⟩
  refine V_tswC (v := 3) rfl (by decide) (by decide) rfl (fun h8 => ?_) (fun h8 => ?_)
  · skip
    refine V_go 4 rfl ?_
    refine cVP (mt' := mX0_spentOn) rfl kX6_155 fX0_spentOn rfl rfl rfl (Nat.le_of_ble_eq_true rfl) (Nat.le_of_ble_eq_true rfl) (Nat.le_of_ble_eq_true rfl) (Nat.le_of_ble_eq_true rfl) (Nat.le_refl _) (c_spentOn (m := sLst T (cOf I 7)) (p := fun i => (sLst T (cOf I 7)).testBit i) (hC.sq hq) (bitP _ (sLs_256 T _ hN8)) (sLs_256 T _ hN8)) ?_
    intro r9 Ir9 Jr9 h9
    obtain ⟨hv2, rfl, hq2⟩ := h9
    refine V_iret rfl rfl rfl ?_
    exact RP.mk ⟨by rw [hv2, cOf_sq (Or.inl rfl) hq]; exact (sList_3 (by assumption)).symm, rfl, (hq.tr hq2).scr7⟩
  refine V_tswC (v := 4) rfl (by decide) (by decide) rfl (fun h10 => ?_) (fun h10 => ?_)
  · skip
    refine V_go 2 rfl ?_
    refine cVP (mt' := mX0_minutesLeft) rfl kX6_158 fX0_minutesLeft rfl rfl rfl (Nat.le_of_ble_eq_true rfl) (Nat.le_of_ble_eq_true rfl) (Nat.le_of_ble_eq_true rfl) (Nat.le_of_ble_eq_true rfl) (Nat.le_refl _) (c_minutesLeft (hC.sq hq)) ?_
    intro r11 Ir11 Jr11 h11
    obtain ⟨hv2, rfl, hq2⟩ := h11
    refine V_iret rfl rfl rfl ?_
    exact RP.mk ⟨by rw [hv2, cOf_sq (Or.inl rfl) hq]; exact (sList_4 (by assumption)).symm, rfl, (hq.tr hq2).scr7⟩
  refine V_tswD rfl (by decide) (by decide) (t9 := 81) rfl (by have q0 := lv_neT h3 (a := 0) (by decide); have q1 := lv_neT h4 (a := 1) (by decide); have q2 := lv_neT h6 (a := 2) (by decide); have q3 := lv_neT h8 (a := 3) (by decide); have q4 := lv_neT h10 (a := 4) (by decide); omega) ?_
  refine V_go 1 rfl ?_
  refine V_iret rfl rfl rfl ?_
  exact RP.mk ⟨(sList_9 (by assumption) (by assumption) (by assumption) (by assumption) (by assumption)).symm, rfl, hq.scr7⟩
