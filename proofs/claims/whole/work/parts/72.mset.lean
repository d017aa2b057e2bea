theorem c_mostOf7 {w : Int32} {I : I2} {J : J2} : CT mX7_mostOf 1 58 58 [.int w] I J RF (RI RF (sHi w) I J) := by
  refine CT_of okX7_mostOf (Nat.le_of_ble_eq_true rfl) ?_
  show V _ _ _ _ _ _ [(0, _)] _ _ _ _ _
  refine V_go 1 rfl ?_
  refine V_if_ne rfl (fun h1 => ?_) (fun h1 => ?_)
  · skip
    refine V_go 2 rfl ?_
    refine V_icmp_ne rfl (fun h2 => ?_) (fun h2 => ?_)
    · skip
      refine V_go 2 rfl ?_
      refine V_icmp_ne rfl (fun h3 => ?_) (fun h3 => ?_)
      · skip
        refine V_go 1 rfl ?_
        refine V_iret rfl rfl rfl ?_
        refine RI.mk ?_
        unfold sHi
        first
          | (rw [if_pos (by assumption)]; done)
          | (rw [if_neg (by assumption), if_pos (by assumption)]; done)
          | (rw [if_neg (by assumption), if_neg (by assumption), if_pos (by assumption)]; done)
          | (rw [if_neg (by assumption), if_neg (by assumption), if_neg (by assumption)]; done)
      · skip
        refine V_go 2 rfl ?_
        refine V_iret rfl rfl rfl ?_
        refine RI.mk ?_
        unfold sHi
        first
          | (rw [if_pos (by assumption)]; done)
          | (rw [if_neg (by assumption), if_pos (by assumption)]; done)
          | (rw [if_neg (by assumption), if_neg (by assumption), if_pos (by assumption)]; done)
          | (rw [if_neg (by assumption), if_neg (by assumption), if_neg (by assumption)]; done)
    · skip
      refine V_go 2 rfl ?_
      refine V_iret rfl rfl rfl ?_
      refine RI.mk ?_
      unfold sHi
      first
        | (rw [if_pos (by assumption)]; done)
        | (rw [if_neg (by assumption), if_pos (by assumption)]; done)
        | (rw [if_neg (by assumption), if_neg (by assumption), if_pos (by assumption)]; done)
        | (rw [if_neg (by assumption), if_neg (by assumption), if_neg (by assumption)]; done)
  · skip
    refine V_go 2 rfl ?_
    refine V_iret rfl rfl rfl ?_
    refine RI.mk ?_
    unfold sHi
    first
      | (rw [if_pos (by assumption)]; done)
      | (rw [if_neg (by assumption), if_pos (by assumption)]; done)
      | (rw [if_neg (by assumption), if_neg (by assumption), if_pos (by assumption)]; done)
      | (rw [if_neg (by assumption), if_neg (by assumption), if_neg (by assumption)]; done)
def laysM (I : I2) (w x v : Int32) : I2 := if w = 0 then up2 I 38 7 v else if w = 1 then up2 I 38 8 v else if w = 2 then up2 I 43 x.toNatClampNeg v else if w = 3 then up2 I 44 x.toNatClampNeg v else if w = 4 then up2 I 42 x.toNatClampNeg v else up2 I 38 4 v
theorem c_lays7 {w x v : Int32} {I : I2} {J : J2} (hx : (w = 2 ∨ w = 3 ∨ w = 4) → inb x 8) : CT mX7_lays 1 58 58 [.ref 38, .int w, .int x, .int v] I J RF (RV RF (laysM I w x v) J) := by
  refine CT_of okX7_lays (Nat.le_of_ble_eq_true rfl) ?_
  show V _ _ _ _ _ _ [(0, _), (1, _), (2, _), (3, _)] _ _ _ _ _
  refine V_go 1 rfl ?_
  refine V_if_ne rfl (fun h1 => ?_) (fun h1 => ?_)
  · skip
    refine V_go 2 rfl ?_
    refine V_icmp_ne rfl (fun h2 => ?_) (fun h2 => ?_)
    · skip
      refine V_go 2 rfl ?_
      refine V_icmp_ne rfl (fun h3 => ?_) (fun h3 => ?_)
      · skip
        refine V_go 2 rfl ?_
        refine V_icmp_ne rfl (fun h4 => ?_) (fun h4 => ?_)
        · skip
          refine V_go 2 rfl ?_
          refine V_icmp_ne rfl (fun h5 => ?_) (fun h5 => ?_)
          · skip
            refine V_go 3 rfl ?_
            refine V_vret rfl rfl rfl ?_
            refine RV.mk2 ?_
            unfold laysM
            first
              | (rw [if_pos (by assumption)]; done)
              | (rw [if_neg (by assumption), if_pos (by assumption)]; done)
              | (rw [if_neg (by assumption), if_neg (by assumption), if_pos (by assumption)]; done)
              | (rw [if_neg (by assumption), if_neg (by assumption), if_neg (by assumption), if_pos (by assumption)]; done)
              | (rw [if_neg (by assumption), if_neg (by assumption), if_neg (by assumption), if_neg (by assumption), if_pos (by assumption)]; done)
              | (rw [if_neg (by assumption), if_neg (by assumption), if_neg (by assumption), if_neg (by assumption), if_neg (by assumption)]; done)
          · skip
            refine V_go 4 rfl ?_
            refine V_iast rfl rfl (Nat.le_of_ble_eq_true rfl) (hx (by grind)) ?_
            refine V_go 1 rfl ?_
            refine V_vret rfl rfl rfl ?_
            refine RV.mk2 ?_
            unfold laysM
            first
              | (rw [if_pos (by assumption)]; done)
              | (rw [if_neg (by assumption), if_pos (by assumption)]; done)
              | (rw [if_neg (by assumption), if_neg (by assumption), if_pos (by assumption)]; done)
              | (rw [if_neg (by assumption), if_neg (by assumption), if_neg (by assumption), if_pos (by assumption)]; done)
              | (rw [if_neg (by assumption), if_neg (by assumption), if_neg (by assumption), if_neg (by assumption), if_pos (by assumption)]; done)
              | (rw [if_neg (by assumption), if_neg (by assumption), if_neg (by assumption), if_neg (by assumption), if_neg (by assumption)]; done)
        · skip
          refine V_go 4 rfl ?_
          refine V_iast rfl rfl (Nat.le_of_ble_eq_true rfl) (hx (by grind)) ?_
          refine V_go 1 rfl ?_
          refine V_vret rfl rfl rfl ?_
          refine RV.mk2 ?_
          unfold laysM
          first
            | (rw [if_pos (by assumption)]; done)
            | (rw [if_neg (by assumption), if_pos (by assumption)]; done)
            | (rw [if_neg (by assumption), if_neg (by assumption), if_pos (by assumption)]; done)
            | (rw [if_neg (by assumption), if_neg (by assumption), if_neg (by assumption), if_pos (by assumption)]; done)
            | (rw [if_neg (by assumption), if_neg (by assumption), if_neg (by assumption), if_neg (by assumption), if_pos (by assumption)]; done)
            | (rw [if_neg (by assumption), if_neg (by assumption), if_neg (by assumption), if_neg (by assumption), if_neg (by assumption)]; done)
      · skip
        refine V_go 4 rfl ?_
        refine V_iast rfl rfl (Nat.le_of_ble_eq_true rfl) (hx (by grind)) ?_
        refine V_go 1 rfl ?_
        refine V_vret rfl rfl rfl ?_
        refine RV.mk2 ?_
        unfold laysM
        first
          | (rw [if_pos (by assumption)]; done)
          | (rw [if_neg (by assumption), if_pos (by assumption)]; done)
          | (rw [if_neg (by assumption), if_neg (by assumption), if_pos (by assumption)]; done)
          | (rw [if_neg (by assumption), if_neg (by assumption), if_neg (by assumption), if_pos (by assumption)]; done)
          | (rw [if_neg (by assumption), if_neg (by assumption), if_neg (by assumption), if_neg (by assumption), if_pos (by assumption)]; done)
          | (rw [if_neg (by assumption), if_neg (by assumption), if_neg (by assumption), if_neg (by assumption), if_neg (by assumption)]; done)
    · skip
      refine V_go 4 rfl ?_
      refine V_vret rfl rfl rfl ?_
      refine RV.mk2 ?_
      unfold laysM
      first
        | (rw [if_pos (by assumption)]; done)
        | (rw [if_neg (by assumption), if_pos (by assumption)]; done)
        | (rw [if_neg (by assumption), if_neg (by assumption), if_pos (by assumption)]; done)
        | (rw [if_neg (by assumption), if_neg (by assumption), if_neg (by assumption), if_pos (by assumption)]; done)
        | (rw [if_neg (by assumption), if_neg (by assumption), if_neg (by assumption), if_neg (by assumption), if_pos (by assumption)]; done)
        | (rw [if_neg (by assumption), if_neg (by assumption), if_neg (by assumption), if_neg (by assumption), if_neg (by assumption)]; done)
  · skip
    refine V_go 4 rfl ?_
    refine V_vret rfl rfl rfl ?_
    refine RV.mk2 ?_
    unfold laysM
    first
      | (rw [if_pos (by assumption)]; done)
      | (rw [if_neg (by assumption), if_pos (by assumption)]; done)
      | (rw [if_neg (by assumption), if_neg (by assumption), if_pos (by assumption)]; done)
      | (rw [if_neg (by assumption), if_neg (by assumption), if_neg (by assumption), if_pos (by assumption)]; done)
      | (rw [if_neg (by assumption), if_neg (by assumption), if_neg (by assumption), if_neg (by assumption), if_pos (by assumption)]; done)
      | (rw [if_neg (by assumption), if_neg (by assumption), if_neg (by assumption), if_neg (by assumption), if_neg (by assumption)]; done)
theorem MC.len {tc : Nat} {I : I2} {J : J2} {T : TV} {C : CC} (hM : MC tc I J T C) {v : Int32} (v0 : 0 ≤ v) (v1 : v ≤ 600) : MC tc (up2 I 38 8 v) J T (up2 C 0 1 v) := by
  obtain ⟨a1, ⟨r0, r1, r2, r3, r4, r5, r6⟩, a3⟩ := hM
  have en : nC (up2 C 0 1 v) = nC C := rfl
  have em : mC (up2 C 0 1 v) = mC C := rfl
  have eg (g j : Nat) (hg : g ≠ 0) : up2 C 0 1 v g j = C g j := by rw [up2_ne hg]
  have ec : cMd (up2 I 38 8 v) = up2 (cMd I) 0 1 v := by
    funext g j
    match g with
    | 0 =>
      match j with
      | 0 => rfl
      | 1 => rfl
      | 2 => rfl
      | 3 => rfl
      | 4 => rfl
      | j + 5 => rfl
    | 1 => rfl
    | 2 => rfl
    | 3 => rfl
    | 4 => rfl
    | 5 => rfl
    | 6 => rfl
    | g + 7 => rfl
  refine ⟨by rw [ec, en, em]; exact a1.up, ⟨r0, ⟨v0, v1⟩, r2, r3, r4, fun c hc => ?_, fun i hi => ?_⟩, a3.same rfl rfl rfl a3.2.2.2.2.2⟩
  · rw [eg 1 c (by omega), eg 2 c (by omega), eg 3 c (by omega)]; exact r5 c hc
  · rw [eg 4 i (by omega), eg 5 i (by omega), eg 6 i (by omega)]; exact r6 i hi
theorem MC.rul {tc : Nat} {I : I2} {J : J2} {T : TV} {C : CC} (hM : MC tc I J T C) {v : Int32} (v0 : 0 ≤ v) (v1 : v < i32 tc) : MC tc (up2 I 38 4 v) J T (up2 C 0 2 v) := by
  obtain ⟨a1, ⟨r0, r1, r2, r3, r4, r5, r6⟩, a3⟩ := hM
  have en : nC (up2 C 0 2 v) = nC C := rfl
  have em : mC (up2 C 0 2 v) = mC C := rfl
  have eg (g j : Nat) (hg : g ≠ 0) : up2 C 0 2 v g j = C g j := by rw [up2_ne hg]
  have ec : cMd (up2 I 38 4 v) = up2 (cMd I) 0 2 v := by
    funext g j
    match g with
    | 0 =>
      match j with
      | 0 => rfl
      | 1 => rfl
      | 2 => rfl
      | 3 => rfl
      | 4 => rfl
      | j + 5 => rfl
    | 1 => rfl
    | 2 => rfl
    | 3 => rfl
    | 4 => rfl
    | 5 => rfl
    | 6 => rfl
    | g + 7 => rfl
  refine ⟨by rw [ec, en, em]; exact a1.up, ⟨r0, r1, ⟨v0, v1⟩, r3, r4, fun c hc => ?_, fun i hi => ?_⟩, a3.same rfl rfl rfl a3.2.2.2.2.2⟩
  · rw [eg 1 c (by omega), eg 2 c (by omega), eg 3 c (by omega)]; exact r5 c hc
  · rw [eg 4 i (by omega), eg 5 i (by omega), eg 6 i (by omega)]; exact r6 i hi
theorem w03m {w : Int32} (h : 0 ≤ w ∧ w ≤ 3) : w = 0 ∨ w = 1 ∨ w = 2 ∨ w = 3 := by
  have a1 := Int32.le_iff_toInt_le.mp h.1
  have a2 := Int32.le_iff_toInt_le.mp h.2
  rw [show (0 : Int32).toInt = 0 from rfl] at a1
  rw [show (3 : Int32).toInt = 3 from rfl] at a2
  have i3 : w.toInt = 0 ∨ w.toInt = 1 ∨ w.toInt = 2 ∨ w.toInt = 3 := by omega
  rcases i3 with i | i | i | i
  · exact Or.inl (Int32.toInt_inj.mp i)
  · exact Or.inr (Or.inl (Int32.toInt_inj.mp i))
  · exact Or.inr (Or.inr (Or.inl (Int32.toInt_inj.mp i)))
  · exact Or.inr (Or.inr (Or.inr (Int32.toInt_inj.mp i)))
theorem n2 {x : Int32} (h : 0 ≤ x) : ¬ x = -2 := fun z => absurd h (by rw [z]; decide)
/-- what may be set -/
theorem MC.isS {tc : Nat} {I : I2} {J : J2} {T : TV} {C : CC} (hM : MC tc I J T C) {w x v : Int32} : isSet T C w x v ↔ (0 ≤ w ∧ w ≤ 3) ∧ (¬ w ≤ 1 → isCi C x) ∧ 0 ≤ v ∧ v ≤ sHi w := by
  unfold isSet
  have hcr := hM.2.1
  constructor
  · rintro ⟨h1, h2, h3⟩
    refine ⟨h1, fun hw => Classical.byContradiction (fun z => h2 ?_), h3⟩
    exact sTold_7 ⟨by rcases w03m h1 with rfl | rfl | rfl | rfl <;> first | decide | exact absurd (by decide) hw, Int32.le_trans h1.2 (by decide)⟩ z
  · rintro ⟨h1, h2, h3⟩
    refine ⟨h1, ?_, h3⟩
    rcases w03m h1 with rfl | rfl | rfl | rfl
    · exact n2 hcr.1.1
    · exact n2 hcr.2.1.1
    · obtain ⟨c, hc, hc8, e1, e2⟩ := hM.isC (h2 (by decide))
      rw [sTold_C (by decide) (h2 (by decide)), e2]
      exact n2 (hcr.2.2.2.2.2.1 c hc).2.1.1
    · obtain ⟨c, hc, hc8, e1, e2⟩ := hM.isC (h2 (by decide))
      rw [sTold_C (by decide) (h2 (by decide)), e2]
      exact n2 (hcr.2.2.2.2.2.1 c hc).2.2.1
theorem MC.put {tc : Nat} {I : I2} {J : J2} {T : TV} {C : CC} (hM : MC tc I J T C) {w x v : Int32} (h : isSet T C w x v) : MC tc (laysM I w x v) J T (sPut C w x v) ∧ Mp I (laysM I w x v) := by
  obtain ⟨h1, h2, h3, h4⟩ := hM.isS.mp h
  unfold laysM sPut
  rcases w03m h1 with rfl | rfl | rfl | rfl
  · exact ⟨Cr.sit hM h3 (Int32.le_trans h4 (by decide)), Mp.fld (by omega) (by omega)⟩
  · exact ⟨hM.len h3 h4, Mp.fld (by omega) (by omega)⟩
  · exact ⟨hM.row (g := 2) (by omega) (by omega) h3 h4, Mp.row (by omega)⟩
  · exact ⟨hM.row (g := 3) (by omega) (by omega) h3 h4, Mp.row (by omega)⟩

theorem c_set7 {tc : Nat} {I : I2} {J : J2} {T : TV} {C : CC} (hM : MC tc I J T C) {w x v : Int32} : CT mX7_set 47 58 58 [.ref 38, .int w, .int x, .int v] I J RF (RP RF (fun r9 I9 J9 => Mp I I9 ∧ ((isSet T C w x v ∧ r9 = sTold T C x w ∧ MC tc I9 J9 T (sPut C w x v)) ∨ (¬ isSet T C w x v ∧ r9 = -2 ∧ MC tc I9 J9 T C)))) := by
  refine CT_of okX7_set (Nat.le_of_ble_eq_true rfl) ?_
  show V _ _ _ _ _ _ [(0, _), (1, _), (2, _), (3, _)] _ _ _ _ _
  refine V_go 4 rfl ?_
  refine cSI (mt' := mX7_in) rfl kX7_89 fX7_in rfl (Nat.le_of_ble_eq_true rfl) (Nat.le_of_ble_eq_true rfl) (Nat.le_refl _) (c_inI (lo := (0)) (hi := (3)) rfl (by decide +kernel) (by decide +kernel)) ?_
  refine V_if_eq rfl (fun h2 => ?_) (fun h2 => ?_)
  · skip
    refine V_go 1 rfl ?_
    refine V_iret rfl rfl rfl ?_
    exact RP.mk ⟨Mp.rf, Or.inr ⟨fun z => (b2i_eq0.mp h2) (hM.isS.mp z).1, rfl, hM⟩⟩
  · skip
    have hw := b2i_n0.mp h2
    refine V_go 2 rfl ?_
    refine V_icmp_le rfl (fun h21 => ?_) (fun h21 => ?_)
    · skip
      have hci : ¬ w ≤ 1 → isCi C x := fun z => absurd h21 z
      refine V_go 4 rfl ?_
      refine cSI (mt' := mX7_mostOf) rfl kX7_102 fX7_mostOf rfl (Nat.le_of_ble_eq_true rfl) (Nat.le_of_ble_eq_true rfl) (Nat.le_refl _) (c_mostOf7) ?_
      refine V_go 1 rfl ?_
      refine cSI (mt' := mX7_in) rfl kX7_89 fX7_in rfl (Nat.le_of_ble_eq_true rfl) (Nat.le_of_ble_eq_true rfl) (Nat.le_refl _) (c_inI (lo := 0) rfl (by decide +kernel) rfl) ?_
      refine V_if_ne rfl (fun h43 => ?_) (fun h43 => ?_)
      · skip
        have hset : isSet T C w x v := hM.isS.mpr ⟨hw, hci, b2i_n0.mp h43⟩
        refine V_go 3 rfl ?_
        refine cVP (mt' := mX7_told) rfl kX7_106 fX7_told rfl rfl rfl (Nat.le_of_ble_eq_true rfl) (Nat.le_of_ble_eq_true rfl) (Nat.le_of_ble_eq_true rfl) (Nat.le_of_ble_eq_true rfl) (Nat.le_refl _) (c_told7 hM) ?_
        intro r61 Ir61 Jr61 h61
        obtain ⟨hv, hM2, hq2⟩ := h61
        have hinb : (w = 2 ∨ w = 3 ∨ w = 4) → inb x 8 := fun z => by
          obtain ⟨c, hc, hc8, e1, e2⟩ := hM.isC ((hM.isS.mp hset).2.1 (fun y => by rcases z with z | z | z <;> exact absurd y (by rw [z]; decide)))
          rw [e1]
          exact inb_i32 hc8 (by decide)
        refine V_go 5 rfl ?_
        refine cVV (mt' := mX7_lays) rfl kX7_110 fX7_lays rfl rfl rfl (Nat.le_of_ble_eq_true rfl) (Nat.le_of_ble_eq_true rfl) (Nat.le_of_ble_eq_true rfl) (Nat.le_of_ble_eq_true rfl) (Nat.le_refl _) (c_lays7 hinb) ?_
        refine V_go 1 rfl ?_
        refine V_iret rfl rfl rfl ?_
        obtain ⟨hM3, hq3⟩ := hM2.put hset
        exact RP.mk ⟨hq2.mp.tr hq3, Or.inl ⟨hset, hv, hM3⟩⟩
      · skip
        refine V_go 1 rfl ?_
        refine V_iret rfl rfl rfl ?_
        exact RP.mk ⟨Mp.rf, Or.inr ⟨fun z => (b2i_eq0.mp h43) (hM.isS.mp z).2.2, rfl, hM⟩⟩
    · skip
      have h1n := h21
      refine V_go 2 rfl ?_
      refine cVI (mt' := mX7_isOne) rfl kX7_98 fX7_isOne rfl rfl rfl (Nat.le_of_ble_eq_true rfl) (Nat.le_of_ble_eq_true rfl) (Nat.le_of_ble_eq_true rfl) (Nat.le_of_ble_eq_true rfl) (Nat.le_refl _) (c_isOne7 hM) ?_
      refine V_if_eq rfl (fun h32 => ?_) (fun h32 => ?_)
      · skip
        refine V_go 1 rfl ?_
        refine V_iret rfl rfl rfl ?_
        exact RP.mk ⟨Mp.rf, Or.inr ⟨fun z => (b2i_eq0.mp h32) ((hM.isS.mp z).2.1 h1n), rfl, hM⟩⟩
      · skip
        have hci : ¬ w ≤ 1 → isCi C x := fun _ => b2i_n0.mp h32
        refine V_go 4 rfl ?_
        refine cSI (mt' := mX7_mostOf) rfl kX7_102 fX7_mostOf rfl (Nat.le_of_ble_eq_true rfl) (Nat.le_of_ble_eq_true rfl) (Nat.le_refl _) (c_mostOf7) ?_
        refine V_go 1 rfl ?_
        refine cSI (mt' := mX7_in) rfl kX7_89 fX7_in rfl (Nat.le_of_ble_eq_true rfl) (Nat.le_of_ble_eq_true rfl) (Nat.le_refl _) (c_inI (lo := 0) rfl (by decide +kernel) rfl) ?_
        refine V_if_ne rfl (fun h43 => ?_) (fun h43 => ?_)
        · skip
          have hset : isSet T C w x v := hM.isS.mpr ⟨hw, hci, b2i_n0.mp h43⟩
          refine V_go 3 rfl ?_
          refine cVP (mt' := mX7_told) rfl kX7_106 fX7_told rfl rfl rfl (Nat.le_of_ble_eq_true rfl) (Nat.le_of_ble_eq_true rfl) (Nat.le_of_ble_eq_true rfl) (Nat.le_of_ble_eq_true rfl) (Nat.le_refl _) (c_told7 hM) ?_
          intro r61 Ir61 Jr61 h61
          obtain ⟨hv, hM2, hq2⟩ := h61
          have hinb : (w = 2 ∨ w = 3 ∨ w = 4) → inb x 8 := fun z => by
            obtain ⟨c, hc, hc8, e1, e2⟩ := hM.isC ((hM.isS.mp hset).2.1 (fun y => by rcases z with z | z | z <;> exact absurd y (by rw [z]; decide)))
            rw [e1]
            exact inb_i32 hc8 (by decide)
          refine V_go 5 rfl ?_
          refine cVV (mt' := mX7_lays) rfl kX7_110 fX7_lays rfl rfl rfl (Nat.le_of_ble_eq_true rfl) (Nat.le_of_ble_eq_true rfl) (Nat.le_of_ble_eq_true rfl) (Nat.le_of_ble_eq_true rfl) (Nat.le_refl _) (c_lays7 hinb) ?_
          refine V_go 1 rfl ?_
          refine V_iret rfl rfl rfl ?_
          obtain ⟨hM3, hq3⟩ := hM2.put hset
          exact RP.mk ⟨hq2.mp.tr hq3, Or.inl ⟨hset, hv, hM3⟩⟩
        · skip
          refine V_go 1 rfl ?_
          refine V_iret rfl rfl rfl ?_
          exact RP.mk ⟨Mp.rf, Or.inr ⟨fun z => (b2i_eq0.mp h43) (hM.isS.mp z).2.2, rfl, hM⟩⟩
theorem c_force7 {tc : Nat} {I : I2} {J : J2} {T : TV} {C : CC} (hM : MC tc I J T C) {x : Int32} : CT mX7_force 2 58 58 [.ref 38, .int x] I J RF (RP RF (fun r9 I9 J9 => Mp I I9 ∧ (((0 ≤ x ∧ x < i32 tc) ∧ r9 = C 0 2 ∧ MC tc I9 J9 T (up2 C 0 2 x)) ∨ (¬ (0 ≤ x ∧ x < i32 tc) ∧ r9 = -2 ∧ MC tc I9 J9 T C)))) := by
  have hE := hM.2.2
  have htc := hE.2.2.1
  refine CT_of okX7_force (Nat.le_of_ble_eq_true rfl) ?_
  show V _ _ _ _ _ _ [(0, _), (1, _)] _ _ _ _ _
  refine V_go 8 rfl ?_
  refine cSI (mt' := mX7_in) rfl kX7_89 fX7_in rfl (Nat.le_of_ble_eq_true rfl) (Nat.le_of_ble_eq_true rfl) (Nat.le_refl _) (c_inI (lo := 0) rfl (by decide +kernel) rfl) ?_
  refine V_if_ne rfl (fun h2 => ?_) (fun h2 => ?_)
  · skip
    rw [hE.1, b2i_congr (isx (n := tc) (by omega))] at h2
    have hx := b2i_n0.mp h2
    refine V_go 7 rfl ?_
    refine V_iret rfl rfl rfl ?_
    exact RP.mk ⟨Mp.fld (by omega) (by omega), Or.inl ⟨hx, hM.f.2.2, hM.rul hx.1 hx.2⟩⟩
  · skip
    rw [hE.1, b2i_congr (isx (n := tc) (by omega))] at h2
    refine V_go 1 rfl ?_
    refine V_iret rfl rfl rfl ?_
    exact RP.mk ⟨Mp.rf, Or.inr ⟨b2i_eq0.mp h2, rfl, hM⟩⟩
