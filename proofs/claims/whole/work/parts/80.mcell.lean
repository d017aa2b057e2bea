theorem SR.cell {I X : I2} {k : Nat} {v : Int32} (h : SR I X) : SR (up2 I 57 k v) (up2 X 37 k v) := by
  obtain ⟨h1, h2⟩ := h
  refine ⟨fun a ha => by rw [up2_ne (by omega)]; exact h1 a ha, fun s hs => ?_⟩
  obtain ⟨a1, a2⟩ := h2 s hs
  simp only [up2_rd, reduceIte, Nat.reduceEqDiff]
  refine ⟨a1, fun z => ⟨(a2 z).1, (a2 z).2.1, fun i hi => ?_⟩⟩
  split
  · rfl
  · exact (a2 z).2.2 i hi
def mCe (I X : I2) (s i v : Int32) : I2 := if 0 ≤ s ∧ s < 4 then (if X 35 s.toNatClampNeg = -1 then I else if 0 ≤ i ∧ i < X 36 s.toNatClampNeg ∧ i < 40 then up2 I 57 (40 * s.toNatClampNeg + i.toNatClampNeg) (sConv (X 35 s.toNatClampNeg) v) else I) else I
theorem SR.ce {I X : I2} {s i v : Int32} (h : SR I X) : SR (mCe I X s i v) (ceM X s i v) := by
  unfold mCe ceM
  split
  · split
    · exact h
    · split
      · exact h.cell
      · exact h
  · exact h
theorem mCe_fr {I X : I2} {s i v : Int32} : ∀ o, o < 54 ∨ 57 < o → mCe I X s i v o = I o := by
  intro o ho
  unfold mCe
  split
  · split
    · rfl
    · split
      · rw [up2_ne (by omega)]
      · rfl
  · rfl
theorem MC.sh {I9 : I2} {tc : Nat} {I : I2} {J : J2} {T : TV} {C : CC} (hM : MC tc I J T C) (h : ∀ o, o < 54 ∨ 57 < o → I9 o = I o) : MC tc I9 J T C := by
  refine hM.re (hM.2.2.same (by rw [h 38 (by omega)]) (h 39 (by omega)) (h 40 (by omega)) (fun p hp => by have z := hM.2.2.2.2.2.2.2 p hp; rw [h 47 (by omega)]; exact z)) (fun j hj => by rw [h 45 (by omega)]) (fun o h1 h2 => h o (by omega)) (fun k hk => by rw [h 38 (by omega)])
/-- but for what it works with and the sheets -/
def Mq (I I9 : I2) : Prop := (∀ o, o < 38 ∨ o = 41 ∨ (51 ≤ o ∧ o < 54) ∨ 57 < o → I9 o = I o) ∧ ∀ k, k = 6 ∨ 46 ≤ k ∧ k ≤ 50 → I9 38 k = I 38 k
theorem Mp.mq {I I9 : I2} (h : Mp I I9) : Mq I I9 := ⟨fun o ho => h.1 o (by omega), h.2⟩
theorem Mq.tr {I I1 I9 : I2} (h : Mq I I1) (h' : Mq I1 I9) : Mq I I9 := ⟨fun o a => (h'.1 o a).trans (h.1 o a), fun k hk => (h'.2 k hk).trans (h.2 k hk)⟩
theorem Mq.of {I I9 : I2} (h : ∀ o, o < 54 ∨ 57 < o → I9 o = I o) : Mq I I9 := ⟨fun o ho => h o (by omega), fun k _ => by rw [h 38 (by omega)]⟩
theorem size_1 {i z : Int32} (hz : 0 ≤ z ∧ z ≤ 40) : (0 ≤ i ∧ i ≤ z - 1) ↔ (0 ≤ i ∧ i < z ∧ i < 40) := by grind
theorem SR.at {I X : I2} (h : SR I X) {s : Int32} (hs : 0 ≤ s ∧ s < 4) : (0 ≤ X 36 s.toNatClampNeg ∧ X 36 s.toNatClampNeg ≤ 40) ∧ I 54 s.toNatClampNeg = b2i (¬ X 35 s.toNatClampNeg = -1) ∧ (¬ X 35 s.toNatClampNeg = -1 → I 55 s.toNatClampNeg = X 35 s.toNatClampNeg ∧ I 56 s.toNatClampNeg = X 36 s.toNatClampNeg ∧ ∀ i, i < (X 36 s.toNatClampNeg).toNatClampNeg → I 57 (40 * s.toNatClampNeg + i) = X 37 (40 * s.toNatClampNeg + i)) := ⟨h.1 _ (tn4 hs), h.2 _ (tn4 hs)⟩
theorem b54_0 {x y : Int32} (h : y = b2i (¬ x = -1)) (h0 : y = 0) : x = -1 := Classical.byContradiction (fun z => absurd ((b2i_1 z).symm.trans (h.symm.trans h0)) (by decide))
theorem b54_1 {x y : Int32} (h : y = b2i (¬ x = -1)) (h0 : ¬ y = 0) : ¬ x = -1 := fun z => h0 (h.trans (b2i_0 (fun y => y z)))

theorem c_cell7 {s i v : Int32} {I X : I2} {J : J2} (hS : SR I X) : CT mX7_cell 3 58 58 [.ref 38, .int s, .int i, .int v] I J RF (RI RF (ceR X s i) (mCe I X s i v) J) := by
  refine CT_of okX7_cell (Nat.le_of_ble_eq_true rfl) ?_
  show V _ _ _ _ _ _ [(0, _), (1, _), (2, _), (3, _)] _ _ _ _ _
  refine V_go 1 rfl ?_
  refine cSI (mt' := mX7_isSheet) rfl kX7_348 fX7_isSheet rfl (Nat.le_of_ble_eq_true rfl) (Nat.le_of_ble_eq_true rfl) (Nat.le_refl _) (c_isSheet7) ?_
  refine V_if_ne rfl (fun h2 => ?_) (fun h2 => ?_)
  · skip
    obtain ⟨p0, p4⟩ := lt4le3.mpr (b2i_n0.mp h2)
    obtain ⟨q1, q2, q3⟩ := idx40 (lt4le3.mp ⟨p0, p4⟩)
    obtain ⟨hsz, e54, eso⟩ := hS.at ⟨p0, p4⟩
    refine V_go 3 rfl ?_
    refine V_zald rfl rfl (Nat.le_of_ble_eq_true rfl) (q1) ?_
    refine V_if_ne rfl (fun h21 => ?_) (fun h21 => ?_)
    · skip
      have hso := b54_1 e54 h21
      obtain ⟨e55, e56, e57⟩ := eso hso
      refine V_go 6 rfl ?_
      refine V_iald rfl rfl (Nat.le_of_ble_eq_true rfl) (q1) ?_
      refine V_go 3 rfl ?_
      refine cSI (mt' := mX7_in) rfl kX7_89 fX7_in rfl (Nat.le_of_ble_eq_true rfl) (Nat.le_of_ble_eq_true rfl) (Nat.le_refl _) (c_inI (lo := 0) rfl (by decide +kernel) rfl) ?_
      refine V_if_ne rfl (fun h42 => ?_) (fun h42 => ?_)
      · skip
        have hi3 : 0 ≤ i ∧ i < X 36 s.toNatClampNeg ∧ i < 40 := (size_1 hsz).mp (by have z := b2i_n0.mp h42; rw [e56] at z; exact z)
        obtain ⟨q40, e40⟩ := s40mm p0 p4 hi3.1 hi3.2.2
        refine V_go 10 rfl ?_
        refine V_iald rfl rfl (Nat.le_of_ble_eq_true rfl) (q1) ?_
        refine V_if_ne rfl (fun h61 => ?_) (fun h61 => ?_)
        · skip
          refine V_go 3 rfl ?_
          refine V_iald rfl rfl (Nat.le_of_ble_eq_true rfl) (q1) ?_
          refine V_go 1 rfl ?_
          refine V_icmp_ne rfl (fun h62 => ?_) (fun h62 => ?_)
          · skip
            refine V_go 1 rfl ?_
            refine V_iast rfl rfl (Nat.le_of_ble_eq_true rfl) (q40) ?_
            refine V_go 1 rfl ?_
            refine V_iret rfl rfl rfl ?_
            refine RI.mk2 ?_ ?_
            · unfold ceR
              rw [if_pos ⟨p0, p4⟩, if_neg hso, if_pos hi3]
            · unfold mCe
              rw [if_pos ⟨p0, p4⟩, if_neg hso, if_pos hi3, e40]
              unfold sConv
              rw [← e55]
              first
                | (rw [if_pos (show I 55 s.toNatClampNeg = 0 by assumption)]; done)
                | (rw [if_neg (show ¬ I 55 s.toNatClampNeg = 0 by assumption), if_pos (show I 55 s.toNatClampNeg = 1 by assumption)]; done)
                | (rw [if_neg (show ¬ I 55 s.toNatClampNeg = 0 by assumption), if_neg (show ¬ I 55 s.toNatClampNeg = 1 by assumption)]; done)
          · skip
            refine V_go 3 rfl ?_
            refine V_iast rfl rfl (Nat.le_of_ble_eq_true rfl) (q40) ?_
            refine V_go 1 rfl ?_
            refine V_iret rfl rfl rfl ?_
            refine RI.mk2 ?_ ?_
            · unfold ceR
              rw [if_pos ⟨p0, p4⟩, if_neg hso, if_pos hi3]
            · unfold mCe
              rw [if_pos ⟨p0, p4⟩, if_neg hso, if_pos hi3, e40]
              unfold sConv
              rw [← e55]
              first
                | (rw [if_pos (show I 55 s.toNatClampNeg = 0 by assumption)]; done)
                | (rw [if_neg (show ¬ I 55 s.toNatClampNeg = 0 by assumption), if_pos (show I 55 s.toNatClampNeg = 1 by assumption)]; done)
                | (rw [if_neg (show ¬ I 55 s.toNatClampNeg = 0 by assumption), if_neg (show ¬ I 55 s.toNatClampNeg = 1 by assumption)]; done)
        · skip
          refine V_go 3 rfl ?_
          refine V_iast rfl rfl (Nat.le_of_ble_eq_true rfl) (q40) ?_
          refine V_go 1 rfl ?_
          refine V_iret rfl rfl rfl ?_
          refine RI.mk2 ?_ ?_
          · unfold ceR
            rw [if_pos ⟨p0, p4⟩, if_neg hso, if_pos hi3]
          · unfold mCe
            rw [if_pos ⟨p0, p4⟩, if_neg hso, if_pos hi3, e40]
            unfold sConv
            rw [← e55]
            first
              | (rw [if_pos (show I 55 s.toNatClampNeg = 0 by assumption)]; done)
              | (rw [if_neg (show ¬ I 55 s.toNatClampNeg = 0 by assumption), if_pos (show I 55 s.toNatClampNeg = 1 by assumption)]; done)
              | (rw [if_neg (show ¬ I 55 s.toNatClampNeg = 0 by assumption), if_neg (show ¬ I 55 s.toNatClampNeg = 1 by assumption)]; done)
      · skip
        refine V_go 1 rfl ?_
        refine V_iret rfl rfl rfl ?_
        refine RI.mk2 ?_ ?_
        · unfold ceR
          rw [if_pos ⟨p0, p4⟩, if_neg hso, if_neg (fun z => b2i_eq0.mp (by assumption) (by rw [e56]; exact (size_1 hsz).mpr z))]
        · unfold mCe
          rw [if_pos ⟨p0, p4⟩, if_neg hso, if_neg (fun z => b2i_eq0.mp (by assumption) (by rw [e56]; exact (size_1 hsz).mpr z))]
    · skip
      refine V_go 1 rfl ?_
      refine V_iret rfl rfl rfl ?_
      refine RI.mk2 ?_ ?_
      · unfold ceR
        rw [if_pos ⟨p0, p4⟩, if_pos (b54_0 e54 h21)]
      · unfold mCe
        rw [if_pos ⟨p0, p4⟩, if_pos (b54_0 e54 h21)]
  · skip
    refine V_go 1 rfl ?_
    refine V_iret rfl rfl rfl ?_
    refine RI.mk2 ?_ ?_
    · unfold ceR
      rw [if_neg (fun z => b2i_eq0.mp (by assumption) (lt4le3.mp z))]
    · unfold mCe
      rw [if_neg (fun z => b2i_eq0.mp (by assumption) (lt4le3.mp z))]
theorem shM_21 {X : I2} {s : Int32} (h : 0 ≤ s ∧ s < 4) : shM X s 2 1 = fLay X s.toNatClampNeg 2 1 ∧ shR s 2 1 = 1 := by
  unfold shM shR
  rw [if_pos h, if_pos h]
  exact ⟨rfl, rfl⟩
theorem c_film7 {tc : Nat} {I : I2} {J : J2} {T : TV} {C : CC} (hM : MC tc I J T C) {s : Int32} {X : I2} (hS : SR I X) : CT mX7_film 47 58 58 [.ref 38, .int s] I J RF (RP RF (fun r9 I9 J9 => MC tc I9 J9 T C ∧ Mq I I9 ∧ if 0 ≤ s ∧ s < 4 then r9 = sGo T C ∧ SR I9 (sFilm X s.toNatClampNeg (sGo T C)) else r9 = -2 ∧ SR I9 X)) := by
  refine CT_of okX7_film (Nat.le_of_ble_eq_true rfl) ?_
  show V _ _ _ _ _ _ [(0, _), (1, _)] _ _ _ _ _
  refine V_go 1 rfl ?_
  refine cSI (mt' := mX7_isSheet) rfl kX7_348 fX7_isSheet rfl (Nat.le_of_ble_eq_true rfl) (Nat.le_of_ble_eq_true rfl) (Nat.le_refl _) (c_isSheet7) ?_
  refine V_if_ne rfl (fun h2 => ?_) (fun h2 => ?_)
  · skip
    obtain ⟨p0, p4⟩ := lt4le3.mpr (b2i_n0.mp h2)
    obtain ⟨q1, q2, q3⟩ := idx40 (lt4le3.mp ⟨p0, p4⟩)
    refine V_go 1 rfl ?_
    refine cVP (mt' := mX7_gone) rfl kX7_285 fX7_gone rfl rfl rfl (Nat.le_of_ble_eq_true rfl) (Nat.le_of_ble_eq_true rfl) (Nat.le_of_ble_eq_true rfl) (Nat.le_of_ble_eq_true rfl) (Nat.le_refl _) (c_gone7 hM) ?_
    intro r21 Ir21 Jr21 h21
    obtain ⟨hv, hM2, hq2⟩ := h21
    subst hv
    have hS2 : SR Ir21 X := hS.fr (fun o h1 h2 => hq2.1 o (by omega) (by omega)) (fun _ _ _ => rfl)
    refine V_go 5 rfl ?_
    refine cVI (mt' := mX7_sheet) rfl kX7_355 fX7_sheet rfl rfl rfl (Nat.le_of_ble_eq_true rfl) (Nat.le_of_ble_eq_true rfl) (Nat.le_of_ble_eq_true rfl) (Nat.le_of_ble_eq_true rfl) (Nat.le_refl _) (c_sheet7) ?_
    refine V_go 7 rfl ?_
    refine V_iast rfl rfl (Nat.le_of_ble_eq_true rfl) (q2) ?_
    refine V_go 1 rfl ?_
    refine V_iret rfl rfl rfl ?_
    have hfr : ∀ o, o < 54 ∨ 57 < o → up2 (mSh Ir21 s 2 1) 57 (40 * s).toNatClampNeg (sGo T C) o = Ir21 o := fun o ho => by rw [up2_ne (by omega)]; exact mSh_fr o ho
    refine RP.mk ⟨hM2.sh hfr, hq2.mp.mq.tr (Mq.of hfr), ?_⟩
    rw [if_pos ⟨p0, p4⟩]
    refine ⟨rfl, ?_⟩
    have h := (hS2.sheet (s := s) (k := 2) (n := 1)).cell (k := 40 * s.toNatClampNeg) (v := sGo T C)
    rw [(shM_21 ⟨p0, p4⟩).1] at h
    rw [q3]
    exact h
  · skip
    refine V_go 1 rfl ?_
    refine V_iret rfl rfl rfl ?_
    refine RP.mk ⟨hM, Mp.rf.mq, ?_⟩
    rw [if_neg (fun z => b2i_eq0.mp (by assumption) (lt4le3.mp z))]
    exact ⟨rfl, hS⟩
