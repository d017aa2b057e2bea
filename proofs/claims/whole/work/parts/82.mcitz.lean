theorem ci_iff {fr z : Int32} {i : Nat} (hi : i < 8) (hz : 0 ≤ z ∧ z ≤ 40) (h0 : i = 0 ∨ 0 ≤ fr) : (0 ≤ fr ∧ fr ≤ z - 2 * i32 i - 2) ↔ ((0 ≤ fr + 2 * i32 i ∧ fr + 2 * i32 i < z ∧ fr + 2 * i32 i < 40) ∧ (0 ≤ fr + 2 * i32 i + 1 ∧ fr + 2 * i32 i + 1 < z ∧ fr + 2 * i32 i + 1 < 40)) := by
  have e : 2 * i32 i = i32 (2 * i) := (Int32.ofNat_mul 2 i).symm
  rw [e]
  have a7 : (i32 (2 * i)).toInt = ((2 * i : Nat) : Int) := Int32.toInt_ofNat_of_lt (by omega)
  have z40 : (40 : Int32).toInt = 40 := rfl
  have z0 : (0 : Int32).toInt = 0 := rfl
  have z1 : (1 : Int32).toInt = 1 := rfl
  have z2 : (2 : Int32).toInt = 2 := rfl
  have a2 := Int32.le_iff_toInt_le.mp hz.1
  have a6 := Int32.le_iff_toInt_le.mp hz.2
  have b1 := Int32.le_toInt fr
  have b2 := Int32.toInt_lt fr
  have a8 : (z - i32 (2 * i) - 2).toInt = z.toInt - ((2 * i : Nat) : Int) - 2 := by
    have a9 : (z - i32 (2 * i)).toInt = z.toInt - ((2 * i : Nat) : Int) := by rw [sub_i (by omega) (by omega) (by omega) (by omega), a7]
    rw [sub_i (by omega) (by omega) (by decide) (by decide), a9, z2]
  have h0 : i = 0 ∨ 0 ≤ fr.toInt := h0.imp id (fun h => by have k := Int32.le_iff_toInt_le.mp h; rw [z0] at k; exact k)
  by_cases hF : fr.toInt ≤ 1000000
  · have c1 : (fr + i32 (2 * i)).toInt = fr.toInt + ((2 * i : Nat) : Int) := by rw [Int32.toInt_add, a7, Int.bmod_eq_of_le (by omega) (by omega)]
    have c2 : (fr + i32 (2 * i) + 1).toInt = fr.toInt + ((2 * i : Nat) : Int) + 1 := by rw [Int32.toInt_add, c1, z1, Int.bmod_eq_of_le (by omega) (by omega)]
    simp only [Int32.le_iff_toInt_le, Int32.lt_iff_toInt_lt, a8, c1, c2, z40, z0]
    omega
  · constructor
    · rintro ⟨k1, k2⟩
      have k3 := Int32.le_iff_toInt_le.mp k2
      omega
    · rintro ⟨⟨k1, -, k2⟩, -⟩
      exfalso
      have k3 := Int32.le_iff_toInt_le.mp k1
      have k4 := Int32.lt_iff_toInt_lt.mp k2
      have k5 : fr = fr + i32 (2 * i) - i32 (2 * i) := (Int32.add_sub_cancel fr _).symm
      have k6 : fr.toInt = (fr + i32 (2 * i)).toInt - ((2 * i : Nat) : Int) := by
        have k7 : (fr + i32 (2 * i) - i32 (2 * i)).toInt = (fr + i32 (2 * i)).toInt - ((2 * i : Nat) : Int) := by rw [sub_i (by omega) (by omega) (by omega) (by omega), a7]
        rw [← k5] at k7
        exact k7
      omega
theorem ci_ix {fr z : Int32} {i : Nat} (hi : i < 8) (hz : 0 ≤ z ∧ z ≤ 40) (h0 : 0 ≤ fr) (h : 0 ≤ fr + 2 * i32 i + 1 ∧ fr + 2 * i32 i + 1 < z ∧ fr + 2 * i32 i + 1 < 40) (h1 : fr ≤ z - 2 * i32 i - 2) : ∃ q, q + 1 < z.toNatClampNeg ∧ z.toNatClampNeg ≤ 40 ∧ fr + 2 * i32 i = i32 q := by
  have e : 2 * i32 i = i32 (2 * i) := (Int32.ofNat_mul 2 i).symm
  have ef := xn h0
  rw [e] at h1 h ⊢
  refine ⟨fr.toNatClampNeg + 2 * i, ?_, sz40 hz, by rw [i32_add, ef]⟩
  have a1 := ti_n h0
  have a2 := ti_n hz.1
  have a4 := Int32.le_iff_toInt_le.mp h1
  have a6 := Int32.le_iff_toInt_le.mp hz.2
  have a7 : (i32 (2 * i)).toInt = ((2 * i : Nat) : Int) := Int32.toInt_ofNat_of_lt (by omega)
  rw [show (40 : Int32).toInt = 40 from rfl] at a6
  have a8 : (z - i32 (2 * i)).toInt = z.toInt - ((2 * i : Nat) : Int) := by rw [sub_i (by omega) (by omega) (by omega) (by omega), a7]
  rw [sub_i (by omega) (by omega) (by decide) (by decide), a8, show (2 : Int32).toInt = 2 from rfl] at a4
  omega

theorem c_citizens7 {tc : Nat} {I : I2} {J : J2} {T : TV} {C : CC} (hM : MC tc I J T C) {s k fr mm : Int32} {X : I2} (hS : SR I X) : CT mX7_citizens 3 58 58 [.ref 38, .int s, .int k, .int fr, .int mm] I J RF (RP RF (fun r9 I9 J9 => r9 = (sCitz (X 35 s.toNatClampNeg) (X 36 s.toNatClampNeg) (ceOf X s) C s k fr mm).1 ∧ MC tc I9 J9 T (sCitz (X 35 s.toNatClampNeg) (X 36 s.toNatClampNeg) (ceOf X s) C s k fr mm).2 ∧ Mp I I9)) := by
  have k69 : (0 ≤ s ∧ s < 4) → ¬ X 35 s.toNatClampNeg = -1 → 0 ≤ mm ∧ mm ≤ 8 → V mX7_citizens none 3 58 (RP RF (fun r9 I9 J9 => r9 = (sCt (ceOf X s) (X 36 s.toNatClampNeg) fr mm.toNatClampNeg 0 C 0).1 ∧ MC tc I9 J9 T (sCt (ceOf X s) (X 36 s.toNatClampNeg) fr mm.toNatClampNeg 0 C 0).2 ∧ Mp I I9)) 69 [(0, .ref 38), (1, .int s), (2, .int k), (3, .int fr), (4, .int mm)] [] 58 I J RF := by
    rintro ⟨p0, p4⟩ hso ⟨m0, m8⟩
    obtain ⟨q1, q2, q3⟩ := idx40 (lt4le3.mp ⟨p0, p4⟩)
    obtain ⟨hsz, e54, eso⟩ := hS.at ⟨p0, p4⟩
    obtain ⟨e55, e56, e57⟩ := eso hso
    have px := xn m0
    have hm8 : mm.toNatClampNeg ≤ 8 := by
      have a1 := ti_n m0
      have a2 := Int32.le_iff_toInt_le.mp m8
      rw [show (8 : Int32).toInt = 8 from rfl] at a2
      omega
    have key : ∀ n, Hid (∀ (i : Nat) (I1 : I2) (J1 : J2) (C1 : CC) (came : Int32), i + n = mm.toNatClampNeg → (MC tc I1 J1 T C1 ∧ Mp I I1 ∧ (i = 0 ∨ 0 ≤ fr)) → V mX7_citizens none 3 58 (RP RF (fun r9 I9 J9 => r9 = (sCt (ceOf X s) (X 36 s.toNatClampNeg) fr n i C1 came).1 ∧ MC tc I9 J9 T (sCt (ceOf X s) (X 36 s.toNatClampNeg) fr n i C1 came).2 ∧ Mp I I9)) 75 [(0, .ref 38), (1, .int s), (2, .int k), (3, .int fr), (4, .int mm), (5, .int came), (6, .int (i32 (i)))] [] 58 I1 J1 RF) := by
      intro n
      induction n with
      | zero =>
        unfold Hid
        intro i I1 J1 C1 came hi ⟨hM1, hq1, hfr⟩
        rw [Nat.add_zero] at hi
        refine V_go 2 rfl ?_
        refine V_icmp_ge rfl (fun h1 => ?_) (fun h1 => ?_)
        · skip
          refine V_go 1 rfl ?_
          refine V_iret rfl rfl rfl ?_
          exact RP.mk ⟨rfl, hM1, hq1⟩
        · skip
          exact absurd (by rw [hi, px]; exact Int32.le_refl _) h1
      | succ n ih =>
        unfold Hid
        intro i I1 J1 C1 came hi ⟨hM1, hq1, hfr⟩
        have hi8 : i < 8 := by omega
        have r56 : I1 56 s.toNatClampNeg = X 36 s.toNatClampNeg := by rw [hq1.1 56 (by omega)]; exact e56
        have r57 : I1 57 = I 57 := hq1.1 57 (by omega)
        refine V_go 2 rfl ?_
        refine V_icmp_ge rfl (fun h1 => ?_) (fun h1 => ?_)
        · skip
          exfalso
          rw [← px] at h1
          exact lp_more (by omega) (by omega) h1
        · skip
          refine V_go 1 rfl ?_
          refine V_if_lt rfl (fun h2 => ?_) (fun h2 => ?_)
          · skip
            refine V_go 1 rfl ?_
            refine V_iret rfl rfl rfl ?_
            refine RP.mk ?_
            rw [sCt, if_neg (fun z => absurd ((ci_iff hi8 hsz hfr).mpr z).1 (Int32.not_le.mpr h2))]
            exact ⟨rfl, hM1, hq1⟩
          · skip
            have hf0 : 0 ≤ fr := Int32.not_lt.mp h2
            refine V_go 4 rfl ?_
            refine V_iald rfl rfl (Nat.le_of_ble_eq_true rfl) (q1) ?_
            refine V_go 6 rfl ?_
            refine V_icmp_le rfl (fun h21 => ?_) (fun h21 => ?_)
            · skip
              have hmd : 0 ≤ fr ∧ fr ≤ X 36 s.toNatClampNeg - 2 * i32 i - 2 := ⟨hf0, by rw [← r56]; exact h21⟩
              have hcl := (ci_iff hi8 hsz hfr).mp hmd
              obtain ⟨q, hq5, hz40, eq5⟩ := ci_ix hi8 hsz hf0 hcl.2 hmd.2
              have e7 : 40 * s + fr + 2 * i32 i = 40 * s + i32 q := by rw [Int32.add_assoc, eq5]
              have e71 : 40 * s + i32 q + 1 = 40 * s + i32 (q + 1) := by rw [i32_s, Int32.add_assoc]
              obtain ⟨q7, n7⟩ := s40k (i := q) p0 p4 (by omega)
              obtain ⟨q8, n8⟩ := s40k (i := q + 1) p0 p4 (by omega)
              have v7 : I1 57 (40 * s + i32 q).toNatClampNeg = ceOf X s (fr + 2 * i32 i) := by
                rw [n7, r57, e57 q (by omega), eq5]
                unfold ceOf
                rw [tn_of (by omega)]
              have v8 : I1 57 (40 * s + i32 q + 1).toNatClampNeg = ceOf X s (fr + 2 * i32 i + 1) := by
                rw [e71, n8, r57, e57 (q + 1) (by omega), eq5, ← i32_s]
                unfold ceOf
                rw [tn_of (by omega)]
              refine V_go 10 rfl ?_
              rw [e7]
              refine V_go 5 rfl ?_
              refine V_iald rfl rfl (Nat.le_of_ble_eq_true rfl) (q7) ?_
              refine V_go 5 rfl ?_
              refine V_iald rfl rfl (Nat.le_of_ble_eq_true rfl) ((by rw [e71]; exact q8)) ?_
              refine cVP (mt' := mX7_citizen) rfl kX7_385 fX7_citizen rfl rfl rfl (Nat.le_of_ble_eq_true rfl) (Nat.le_of_ble_eq_true rfl) (Nat.le_of_ble_eq_true rfl) (Nat.le_of_ble_eq_true rfl) (Nat.le_refl _) (c_citizen7 hM1) ?_
              intro r51 Ir51 Jr51 h51
              obtain ⟨hq2, hv, hM2⟩ := h51
              rw [v7, v8] at hv hM2
              refine V_if_lt rfl (fun h52 => ?_) (fun h52 => ?_)
              · skip
                refine V_go 5 rfl ?_
                refine V.st (L' := [(0, .ref 38), (1, .int s), (2, .int k), (3, .int fr), (4, .int mm), (5, .int (came + 0)), (6, .int (i32 (i + 1)))]) ?_ rfl (by rw [i32_s]; simp)
                have e9 : (sCt (ceOf X s) (X 36 s.toNatClampNeg) fr (n + 1) i C1 came) = (sCt (ceOf X s) (X 36 s.toNatClampNeg) fr n (i + 1) (sAddC C1 (ceOf X s (fr + 2 * i32 i)) (ceOf X s (fr + 2 * i32 i + 1))).2 (if 0 ≤ (sAddC C1 (ceOf X s (fr + 2 * i32 i)) (ceOf X s (fr + 2 * i32 i + 1))).1 then came + 1 else came)) := by rw [sCt, if_pos hcl]
                rw [e9]
                first
                  | (rw [if_pos (by rw [← hv]; exact Int32.not_lt.mp (by assumption))]
                     exact ih.un (i + 1) _ _ _ _ (by omega) ⟨hM2, hq1.tr hq2, Or.inr hf0⟩)
                  | (rw [if_neg (by rw [← hv]; exact Int32.not_le.mpr (by assumption))]
                     rw [Int32.add_zero]
                     exact ih.un (i + 1) _ _ _ _ (by omega) ⟨hM2, hq1.tr hq2, Or.inr hf0⟩)
              · skip
                refine V_go 6 rfl ?_
                refine V.st (L' := [(0, .ref 38), (1, .int s), (2, .int k), (3, .int fr), (4, .int mm), (5, .int (came + 1)), (6, .int (i32 (i + 1)))]) ?_ rfl (by rw [i32_s]; simp)
                have e9 : (sCt (ceOf X s) (X 36 s.toNatClampNeg) fr (n + 1) i C1 came) = (sCt (ceOf X s) (X 36 s.toNatClampNeg) fr n (i + 1) (sAddC C1 (ceOf X s (fr + 2 * i32 i)) (ceOf X s (fr + 2 * i32 i + 1))).2 (if 0 ≤ (sAddC C1 (ceOf X s (fr + 2 * i32 i)) (ceOf X s (fr + 2 * i32 i + 1))).1 then came + 1 else came)) := by rw [sCt, if_pos hcl]
                rw [e9]
                first
                  | (rw [if_pos (by rw [← hv]; exact Int32.not_lt.mp (by assumption))]
                     exact ih.un (i + 1) _ _ _ _ (by omega) ⟨hM2, hq1.tr hq2, Or.inr hf0⟩)
                  | (rw [if_neg (by rw [← hv]; exact Int32.not_le.mpr (by assumption))]
                     rw [Int32.add_zero]
                     exact ih.un (i + 1) _ _ _ _ (by omega) ⟨hM2, hq1.tr hq2, Or.inr hf0⟩)
            · skip
              refine V_go 1 rfl ?_
              refine V_iret rfl rfl rfl ?_
              refine RP.mk ?_
              rw [sCt, if_neg (fun z => h21 (by rw [r56]; exact ((ci_iff hi8 hsz hfr).mpr z).2))]
              exact ⟨rfl, hM1, hq1⟩
    refine V_go 4 rfl ?_
    exact (key mm.toNatClampNeg).un 0 I J C 0 (Nat.zero_add _) ⟨hM, Mp.rf, Or.inl rfl⟩
  refine CT_of okX7_citizens (Nat.le_of_ble_eq_true rfl) ?_
  show V _ _ _ _ _ _ [(0, _), (1, _), (2, _), (3, _), (4, _)] _ _ _ _ _
  refine V_go 1 rfl ?_
  refine cSI (mt' := mX7_isSheet) rfl kX7_348 fX7_isSheet rfl (Nat.le_of_ble_eq_true rfl) (Nat.le_of_ble_eq_true rfl) (Nat.le_refl _) (c_isSheet7) ?_
  refine V_if_eq rfl (fun h2 => ?_) (fun h2 => ?_)
  · skip
    refine V_go 1 rfl ?_
    refine V_iret rfl rfl rfl ?_
    refine RP.mk ?_
    unfold sCitz
    rw [if_neg (fun z => b2i_eq0.mp h2 (lt4le3.mp z.1))]
    exact ⟨rfl, hM, Mp.rf⟩
  · skip
    refine V_go 4 rfl ?_
    refine cSI (mt' := mX7_in) rfl kX7_89 fX7_in rfl (Nat.le_of_ble_eq_true rfl) (Nat.le_of_ble_eq_true rfl) (Nat.le_refl _) (c_inI (lo := (0)) (hi := (2)) rfl (by decide +kernel) (by decide +kernel)) ?_
    refine V_if_eq rfl (fun h4 => ?_) (fun h4 => ?_)
    · skip
      refine V_go 1 rfl ?_
      refine V_iret rfl rfl rfl ?_
      refine RP.mk ?_
      unfold sCitz
      rw [if_neg (fun z => b2i_eq0.mp h4 z.2.1)]
      exact ⟨rfl, hM, Mp.rf⟩
    · skip
      refine V_go 4 rfl ?_
      refine cSI (mt' := mX7_in) rfl kX7_89 fX7_in rfl (Nat.le_of_ble_eq_true rfl) (Nat.le_of_ble_eq_true rfl) (Nat.le_refl _) (c_inI (lo := (0)) (hi := (8)) rfl (by decide +kernel) (by decide +kernel)) ?_
      refine V_if_ne rfl (fun h6 => ?_) (fun h6 => ?_)
      · skip
        obtain ⟨p0, p4⟩ := lt4le3.mpr (b2i_n0.mp (show ¬ b2i (0 ≤ s ∧ s ≤ 3) = 0 by assumption))
        have hcn : (0 ≤ s ∧ s < 4) ∧ (0 ≤ k ∧ k ≤ 2) ∧ 0 ≤ mm ∧ mm ≤ 8 := ⟨⟨p0, p4⟩, b2i_n0.mp (show ¬ b2i (0 ≤ k ∧ k ≤ 2) = 0 by assumption), b2i_n0.mp h6⟩
        have hm := hcn.2.2
        obtain ⟨q1, q2, q3⟩ := idx40 (lt4le3.mp ⟨p0, p4⟩)
        obtain ⟨hsz, e54, eso⟩ := hS.at ⟨p0, p4⟩
        have k57 : (¬ X 35 s.toNatClampNeg = -1 → X 35 s.toNatClampNeg = k) → V mX7_citizens none 3 58 (RP RF (fun r9 I9 J9 => r9 = (sCitz (X 35 s.toNatClampNeg) (X 36 s.toNatClampNeg) (ceOf X s) C s k fr mm).1 ∧ MC tc I9 J9 T (sCitz (X 35 s.toNatClampNeg) (X 36 s.toNatClampNeg) (ceOf X s) C s k fr mm).2 ∧ Mp I I9)) 57 [(0, .ref 38), (1, .int s), (2, .int k), (3, .int fr), (4, .int mm)] [] 58 I J RF := by
          intro hk
          refine V_go 3 rfl ?_
          refine V_zald rfl rfl (Nat.le_of_ble_eq_true rfl) (q1) ?_
          refine V_if_ne rfl (fun h51 => ?_) (fun h51 => ?_)
          · skip
            have hso := b54_1 e54 h51
            have hkk := hk hso
            have e9 : sCitz (X 35 s.toNatClampNeg) (X 36 s.toNatClampNeg) (ceOf X s) C s k fr mm = (sCt (ceOf X s) (X 36 s.toNatClampNeg) fr mm.toNatClampNeg 0 C 0) := by
              unfold sCitz
              rw [if_pos hcn, if_neg hso, if_pos hkk]
            rw [e9]
            exact k69 ⟨p0, p4⟩ hso hm
          · skip
            refine V_go 1 rfl ?_
            refine V_iret rfl rfl rfl ?_
            refine RP.mk ?_
            unfold sCitz
            rw [if_pos hcn, if_pos (b54_0 e54 h51)]
            exact ⟨rfl, hM, Mp.rf⟩
        refine V_go 3 rfl ?_
        refine V_zald rfl rfl (Nat.le_of_ble_eq_true rfl) (q1) ?_
        refine V_if_eq rfl (fun h31 => ?_) (fun h31 => ?_)
        · skip
          exact k57 (fun z => absurd (b54_0 e54 h31) z)
        · skip
          have hso := b54_1 e54 h31
          obtain ⟨e55, e56, e57⟩ := eso hso
          refine V_go 3 rfl ?_
          refine V_iald rfl rfl (Nat.le_of_ble_eq_true rfl) (q1) ?_
          refine V_go 1 rfl ?_
          refine V_icmp_eq rfl (fun h41 => ?_) (fun h41 => ?_)
          · skip
            exact k57 (fun _ => by rw [← e55]; exact h41)
          · skip
            refine V_go 1 rfl ?_
            refine V_iret rfl rfl rfl ?_
            refine RP.mk ?_
            unfold sCitz
            rw [if_pos hcn, if_neg hso, if_neg (fun z => h41 (by rw [e55]; exact z))]
            exact ⟨rfl, hM, Mp.rf⟩
      · skip
        refine V_go 1 rfl ?_
        refine V_iret rfl rfl rfl ?_
        refine RP.mk ?_
        unfold sCitz
        rw [if_neg (fun z => b2i_eq0.mp h6 z.2.2)]
        exact ⟨rfl, hM, Mp.rf⟩
