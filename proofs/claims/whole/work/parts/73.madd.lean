theorem cMd_12 {I : I2} {v : Int32} : cMd (up2 I 38 12 v) = up2 (cMd I) 0 3 v := by
  funext g j
  match g with
  | 0 =>
    match j with
    | 0 => rfl
    | 1 => rfl
    | 2 => rfl
    | 3 => rfl
    | 4 => rfl
    | j + 5 => rfl
  | 1 => rfl
  | 2 => rfl
  | 3 => rfl
  | 4 => rfl
  | 5 => rfl
  | 6 => rfl
  | g + 7 => rfl
theorem cMd_14 {I : I2} {v : Int32} : cMd (up2 I 38 14 v) = up2 (cMd I) 0 4 v := by
  funext g j
  match g with
  | 0 =>
    match j with
    | 0 => rfl
    | 1 => rfl
    | 2 => rfl
    | 3 => rfl
    | 4 => rfl
    | j + 5 => rfl
  | 1 => rfl
  | 2 => rfl
  | 3 => rfl
  | 4 => rfl
  | 5 => rfl
  | 6 => rfl
  | g + 7 => rfl
def adC (C : CC) (n : Nat) (k x v : Int32) : CC := up2 (up2 (up2 (up2 C 1 n k) 2 n x) 3 n 0) 0 3 v
def adI (C : CC) (n : Nat) (x v : Int32) : CC := up2 (up2 (up2 (up2 C 4 n x) 5 n 0) 6 n (-1)) 0 4 v
theorem adC_rd (C : CC) (n : Nat) (k x v : Int32) : (∀ j, j ≠ 3 → adC C n k x v 0 j = C 0 j) ∧ adC C n k x v 0 3 = v ∧ (∀ g j, g ≠ 0 → (j ≠ n ∨ 4 ≤ g) → adC C n k x v g j = C g j) ∧ adC C n k x v 1 n = k ∧ adC C n k x v 2 n = x ∧ adC C n k x v 3 n = 0 := by
  refine ⟨fun j hj => ?_, rfl, fun g j hg hj => ?_, ?_, ?_, ?_⟩
  · simp [adC, up2_rd, hj]
  · simp only [adC, up2_rd, if_neg hg]
    by_cases h3 : g = 3
    · rw [if_pos h3, if_neg (by omega), if_neg (by omega), if_neg (by omega)]
    · rw [if_neg h3]
      by_cases h2 : g = 2
      · rw [if_pos h2, if_neg (by omega), if_neg (by omega)]
      · rw [if_neg h2]
        by_cases h1 : g = 1
        · rw [if_pos h1, if_neg (by omega)]
        · rw [if_neg h1]
  · simp [adC, up2_rd]
  · simp [adC, up2_rd]
  · simp [adC, up2_rd]
theorem adI_rd (C : CC) (n : Nat) (x v : Int32) : (∀ j, j ≠ 4 → adI C n x v 0 j = C 0 j) ∧ adI C n x v 0 4 = v ∧ (∀ g j, g ≠ 0 → (j ≠ n ∨ g ≤ 3) → adI C n x v g j = C g j) ∧ adI C n x v 4 n = x ∧ adI C n x v 5 n = 0 ∧ adI C n x v 6 n = -1 := by
  refine ⟨fun j hj => ?_, rfl, fun g j hg hj => ?_, ?_, ?_, ?_⟩
  · simp [adI, up2_rd, hj]
  · simp only [adI, up2_rd, if_neg hg]
    by_cases h3 : g = 6
    · rw [if_pos h3, if_neg (by omega), if_neg (by omega), if_neg (by omega)]
    · rw [if_neg h3]
      by_cases h2 : g = 5
      · rw [if_pos h2, if_neg (by omega), if_neg (by omega)]
      · rw [if_neg h2]
        by_cases h1 : g = 4
        · rw [if_pos h1, if_neg (by omega)]
        · rw [if_neg h1]
  · simp [adI, up2_rd]
  · simp [adI, up2_rd]
  · simp [adI, up2_rd]
theorem MC.addC {tc : Nat} {I : I2} {J : J2} {T : TV} {C : CC} (hM : MC tc I J T C) {k x : Int32} (hlt : nC C < 8) (hk : 0 ≤ k ∧ k ≤ 5) (hx : 0 ≤ x ∧ x ≤ 9) : MC tc (up2 (up2 (up2 (up2 I 42 (nC C) k) 43 (nC C) x) 44 (nC C) 0) 38 12 (i32 (nC C + 1))) J T (adC C (nC C) k x (i32 (nC C + 1))) := by
  have hn := hM.nm
  obtain ⟨a1, ⟨r0, r1, r2, r3, r4, r5, r6⟩, a3⟩ := hM
  obtain ⟨d1, d2, d3, d4, d5, d6⟩ := adC_rd C (nC C) k x (i32 (nC C + 1))
  obtain ⟨b1, b2, b3, b4, b5, b6⟩ := adC_rd (cMd I) (nC C) k x (i32 (nC C + 1))
  have en : nC (adC C (nC C) k x (i32 (nC C + 1))) = nC C + 1 := by
    show (adC C (nC C) k x (i32 (nC C + 1)) 0 3).toNatClampNeg = _
    rw [d2, tn_of (by omega)]
  have em : mC (adC C (nC C) k x (i32 (nC C + 1))) = mC C := by
    show (adC C (nC C) k x (i32 (nC C + 1)) 0 4).toNatClampNeg = _
    rw [d1 4 (by omega)]
    rfl
  have ec : cMd (up2 (up2 (up2 (up2 I 42 (nC C) k) 43 (nC C) x) 44 (nC C) 0) 38 12 (i32 (nC C + 1))) = adC (cMd I) (nC C) k x (i32 (nC C + 1)) := by
    rw [cMd_12, cMd_r (g := 3) (by omega) (by omega), cMd_r (g := 2) (by omega) (by omega), cMd_r (g := 1) (by omega) (by omega)]
    rfl
  refine ⟨?_, ⟨by rw [d1 0 (by omega)]; exact r0, by rw [d1 1 (by omega)]; exact r1, by rw [d1 2 (by omega)]; exact r2, ?_, by rw [d1 4 (by omega)]; exact r4, fun c hc => ?_, fun i hi => ?_⟩, a3.same rfl rfl rfl a3.2.2.2.2.2⟩
  · rw [ec, en, em]
    refine ⟨fun j hj => ?_, fun g j g1 g3 hj => ?_, fun g j g4 g6 hj => ?_⟩
    · by_cases h3 : j = 3
      · rw [h3, b2, d2]
      · rw [b1 j h3, d1 j h3]; exact a1.1 j hj
    · by_cases hjn : j = nC C
      · subst hjn
        match g, g1, g3 with
        | 1, _, _ => rw [b4, d4]
        | 2, _, _ => rw [b5, d5]
        | 3, _, _ => rw [b6, d6]
      · rw [b3 g j (by omega) (Or.inl hjn), d3 g j (by omega) (Or.inl hjn)]
        exact a1.2.1 g j g1 g3 (by omega)
    · rw [b3 g j (by omega) (Or.inr g4), d3 g j (by omega) (Or.inr g4)]
      exact a1.2.2 g j g4 g6 hj
  · rw [d2]
    exact ⟨i32_nn _ (by omega), (i32_le (a := nC C + 1) (b := 8) (by omega) (by omega)).mpr (by omega)⟩
  · rw [en] at hc
    by_cases hjn : c = nC C
    · rw [hjn, d4, d5, d6]
      exact ⟨hk, hx, by decide⟩
    · rw [d3 1 c (by omega) (Or.inl hjn), d3 2 c (by omega) (Or.inl hjn), d3 3 c (by omega) (Or.inl hjn)]
      exact r5 c (by omega)
  · rw [em] at hi
    rw [d3 4 i (by omega) (Or.inr (by omega)), d3 5 i (by omega) (Or.inr (by omega)), d3 6 i (by omega) (Or.inr (by omega))]
    exact r6 i hi
theorem MC.addI {tc : Nat} {I : I2} {J : J2} {T : TV} {C : CC} (hM : MC tc I J T C) {x : Int32} (hlt : mC C < 6) (hx : 1 ≤ x ∧ x ≤ 999) : MC tc (up2 (up2 (up2 (up2 I 45 (3 * mC C) x) 45 (3 * mC C + 1) 0) 45 (3 * mC C + 2) (-1)) 38 14 (i32 (mC C + 1))) J T (adI C (mC C) x (i32 (mC C + 1))) := by
  have hn := hM.nm
  obtain ⟨a1, ⟨r0, r1, r2, r3, r4, r5, r6⟩, a3⟩ := hM
  obtain ⟨d1, d2, d3, d4, d5, d6⟩ := adI_rd C (mC C) x (i32 (mC C + 1))
  obtain ⟨b1, b2, b3, b4, b5, b6⟩ := adI_rd (cMd I) (mC C) x (i32 (mC C + 1))
  have em : mC (adI C (mC C) x (i32 (mC C + 1))) = mC C + 1 := by
    show (adI C (mC C) x (i32 (mC C + 1)) 0 4).toNatClampNeg = _
    rw [d2, tn_of (by omega)]
  have en : nC (adI C (mC C) x (i32 (mC C + 1))) = nC C := by
    show (adI C (mC C) x (i32 (mC C + 1)) 0 3).toNatClampNeg = _
    rw [d1 3 (by omega)]
    rfl
  have ec : cMd (up2 (up2 (up2 (up2 I 45 (3 * mC C) x) 45 (3 * mC C + 1) 0) 45 (3 * mC C + 2) (-1)) 38 14 (i32 (mC C + 1))) = adI (cMd I) (mC C) x (i32 (mC C + 1)) := by
    rw [cMd_14, cMd_45 (r := 2) (by omega), cMd_45 (r := 1) (by omega)]
    have z := cMd_45 (I := I) (i := mC C) (r := 0) (v := x) (by omega)
    rw [Nat.add_zero] at z
    rw [z]
    rfl
  refine ⟨?_, ⟨by rw [d1 0 (by omega)]; exact r0, by rw [d1 1 (by omega)]; exact r1, by rw [d1 2 (by omega)]; exact r2, by rw [d1 3 (by omega)]; exact r3, ?_, fun c hc => ?_, fun i hi => ?_⟩, a3.same rfl rfl rfl a3.2.2.2.2.2⟩
  · rw [ec, en, em]
    refine ⟨fun j hj => ?_, fun g j g1 g3 hj => ?_, fun g j g4 g6 hj => ?_⟩
    · by_cases h3 : j = 4
      · rw [h3, b2, d2]
      · rw [b1 j h3, d1 j h3]; exact a1.1 j hj
    · rw [b3 g j (by omega) (Or.inr g3), d3 g j (by omega) (Or.inr g3)]
      exact a1.2.1 g j g1 g3 hj
    · by_cases hjn : j = mC C
      · subst hjn
        match g, g4, g6 with
        | 4, _, _ => rw [b4, d4]
        | 5, _, _ => rw [b5, d5]
        | 6, _, _ => rw [b6, d6]
      · rw [b3 g j (by omega) (Or.inl hjn), d3 g j (by omega) (Or.inl hjn)]
        exact a1.2.2 g j g4 g6 (by omega)
  · rw [d2]
    exact ⟨i32_nn _ (by omega), (i32_le (a := mC C + 1) (b := 6) (by omega) (by omega)).mpr (by omega)⟩
  · rw [en] at hc
    rw [d3 1 c (by omega) (Or.inr (by omega)), d3 2 c (by omega) (Or.inr (by omega)), d3 3 c (by omega) (Or.inr (by omega))]
    exact r5 c hc
  · rw [em] at hi
    by_cases hjn : i = mC C
    · rw [hjn, d4, d5, d6]
      exact ⟨hx, ⟨by decide, Int32.le_trans (by decide) hx.1⟩, fun _ => Int32.lt_of_lt_of_le (by decide) hx.1, fun _ => rfl⟩
    · rw [d3 4 i (by omega) (Or.inl hjn), d3 5 i (by omega) (Or.inl hjn), d3 6 i (by omega) (Or.inl hjn)]
      exact r6 i (by omega)

theorem c_citizen7 {tc : Nat} {I : I2} {J : J2} {T : TV} {C : CC} (hM : MC tc I J T C) {k x : Int32} : CT mX7_citizen 2 58 58 [.ref 38, .int k, .int x] I J RF (RP RF (fun r9 I9 J9 => Mp I I9 ∧ r9 = (sAddC C k x).1 ∧ MC tc I9 J9 T (sAddC C k x).2)) := by
  obtain ⟨hn1, hn8, hm1, hm6, hC3, hC4⟩ := hM.nm
  refine CT_of okX7_citizen (Nat.le_of_ble_eq_true rfl) ?_
  show V _ _ _ _ _ _ [(0, _), (1, _), (2, _)] _ _ _ _ _
  refine V_go 4 rfl ?_
  refine cSI (mt' := mX7_in) rfl kX7_89 fX7_in rfl (Nat.le_of_ble_eq_true rfl) (Nat.le_of_ble_eq_true rfl) (Nat.le_refl _) (c_inI (lo := (0)) (hi := (5)) rfl (by decide +kernel) (by decide +kernel)) ?_
  refine V_if_eq rfl (fun h2 => ?_) (fun h2 => ?_)
  · skip
    refine V_go 1 rfl ?_
    refine V_iret rfl rfl rfl ?_
    have hs : sAddC C k x = (-2, C) := if_neg (fun z => (b2i_eq0.mp h2) z.1)
    exact RP.mk ⟨Mp.rf, by rw [hs], by rw [hs]; exact hM⟩
  · skip
    have hk := b2i_n0.mp h2
    refine V_go 4 rfl ?_
    refine cSI (mt' := mX7_in) rfl kX7_89 fX7_in rfl (Nat.le_of_ble_eq_true rfl) (Nat.le_of_ble_eq_true rfl) (Nat.le_refl _) (c_inI (lo := (0)) (hi := (9)) rfl (by decide +kernel) (by decide +kernel)) ?_
    refine V_if_ne rfl (fun h22 => ?_) (fun h22 => ?_)
    · skip
      have hx := b2i_n0.mp h22
      refine V_go 3 rfl ?_
      refine V_icmp_ne rfl (fun h31 => ?_) (fun h31 => ?_)
      · skip
        have h8 : nC C < 8 := by
          have z : ¬ nC C = 8 := fun z => h31 (hn1.trans (by rw [z]; rfl))
          omega
        have hs : sAddC C k x = (i32 (nC C), adC C (nC C) k x (i32 (nC C + 1))) := by
          unfold sAddC adC
          rw [if_pos ⟨hk, hx⟩, if_pos (by rw [hC3]; exact (i32_lt (a := nC C) (b := 8) (by omega) (by omega)).mpr h8), hC3, i32_s]
        refine V_go 5 rfl ?_
        try simp only [up2_rd, row2_rd, reduceIte, Nat.reduceEqDiff, hn1, ← i32_s, tn_of (show nC C < 2147483648 by omega)]
        refine V_iast rfl rfl (Nat.le_of_ble_eq_true rfl) (inb_i32 (by omega) (by decide)) ?_
        refine V_go 5 rfl ?_
        try simp only [up2_rd, row2_rd, reduceIte, Nat.reduceEqDiff, hn1, ← i32_s, tn_of (show nC C < 2147483648 by omega)]
        refine V_iast rfl rfl (Nat.le_of_ble_eq_true rfl) (inb_i32 (by omega) (by decide)) ?_
        refine V_go 5 rfl ?_
        try simp only [up2_rd, row2_rd, reduceIte, Nat.reduceEqDiff, hn1, ← i32_s, tn_of (show nC C < 2147483648 by omega)]
        refine V_iast rfl rfl (Nat.le_of_ble_eq_true rfl) (inb_i32 (by omega) (by decide)) ?_
        refine V_go 10 rfl ?_
        try simp only [up2_rd, row2_rd, reduceIte, Nat.reduceEqDiff, hn1, ← i32_s, tn_of (show nC C < 2147483648 by omega)]
        refine V_iret rfl rfl rfl ?_
        refine RP.mk ⟨?_, ?_, ?_⟩
        · exact (Mp.row (o := 42) (by omega)).tr ((Mp.row (o := 43) (by omega)).tr ((Mp.row (o := 44) (by omega)).tr (Mp.fld (k := 12) (by omega) (by omega))))
        · rw [hs]
          try simp only [up2_rd, reduceIte, Nat.reduceEqDiff, hn1]
          rw [i32_s, Int32.add_sub_cancel]
        · rw [hs]
          exact hM.addC h8 hk hx
      · skip
        have h8 : nC C = 8 := (i32_inj (a := nC C) (b := 8) (by omega) (by omega)).mp (hn1.symm.trans h31)
        refine V_go 1 rfl ?_
        refine V_iret rfl rfl rfl ?_
        have hs : sAddC C k x = (-4, C) := by
          unfold sAddC
          rw [if_pos ⟨hk, hx⟩, if_neg]
          rw [hC3, h8]
          decide
        exact RP.mk ⟨Mp.rf, by rw [hs], by rw [hs]; exact hM⟩
    · skip
      refine V_go 1 rfl ?_
      refine V_iret rfl rfl rfl ?_
      have hs : sAddC C k x = (-2, C) := if_neg (fun z => (b2i_eq0.mp h22) z.2)
      exact RP.mk ⟨Mp.rf, by rw [hs], by rw [hs]; exact hM⟩
theorem c_business7 {tc : Nat} {I : I2} {J : J2} {T : TV} {C : CC} (hM : MC tc I J T C) {x : Int32} : CT mX7_business 2 58 58 [.ref 38, .int x] I J RF (RP RF (fun r9 I9 J9 => Mp I I9 ∧ r9 = (sAddI C x).1 ∧ MC tc I9 J9 T (sAddI C x).2)) := by
  obtain ⟨hn1, hn8, hm1, hm6, hC3, hC4⟩ := hM.nm
  refine CT_of okX7_business (Nat.le_of_ble_eq_true rfl) ?_
  show V _ _ _ _ _ _ [(0, _), (1, _)] _ _ _ _ _
  refine V_go 4 rfl ?_
  refine cSI (mt' := mX7_in) rfl kX7_89 fX7_in rfl (Nat.le_of_ble_eq_true rfl) (Nat.le_of_ble_eq_true rfl) (Nat.le_refl _) (c_inI (lo := (1)) (hi := (999)) rfl (by decide +kernel) (by decide +kernel)) ?_
  refine V_if_ne rfl (fun h2 => ?_) (fun h2 => ?_)
  · skip
    have hx := b2i_n0.mp h2
    refine V_go 3 rfl ?_
    refine V_icmp_ne rfl (fun h31 => ?_) (fun h31 => ?_)
    · skip
      have h8 : mC C < 6 := by
        have z : ¬ mC C = 6 := fun z => h31 (hm1.trans (by rw [z]; rfl))
        omega
      have hs : sAddI C x = (i32 (mC C), adI C (mC C) x (i32 (mC C + 1))) := by
        unfold sAddI adI
        rw [if_pos hx, if_pos (by rw [hC4]; exact (i32_lt (a := mC C) (b := 6) (by omega) (by omega)).mpr h8), hC4, i32_s]
      have j1 : i32 (3 * mC C) + 1 = i32 (3 * mC C + 1) := (i32_add (3 * mC C) 1).symm
      have j2 : i32 (3 * mC C) + 2 = i32 (3 * mC C + 2) := (i32_add (3 * mC C) 2).symm
      have j3 : i32 (mC C) + 1 = i32 (mC C + 1) := (i32_s _).symm
      refine V_go 7 rfl ?_
      try simp only [up2_rd, row2_rd, reduceIte, Nat.reduceEqDiff, hm1, ix30 (mC C) h8, j1, j2, j3, tn_of (show mC C < 2147483648 by omega), tn_of (show 3 * mC C < 2147483648 by omega), tn_of (show 3 * mC C + 1 < 2147483648 by omega), tn_of (show 3 * mC C + 2 < 2147483648 by omega)]
      refine V_iast rfl rfl (Nat.le_of_ble_eq_true rfl) (inb_i32 (by omega) (by decide)) ?_
      refine V_go 9 rfl ?_
      try simp only [up2_rd, row2_rd, reduceIte, Nat.reduceEqDiff, hm1, ix30 (mC C) h8, j1, j2, j3, tn_of (show mC C < 2147483648 by omega), tn_of (show 3 * mC C < 2147483648 by omega), tn_of (show 3 * mC C + 1 < 2147483648 by omega), tn_of (show 3 * mC C + 2 < 2147483648 by omega)]
      refine V_iast rfl rfl (Nat.le_of_ble_eq_true rfl) (inb_i32 (by omega) (by decide)) ?_
      refine V_go 9 rfl ?_
      try simp only [up2_rd, row2_rd, reduceIte, Nat.reduceEqDiff, hm1, ix30 (mC C) h8, j1, j2, j3, tn_of (show mC C < 2147483648 by omega), tn_of (show 3 * mC C < 2147483648 by omega), tn_of (show 3 * mC C + 1 < 2147483648 by omega), tn_of (show 3 * mC C + 2 < 2147483648 by omega)]
      refine V_iast rfl rfl (Nat.le_of_ble_eq_true rfl) (inb_i32 (by omega) (by decide)) ?_
      refine V_go 10 rfl ?_
      try simp only [up2_rd, row2_rd, reduceIte, Nat.reduceEqDiff, hm1, ix30 (mC C) h8, j1, j2, j3, tn_of (show mC C < 2147483648 by omega), tn_of (show 3 * mC C < 2147483648 by omega), tn_of (show 3 * mC C + 1 < 2147483648 by omega), tn_of (show 3 * mC C + 2 < 2147483648 by omega)]
      refine V_iret rfl rfl rfl ?_
      refine RP.mk ⟨?_, ?_, ?_⟩
      · exact (Mp.row (o := 45) (by omega)).tr ((Mp.row (o := 45) (by omega)).tr ((Mp.row (o := 45) (by omega)).tr (Mp.fld (k := 14) (by omega) (by omega))))
      · rw [hs]
        try simp only [up2_rd, reduceIte, Nat.reduceEqDiff, hm1]
        rw [i32_s, Int32.add_sub_cancel]
      · rw [hs]
        exact hM.addI h8 hx
    · skip
      have h8 : mC C = 6 := (i32_inj (a := mC C) (b := 6) (by omega) (by omega)).mp (hm1.symm.trans h31)
      refine V_go 1 rfl ?_
      refine V_iret rfl rfl rfl ?_
      have hs : sAddI C x = (-4, C) := by
        unfold sAddI
        rw [if_pos hx, if_neg]
        rw [hC4, h8]
        decide
      exact RP.mk ⟨Mp.rf, by rw [hs], by rw [hs]; exact hM⟩
  · skip
    refine V_go 1 rfl ?_
    refine V_iret rfl rfl rfl ?_
    have hs : sAddI C x = (-2, C) := if_neg (b2i_eq0.mp h2)
    exact RP.mk ⟨Mp.rf, by rw [hs], by rw [hs]; exact hM⟩
