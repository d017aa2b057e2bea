theorem sh_n : ∀ n, n < 9 → (1 : Int32) <<< (i32 n &&& 31) = i32 (2 ^ n) := by decide +kernel
theorem xor_n : ∀ m, m < 256 → ∀ i, i < 8 → i32 m ^^^ ((1 : Int32) <<< (i32 i &&& 31)) = i32 (m ^^^ 2 ^ i) ∧ (m ^^^ 2 ^ i) < 256 := by decide +kernel
theorem pW_0 (m : Nat) : pW 0 m = fun i => !m.testBit i := by funext i; rfl
theorem pW_1 (m : Nat) : pW 1 m = fun i => m.testBit i := by funext i; rfl
theorem w23 {w : Int32} (h : 0 ≤ w ∧ w ≤ 4) (h0 : ¬ w = 0) (h1 : ¬ w = 1) (h4 : ¬ w = 4) : w = 2 ∨ w = 3 := by grind
theorem w01 {w : Int32} : (0 ≤ w ∧ w ≤ 1) ↔ (w = 0 ∨ w = 1) := by grind
theorem w049 {w : Int32} (h : ¬ (0 ≤ w ∧ w ≤ 4)) : ¬ w = 0 ∧ ¬ w = 1 ∧ ¬ w = 2 ∧ ¬ w = 3 ∧ ¬ w = 4 := by grind
theorem MC.p2 {tc : Nat} {I : I2} {J : J2} {T : TV} {C : CC} (hM : MC tc I J T C) : (1 : Int32) <<< (I 38 12 &&& 31) = i32 (2 ^ nC C) ∧ 2 ^ nC C ≤ 256 ∧ 1 ≤ 2 ^ nC C := by
  obtain ⟨hn1, hn8, -⟩ := hM.nm
  rw [hn1]
  exact ⟨sh_n _ (by omega), pow_lt8 hn8, Nat.one_le_two_pow⟩
theorem MC.fld {tc : Nat} {I : I2} {J : J2} {T : TV} {C : CC} (hM : MC tc I J T C) {k : Nat} {v : Int32} (hk : 15 ≤ k) : MC tc (up2 I 38 k v) J T C := by
  obtain ⟨h1, h2, h3⟩ := hM
  refine ⟨?_, h2, h3.same ?_ rfl rfl h3.2.2.2.2.2⟩
  · have e : cMd (up2 I 38 k v) = cMd I := by
      have a (j : Nat) (hj : j < 15) : up2 I 38 k v 38 j = I 38 j := by
        simp only [up2_rd, reduceIte]
        rw [if_neg (by omega)]
      have b (o : Nat) (ho : o ≠ 38) : up2 I 38 k v o = I o := up2_ne ho
      funext g j
      simp only [cMd, a 7 (by omega), a 8 (by omega), a 4 (by omega), a 12 (by omega), a 14 (by omega), b 42 (by omega), b 43 (by omega), b 44 (by omega), b 45 (by omega)]
    rw [e]
    exact h1
  · simp only [up2_rd, reduceIte]
    rw [if_neg (by omega)]
theorem Mp.fld {I : I2} {k : Nat} {v : Int32} (h1 : k ≠ 6) (h2 : ¬ (46 ≤ k ∧ k ≤ 50)) : Mp I (up2 I 38 k v) := ⟨fun o ho => up2_ne (by omega), fun j hj => by
  simp only [up2_rd, reduceIte]
  rw [if_neg (by omega)]⟩

theorem c_list7 {tc : Nat} {I : I2} {J : J2} {T : TV} {C : CC} (hM : MC tc I J T C) {w : Int32} : CT mX7_list 48 58 58 [.ref 38, .int w] I J RF (RP RF (fun r9 I9 J9 => r9 = sList T C w ∧ MC tc I9 J9 T C ∧ Mp I I9)) := by
  refine CT_of okX7_list (Nat.le_of_ble_eq_true rfl) ?_
  show V _ _ _ _ _ _ [(0, _), (1, _)] _ _ _ _ _
  refine V_go 4 rfl ?_
  refine cSI (mt' := mX7_in) rfl kX7_89 fX7_in rfl (Nat.le_of_ble_eq_true rfl) (Nat.le_of_ble_eq_true rfl) (Nat.le_refl _) (c_inI (lo := (0)) (hi := (4)) rfl (by decide +kernel) (by decide +kernel)) ?_
  refine V_if_ne rfl (fun h2 => ?_) (fun h2 => ?_)
  · skip
    have hw := b2i_n0.mp h2
    refine V_go 1 rfl ?_
    refine cVP (mt' := mX7_listNow) rfl kX7_135 fX7_listNow rfl rfl rfl (Nat.le_of_ble_eq_true rfl) (Nat.le_of_ble_eq_true rfl) (Nat.le_of_ble_eq_true rfl) (Nat.le_of_ble_eq_true rfl) (Nat.le_refl _) (c_listNow7 hM) ?_
    intro r21 Ir21 Jr21 h21
    obtain ⟨hv, hM2, hq2⟩ := h21
    subst hv
    refine V_go 2 rfl ?_
    refine V_if_ne rfl (fun h22 => ?_) (fun h22 => ?_)
    · skip
      have w0 : ¬ w = 0 := h22
      refine V_go 2 rfl ?_
      refine V_icmp_ne rfl (fun h31 => ?_) (fun h31 => ?_)
      · skip
        have w1 : ¬ w = 1 := h31
        refine V_go 2 rfl ?_
        refine V_icmp_ne rfl (fun h51 => ?_) (fun h51 => ?_)
        · skip
          have w4 : ¬ w = 4 := h51
          refine V_go 5 rfl ?_
          obtain ⟨k, hk2, hk, hkw⟩ : ∃ k, k < 2 ∧ w - 2 = i32 k ∧ sList T C w = sGn T C (pW k (sLst T C)) (sLst T C) (nC C) := by
            rcases w23 hw w0 w1 w4 with rfl | rfl
            · exact ⟨0, by omega, rfl, by rw [pW_0]; exact sList_2 rfl⟩
            · exact ⟨1, by omega, rfl, by rw [pW_1]; exact sList_3 rfl⟩
          refine cVP (mt' := mX7_goneBy) rfl kX7_282 fX7_goneBy rfl rfl rfl (Nat.le_of_ble_eq_true rfl) (Nat.le_of_ble_eq_true rfl) (Nat.le_of_ble_eq_true rfl) (Nat.le_of_ble_eq_true rfl) (Nat.le_refl _) ((by rw [hk]; exact c_goneBy7 hM2 hM.l256 (by omega))) ?_
          intro r81 Ir81 Jr81 h81
          obtain ⟨hv3, hM3, hq3⟩ := h81
          refine V_iret rfl rfl rfl ?_
          exact RP.mk ⟨hv3.trans hkw.symm, hM3, (hq2.tr hq3).mp⟩
        · skip
          have w4 : w = 4 := h51
          refine V_go 1 rfl ?_
          refine cVP (mt' := mX7_leftNow) rfl kX7_290 fX7_leftNow rfl rfl rfl (Nat.le_of_ble_eq_true rfl) (Nat.le_of_ble_eq_true rfl) (Nat.le_of_ble_eq_true rfl) (Nat.le_of_ble_eq_true rfl) (Nat.le_refl _) (c_leftNow7 hM2) ?_
          intro r61 Ir61 Jr61 h61
          obtain ⟨hv3, hM3, hq3⟩ := h61
          refine V_go 1 rfl ?_
          refine V_iret rfl rfl rfl ?_
          exact RP.mk ⟨hv3.trans (sList_4 w4).symm, hM3, (hq2.tr hq3).mp⟩
      · skip
        have w1 : w = 1 := h31
        refine V_go 1 rfl ?_
        refine cSI (mt' := mX7_bitsOf) rfl kX7_139 fX7_bitsOf rfl (Nat.le_of_ble_eq_true rfl) (Nat.le_of_ble_eq_true rfl) (Nat.le_refl _) (c_bitsOf7 hM.l256) ?_
        refine V_go 1 rfl ?_
        refine V_iret rfl rfl rfl ?_
        exact RP.mk ⟨(sList_1 w1).symm, hM2, hq2.mp⟩
    · skip
      have w0 : w = 0 := h22
      refine V_go 2 rfl ?_
      refine V_iret rfl rfl rfl ?_
      exact RP.mk ⟨(sList_0 w0).symm, hM2, hq2.mp⟩
  · skip
    obtain ⟨z0, z1, z2, z3, z4⟩ := w049 (b2i_eq0.mp h2)
    refine V_go 1 rfl ?_
    refine V_iret rfl rfl rfl ?_
    exact RP.mk ⟨(sList_9 z0 z1 z2 z3 z4).symm, hM, Mp.rf⟩
theorem c_by7 {tc : Nat} {I : I2} {J : J2} {T : TV} {C : CC} (hM : MC tc I J T C) {x : Int32} : CT mX7_by 48 58 58 [.ref 38, .int x] I J RF (RP RF (fun r9 I9 J9 => r9 = sBy T C x ∧ MC tc I9 J9 T C ∧ Mp I I9)) := by
  obtain ⟨e1, e2, e3⟩ := hM.p2
  refine CT_of okX7_by (Nat.le_of_ble_eq_true rfl) ?_
  show V _ _ _ _ _ _ [(0, _), (1, _)] _ _ _ _ _
  refine V_go 10 rfl ?_
  refine cSI (mt' := mX7_in) rfl kX7_89 fX7_in rfl (Nat.le_of_ble_eq_true rfl) (Nat.le_of_ble_eq_true rfl) (Nat.le_refl _) (c_inI (lo := 0) rfl (by decide +kernel) rfl) ?_
  refine V_if_eq rfl (fun h2 => ?_) (fun h2 => ?_)
  · skip
    refine V_go 1 rfl ?_
    refine V_iret rfl rfl rfl ?_
    refine RP.mk ⟨?_, hM, Mp.rf⟩
    rw [e1, b2i_congr (isx (n := 2 ^ nC C) (by omega))] at h2
    unfold sBy
    rw [if_neg (b2i_eq0.mp h2)]
  · skip
    rw [e1, b2i_congr (isx (n := 2 ^ nC C) (by omega))] at h2
    have hx := b2i_n0.mp h2
    have hx2 : x.toNatClampNeg < 256 := by
      have z := hx.2
      rw [← xn hx.1] at z
      have y := (i32_lt (tn_lt hx.1 (Int32.le_of_lt (Int32.lt_of_lt_of_le hx.2 ((i32_le (a := 2 ^ nC C) (b := 256) (by omega) (by omega)).mpr e2))) (by decide)) (by omega)).mp z
      omega
    refine V_go 3 rfl ?_
    refine cVP (mt' := mX7_goneBy) rfl kX7_282 fX7_goneBy rfl rfl rfl (Nat.le_of_ble_eq_true rfl) (Nat.le_of_ble_eq_true rfl) (Nat.le_of_ble_eq_true rfl) (Nat.le_of_ble_eq_true rfl) (Nat.le_refl _) ((by rw [← xn hx.1]; exact c_goneM hM hx2)) ?_
    intro r21 Ir21 Jr21 h21
    obtain ⟨hv3, hM3, hq3⟩ := h21
    refine V_go 1 rfl ?_
    refine V_iret rfl rfl rfl ?_
    refine RP.mk ⟨?_, hM3, hq3.mp⟩
    rw [hv3]
    unfold sBy
    rw [if_pos hx]
theorem c_shortest7 {tc : Nat} {I : I2} {J : J2} {T : TV} {C : CC} (hM : MC tc I J T C) {w : Int32} : CT mX7_shortest 48 58 58 [.ref 38, .int w] I J RF (RP RF (fun r9 I9 J9 => r9 = sShortest T C w ∧ MC tc I9 J9 T C ∧ Mp I I9)) := by
  obtain ⟨e1, e2, e3⟩ := hM.p2
  have key : (w = 0 ∨ w = 1) → ∀ n, Hid (∀ (i : Nat) (I1 : I2) (J1 : J2), i + n = 2 ^ nC C - 1 → (MC tc I1 J1 T C ∧ Sm I I1) → V mX7_shortest none 48 58 (RP RF (fun r9 I9 J9 => r9 = sShortest T C w ∧ MC tc I9 J9 T C ∧ Mp I I9)) 25 [(0, .ref 38), (1, .int w), (2, .int (i32 (sShort T C (i)).1)), (3, .int (sShort T C (i)).2), (4, .int (i32 (i + 1)))] [] 58 I1 J1 RF) := by
    intro hw n
    induction n with
    | zero =>
      unfold Hid
      intro i I1 J1 hi ⟨hM1, hq1⟩
      obtain ⟨f1, f2, f3⟩ := hM1.p2
      refine V_go 5 rfl ?_
      refine V_icmp_ge rfl (fun h1 => ?_) (fun h1 => ?_)
      · skip
        refine V_go 1 rfl ?_
        refine V_if_ne rfl (fun h2 => ?_) (fun h2 => ?_)
        · skip
          refine V_go 1 rfl ?_
          refine V_iret rfl rfl rfl ?_
          refine RP.mk ⟨?_, hM1, hq1.mp⟩
          unfold sShortest
          rw [if_pos hw, show 2 ^ nC C - 1 = i from hi.symm]
          first
            | (rw [if_pos (by assumption)]; done)
            | (rw [if_neg (by assumption)]; done)
        · skip
          refine V_go 2 rfl ?_
          refine V_iret rfl rfl rfl ?_
          refine RP.mk ⟨?_, hM1, hq1.mp⟩
          unfold sShortest
          rw [if_pos hw, show 2 ^ nC C - 1 = i from hi.symm]
          first
            | (rw [if_pos (by assumption)]; done)
            | (rw [if_neg (by assumption)]; done)
      · skip
        rw [f1] at h1
        exact absurd ((i32_le (a := 2 ^ nC C) (b := i + 1) (by omega) (by omega)).mpr (by omega)) h1
    | succ n ih =>
      unfold Hid
      intro i I1 J1 hi ⟨hM1, hq1⟩
      obtain ⟨f1, f2, f3⟩ := hM1.p2
      refine V_go 5 rfl ?_
      refine V_icmp_ge rfl (fun h1 => ?_) (fun h1 => ?_)
      · skip
        rw [f1] at h1
        exact absurd ((i32_le (a := 2 ^ nC C) (b := i + 1) (by omega) (by omega)).mp h1) (by omega)
      · skip
        refine V_go 3 rfl ?_
        refine cVP (mt' := mX7_goneBy) rfl kX7_282 fX7_goneBy rfl rfl rfl (Nat.le_of_ble_eq_true rfl) (Nat.le_of_ble_eq_true rfl) (Nat.le_of_ble_eq_true rfl) (Nat.le_of_ble_eq_true rfl) (Nat.le_refl _) (c_goneM (m := i + 1) hM1 (by omega)) ?_
        intro r2 Ir2 Jr2 h2
        obtain ⟨hv, hM2, hq2⟩ := h2
        subst hv
        refine V_go 3 rfl ?_
        refine V_icmp_ge rfl (fun h3 => ?_) (fun h3 => ?_)
        · skip
          refine V_go 2 rfl ?_
          refine V.st (L' := [(0, .ref 38), (1, .int w), (2, .int (i32 (sShort T C (i + 1)).1)), (3, .int (sShort T C (i + 1)).2), (4, .int (i32 (i + 1 + 1)))]) (ih.un (i + 1) _ _ (by omega) ⟨hM2, hq1.tr hq2⟩) rfl ?_
          rw [i32_s (i + 1), sShort_1 _ _ (Int32.not_lt.mpr h3)]
          simp
        · skip
          refine V_go 6 rfl ?_
          refine V.st (L' := [(0, .ref 38), (1, .int w), (2, .int (i32 (sShort T C (i + 1)).1)), (3, .int (sShort T C (i + 1)).2), (4, .int (i32 (i + 1 + 1)))]) (ih.un (i + 1) _ _ (by omega) ⟨hM2, hq1.tr hq2⟩) rfl ?_
          rw [i32_s (i + 1), sShort_0 _ _ (Int32.not_le.mp h3)]
          simp
  refine CT_of okX7_shortest (Nat.le_of_ble_eq_true rfl) ?_
  show V _ _ _ _ _ _ [(0, _), (1, _)] _ _ _ _ _
  refine V_go 4 rfl ?_
  refine cSI (mt' := mX7_in) rfl kX7_89 fX7_in rfl (Nat.le_of_ble_eq_true rfl) (Nat.le_of_ble_eq_true rfl) (Nat.le_refl _) (c_inI (lo := (0)) (hi := (1)) rfl (by decide +kernel) (by decide +kernel)) ?_
  refine V_if_ne rfl (fun h2 => ?_) (fun h2 => ?_)
  · skip
    have hw := w01.mp (b2i_n0.mp h2)
    refine V_go 5 rfl ?_
    refine cVP (mt' := mX7_goneBy) rfl kX7_282 fX7_goneBy rfl rfl rfl (Nat.le_of_ble_eq_true rfl) (Nat.le_of_ble_eq_true rfl) (Nat.le_of_ble_eq_true rfl) (Nat.le_of_ble_eq_true rfl) (Nat.le_refl _) (c_goneM (m := 0) hM (by omega)) ?_
    intro r61 Ir61 Jr61 h61
    obtain ⟨hv, hM2, hq2⟩ := h61
    subst hv
    refine V_go 3 rfl ?_
    exact (key hw _).un 0 _ _ (Nat.zero_add _) ⟨hM2, hq2⟩
  · skip
    refine V_go 1 rfl ?_
    refine V_iret rfl rfl rfl ?_
    exact RP.mk ⟨(if_neg (fun z => (b2i_eq0.mp h2) (w01.mpr z))).symm, hM, Mp.rf⟩
theorem sFew_i (T : TV) (C : CC) (k : Int32) : ∀ m, ((sFew T C k m).1 = -1 ∧ (sFew T C k m).2 = -1) ∨ ∃ f, f < m ∧ sFew T C k m = (i32 f, i32 (cnt f 8))
  | 0 => Or.inl ⟨rfl, rfl⟩
  | m + 1 => by
    rw [sFew]
    split
    · exact Or.inr ⟨m, by omega, rfl⟩
    · rcases sFew_i T C k m with h | ⟨f, hf, e⟩
      · exact Or.inl h
      · exact Or.inr ⟨f, by omega, e⟩
theorem sFew_y {T : TV} {C : CC} {k : Int32} {m : Nat} (h : (sFew T C k m).2 < i32 (cnt m 8)) (h2 : sGone T C m ≤ k) : sFew T C k (m + 1) = (i32 m, i32 (cnt m 8)) := by rw [sFew, if_pos ⟨h, h2⟩]
theorem sFew_n {T : TV} {C : CC} {k : Int32} {m : Nat} (h : ¬ ((sFew T C k m).2 < i32 (cnt m 8) ∧ sGone T C m ≤ k)) : sFew T C k (m + 1) = sFew T C k m := by rw [sFew, if_neg h]
theorem i32_n1 {f : Nat} (h : f < 100000) : ¬ i32 f = -1 := fun z => absurd (i32_nn f h) (by rw [z]; decide)

theorem c_fewest7 {tc : Nat} {I : I2} {J : J2} {T : TV} {C : CC} (hM : MC tc I J T C) {x : Int32} : CT mX7_fewest 48 58 58 [.ref 38, .int x] I J RF (RP RF (fun r9 I9 J9 => r9 = sFewest T C x ∧ MC tc I9 J9 T C ∧ Mp I I9)) := by
  obtain ⟨e1, e2, e3⟩ := hM.p2
  have key : (0 ≤ x ∧ x ≤ 999) → ∀ n, Hid (∀ (i : Nat) (I1 : I2) (J1 : J2), i + n = 2 ^ nC C → (MC tc I1 J1 T C ∧ Sm I I1) → V mX7_fewest none 48 58 (RP RF (fun r9 I9 J9 => r9 = sFewest T C x ∧ MC tc I9 J9 T C ∧ Mp I I9)) 19 [(0, .ref 38), (1, .int x), (2, .int (sFew T C x (i)).1), (3, .int (i32 (i)))] [] 58 I1 J1 RF) := by
    intro hx n
    induction n with
    | zero =>
      unfold Hid
      intro i I1 J1 hi ⟨hM1, hq1⟩
      obtain ⟨f1, f2, f3⟩ := hM1.p2
      refine V_go 5 rfl ?_
      refine V_icmp_ge rfl (fun h1 => ?_) (fun h1 => ?_)
      · skip
        refine V_go 1 rfl ?_
        refine V_iret rfl rfl rfl ?_
        refine RP.mk ⟨?_, hM1, hq1.mp⟩
        unfold sFewest
        rw [if_pos hx, show 2 ^ nC C = i from hi.symm]
      · skip
        rw [f1] at h1
        exact absurd ((i32_le (a := 2 ^ nC C) (b := i) (by omega) (by omega)).mpr (by omega)) h1
    | succ n ih =>
      unfold Hid
      intro i I1 J1 hi ⟨hM1, hq1⟩
      obtain ⟨f1, f2, f3⟩ := hM1.p2
      refine V_go 5 rfl ?_
      refine V_icmp_ge rfl (fun h1 => ?_) (fun h1 => ?_)
      · skip
        rw [f1] at h1
        exact absurd ((i32_le (a := 2 ^ nC C) (b := i) (by omega) (by omega)).mp h1) (by omega)
      · skip
        refine V_go 2 rfl ?_
        refine V_icmp_eq rfl (fun h2 => ?_) (fun h2 => ?_)
        · skip
          have hless : (sFew T C x i).2 < i32 (cnt i 8) := by
            rcases sFew_i T C x i with z | ⟨f, hf, e⟩
            · rw [z.2]; exact Int32.lt_of_lt_of_le (by decide) (i32_nn _ (by have := cnt_le i 8; omega))
            · rw [e] at h2; exact absurd h2 (i32_n1 (by omega))
          refine V_go 3 rfl ?_
          refine cVP (mt' := mX7_goneBy) rfl kX7_282 fX7_goneBy rfl rfl rfl (Nat.le_of_ble_eq_true rfl) (Nat.le_of_ble_eq_true rfl) (Nat.le_of_ble_eq_true rfl) (Nat.le_of_ble_eq_true rfl) (Nat.le_refl _) (c_goneM (m := i) hM1 (by omega)) ?_
          intro r41 Ir41 Jr41 h41
          obtain ⟨hv, hM2, hq2⟩ := h41
          subst hv
          refine V_go 1 rfl ?_
          refine V_icmp_gt rfl (fun h42 => ?_) (fun h42 => ?_)
          · skip
            refine V_go 2 rfl ?_
            refine V.st (L' := [(0, .ref 38), (1, .int x), (2, .int (sFew T C x (i + 1)).1), (3, .int (i32 (i + 1)))]) (ih.un (i + 1) _ _ (by omega) ⟨hM2, hq1.tr hq2⟩) rfl ?_
            rw [i32_s i, sFew_n (fun z => absurd z.2 (Int32.not_le.mpr h42))]
            simp
          · skip
            refine V_go 4 rfl ?_
            refine V.st (L' := [(0, .ref 38), (1, .int x), (2, .int (sFew T C x (i + 1)).1), (3, .int (i32 (i + 1)))]) (ih.un (i + 1) _ _ (by omega) ⟨hM2, hq1.tr hq2⟩) rfl ?_
            rw [i32_s i, sFew_y hless (Int32.not_lt.mp h42)]
            simp
        · skip
          obtain ⟨f, hf, hfe0⟩ := (sFew_i T C x i).resolve_left (fun z => h2 z.1)
          have hfe : (sFew T C x i).1 = i32 f := by rw [hfe0]
          refine V_go 1 rfl ?_
          refine cSI (mt' := mX7_bitsOf) rfl kX7_139 fX7_bitsOf rfl (Nat.le_of_ble_eq_true rfl) (Nat.le_of_ble_eq_true rfl) (Nat.le_refl _) (c_bitsOf7 (m := i) (by omega)) ?_
          refine V_go 1 rfl ?_
          refine cSI (mt' := mX7_bitsOf) rfl kX7_139 fX7_bitsOf rfl (Nat.le_of_ble_eq_true rfl) (Nat.le_of_ble_eq_true rfl) (Nat.le_refl _) ((by rw [hfe]; exact c_bitsOf7 (m := f) (by omega))) ?_
          have hfs : (sFew T C x i).2 = i32 (cnt f 8) := by rw [hfe0]
          refine V_icmp_le rfl (fun h33 => ?_) (fun h33 => ?_)
          · skip
            refine V_go 2 rfl ?_
            refine V.st (L' := [(0, .ref 38), (1, .int x), (2, .int (sFew T C x (i + 1)).1), (3, .int (i32 (i + 1)))]) (ih.un (i + 1) _ _ (by omega) ⟨hM1, hq1⟩) rfl ?_
            rw [i32_s i, sFew_n (fun z => absurd z.1 (by rw [hfs]; exact Int32.not_lt.mpr h33))]
            simp
          · skip
            have hless : (sFew T C x i).2 < i32 (cnt i 8) := by rw [hfs]; exact Int32.not_le.mp h33
            refine V_go 3 rfl ?_
            refine cVP (mt' := mX7_goneBy) rfl kX7_282 fX7_goneBy rfl rfl rfl (Nat.le_of_ble_eq_true rfl) (Nat.le_of_ble_eq_true rfl) (Nat.le_of_ble_eq_true rfl) (Nat.le_of_ble_eq_true rfl) (Nat.le_refl _) (c_goneM (m := i) hM1 (by omega)) ?_
            intro r41 Ir41 Jr41 h41
            obtain ⟨hv, hM2, hq2⟩ := h41
            subst hv
            refine V_go 1 rfl ?_
            refine V_icmp_gt rfl (fun h42 => ?_) (fun h42 => ?_)
            · skip
              refine V_go 2 rfl ?_
              refine V.st (L' := [(0, .ref 38), (1, .int x), (2, .int (sFew T C x (i + 1)).1), (3, .int (i32 (i + 1)))]) (ih.un (i + 1) _ _ (by omega) ⟨hM2, hq1.tr hq2⟩) rfl ?_
              rw [i32_s i, sFew_n (fun z => absurd z.2 (Int32.not_le.mpr h42))]
              simp
            · skip
              refine V_go 4 rfl ?_
              refine V.st (L' := [(0, .ref 38), (1, .int x), (2, .int (sFew T C x (i + 1)).1), (3, .int (i32 (i + 1)))]) (ih.un (i + 1) _ _ (by omega) ⟨hM2, hq1.tr hq2⟩) rfl ?_
              rw [i32_s i, sFew_y hless (Int32.not_lt.mp h42)]
              simp
  refine CT_of okX7_fewest (Nat.le_of_ble_eq_true rfl) ?_
  show V _ _ _ _ _ _ [(0, _), (1, _)] _ _ _ _ _
  refine V_go 4 rfl ?_
  refine cSI (mt' := mX7_in) rfl kX7_89 fX7_in rfl (Nat.le_of_ble_eq_true rfl) (Nat.le_of_ble_eq_true rfl) (Nat.le_refl _) (c_inI (lo := (0)) (hi := (999)) rfl (by decide +kernel) (by decide +kernel)) ?_
  refine V_if_ne rfl (fun h2 => ?_) (fun h2 => ?_)
  · skip
    have hx := b2i_n0.mp h2
    refine V_go 4 rfl ?_
    exact (key hx _).un 0 _ _ (Nat.zero_add _) ⟨hM, Sm.rf⟩
  · skip
    refine V_go 1 rfl ?_
    refine V_iret rfl rfl rfl ?_
    exact RP.mk ⟨(if_neg (b2i_eq0.mp h2)).symm, hM, Mp.rf⟩
theorem sTurn_y {T : TV} {C : CC} {m i : Nat} (h : (sTurn T C m i).1 = -1 ∨ sGone T C (m ^^^ 2 ^ i) < (sTurn T C m i).2) : sTurn T C m (i + 1) = (i32 i, sGone T C (m ^^^ 2 ^ i)) := by rw [sTurn, if_pos h]
theorem sTurn_n {T : TV} {C : CC} {m i : Nat} (h : ¬ ((sTurn T C m i).1 = -1 ∨ sGone T C (m ^^^ 2 ^ i) < (sTurn T C m i).2)) : sTurn T C m (i + 1) = sTurn T C m i := by rw [sTurn, if_neg h]

theorem c_turned7 {tc : Nat} {I : I2} {J : J2} {T : TV} {C : CC} (hM : MC tc I J T C) {w : Int32} : CT mX7_turned 48 58 58 [.ref 38, .int w] I J RF (RP RF (fun r9 I9 J9 => r9 = sTurned T C w ∧ MC tc I9 J9 T C ∧ Mp I I9)) := by
  obtain ⟨hn1, hn8, hm1, hm6, hC3, hC4⟩ := hM.nm
  have key : (w = 0 ∨ w = 1) → ∀ n, Hid (∀ (i : Nat) (I1 : I2) (J1 : J2), i + n = nC C → (MC tc I1 J1 T C ∧ Sm I I1) → V mX7_turned none 48 58 (RP RF (fun r9 I9 J9 => r9 = sTurned T C w ∧ MC tc I9 J9 T C ∧ Mp I I9)) 26 [(0, .ref 38), (1, .int w), (2, .int (i32 (sLst T C))), (3, .int (sTurn T C (sLst T C) (i)).1), (4, .int (sTurn T C (sLst T C) (i)).2), (5, .int (i32 (i)))] [] 58 I1 J1 RF) := by
    intro hw n
    induction n with
    | zero =>
      unfold Hid
      intro i I1 J1 hi ⟨hM1, hq1⟩
      have hn2 : I1 38 12 = i32 (nC C) := hM1.nm.1
      refine V_go 3 rfl ?_
      refine V_icmp_ge rfl (fun h1 => ?_) (fun h1 => ?_)
      · skip
        refine V_go 1 rfl ?_
        refine V_if_ne rfl (fun h2 => ?_) (fun h2 => ?_)
        · skip
          refine V_go 1 rfl ?_
          refine V_iret rfl rfl rfl ?_
          refine RP.mk ⟨?_, hM1, hq1.mp⟩
          unfold sTurned
          rw [if_pos hw, show nC C = i from hi.symm]
          first
            | (rw [if_pos (by assumption)]; done)
            | (rw [if_neg (by assumption)]; done)
        · skip
          refine V_go 2 rfl ?_
          refine V_iret rfl rfl rfl ?_
          refine RP.mk ⟨?_, hM1, hq1.mp⟩
          unfold sTurned
          rw [if_pos hw, show nC C = i from hi.symm]
          first
            | (rw [if_pos (by assumption)]; done)
            | (rw [if_neg (by assumption)]; done)
      · skip
        exact absurd (by rw [hn2, ← show i = nC C from hi]; exact Int32.le_refl _) h1
    | succ n ih =>
      unfold Hid
      intro i I1 J1 hi ⟨hM1, hq1⟩
      have hn2 : I1 38 12 = i32 (nC C) := hM1.nm.1
      refine V_go 3 rfl ?_
      refine V_icmp_ge rfl (fun h1 => ?_) (fun h1 => ?_)
      · skip
        exact absurd ((i32_le (a := nC C) (b := i) (by omega) (by omega)).mp (by rw [← hn2]; exact h1)) (by omega)
      · skip
        refine V_go 7 rfl ?_
        refine cVP (mt' := mX7_goneBy) rfl kX7_282 fX7_goneBy rfl rfl rfl (Nat.le_of_ble_eq_true rfl) (Nat.le_of_ble_eq_true rfl) (Nat.le_of_ble_eq_true rfl) (Nat.le_of_ble_eq_true rfl) (Nat.le_refl _) ((by rw [(xor_n _ hM.l256 i (by omega)).1]; exact c_goneM hM1 (xor_n _ hM.l256 i (by omega)).2)) ?_
        intro r2 Ir2 Jr2 h2
        obtain ⟨hv, hM2, hq2⟩ := h2
        subst hv
        refine V_go 3 rfl ?_
        refine V_icmp_eq rfl (fun h3 => ?_) (fun h3 => ?_)
        · skip
          refine V_go 6 rfl ?_
          refine V.st (L' := [(0, .ref 38), (1, .int w), (2, .int (i32 (sLst T C))), (3, .int (sTurn T C (sLst T C) (i + 1)).1), (4, .int (sTurn T C (sLst T C) (i + 1)).2), (5, .int (i32 (i + 1)))]) (ih.un (i + 1) _ _ (by omega) ⟨hM2, hq1.tr hq2⟩) rfl ?_
          rw [i32_s i, sTurn_y (Or.inl h3)]
          simp
        · skip
          have hnn := h3
          refine V_go 2 rfl ?_
          refine V_icmp_ge rfl (fun h31 => ?_) (fun h31 => ?_)
          · skip
            refine V_go 2 rfl ?_
            refine V.st (L' := [(0, .ref 38), (1, .int w), (2, .int (i32 (sLst T C))), (3, .int (sTurn T C (sLst T C) (i + 1)).1), (4, .int (sTurn T C (sLst T C) (i + 1)).2), (5, .int (i32 (i + 1)))]) (ih.un (i + 1) _ _ (by omega) ⟨hM2, hq1.tr hq2⟩) rfl ?_
            rw [i32_s i, sTurn_n (fun z => z.elim hnn (Int32.not_lt.mpr h31))]
            simp
          · skip
            refine V_go 6 rfl ?_
            refine V.st (L' := [(0, .ref 38), (1, .int w), (2, .int (i32 (sLst T C))), (3, .int (sTurn T C (sLst T C) (i + 1)).1), (4, .int (sTurn T C (sLst T C) (i + 1)).2), (5, .int (i32 (i + 1)))]) (ih.un (i + 1) _ _ (by omega) ⟨hM2, hq1.tr hq2⟩) rfl ?_
            rw [i32_s i, sTurn_y (Or.inr (Int32.not_le.mp h31))]
            simp
  refine CT_of okX7_turned (Nat.le_of_ble_eq_true rfl) ?_
  show V _ _ _ _ _ _ [(0, _), (1, _)] _ _ _ _ _
  refine V_go 4 rfl ?_
  refine cSI (mt' := mX7_in) rfl kX7_89 fX7_in rfl (Nat.le_of_ble_eq_true rfl) (Nat.le_of_ble_eq_true rfl) (Nat.le_refl _) (c_inI (lo := (0)) (hi := (1)) rfl (by decide +kernel) (by decide +kernel)) ?_
  refine V_if_ne rfl (fun h2 => ?_) (fun h2 => ?_)
  · skip
    have hw := w01.mp (b2i_n0.mp h2)
    refine V_go 1 rfl ?_
    refine cVP (mt' := mX7_listNow) rfl kX7_135 fX7_listNow rfl rfl rfl (Nat.le_of_ble_eq_true rfl) (Nat.le_of_ble_eq_true rfl) (Nat.le_of_ble_eq_true rfl) (Nat.le_of_ble_eq_true rfl) (Nat.le_refl _) (c_listNow7 hM) ?_
    intro r61 Ir61 Jr61 h61
    obtain ⟨hv, hM2, hq2⟩ := h61
    subst hv
    refine V_go 7 rfl ?_
    exact (key hw _).un 0 _ _ (Nat.zero_add _) ⟨hM2, hq2⟩
  · skip
    refine V_go 1 rfl ?_
    refine V_iret rfl rfl rfl ?_
    exact RP.mk ⟨(if_neg (fun z => (b2i_eq0.mp h2) (w01.mpr z))).symm, hM, Mp.rf⟩
