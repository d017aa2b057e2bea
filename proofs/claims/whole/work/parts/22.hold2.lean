theorem cOf_0 {I I1 : I2} {o : Nat} (h : cOf I1 o 0 = cOf I o 0) : I1 o 2 = I o 2 ∧ I1 o 3 = I o 3 ∧ I1 o 4 = I o 4 ∧ I1 o 5 = I o 5 ∧ I1 o 9 = I o 9 := ⟨congrFun h 0, congrFun h 1, congrFun h 2, congrFun h 3, congrFun h 4⟩
theorem c_hold_7 {I : I2} {J : J2} {T : TV} (hC : Cok I 7 T) : CT mX0_hold 7 58 58 [.ref 7] I J RF (RP RF (fun r I1 J1 => r = (sHold T (cOf I 7)).2 ∧ cOf I1 7 = (sHold T (cOf I 7)).1 ∧ J1 = J ∧ Fr 7 I I1)) := by
  have ho := hC.1
  obtain ⟨-, hT, hr0, hr1, hn0, hn8, hi0, hi6⟩ := id hC
  obtain ⟨e9, hM6⟩ := mC_i hi0 hi6
  refine CT_of okX0_hold (Nat.le_of_ble_eq_true rfl) ?_
  show V _ _ _ _ _ _ [(0, _)] _ _ _ _ _
  have key : ∀ n, Hid (∀ (i : Nat) (I1 : I2), i + n = mC (cOf I 7) → (cOf I1 7 = (sHoldN (cOf I 7) (sLeft T (cOf I 7)) i).1 ∧ Fr 7 I I1) → V mX0_hold none 7 58 (RP RF (fun r I1 J1 => r = (sHold T (cOf I 7)).2 ∧ cOf I1 7 = (sHold T (cOf I 7)).1 ∧ J1 = J ∧ Fr 7 I I1)) 7 [(0, .ref 7), (1, .int (sHoldN (cOf I 7) (sLeft T (cOf I 7)) i).2), (2, .int (i32 i))] [] 58 I1 J RF) := by
    intro n
    induction n with
    | zero =>
      unfold Hid
      intro i I1 hi ⟨hs, hq⟩
      have h00 : cOf I1 7 0 = cOf I 7 0 := by rw [hs]; exact sHoldN_0 _ _ _
      obtain ⟨f0, -, -, -, f9⟩ := cOf_0 h00
      refine V_go 3 rfl ?_
      refine V_icmp_ge rfl (fun h1 => ?_) (fun h1 => ?_)
      · skip
        refine V_go 7 rfl ?_
        refine V_iret rfl rfl rfl ?_
        refine RP.mk ⟨?_, ?_, rfl, hq.tr (Fr.up (by omega))⟩
        · rw [show i = mC (cOf I 7) from hi]; rfl
        · rw [cOf_fld (o := 7) (f := 2) (by omega), hs, f0, show i = mC (cOf I 7) from hi]; rfl
      · skip
        exfalso
        rw [f9, e9] at h1
        exact h1 (lp_stop hi)
    | succ n ih =>
      unfold Hid
      intro i I1 hi ⟨hs, hq⟩
      have h00 : cOf I1 7 0 = cOf I 7 0 := by rw [hs]; exact sHoldN_0 _ _ _
      obtain ⟨f0, -, -, -, f9⟩ := cOf_0 h00
      refine V_go 3 rfl ?_
      refine V_icmp_ge rfl (fun h1 => ?_) (fun h1 => ?_)
      · skip
        exfalso
        rw [f9, e9] at h1
        exact lp_more (by omega) (by omega) h1
      · skip
        refine V_go 4 rfl ?_
        refine cVP (mt' := mX0_goOnWith) rfl kX0_139 fX0_goOnWith rfl rfl rfl (Nat.le_of_ble_eq_true rfl) (Nat.le_of_ble_eq_true rfl) (Nat.le_of_ble_eq_true rfl) (Nat.le_of_ble_eq_true rfl) (Nat.le_refl _) (c_goOnWith (i := i) (hC.fr hq h00) (by rw [hs]; show i < ((sHoldN (cOf I 7) (sLeft T (cOf I 7)) i).1 0 4).toNatClampNeg; rw [sHoldN_0]; show i < mC (cOf I 7); omega)) ?_
        intro r2 Ir2 Jr2 h2
        obtain ⟨hv, hc2, rfl, hq2⟩ := h2
        refine V_go 4 rfl ?_
        refine V.st (I' := Ir2) (L' := [(0, .ref 7), (1, .int (sHoldN (cOf I 7) (sLeft T (cOf I 7)) (i + 1)).2), (2, .int (i32 (i + 1)))]) (ih.un (i + 1) Ir2 (by omega) ⟨?_, hq.tr hq2⟩) rfl ?_
        · rw [hc2, hs]; rfl
        · rw [i32_s, hv, hs]
          simp [sHoldN]
  refine V_go 1 rfl ?_
  refine cVP (mt' := mX0_minutesLeft) rfl kX0_136 fX0_minutesLeft rfl rfl rfl (Nat.le_of_ble_eq_true rfl) (Nat.le_of_ble_eq_true rfl) (Nat.le_of_ble_eq_true rfl) (Nat.le_of_ble_eq_true rfl) (Nat.le_refl _) (c_minutesLeft hC) ?_
  intro r1 Ir1 Jr1 h1
  obtain ⟨rfl, rfl, hq⟩ := h1
  refine V_go 3 rfl ?_
  exact (key _).un 0 Ir1 (Nat.zero_add _) ⟨cOf_sq ho hq, hq.fr⟩
theorem c_hold_15 {I : I2} {J : J2} {T : TV} (hC : Cok I 15 T) : CT mX0_hold 7 58 58 [.ref 15] I J RF (RP RF (fun r I1 J1 => r = (sHold T (cOf I 15)).2 ∧ cOf I1 15 = (sHold T (cOf I 15)).1 ∧ J1 = J ∧ Fr 15 I I1)) := by
  have ho := hC.1
  obtain ⟨-, hT, hr0, hr1, hn0, hn8, hi0, hi6⟩ := id hC
  obtain ⟨e9, hM6⟩ := mC_i hi0 hi6
  refine CT_of okX0_hold (Nat.le_of_ble_eq_true rfl) ?_
  show V _ _ _ _ _ _ [(0, _)] _ _ _ _ _
  have key : ∀ n, Hid (∀ (i : Nat) (I1 : I2), i + n = mC (cOf I 15) → (cOf I1 15 = (sHoldN (cOf I 15) (sLeft T (cOf I 15)) i).1 ∧ Fr 15 I I1) → V mX0_hold none 7 58 (RP RF (fun r I1 J1 => r = (sHold T (cOf I 15)).2 ∧ cOf I1 15 = (sHold T (cOf I 15)).1 ∧ J1 = J ∧ Fr 15 I I1)) 7 [(0, .ref 15), (1, .int (sHoldN (cOf I 15) (sLeft T (cOf I 15)) i).2), (2, .int (i32 i))] [] 58 I1 J RF) := by
    intro n
    induction n with
    | zero =>
      unfold Hid
      intro i I1 hi ⟨hs, hq⟩
      have h00 : cOf I1 15 0 = cOf I 15 0 := by rw [hs]; exact sHoldN_0 _ _ _
      obtain ⟨f0, -, -, -, f9⟩ := cOf_0 h00
      refine V_go 3 rfl ?_
      refine V_icmp_ge rfl (fun h1 => ?_) (fun h1 => ?_)
      · skip
        refine V_go 7 rfl ?_
        refine V_iret rfl rfl rfl ?_
        refine RP.mk ⟨?_, ?_, rfl, hq.tr (Fr.up (by omega))⟩
        · rw [show i = mC (cOf I 15) from hi]; rfl
        · rw [cOf_fld (o := 15) (f := 2) (by omega), hs, f0, show i = mC (cOf I 15) from hi]; rfl
      · skip
        exfalso
        rw [f9, e9] at h1
        exact h1 (lp_stop hi)
    | succ n ih =>
      unfold Hid
      intro i I1 hi ⟨hs, hq⟩
      have h00 : cOf I1 15 0 = cOf I 15 0 := by rw [hs]; exact sHoldN_0 _ _ _
      obtain ⟨f0, -, -, -, f9⟩ := cOf_0 h00
      refine V_go 3 rfl ?_
      refine V_icmp_ge rfl (fun h1 => ?_) (fun h1 => ?_)
      · skip
        exfalso
        rw [f9, e9] at h1
        exact lp_more (by omega) (by omega) h1
      · skip
        refine V_go 4 rfl ?_
        refine cVP (mt' := mX0_goOnWith) rfl kX0_139 fX0_goOnWith rfl rfl rfl (Nat.le_of_ble_eq_true rfl) (Nat.le_of_ble_eq_true rfl) (Nat.le_of_ble_eq_true rfl) (Nat.le_of_ble_eq_true rfl) (Nat.le_refl _) (c_goOnWith (i := i) (hC.fr hq h00) (by rw [hs]; show i < ((sHoldN (cOf I 15) (sLeft T (cOf I 15)) i).1 0 4).toNatClampNeg; rw [sHoldN_0]; show i < mC (cOf I 15); omega)) ?_
        intro r2 Ir2 Jr2 h2
        obtain ⟨hv, hc2, rfl, hq2⟩ := h2
        refine V_go 4 rfl ?_
        refine V.st (I' := Ir2) (L' := [(0, .ref 15), (1, .int (sHoldN (cOf I 15) (sLeft T (cOf I 15)) (i + 1)).2), (2, .int (i32 (i + 1)))]) (ih.un (i + 1) Ir2 (by omega) ⟨?_, hq.tr hq2⟩) rfl ?_
        · rw [hc2, hs]; rfl
        · rw [i32_s, hv, hs]
          simp [sHoldN]
  refine V_go 1 rfl ?_
  refine cVP (mt' := mX0_minutesLeft) rfl kX0_136 fX0_minutesLeft rfl rfl rfl (Nat.le_of_ble_eq_true rfl) (Nat.le_of_ble_eq_true rfl) (Nat.le_of_ble_eq_true rfl) (Nat.le_of_ble_eq_true rfl) (Nat.le_refl _) (c_minutesLeft hC) ?_
  intro r1 Ir1 Jr1 h1
  obtain ⟨rfl, rfl, hq⟩ := h1
  refine V_go 3 rfl ?_
  exact (key _).un 0 Ir1 (Nat.zero_add _) ⟨cOf_sq ho hq, hq.fr⟩
theorem c_hold_23 {I : I2} {J : J2} {T : TV} (hC : Cok I 23 T) : CT mX0_hold 7 58 58 [.ref 23] I J RF (RP RF (fun r I1 J1 => r = (sHold T (cOf I 23)).2 ∧ cOf I1 23 = (sHold T (cOf I 23)).1 ∧ J1 = J ∧ Fr 23 I I1)) := by
  have ho := hC.1
  obtain ⟨-, hT, hr0, hr1, hn0, hn8, hi0, hi6⟩ := id hC
  obtain ⟨e9, hM6⟩ := mC_i hi0 hi6
  refine CT_of okX0_hold (Nat.le_of_ble_eq_true rfl) ?_
  show V _ _ _ _ _ _ [(0, _)] _ _ _ _ _
  have key : ∀ n, Hid (∀ (i : Nat) (I1 : I2), i + n = mC (cOf I 23) → (cOf I1 23 = (sHoldN (cOf I 23) (sLeft T (cOf I 23)) i).1 ∧ Fr 23 I I1) → V mX0_hold none 7 58 (RP RF (fun r I1 J1 => r = (sHold T (cOf I 23)).2 ∧ cOf I1 23 = (sHold T (cOf I 23)).1 ∧ J1 = J ∧ Fr 23 I I1)) 7 [(0, .ref 23), (1, .int (sHoldN (cOf I 23) (sLeft T (cOf I 23)) i).2), (2, .int (i32 i))] [] 58 I1 J RF) := by
    intro n
    induction n with
    | zero =>
      unfold Hid
      intro i I1 hi ⟨hs, hq⟩
      have h00 : cOf I1 23 0 = cOf I 23 0 := by rw [hs]; exact sHoldN_0 _ _ _
      obtain ⟨f0, -, -, -, f9⟩ := cOf_0 h00
      refine V_go 3 rfl ?_
      refine V_icmp_ge rfl (fun h1 => ?_) (fun h1 => ?_)
      · skip
        refine V_go 7 rfl ?_
        refine V_iret rfl rfl rfl ?_
        refine RP.mk ⟨?_, ?_, rfl, hq.tr (Fr.up (by omega))⟩
        · rw [show i = mC (cOf I 23) from hi]; rfl
        · rw [cOf_fld (o := 23) (f := 2) (by omega), hs, f0, show i = mC (cOf I 23) from hi]; rfl
      · skip
        exfalso
        rw [f9, e9] at h1
        exact h1 (lp_stop hi)
    | succ n ih =>
      unfold Hid
      intro i I1 hi ⟨hs, hq⟩
      have h00 : cOf I1 23 0 = cOf I 23 0 := by rw [hs]; exact sHoldN_0 _ _ _
      obtain ⟨f0, -, -, -, f9⟩ := cOf_0 h00
      refine V_go 3 rfl ?_
      refine V_icmp_ge rfl (fun h1 => ?_) (fun h1 => ?_)
      · skip
        exfalso
        rw [f9, e9] at h1
        exact lp_more (by omega) (by omega) h1
      · skip
        refine V_go 4 rfl ?_
        refine cVP (mt' := mX0_goOnWith) rfl kX0_139 fX0_goOnWith rfl rfl rfl (Nat.le_of_ble_eq_true rfl) (Nat.le_of_ble_eq_true rfl) (Nat.le_of_ble_eq_true rfl) (Nat.le_of_ble_eq_true rfl) (Nat.le_refl _) (c_goOnWith (i := i) (hC.fr hq h00) (by rw [hs]; show i < ((sHoldN (cOf I 23) (sLeft T (cOf I 23)) i).1 0 4).toNatClampNeg; rw [sHoldN_0]; show i < mC (cOf I 23); omega)) ?_
        intro r2 Ir2 Jr2 h2
        obtain ⟨hv, hc2, rfl, hq2⟩ := h2
        refine V_go 4 rfl ?_
        refine V.st (I' := Ir2) (L' := [(0, .ref 23), (1, .int (sHoldN (cOf I 23) (sLeft T (cOf I 23)) (i + 1)).2), (2, .int (i32 (i + 1)))]) (ih.un (i + 1) Ir2 (by omega) ⟨?_, hq.tr hq2⟩) rfl ?_
        · rw [hc2, hs]; rfl
        · rw [i32_s, hv, hs]
          simp [sHoldN]
  refine V_go 1 rfl ?_
  refine cVP (mt' := mX0_minutesLeft) rfl kX0_136 fX0_minutesLeft rfl rfl rfl (Nat.le_of_ble_eq_true rfl) (Nat.le_of_ble_eq_true rfl) (Nat.le_of_ble_eq_true rfl) (Nat.le_of_ble_eq_true rfl) (Nat.le_refl _) (c_minutesLeft hC) ?_
  intro r1 Ir1 Jr1 h1
  obtain ⟨rfl, rfl, hq⟩ := h1
  refine V_go 3 rfl ?_
  exact (key _).un 0 Ir1 (Nat.zero_add _) ⟨cOf_sq ho hq, hq.fr⟩
theorem c_hold {o : Nat} {I : I2} {J : J2} {T : TV} (hC : Cok I o T) : CT mX0_hold 7 58 58 [.ref o] I J RF (RP RF (fun r I1 J1 => r = (sHold T (cOf I o)).2 ∧ cOf I1 o = (sHold T (cOf I o)).1 ∧ J1 = J ∧ Fr o I I1)) := by
  rcases hC.1 with rfl | rfl | rfl
  · exact c_hold_7 hC
  · exact c_hold_15 hC
  · exact c_hold_23 hC
theorem c_itemsDone_7 {I : I2} {J : J2} {T : TV} (hC : Cok I 7 T) : CT mX0_itemsDone 3 58 58 [.ref 7] I J RF (RI RF (sCntD (cOf I 7) (mC (cOf I 7))) I J) := by
  have ho := hC.1
  obtain ⟨-, hT, hr0, hr1, hn0, hn8, hi0, hi6⟩ := id hC
  obtain ⟨e9, hM6⟩ := mC_i hi0 hi6
  refine CT_of okX0_itemsDone (Nat.le_of_ble_eq_true rfl) ?_
  show V _ _ _ _ _ _ [(0, _)] _ _ _ _ _
  have key : ∀ n, Hid (∀ (i : Nat), i + n = mC (cOf I 7) → True → V mX0_itemsDone none 3 58 (RI RF (sCntD (cOf I 7) (mC (cOf I 7))) I J) 4 [(0, .ref 7), (1, .int (sCntD (cOf I 7) i)), (2, .int (i32 i))] [] 58 I J RF) := by
    intro n
    induction n with
    | zero =>
      unfold Hid
      intro i  hi _
      refine V_go 3 rfl ?_
      refine V_icmp_ge rfl (fun h1 => ?_) (fun h1 => ?_)
      · skip
        refine V_go 1 rfl ?_
        refine V_iret rfl rfl rfl ?_
        exact RI.mk (by rw [show i = mC (cOf I 7) from hi])
      · skip
        exfalso
        rw [e9] at h1
        exact h1 (lp_stop hi)
    | succ n ih =>
      unfold Hid
      intro i  hi _
      refine V_go 3 rfl ?_
      refine V_icmp_ge rfl (fun h1 => ?_) (fun h1 => ?_)
      · skip
        exfalso
        rw [e9] at h1
        exact lp_more (by omega) (by omega) h1
      · skip
        refine V_go 3 rfl ?_
        refine cVI (mt' := mX0_doneAt) rfl kX0_68 fX0_doneAt rfl rfl rfl (Nat.le_of_ble_eq_true rfl) (Nat.le_of_ble_eq_true rfl) (Nat.le_of_ble_eq_true rfl) (Nat.le_of_ble_eq_true rfl) (Nat.le_refl _) (c_doneAtR ho (by rw [e9]; grind [i32_ti]) (by omega)) ?_
        refine V_go 1 rfl ?_
        refine V_icmp_ne rfl (fun h3 => ?_) (fun h3 => ?_)
        · skip
          refine V_go 5 rfl ?_
          refine V.st (I' := I) (L' := [(0, .ref 7), (1, .int (sCntD (cOf I 7) (i + 1))), (2, .int (i32 (i + 1)))]) (ih.un (i + 1) (by omega) trivial) rfl ?_
          rw [i32_s]
          first
            | (rw [sCntD, if_pos (by simp only [cOf]; assumption)]; simp)
            | (rw [sCntD, if_neg (by simp only [cOf]; assumption)]; simp)
        · skip
          refine V_go 6 rfl ?_
          refine V.st (I' := I) (L' := [(0, .ref 7), (1, .int (sCntD (cOf I 7) (i + 1))), (2, .int (i32 (i + 1)))]) (ih.un (i + 1) (by omega) trivial) rfl ?_
          rw [i32_s]
          first
            | (rw [sCntD, if_pos (by simp only [cOf]; assumption)]; simp)
            | (rw [sCntD, if_neg (by simp only [cOf]; assumption)]; simp)
  refine V_go 4 rfl ?_
  exact (key _).un 0 (Nat.zero_add _) trivial
theorem c_itemsDone_15 {I : I2} {J : J2} {T : TV} (hC : Cok I 15 T) : CT mX0_itemsDone 3 58 58 [.ref 15] I J RF (RI RF (sCntD (cOf I 15) (mC (cOf I 15))) I J) := by
  have ho := hC.1
  obtain ⟨-, hT, hr0, hr1, hn0, hn8, hi0, hi6⟩ := id hC
  obtain ⟨e9, hM6⟩ := mC_i hi0 hi6
  refine CT_of okX0_itemsDone (Nat.le_of_ble_eq_true rfl) ?_
  show V _ _ _ _ _ _ [(0, _)] _ _ _ _ _
  have key : ∀ n, Hid (∀ (i : Nat), i + n = mC (cOf I 15) → True → V mX0_itemsDone none 3 58 (RI RF (sCntD (cOf I 15) (mC (cOf I 15))) I J) 4 [(0, .ref 15), (1, .int (sCntD (cOf I 15) i)), (2, .int (i32 i))] [] 58 I J RF) := by
    intro n
    induction n with
    | zero =>
      unfold Hid
      intro i  hi _
      refine V_go 3 rfl ?_
      refine V_icmp_ge rfl (fun h1 => ?_) (fun h1 => ?_)
      · skip
        refine V_go 1 rfl ?_
        refine V_iret rfl rfl rfl ?_
        exact RI.mk (by rw [show i = mC (cOf I 15) from hi])
      · skip
        exfalso
        rw [e9] at h1
        exact h1 (lp_stop hi)
    | succ n ih =>
      unfold Hid
      intro i  hi _
      refine V_go 3 rfl ?_
      refine V_icmp_ge rfl (fun h1 => ?_) (fun h1 => ?_)
      · skip
        exfalso
        rw [e9] at h1
        exact lp_more (by omega) (by omega) h1
      · skip
        refine V_go 3 rfl ?_
        refine cVI (mt' := mX0_doneAt) rfl kX0_68 fX0_doneAt rfl rfl rfl (Nat.le_of_ble_eq_true rfl) (Nat.le_of_ble_eq_true rfl) (Nat.le_of_ble_eq_true rfl) (Nat.le_of_ble_eq_true rfl) (Nat.le_refl _) (c_doneAtR ho (by rw [e9]; grind [i32_ti]) (by omega)) ?_
        refine V_go 1 rfl ?_
        refine V_icmp_ne rfl (fun h3 => ?_) (fun h3 => ?_)
        · skip
          refine V_go 5 rfl ?_
          refine V.st (I' := I) (L' := [(0, .ref 15), (1, .int (sCntD (cOf I 15) (i + 1))), (2, .int (i32 (i + 1)))]) (ih.un (i + 1) (by omega) trivial) rfl ?_
          rw [i32_s]
          first
            | (rw [sCntD, if_pos (by simp only [cOf]; assumption)]; simp)
            | (rw [sCntD, if_neg (by simp only [cOf]; assumption)]; simp)
        · skip
          refine V_go 6 rfl ?_
          refine V.st (I' := I) (L' := [(0, .ref 15), (1, .int (sCntD (cOf I 15) (i + 1))), (2, .int (i32 (i + 1)))]) (ih.un (i + 1) (by omega) trivial) rfl ?_
          rw [i32_s]
          first
            | (rw [sCntD, if_pos (by simp only [cOf]; assumption)]; simp)
            | (rw [sCntD, if_neg (by simp only [cOf]; assumption)]; simp)
  refine V_go 4 rfl ?_
  exact (key _).un 0 (Nat.zero_add _) trivial
theorem c_itemsDone_23 {I : I2} {J : J2} {T : TV} (hC : Cok I 23 T) : CT mX0_itemsDone 3 58 58 [.ref 23] I J RF (RI RF (sCntD (cOf I 23) (mC (cOf I 23))) I J) := by
  have ho := hC.1
  obtain ⟨-, hT, hr0, hr1, hn0, hn8, hi0, hi6⟩ := id hC
  obtain ⟨e9, hM6⟩ := mC_i hi0 hi6
  refine CT_of okX0_itemsDone (Nat.le_of_ble_eq_true rfl) ?_
  show V _ _ _ _ _ _ [(0, _)] _ _ _ _ _
  have key : ∀ n, Hid (∀ (i : Nat), i + n = mC (cOf I 23) → True → V mX0_itemsDone none 3 58 (RI RF (sCntD (cOf I 23) (mC (cOf I 23))) I J) 4 [(0, .ref 23), (1, .int (sCntD (cOf I 23) i)), (2, .int (i32 i))] [] 58 I J RF) := by
    intro n
    induction n with
    | zero =>
      unfold Hid
      intro i  hi _
      refine V_go 3 rfl ?_
      refine V_icmp_ge rfl (fun h1 => ?_) (fun h1 => ?_)
      · skip
        refine V_go 1 rfl ?_
        refine V_iret rfl rfl rfl ?_
        exact RI.mk (by rw [show i = mC (cOf I 23) from hi])
      · skip
        exfalso
        rw [e9] at h1
        exact h1 (lp_stop hi)
    | succ n ih =>
      unfold Hid
      intro i  hi _
      refine V_go 3 rfl ?_
      refine V_icmp_ge rfl (fun h1 => ?_) (fun h1 => ?_)
      · skip
        exfalso
        rw [e9] at h1
        exact lp_more (by omega) (by omega) h1
      · skip
        refine V_go 3 rfl ?_
        refine cVI (mt' := mX0_doneAt) rfl kX0_68 fX0_doneAt rfl rfl rfl (Nat.le_of_ble_eq_true rfl) (Nat.le_of_ble_eq_true rfl) (Nat.le_of_ble_eq_true rfl) (Nat.le_of_ble_eq_true rfl) (Nat.le_refl _) (c_doneAtR ho (by rw [e9]; grind [i32_ti]) (by omega)) ?_
        refine V_go 1 rfl ?_
        refine V_icmp_ne rfl (fun h3 => ?_) (fun h3 => ?_)
        · skip
          refine V_go 5 rfl ?_
          refine V.st (I' := I) (L' := [(0, .ref 23), (1, .int (sCntD (cOf I 23) (i + 1))), (2, .int (i32 (i + 1)))]) (ih.un (i + 1) (by omega) trivial) rfl ?_
          rw [i32_s]
          first
            | (rw [sCntD, if_pos (by simp only [cOf]; assumption)]; simp)
            | (rw [sCntD, if_neg (by simp only [cOf]; assumption)]; simp)
        · skip
          refine V_go 6 rfl ?_
          refine V.st (I' := I) (L' := [(0, .ref 23), (1, .int (sCntD (cOf I 23) (i + 1))), (2, .int (i32 (i + 1)))]) (ih.un (i + 1) (by omega) trivial) rfl ?_
          rw [i32_s]
          first
            | (rw [sCntD, if_pos (by simp only [cOf]; assumption)]; simp)
            | (rw [sCntD, if_neg (by simp only [cOf]; assumption)]; simp)
  refine V_go 4 rfl ?_
  exact (key _).un 0 (Nat.zero_add _) trivial
theorem c_itemsDone {o : Nat} {I : I2} {J : J2} {T : TV} (hC : Cok I o T) : CT mX0_itemsDone 3 58 58 [.ref o] I J RF (RI RF (sCntD (cOf I o) (mC (cOf I o))) I J) := by
  rcases hC.1 with rfl | rfl | rfl
  · exact c_itemsDone_7 hC
  · exact c_itemsDone_15 hC
  · exact c_itemsDone_23 hC
