theorem sGn_congr {T : TV} {C : CC} {p q : Nat → Bool} {m : Nat} : ∀ n, (∀ i, i < n → p i = q i) → sGn T C p m n = sGn T C q m n
  | 0, _ => rfl
  | n + 1, h => by rw [sGn, sGn, sGn_congr n (fun i hi => h i (by omega)), h n (by omega)]
theorem evr_bits {N : Nat} (hN : N ≤ 8) : ∀ i, i < 8 → ((1 : Int32) <<< (i32 N &&& 31) - 1) >>> (i32 i &&& 31) &&& 1 = if decide (i < N) then 1 else 0 := by
  have : N = 0 ∨ N = 1 ∨ N = 2 ∨ N = 3 ∨ N = 4 ∨ N = 5 ∨ N = 6 ∨ N = 7 ∨ N = 8 := by omega
  rcases this with rfl | rfl | rfl | rfl | rfl | rfl | rfl | rfl | rfl <;> decide +kernel
theorem sGn_all {T : TV} {C : CC} {m N : Nat} : sGn T C (fun i => decide (i < N)) m N = sGn T C (fun _ => true) m N := sGn_congr N (fun i hi => by simp [hi])
theorem c_spentBy_7 {m : Nat} {I : I2} {J : J2} {T : TV} (hC : Cok I 7 T) (hm : m < 256) : CT mX0_spentBy 6 58 58 [.ref 7, .int (i32 m)] I J RF (RP RF (fun r I1 J1 => r = sGone T (cOf I 7) m ∧ J1 = J ∧ Sq 7 I I1)) := by
  have ho := hC.1
  obtain ⟨-, hT, hr0, hr1, hn0, hn8, hi0, hi6⟩ := id hC
  obtain ⟨e5, hN8⟩ := nC_i hn0 hn8
  refine CT_of okX0_spentBy (Nat.le_of_ble_eq_true rfl) ?_
  show V _ _ _ _ _ _ [(0, _), (1, _)] _ _ _ _ _
  refine V_go 2 rfl ?_
  refine cVI (mt' := mX0_everyone) rfl kX0_121 fX0_everyone rfl rfl rfl (Nat.le_of_ble_eq_true rfl) (Nat.le_of_ble_eq_true rfl) (Nat.le_of_ble_eq_true rfl) (Nat.le_of_ble_eq_true rfl) (Nat.le_refl _) (c_everyone ho) ?_
  refine V_go 1 rfl ?_
  refine cVP (mt' := mX0_spentOn) rfl kX0_125 fX0_spentOn rfl rfl rfl (Nat.le_of_ble_eq_true rfl) (Nat.le_of_ble_eq_true rfl) (Nat.le_of_ble_eq_true rfl) (Nat.le_of_ble_eq_true rfl) (Nat.le_refl _) (c_spentOn (p := fun i => decide (i < nC (cOf I 7))) (m := m) hC (fun i hi => by rw [e5]; exact evr_bits hN8 i hi) hm) ?_
  intro r2 Ir2 Jr2 h2
  obtain ⟨rfl, rfl, hq2⟩ := h2
  refine V_iret rfl rfl rfl ?_
  exact RP.mk ⟨sGn_all, rfl, hq2⟩
theorem c_spentBy_15 {m : Nat} {I : I2} {J : J2} {T : TV} (hC : Cok I 15 T) (hm : m < 256) : CT mX0_spentBy 6 58 58 [.ref 15, .int (i32 m)] I J RF (RP RF (fun r I1 J1 => r = sGone T (cOf I 15) m ∧ J1 = J ∧ Sq 15 I I1)) := by
  have ho := hC.1
  obtain ⟨-, hT, hr0, hr1, hn0, hn8, hi0, hi6⟩ := id hC
  obtain ⟨e5, hN8⟩ := nC_i hn0 hn8
  refine CT_of okX0_spentBy (Nat.le_of_ble_eq_true rfl) ?_
  show V _ _ _ _ _ _ [(0, _), (1, _)] _ _ _ _ _
  refine V_go 2 rfl ?_
  refine cVI (mt' := mX0_everyone) rfl kX0_121 fX0_everyone rfl rfl rfl (Nat.le_of_ble_eq_true rfl) (Nat.le_of_ble_eq_true rfl) (Nat.le_of_ble_eq_true rfl) (Nat.le_of_ble_eq_true rfl) (Nat.le_refl _) (c_everyone ho) ?_
  refine V_go 1 rfl ?_
  refine cVP (mt' := mX0_spentOn) rfl kX0_125 fX0_spentOn rfl rfl rfl (Nat.le_of_ble_eq_true rfl) (Nat.le_of_ble_eq_true rfl) (Nat.le_of_ble_eq_true rfl) (Nat.le_of_ble_eq_true rfl) (Nat.le_refl _) (c_spentOn (p := fun i => decide (i < nC (cOf I 15))) (m := m) hC (fun i hi => by rw [e5]; exact evr_bits hN8 i hi) hm) ?_
  intro r2 Ir2 Jr2 h2
  obtain ⟨rfl, rfl, hq2⟩ := h2
  refine V_iret rfl rfl rfl ?_
  exact RP.mk ⟨sGn_all, rfl, hq2⟩
theorem c_spentBy_23 {m : Nat} {I : I2} {J : J2} {T : TV} (hC : Cok I 23 T) (hm : m < 256) : CT mX0_spentBy 6 58 58 [.ref 23, .int (i32 m)] I J RF (RP RF (fun r I1 J1 => r = sGone T (cOf I 23) m ∧ J1 = J ∧ Sq 23 I I1)) := by
  have ho := hC.1
  obtain ⟨-, hT, hr0, hr1, hn0, hn8, hi0, hi6⟩ := id hC
  obtain ⟨e5, hN8⟩ := nC_i hn0 hn8
  refine CT_of okX0_spentBy (Nat.le_of_ble_eq_true rfl) ?_
  show V _ _ _ _ _ _ [(0, _), (1, _)] _ _ _ _ _
  refine V_go 2 rfl ?_
  refine cVI (mt' := mX0_everyone) rfl kX0_121 fX0_everyone rfl rfl rfl (Nat.le_of_ble_eq_true rfl) (Nat.le_of_ble_eq_true rfl) (Nat.le_of_ble_eq_true rfl) (Nat.le_of_ble_eq_true rfl) (Nat.le_refl _) (c_everyone ho) ?_
  refine V_go 1 rfl ?_
  refine cVP (mt' := mX0_spentOn) rfl kX0_125 fX0_spentOn rfl rfl rfl (Nat.le_of_ble_eq_true rfl) (Nat.le_of_ble_eq_true rfl) (Nat.le_of_ble_eq_true rfl) (Nat.le_of_ble_eq_true rfl) (Nat.le_refl _) (c_spentOn (p := fun i => decide (i < nC (cOf I 23))) (m := m) hC (fun i hi => by rw [e5]; exact evr_bits hN8 i hi) hm) ?_
  intro r2 Ir2 Jr2 h2
  obtain ⟨rfl, rfl, hq2⟩ := h2
  refine V_iret rfl rfl rfl ?_
  exact RP.mk ⟨sGn_all, rfl, hq2⟩
theorem c_spentBy {o : Nat} {m : Nat} {I : I2} {J : J2} {T : TV} (hC : Cok I o T) (hm : m < 256) : CT mX0_spentBy 6 58 58 [.ref o, .int (i32 m)] I J RF (RP RF (fun r I1 J1 => r = sGone T (cOf I o) m ∧ J1 = J ∧ Sq o I I1)) := by
  rcases hC.1 with rfl | rfl | rfl
  · exact c_spentBy_7 hC hm
  · exact c_spentBy_15 hC hm
  · exact c_spentBy_23 hC hm
theorem c_spentByList_7 {I : I2} {J : J2} {T : TV} (hC : Cok I 7 T) : CT mX0_spentByList 6 58 58 [.ref 7] I J RF (RP RF (fun r I1 J1 => r = sGo T (cOf I 7) ∧ J1 = J ∧ Sq 7 I I1)) := by
  have ho := hC.1
  obtain ⟨-, hT, hr0, hr1, hn0, hn8, hi0, hi6⟩ := id hC
  obtain ⟨e5, hN8⟩ := nC_i hn0 hn8
  refine CT_of okX0_spentByList (Nat.le_of_ble_eq_true rfl) ?_
  show V _ _ _ _ _ _ [(0, _)] _ _ _ _ _
  refine V_go 2 rfl ?_
  refine cVI (mt' := mX0_everyone) rfl kX0_121 fX0_everyone rfl rfl rfl (Nat.le_of_ble_eq_true rfl) (Nat.le_of_ble_eq_true rfl) (Nat.le_of_ble_eq_true rfl) (Nat.le_of_ble_eq_true rfl) (Nat.le_refl _) (c_everyone ho) ?_
  refine V_go 1 rfl ?_
  refine cVP (mt' := mX0_listed) rfl kX0_128 fX0_listed rfl rfl rfl (Nat.le_of_ble_eq_true rfl) (Nat.le_of_ble_eq_true rfl) (Nat.le_of_ble_eq_true rfl) (Nat.le_of_ble_eq_true rfl) (Nat.le_refl _) (c_listed hC) ?_
  intro r2 Ir2 Jr2 h2
  obtain ⟨rfl, rfl, hq⟩ := h2
  refine cVP (mt' := mX0_spentOn) rfl kX0_125 fX0_spentOn rfl rfl rfl (Nat.le_of_ble_eq_true rfl) (Nat.le_of_ble_eq_true rfl) (Nat.le_of_ble_eq_true rfl) (Nat.le_of_ble_eq_true rfl) (Nat.le_refl _) (c_spentOn (p := fun i => decide (i < nC (cOf I 7))) (m := sLst T (cOf I 7)) (hC.sq hq) (fun i hi => by rw [e5]; exact evr_bits hN8 i hi) (sLs_256 T _ hN8)) ?_
  intro r3 Ir3 Jr3 h3
  obtain ⟨rfl, rfl, hq2⟩ := h3
  refine V_iret rfl rfl rfl ?_
  refine RP.mk ⟨?_, rfl, hq.tr hq2⟩
  rw [cOf_sq ho hq]
  exact sGn_all
theorem c_spentByList_15 {I : I2} {J : J2} {T : TV} (hC : Cok I 15 T) : CT mX0_spentByList 6 58 58 [.ref 15] I J RF (RP RF (fun r I1 J1 => r = sGo T (cOf I 15) ∧ J1 = J ∧ Sq 15 I I1)) := by
  have ho := hC.1
  obtain ⟨-, hT, hr0, hr1, hn0, hn8, hi0, hi6⟩ := id hC
  obtain ⟨e5, hN8⟩ := nC_i hn0 hn8
  refine CT_of okX0_spentByList (Nat.le_of_ble_eq_true rfl) ?_
  show V _ _ _ _ _ _ [(0, _)] _ _ _ _ _
  refine V_go 2 rfl ?_
  refine cVI (mt' := mX0_everyone) rfl kX0_121 fX0_everyone rfl rfl rfl (Nat.le_of_ble_eq_true rfl) (Nat.le_of_ble_eq_true rfl) (Nat.le_of_ble_eq_true rfl) (Nat.le_of_ble_eq_true rfl) (Nat.le_refl _) (c_everyone ho) ?_
  refine V_go 1 rfl ?_
  refine cVP (mt' := mX0_listed) rfl kX0_128 fX0_listed rfl rfl rfl (Nat.le_of_ble_eq_true rfl) (Nat.le_of_ble_eq_true rfl) (Nat.le_of_ble_eq_true rfl) (Nat.le_of_ble_eq_true rfl) (Nat.le_refl _) (c_listed hC) ?_
  intro r2 Ir2 Jr2 h2
  obtain ⟨rfl, rfl, hq⟩ := h2
  refine cVP (mt' := mX0_spentOn) rfl kX0_125 fX0_spentOn rfl rfl rfl (Nat.le_of_ble_eq_true rfl) (Nat.le_of_ble_eq_true rfl) (Nat.le_of_ble_eq_true rfl) (Nat.le_of_ble_eq_true rfl) (Nat.le_refl _) (c_spentOn (p := fun i => decide (i < nC (cOf I 15))) (m := sLst T (cOf I 15)) (hC.sq hq) (fun i hi => by rw [e5]; exact evr_bits hN8 i hi) (sLs_256 T _ hN8)) ?_
  intro r3 Ir3 Jr3 h3
  obtain ⟨rfl, rfl, hq2⟩ := h3
  refine V_iret rfl rfl rfl ?_
  refine RP.mk ⟨?_, rfl, hq.tr hq2⟩
  rw [cOf_sq ho hq]
  exact sGn_all
theorem c_spentByList_23 {I : I2} {J : J2} {T : TV} (hC : Cok I 23 T) : CT mX0_spentByList 6 58 58 [.ref 23] I J RF (RP RF (fun r I1 J1 => r = sGo T (cOf I 23) ∧ J1 = J ∧ Sq 23 I I1)) := by
  have ho := hC.1
  obtain ⟨-, hT, hr0, hr1, hn0, hn8, hi0, hi6⟩ := id hC
  obtain ⟨e5, hN8⟩ := nC_i hn0 hn8
  refine CT_of okX0_spentByList (Nat.le_of_ble_eq_true rfl) ?_
  show V _ _ _ _ _ _ [(0, _)] _ _ _ _ _
  refine V_go 2 rfl ?_
  refine cVI (mt' := mX0_everyone) rfl kX0_121 fX0_everyone rfl rfl rfl (Nat.le_of_ble_eq_true rfl) (Nat.le_of_ble_eq_true rfl) (Nat.le_of_ble_eq_true rfl) (Nat.le_of_ble_eq_true rfl) (Nat.le_refl _) (c_everyone ho) ?_
  refine V_go 1 rfl ?_
  refine cVP (mt' := mX0_listed) rfl kX0_128 fX0_listed rfl rfl rfl (Nat.le_of_ble_eq_true rfl) (Nat.le_of_ble_eq_true rfl) (Nat.le_of_ble_eq_true rfl) (Nat.le_of_ble_eq_true rfl) (Nat.le_refl _) (c_listed hC) ?_
  intro r2 Ir2 Jr2 h2
  obtain ⟨rfl, rfl, hq⟩ := h2
  refine cVP (mt' := mX0_spentOn) rfl kX0_125 fX0_spentOn rfl rfl rfl (Nat.le_of_ble_eq_true rfl) (Nat.le_of_ble_eq_true rfl) (Nat.le_of_ble_eq_true rfl) (Nat.le_of_ble_eq_true rfl) (Nat.le_refl _) (c_spentOn (p := fun i => decide (i < nC (cOf I 23))) (m := sLst T (cOf I 23)) (hC.sq hq) (fun i hi => by rw [e5]; exact evr_bits hN8 i hi) (sLs_256 T _ hN8)) ?_
  intro r3 Ir3 Jr3 h3
  obtain ⟨rfl, rfl, hq2⟩ := h3
  refine V_iret rfl rfl rfl ?_
  refine RP.mk ⟨?_, rfl, hq.tr hq2⟩
  rw [cOf_sq ho hq]
  exact sGn_all
theorem c_spentByList {o : Nat} {I : I2} {J : J2} {T : TV} (hC : Cok I o T) : CT mX0_spentByList 6 58 58 [.ref o] I J RF (RP RF (fun r I1 J1 => r = sGo T (cOf I o) ∧ J1 = J ∧ Sq o I I1)) := by
  rcases hC.1 with rfl | rfl | rfl
  · exact c_spentByList_7 hC
  · exact c_spentByList_15 hC
  · exact c_spentByList_23 hC
theorem c_minutesLeft_7 {I : I2} {J : J2} {T : TV} (hC : Cok I 7 T) : CT mX0_minutesLeft 6 58 58 [.ref 7] I J RF (RP RF (fun r I1 J1 => r = sLeft T (cOf I 7) ∧ J1 = J ∧ Sq 7 I I1)) := by
  have ho := hC.1
  obtain ⟨-, hT, hr0, hr1, hn0, hn8, hi0, hi6⟩ := id hC
  obtain ⟨e5, hN8⟩ := nC_i hn0 hn8
  refine CT_of okX0_minutesLeft (Nat.le_of_ble_eq_true rfl) ?_
  show V _ _ _ _ _ _ [(0, _)] _ _ _ _ _
  refine V_go 5 rfl ?_
  refine cVI (mt' := mX0_everyone) rfl kX0_121 fX0_everyone rfl rfl rfl (Nat.le_of_ble_eq_true rfl) (Nat.le_of_ble_eq_true rfl) (Nat.le_of_ble_eq_true rfl) (Nat.le_of_ble_eq_true rfl) (Nat.le_refl _) (c_everyone ho) ?_
  refine V_go 1 rfl ?_
  refine cVP (mt' := mX0_listed) rfl kX0_128 fX0_listed rfl rfl rfl (Nat.le_of_ble_eq_true rfl) (Nat.le_of_ble_eq_true rfl) (Nat.le_of_ble_eq_true rfl) (Nat.le_of_ble_eq_true rfl) (Nat.le_refl _) (c_listed hC) ?_
  intro r2 Ir2 Jr2 h2
  obtain ⟨rfl, rfl, hq⟩ := h2
  refine cVP (mt' := mX0_spentOn) rfl kX0_125 fX0_spentOn rfl rfl rfl (Nat.le_of_ble_eq_true rfl) (Nat.le_of_ble_eq_true rfl) (Nat.le_of_ble_eq_true rfl) (Nat.le_of_ble_eq_true rfl) (Nat.le_refl _) (c_spentOn (p := fun i => decide (i < nC (cOf I 7))) (m := sLst T (cOf I 7)) (hC.sq hq) (fun i hi => by rw [e5]; exact evr_bits hN8 i hi) (sLs_256 T _ hN8)) ?_
  intro r3 Ir3 Jr3 h3
  obtain ⟨rfl, rfl, hq2⟩ := h3
  refine V_go 1 rfl ?_
  refine V_mmax (wl1 := 638) (wst := 388) (wi1 := 119) (wc1 := 389) rfl (by decide +kernel) (by decide +kernel) (by decide +kernel) (by decide +kernel) (Nat.le_of_ble_eq_true rfl) (Nat.le_of_ble_eq_true rfl) ?_
  refine V_iret rfl rfl rfl ?_
  refine RP.mk ⟨?_, rfl, hq.tr hq2⟩
  rw [cOf_sq ho hq, sGn_all]
  show _ = if cOf I 7 0 1 - sGo T (cOf I 7) < 0 then 0 else cOf I 7 0 1 - sGo T (cOf I 7)
  show (if 0 < I 7 3 - sGo T (cOf I 7) then I 7 3 - sGo T (cOf I 7) else 0) = (if I 7 3 - sGo T (cOf I 7) < 0 then 0 else I 7 3 - sGo T (cOf I 7))
  grind
theorem c_minutesLeft_15 {I : I2} {J : J2} {T : TV} (hC : Cok I 15 T) : CT mX0_minutesLeft 6 58 58 [.ref 15] I J RF (RP RF (fun r I1 J1 => r = sLeft T (cOf I 15) ∧ J1 = J ∧ Sq 15 I I1)) := by
  have ho := hC.1
  obtain ⟨-, hT, hr0, hr1, hn0, hn8, hi0, hi6⟩ := id hC
  obtain ⟨e5, hN8⟩ := nC_i hn0 hn8
  refine CT_of okX0_minutesLeft (Nat.le_of_ble_eq_true rfl) ?_
  show V _ _ _ _ _ _ [(0, _)] _ _ _ _ _
  refine V_go 5 rfl ?_
  refine cVI (mt' := mX0_everyone) rfl kX0_121 fX0_everyone rfl rfl rfl (Nat.le_of_ble_eq_true rfl) (Nat.le_of_ble_eq_true rfl) (Nat.le_of_ble_eq_true rfl) (Nat.le_of_ble_eq_true rfl) (Nat.le_refl _) (c_everyone ho) ?_
  refine V_go 1 rfl ?_
  refine cVP (mt' := mX0_listed) rfl kX0_128 fX0_listed rfl rfl rfl (Nat.le_of_ble_eq_true rfl) (Nat.le_of_ble_eq_true rfl) (Nat.le_of_ble_eq_true rfl) (Nat.le_of_ble_eq_true rfl) (Nat.le_refl _) (c_listed hC) ?_
  intro r2 Ir2 Jr2 h2
  obtain ⟨rfl, rfl, hq⟩ := h2
  refine cVP (mt' := mX0_spentOn) rfl kX0_125 fX0_spentOn rfl rfl rfl (Nat.le_of_ble_eq_true rfl) (Nat.le_of_ble_eq_true rfl) (Nat.le_of_ble_eq_true rfl) (Nat.le_of_ble_eq_true rfl) (Nat.le_refl _) (c_spentOn (p := fun i => decide (i < nC (cOf I 15))) (m := sLst T (cOf I 15)) (hC.sq hq) (fun i hi => by rw [e5]; exact evr_bits hN8 i hi) (sLs_256 T _ hN8)) ?_
  intro r3 Ir3 Jr3 h3
  obtain ⟨rfl, rfl, hq2⟩ := h3
  refine V_go 1 rfl ?_
  refine V_mmax (wl1 := 638) (wst := 388) (wi1 := 119) (wc1 := 389) rfl (by decide +kernel) (by decide +kernel) (by decide +kernel) (by decide +kernel) (Nat.le_of_ble_eq_true rfl) (Nat.le_of_ble_eq_true rfl) ?_
  refine V_iret rfl rfl rfl ?_
  refine RP.mk ⟨?_, rfl, hq.tr hq2⟩
  rw [cOf_sq ho hq, sGn_all]
  show _ = if cOf I 15 0 1 - sGo T (cOf I 15) < 0 then 0 else cOf I 15 0 1 - sGo T (cOf I 15)
  show (if 0 < I 15 3 - sGo T (cOf I 15) then I 15 3 - sGo T (cOf I 15) else 0) = (if I 15 3 - sGo T (cOf I 15) < 0 then 0 else I 15 3 - sGo T (cOf I 15))
  grind
theorem c_minutesLeft_23 {I : I2} {J : J2} {T : TV} (hC : Cok I 23 T) : CT mX0_minutesLeft 6 58 58 [.ref 23] I J RF (RP RF (fun r I1 J1 => r = sLeft T (cOf I 23) ∧ J1 = J ∧ Sq 23 I I1)) := by
  have ho := hC.1
  obtain ⟨-, hT, hr0, hr1, hn0, hn8, hi0, hi6⟩ := id hC
  obtain ⟨e5, hN8⟩ := nC_i hn0 hn8
  refine CT_of okX0_minutesLeft (Nat.le_of_ble_eq_true rfl) ?_
  show V _ _ _ _ _ _ [(0, _)] _ _ _ _ _
  refine V_go 5 rfl ?_
  refine cVI (mt' := mX0_everyone) rfl kX0_121 fX0_everyone rfl rfl rfl (Nat.le_of_ble_eq_true rfl) (Nat.le_of_ble_eq_true rfl) (Nat.le_of_ble_eq_true rfl) (Nat.le_of_ble_eq_true rfl) (Nat.le_refl _) (c_everyone ho) ?_
  refine V_go 1 rfl ?_
  refine cVP (mt' := mX0_listed) rfl kX0_128 fX0_listed rfl rfl rfl (Nat.le_of_ble_eq_true rfl) (Nat.le_of_ble_eq_true rfl) (Nat.le_of_ble_eq_true rfl) (Nat.le_of_ble_eq_true rfl) (Nat.le_refl _) (c_listed hC) ?_
  intro r2 Ir2 Jr2 h2
  obtain ⟨rfl, rfl, hq⟩ := h2
  refine cVP (mt' := mX0_spentOn) rfl kX0_125 fX0_spentOn rfl rfl rfl (Nat.le_of_ble_eq_true rfl) (Nat.le_of_ble_eq_true rfl) (Nat.le_of_ble_eq_true rfl) (Nat.le_of_ble_eq_true rfl) (Nat.le_refl _) (c_spentOn (p := fun i => decide (i < nC (cOf I 23))) (m := sLst T (cOf I 23)) (hC.sq hq) (fun i hi => by rw [e5]; exact evr_bits hN8 i hi) (sLs_256 T _ hN8)) ?_
  intro r3 Ir3 Jr3 h3
  obtain ⟨rfl, rfl, hq2⟩ := h3
  refine V_go 1 rfl ?_
  refine V_mmax (wl1 := 638) (wst := 388) (wi1 := 119) (wc1 := 389) rfl (by decide +kernel) (by decide +kernel) (by decide +kernel) (by decide +kernel) (Nat.le_of_ble_eq_true rfl) (Nat.le_of_ble_eq_true rfl) ?_
  refine V_iret rfl rfl rfl ?_
  refine RP.mk ⟨?_, rfl, hq.tr hq2⟩
  rw [cOf_sq ho hq, sGn_all]
  show _ = if cOf I 23 0 1 - sGo T (cOf I 23) < 0 then 0 else cOf I 23 0 1 - sGo T (cOf I 23)
  show (if 0 < I 23 3 - sGo T (cOf I 23) then I 23 3 - sGo T (cOf I 23) else 0) = (if I 23 3 - sGo T (cOf I 23) < 0 then 0 else I 23 3 - sGo T (cOf I 23))
  grind
theorem c_minutesLeft {o : Nat} {I : I2} {J : J2} {T : TV} (hC : Cok I o T) : CT mX0_minutesLeft 6 58 58 [.ref o] I J RF (RP RF (fun r I1 J1 => r = sLeft T (cOf I o) ∧ J1 = J ∧ Sq o I I1)) := by
  rcases hC.1 with rfl | rfl | rfl
  · exact c_minutesLeft_7 hC
  · exact c_minutesLeft_15 hC
  · exact c_minutesLeft_23 hC
