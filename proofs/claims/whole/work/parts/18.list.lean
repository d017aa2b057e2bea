theorem sq_o {o : Nat} {I I1 : I2} (ho : oC o) (q : Sq o I I1) : I1 o = I o := q o (by rcases ho with rfl | rfl | rfl <;> omega) (by omega)
theorem nC_i {I : I2} {o : Nat} (h0 : 0 ≤ I o 5) (h8 : I o 5 ≤ 8) : I o 5 = i32 (nC (cOf I o)) ∧ nC (cOf I o) ≤ 8 := by
  have h1 : nC (cOf I o) = (I o 5).toNatClampNeg := rfl
  have h2 := tcn (I o 5) h0
  exact ⟨by rw [h1]; exact (Int32.ofNat_toNatClampNeg _ h0).symm, by rw [h1]; grind⟩
theorem pow_lt8 {n : Nat} (h : n ≤ 8) : 2 ^ n ≤ 256 := by
  have : n = 0 ∨ n = 1 ∨ n = 2 ∨ n = 3 ∨ n = 4 ∨ n = 5 ∨ n = 6 ∨ n = 7 ∨ n = 8 := by omega
  rcases this with rfl | rfl | rfl | rfl | rfl | rfl | rfl | rfl | rfl <;> decide
theorem sLs_256 (T : TV) (C : CC) {n : Nat} (h : n ≤ 8) : sLs T C n < 256 := Nat.lt_of_lt_of_le (sLs_lt T C n) (pow_lt8 h)
/-- the loops' ends -/
theorem lp_end {x y : Int32} {i N : Nat} (hx : x = i32 i) (hy : y = i32 N) (hN : N < 100000) (h : i = N) : y ≤ x := by subst h; rw [hx, hy]; exact Int32.le_refl _
theorem lp_more {i N : Nat} (hN : N < 100000) (h : i < N) : ¬ i32 N ≤ i32 i := by grind [i32_ti]
theorem lp_stop {i N : Nat} (h : i + 0 = N) : i32 N ≤ i32 i := by rw [← h]; exact Int32.le_refl _
theorem c_listed_7 {I : I2} {J : J2} {T : TV} (hC : Cok I 7 T) : CT mX0_listed 4 58 58 [.ref 7] I J RF (RP RF (fun r I1 J1 => r = i32 (sLst T (cOf I 7)) ∧ J1 = J ∧ Sq 7 I I1)) := by
  have ho := hC.1
  obtain ⟨-, hT, hr0, hr1, hn0, hn8, hi0, hi6⟩ := id hC
  obtain ⟨e5, hN8⟩ := nC_i hn0 hn8
  refine CT_of okX0_listed (Nat.le_of_ble_eq_true rfl) ?_
  show V _ _ _ _ _ _ [(0, _)] _ _ _ _ _
  have key : ∀ n, Hid (∀ (i : Nat) (I1 : I2), i + n = nC (cOf I 7) → Sq 7 I I1 → V mX0_listed none 4 58 (RP RF (fun r I1 J1 => r = i32 (sLst T (cOf I 7)) ∧ J1 = J ∧ Sq 7 I I1)) 4 [(0, .ref 7), (1, .int (i32 (sLs T (cOf I 7) i))), (2, .int (i32 i))] [] 58 I1 J RF) := by
    intro n
    induction n with
    | zero =>
      unfold Hid
      intro i I1 hi hq
      refine V_go 3 rfl ?_
      refine V_icmp_ge rfl (fun h1 => ?_) (fun h1 => ?_)
      · skip
        refine V_go 1 rfl ?_
        refine V_iret rfl rfl rfl ?_
        refine RP.mk ⟨?_, rfl, hq⟩
        rw [show i = nC (cOf I 7) from hi]
        rfl
      · skip
        exfalso
        rw [sq_o ho hq, e5] at h1
        exact h1 (lp_stop hi)
    | succ n ih =>
      unfold Hid
      intro i I1 hi hq
      refine V_go 3 rfl ?_
      refine V_icmp_ge rfl (fun h1 => ?_) (fun h1 => ?_)
      · skip
        exfalso
        rw [sq_o ho hq, e5] at h1
        exact lp_more (by omega) (by omega) h1
      · skip
        refine V_go 3 rfl ?_
        refine cVP (mt' := mX0_isRead) rfl kX0_111 fX0_isRead rfl rfl rfl (Nat.le_of_ble_eq_true rfl) (Nat.le_of_ble_eq_true rfl) (Nat.le_of_ble_eq_true rfl) (Nat.le_of_ble_eq_true rfl) (Nat.le_refl _) (c_isRead (c := i) (m := sLs T (cOf I 7) i) (hC.sq hq) (by rw [cOf_sq ho hq]; omega) (sLs_256 T _ (by omega))) ?_
        intro r2 Ir2 Jr2 h2
        obtain ⟨hv, rfl, hq2⟩ := h2
        rw [cOf_sq ho hq] at hv
        refine V_if_eq rfl (fun h3 => ?_) (fun h3 => ?_)
        · skip
          refine V_go 2 rfl ?_
          refine V.st (I' := Ir2) (L' := [(0, .ref 7), (1, .int (i32 (sLs T (cOf I 7) (i + 1)))), (2, .int (i32 (i + 1)))]) (ih.un (i + 1) Ir2 (by omega) (hq.tr hq2)) rfl ?_
          rw [i32_s]
          rw [show sLs T (cOf I 7) (i + 1) = sLs T (cOf I 7) i from by rw [sLs, if_pos (hv ▸ h3)]]
          simp
        · skip
          refine V_go 8 rfl ?_
          refine V.st (I' := Ir2) (L' := [(0, .ref 7), (1, .int (i32 (sLs T (cOf I 7) (i + 1)))), (2, .int (i32 (i + 1)))]) (ih.un (i + 1) Ir2 (by omega) (hq.tr hq2)) rfl ?_
          rw [i32_s]
          rw [show sLs T (cOf I 7) (i + 1) = sLs T (cOf I 7) i + 2 ^ i from by rw [sLs, if_neg (hv ▸ h3)], orbit_ok i (by omega) _ (sLs_lt T _ i)]
          simp
  refine V_go 4 rfl ?_
  exact (key _).un 0 I (Nat.zero_add _) Sq.rf
theorem c_listed_15 {I : I2} {J : J2} {T : TV} (hC : Cok I 15 T) : CT mX0_listed 4 58 58 [.ref 15] I J RF (RP RF (fun r I1 J1 => r = i32 (sLst T (cOf I 15)) ∧ J1 = J ∧ Sq 15 I I1)) := by
  have ho := hC.1
  obtain ⟨-, hT, hr0, hr1, hn0, hn8, hi0, hi6⟩ := id hC
  obtain ⟨e5, hN8⟩ := nC_i hn0 hn8
  refine CT_of okX0_listed (Nat.le_of_ble_eq_true rfl) ?_
  show V _ _ _ _ _ _ [(0, _)] _ _ _ _ _
  have key : ∀ n, Hid (∀ (i : Nat) (I1 : I2), i + n = nC (cOf I 15) → Sq 15 I I1 → V mX0_listed none 4 58 (RP RF (fun r I1 J1 => r = i32 (sLst T (cOf I 15)) ∧ J1 = J ∧ Sq 15 I I1)) 4 [(0, .ref 15), (1, .int (i32 (sLs T (cOf I 15) i))), (2, .int (i32 i))] [] 58 I1 J RF) := by
    intro n
    induction n with
    | zero =>
      unfold Hid
      intro i I1 hi hq
      refine V_go 3 rfl ?_
      refine V_icmp_ge rfl (fun h1 => ?_) (fun h1 => ?_)
      · skip
        refine V_go 1 rfl ?_
        refine V_iret rfl rfl rfl ?_
        refine RP.mk ⟨?_, rfl, hq⟩
        rw [show i = nC (cOf I 15) from hi]
        rfl
      · skip
        exfalso
        rw [sq_o ho hq, e5] at h1
        exact h1 (lp_stop hi)
    | succ n ih =>
      unfold Hid
      intro i I1 hi hq
      refine V_go 3 rfl ?_
      refine V_icmp_ge rfl (fun h1 => ?_) (fun h1 => ?_)
      · skip
        exfalso
        rw [sq_o ho hq, e5] at h1
        exact lp_more (by omega) (by omega) h1
      · skip
        refine V_go 3 rfl ?_
        refine cVP (mt' := mX0_isRead) rfl kX0_111 fX0_isRead rfl rfl rfl (Nat.le_of_ble_eq_true rfl) (Nat.le_of_ble_eq_true rfl) (Nat.le_of_ble_eq_true rfl) (Nat.le_of_ble_eq_true rfl) (Nat.le_refl _) (c_isRead (c := i) (m := sLs T (cOf I 15) i) (hC.sq hq) (by rw [cOf_sq ho hq]; omega) (sLs_256 T _ (by omega))) ?_
        intro r2 Ir2 Jr2 h2
        obtain ⟨hv, rfl, hq2⟩ := h2
        rw [cOf_sq ho hq] at hv
        refine V_if_eq rfl (fun h3 => ?_) (fun h3 => ?_)
        · skip
          refine V_go 2 rfl ?_
          refine V.st (I' := Ir2) (L' := [(0, .ref 15), (1, .int (i32 (sLs T (cOf I 15) (i + 1)))), (2, .int (i32 (i + 1)))]) (ih.un (i + 1) Ir2 (by omega) (hq.tr hq2)) rfl ?_
          rw [i32_s]
          rw [show sLs T (cOf I 15) (i + 1) = sLs T (cOf I 15) i from by rw [sLs, if_pos (hv ▸ h3)]]
          simp
        · skip
          refine V_go 8 rfl ?_
          refine V.st (I' := Ir2) (L' := [(0, .ref 15), (1, .int (i32 (sLs T (cOf I 15) (i + 1)))), (2, .int (i32 (i + 1)))]) (ih.un (i + 1) Ir2 (by omega) (hq.tr hq2)) rfl ?_
          rw [i32_s]
          rw [show sLs T (cOf I 15) (i + 1) = sLs T (cOf I 15) i + 2 ^ i from by rw [sLs, if_neg (hv ▸ h3)], orbit_ok i (by omega) _ (sLs_lt T _ i)]
          simp
  refine V_go 4 rfl ?_
  exact (key _).un 0 I (Nat.zero_add _) Sq.rf
theorem c_listed_23 {I : I2} {J : J2} {T : TV} (hC : Cok I 23 T) : CT mX0_listed 4 58 58 [.ref 23] I J RF (RP RF (fun r I1 J1 => r = i32 (sLst T (cOf I 23)) ∧ J1 = J ∧ Sq 23 I I1)) := by
  have ho := hC.1
  obtain ⟨-, hT, hr0, hr1, hn0, hn8, hi0, hi6⟩ := id hC
  obtain ⟨e5, hN8⟩ := nC_i hn0 hn8
  refine CT_of okX0_listed (Nat.le_of_ble_eq_true rfl) ?_
  show V _ _ _ _ _ _ [(0, _)] _ _ _ _ _
  have key : ∀ n, Hid (∀ (i : Nat) (I1 : I2), i + n = nC (cOf I 23) → Sq 23 I I1 → V mX0_listed none 4 58 (RP RF (fun r I1 J1 => r = i32 (sLst T (cOf I 23)) ∧ J1 = J ∧ Sq 23 I I1)) 4 [(0, .ref 23), (1, .int (i32 (sLs T (cOf I 23) i))), (2, .int (i32 i))] [] 58 I1 J RF) := by
    intro n
    induction n with
    | zero =>
      unfold Hid
      intro i I1 hi hq
      refine V_go 3 rfl ?_
      refine V_icmp_ge rfl (fun h1 => ?_) (fun h1 => ?_)
      · skip
        refine V_go 1 rfl ?_
        refine V_iret rfl rfl rfl ?_
        refine RP.mk ⟨?_, rfl, hq⟩
        rw [show i = nC (cOf I 23) from hi]
        rfl
      · skip
        exfalso
        rw [sq_o ho hq, e5] at h1
        exact h1 (lp_stop hi)
    | succ n ih =>
      unfold Hid
      intro i I1 hi hq
      refine V_go 3 rfl ?_
      refine V_icmp_ge rfl (fun h1 => ?_) (fun h1 => ?_)
      · skip
        exfalso
        rw [sq_o ho hq, e5] at h1
        exact lp_more (by omega) (by omega) h1
      · skip
        refine V_go 3 rfl ?_
        refine cVP (mt' := mX0_isRead) rfl kX0_111 fX0_isRead rfl rfl rfl (Nat.le_of_ble_eq_true rfl) (Nat.le_of_ble_eq_true rfl) (Nat.le_of_ble_eq_true rfl) (Nat.le_of_ble_eq_true rfl) (Nat.le_refl _) (c_isRead (c := i) (m := sLs T (cOf I 23) i) (hC.sq hq) (by rw [cOf_sq ho hq]; omega) (sLs_256 T _ (by omega))) ?_
        intro r2 Ir2 Jr2 h2
        obtain ⟨hv, rfl, hq2⟩ := h2
        rw [cOf_sq ho hq] at hv
        refine V_if_eq rfl (fun h3 => ?_) (fun h3 => ?_)
        · skip
          refine V_go 2 rfl ?_
          refine V.st (I' := Ir2) (L' := [(0, .ref 23), (1, .int (i32 (sLs T (cOf I 23) (i + 1)))), (2, .int (i32 (i + 1)))]) (ih.un (i + 1) Ir2 (by omega) (hq.tr hq2)) rfl ?_
          rw [i32_s]
          rw [show sLs T (cOf I 23) (i + 1) = sLs T (cOf I 23) i from by rw [sLs, if_pos (hv ▸ h3)]]
          simp
        · skip
          refine V_go 8 rfl ?_
          refine V.st (I' := Ir2) (L' := [(0, .ref 23), (1, .int (i32 (sLs T (cOf I 23) (i + 1)))), (2, .int (i32 (i + 1)))]) (ih.un (i + 1) Ir2 (by omega) (hq.tr hq2)) rfl ?_
          rw [i32_s]
          rw [show sLs T (cOf I 23) (i + 1) = sLs T (cOf I 23) i + 2 ^ i from by rw [sLs, if_neg (hv ▸ h3)], orbit_ok i (by omega) _ (sLs_lt T _ i)]
          simp
  refine V_go 4 rfl ?_
  exact (key _).un 0 I (Nat.zero_add _) Sq.rf
theorem c_listed {o : Nat} {I : I2} {J : J2} {T : TV} (hC : Cok I o T) : CT mX0_listed 4 58 58 [.ref o] I J RF (RP RF (fun r I1 J1 => r = i32 (sLst T (cOf I o)) ∧ J1 = J ∧ Sq o I I1)) := by
  rcases hC.1 with rfl | rfl | rfl
  · exact c_listed_7 hC
  · exact c_listed_15 hC
  · exact c_listed_23 hC
