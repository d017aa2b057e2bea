theorem c_spentOn_7 {x : Int32} {p : Nat → Bool} {m : Nat} {I : I2} {J : J2} {T : TV} (hC : Cok I 7 T) (hp : ∀ i, i < 8 → (x >>> (i32 i &&& 31)) &&& 1 = if p i then 1 else 0) (hm : m < 256) : CT mX0_spentOn 5 58 58 [.ref 7, .int x, .int (i32 m)] I J RF (RP RF (fun r I1 J1 => r = sGn T (cOf I 7) p m (nC (cOf I 7)) ∧ J1 = J ∧ Sq 7 I I1)) := by
  have ho := hC.1
  obtain ⟨-, hT, hr0, hr1, hn0, hn8, hi0, hi6⟩ := id hC
  obtain ⟨e5, hN8⟩ := nC_i hn0 hn8
  refine CT_of okX0_spentOn (Nat.le_of_ble_eq_true rfl) ?_
  show V _ _ _ _ _ _ [(0, _), (1, _), (2, _)] _ _ _ _ _
  have key : ∀ n, Hid (∀ (i : Nat) (I1 : I2), i + n = nC (cOf I 7) → Sq 7 I I1 → V mX0_spentOn none 5 58 (RP RF (fun r I1 J1 => r = sGn T (cOf I 7) p m (nC (cOf I 7)) ∧ J1 = J ∧ Sq 7 I I1)) 5 [(0, .ref 7), (1, .int x), (2, .int (i32 m)), (3, .int (sGn T (cOf I 7) p m i)), (4, .int (i32 i))] [] 58 I1 J RF) := by
    intro n
    induction n with
    | zero =>
      unfold Hid
      intro i I1 hi hq
      refine V_go 3 rfl ?_
      refine V_icmp_ge rfl (fun h1 => ?_) (fun h1 => ?_)
      · skip
        refine V_go 1 rfl ?_
        refine V_iret rfl rfl rfl ?_
        refine RP.mk ⟨?_, rfl, hq⟩
        rw [show i = nC (cOf I 7) from hi]
      · skip
        exfalso
        rw [sq_o ho hq, e5] at h1
        exact h1 (lp_stop hi)
    | succ n ih =>
      unfold Hid
      intro i I1 hi hq
      refine V_go 3 rfl ?_
      refine V_icmp_ge rfl (fun h1 => ?_) (fun h1 => ?_)
      · skip
        exfalso
        rw [sq_o ho hq, e5] at h1
        exact lp_more (by omega) (by omega) h1
      · skip
        refine V_go 6 rfl ?_
        refine V_icmp_ne rfl (fun h2 => ?_) (fun h2 => ?_)
        · skip
          refine V_go 2 rfl ?_
          refine V.st (I' := I1) (L' := [(0, .ref 7), (1, .int x), (2, .int (i32 m)), (3, .int (sGn T (cOf I 7) p m (i + 1))), (4, .int (i32 (i + 1)))]) (ih.un (i + 1) I1 (by omega) hq) rfl ?_
          rw [i32_s, show sGn T (cOf I 7) p m (i + 1) = sGn T (cOf I 7) p m i from by rw [sGn]; rw [if_neg (by have := hp i (by omega); grind)]; simp]
          simp
        · skip
          refine V_go 7 rfl ?_
          refine V_icmp_ne rfl (fun h3 => ?_) (fun h3 => ?_)
          · skip
            refine V_go 3 rfl ?_
            refine cVP (mt' := mX0_silenceOf) rfl kX0_118 fX0_silenceOf rfl rfl rfl (Nat.le_of_ble_eq_true rfl) (Nat.le_of_ble_eq_true rfl) (Nat.le_of_ble_eq_true rfl) (Nat.le_of_ble_eq_true rfl) (Nat.le_refl _) (c_silenceOf (c := i) (m := m) (hC.sq hq) (by rw [cOf_sq ho hq]; omega) hm) ?_
            intro rq IQ Jq h4
            obtain ⟨hv, rfl, hq2⟩ := h4
            rw [cOf_sq ho hq] at hv
            refine V_go 4 rfl ?_
            refine V.st (I' := IQ) (L' := [(0, .ref 7), (1, .int x), (2, .int (i32 m)), (3, .int (sGn T (cOf I 7) p m (i + 1))), (4, .int (i32 (i + 1)))]) (ih.un (i + 1) IQ (by omega) (hq.tr hq2)) rfl ?_
            rw [i32_s, show sGn T (cOf I 7) p m (i + 1) = sGn T (cOf I 7) p m i + rq from by rw [sGn]; rw [if_pos (by have := hp i (by omega); grind), if_neg (by have := bit_ok m hm i (by omega); grind), hv]]
            simp
          · skip
            refine V_go 3 rfl ?_
            refine cVP (mt' := mX0_timeOf) rfl kX0_114 fX0_timeOf rfl rfl rfl (Nat.le_of_ble_eq_true rfl) (Nat.le_of_ble_eq_true rfl) (Nat.le_of_ble_eq_true rfl) (Nat.le_of_ble_eq_true rfl) (Nat.le_refl _) (c_timeOf (c := i) (m := m) (hC.sq hq) (by rw [cOf_sq ho hq]; omega) hm) ?_
            intro rq IQ Jq h5
            obtain ⟨hv, rfl, hq2⟩ := h5
            rw [cOf_sq ho hq] at hv
            refine V_go 5 rfl ?_
            refine V.st (I' := IQ) (L' := [(0, .ref 7), (1, .int x), (2, .int (i32 m)), (3, .int (sGn T (cOf I 7) p m (i + 1))), (4, .int (i32 (i + 1)))]) (ih.un (i + 1) IQ (by omega) (hq.tr hq2)) rfl ?_
            rw [i32_s, show sGn T (cOf I 7) p m (i + 1) = sGn T (cOf I 7) p m i + rq from by rw [sGn]; rw [if_pos (by have := hp i (by omega); grind), if_pos (by have := bit_ok m hm i (by omega); grind), hv]]
            simp
  refine V_go 4 rfl ?_
  exact (key _).un 0 I (Nat.zero_add _) Sq.rf
theorem c_spentOn_15 {x : Int32} {p : Nat → Bool} {m : Nat} {I : I2} {J : J2} {T : TV} (hC : Cok I 15 T) (hp : ∀ i, i < 8 → (x >>> (i32 i &&& 31)) &&& 1 = if p i then 1 else 0) (hm : m < 256) : CT mX0_spentOn 5 58 58 [.ref 15, .int x, .int (i32 m)] I J RF (RP RF (fun r I1 J1 => r = sGn T (cOf I 15) p m (nC (cOf I 15)) ∧ J1 = J ∧ Sq 15 I I1)) := by
  have ho := hC.1
  obtain ⟨-, hT, hr0, hr1, hn0, hn8, hi0, hi6⟩ := id hC
  obtain ⟨e5, hN8⟩ := nC_i hn0 hn8
  refine CT_of okX0_spentOn (Nat.le_of_ble_eq_true rfl) ?_
  show V _ _ _ _ _ _ [(0, _), (1, _), (2, _)] _ _ _ _ _
  have key : ∀ n, Hid (∀ (i : Nat) (I1 : I2), i + n = nC (cOf I 15) → Sq 15 I I1 → V mX0_spentOn none 5 58 (RP RF (fun r I1 J1 => r = sGn T (cOf I 15) p m (nC (cOf I 15)) ∧ J1 = J ∧ Sq 15 I I1)) 5 [(0, .ref 15), (1, .int x), (2, .int (i32 m)), (3, .int (sGn T (cOf I 15) p m i)), (4, .int (i32 i))] [] 58 I1 J RF) := by
    intro n
    induction n with
    | zero =>
      unfold Hid
      intro i I1 hi hq
      refine V_go 3 rfl ?_
      refine V_icmp_ge rfl (fun h1 => ?_) (fun h1 => ?_)
      · skip
        refine V_go 1 rfl ?_
        refine V_iret rfl rfl rfl ?_
        refine RP.mk ⟨?_, rfl, hq⟩
        rw [show i = nC (cOf I 15) from hi]
      · skip
        exfalso
        rw [sq_o ho hq, e5] at h1
        exact h1 (lp_stop hi)
    | succ n ih =>
      unfold Hid
      intro i I1 hi hq
      refine V_go 3 rfl ?_
      refine V_icmp_ge rfl (fun h1 => ?_) (fun h1 => ?_)
      · skip
        exfalso
        rw [sq_o ho hq, e5] at h1
        exact lp_more (by omega) (by omega) h1
      · skip
        refine V_go 6 rfl ?_
        refine V_icmp_ne rfl (fun h2 => ?_) (fun h2 => ?_)
        · skip
          refine V_go 2 rfl ?_
          refine V.st (I' := I1) (L' := [(0, .ref 15), (1, .int x), (2, .int (i32 m)), (3, .int (sGn T (cOf I 15) p m (i + 1))), (4, .int (i32 (i + 1)))]) (ih.un (i + 1) I1 (by omega) hq) rfl ?_
          rw [i32_s, show sGn T (cOf I 15) p m (i + 1) = sGn T (cOf I 15) p m i from by rw [sGn]; rw [if_neg (by have := hp i (by omega); grind)]; simp]
          simp
        · skip
          refine V_go 7 rfl ?_
          refine V_icmp_ne rfl (fun h3 => ?_) (fun h3 => ?_)
          · skip
            refine V_go 3 rfl ?_
            refine cVP (mt' := mX0_silenceOf) rfl kX0_118 fX0_silenceOf rfl rfl rfl (Nat.le_of_ble_eq_true rfl) (Nat.le_of_ble_eq_true rfl) (Nat.le_of_ble_eq_true rfl) (Nat.le_of_ble_eq_true rfl) (Nat.le_refl _) (c_silenceOf (c := i) (m := m) (hC.sq hq) (by rw [cOf_sq ho hq]; omega) hm) ?_
            intro rq IQ Jq h4
            obtain ⟨hv, rfl, hq2⟩ := h4
            rw [cOf_sq ho hq] at hv
            refine V_go 4 rfl ?_
            refine V.st (I' := IQ) (L' := [(0, .ref 15), (1, .int x), (2, .int (i32 m)), (3, .int (sGn T (cOf I 15) p m (i + 1))), (4, .int (i32 (i + 1)))]) (ih.un (i + 1) IQ (by omega) (hq.tr hq2)) rfl ?_
            rw [i32_s, show sGn T (cOf I 15) p m (i + 1) = sGn T (cOf I 15) p m i + rq from by rw [sGn]; rw [if_pos (by have := hp i (by omega); grind), if_neg (by have := bit_ok m hm i (by omega); grind), hv]]
            simp
          · skip
            refine V_go 3 rfl ?_
            refine cVP (mt' := mX0_timeOf) rfl kX0_114 fX0_timeOf rfl rfl rfl (Nat.le_of_ble_eq_true rfl) (Nat.le_of_ble_eq_true rfl) (Nat.le_of_ble_eq_true rfl) (Nat.le_of_ble_eq_true rfl) (Nat.le_refl _) (c_timeOf (c := i) (m := m) (hC.sq hq) (by rw [cOf_sq ho hq]; omega) hm) ?_
            intro rq IQ Jq h5
            obtain ⟨hv, rfl, hq2⟩ := h5
            rw [cOf_sq ho hq] at hv
            refine V_go 5 rfl ?_
            refine V.st (I' := IQ) (L' := [(0, .ref 15), (1, .int x), (2, .int (i32 m)), (3, .int (sGn T (cOf I 15) p m (i + 1))), (4, .int (i32 (i + 1)))]) (ih.un (i + 1) IQ (by omega) (hq.tr hq2)) rfl ?_
            rw [i32_s, show sGn T (cOf I 15) p m (i + 1) = sGn T (cOf I 15) p m i + rq from by rw [sGn]; rw [if_pos (by have := hp i (by omega); grind), if_pos (by have := bit_ok m hm i (by omega); grind), hv]]
            simp
  refine V_go 4 rfl ?_
  exact (key _).un 0 I (Nat.zero_add _) Sq.rf
theorem c_spentOn_23 {x : Int32} {p : Nat → Bool} {m : Nat} {I : I2} {J : J2} {T : TV} (hC : Cok I 23 T) (hp : ∀ i, i < 8 → (x >>> (i32 i &&& 31)) &&& 1 = if p i then 1 else 0) (hm : m < 256) : CT mX0_spentOn 5 58 58 [.ref 23, .int x, .int (i32 m)] I J RF (RP RF (fun r I1 J1 => r = sGn T (cOf I 23) p m (nC (cOf I 23)) ∧ J1 = J ∧ Sq 23 I I1)) := by
  have ho := hC.1
  obtain ⟨-, hT, hr0, hr1, hn0, hn8, hi0, hi6⟩ := id hC
  obtain ⟨e5, hN8⟩ := nC_i hn0 hn8
  refine CT_of okX0_spentOn (Nat.le_of_ble_eq_true rfl) ?_
  show V _ _ _ _ _ _ [(0, _), (1, _), (2, _)] _ _ _ _ _
  have key : ∀ n, Hid (∀ (i : Nat) (I1 : I2), i + n = nC (cOf I 23) → Sq 23 I I1 → V mX0_spentOn none 5 58 (RP RF (fun r I1 J1 => r = sGn T (cOf I 23) p m (nC (cOf I 23)) ∧ J1 = J ∧ Sq 23 I I1)) 5 [(0, .ref 23), (1, .int x), (2, .int (i32 m)), (3, .int (sGn T (cOf I 23) p m i)), (4, .int (i32 i))] [] 58 I1 J RF) := by
    intro n
    induction n with
    | zero =>
      unfold Hid
      intro i I1 hi hq
      refine V_go 3 rfl ?_
      refine V_icmp_ge rfl (fun h1 => ?_) (fun h1 => ?_)
      · skip
        refine V_go 1 rfl ?_
        refine V_iret rfl rfl rfl ?_
        refine RP.mk ⟨?_, rfl, hq⟩
        rw [show i = nC (cOf I 23) from hi]
      · skip
        exfalso
        rw [sq_o ho hq, e5] at h1
        exact h1 (lp_stop hi)
    | succ n ih =>
      unfold Hid
      intro i I1 hi hq
      refine V_go 3 rfl ?_
      refine V_icmp_ge rfl (fun h1 => ?_) (fun h1 => ?_)
      · skip
        exfalso
        rw [sq_o ho hq, e5] at h1
        exact lp_more (by omega) (by omega) h1
      · skip
        refine V_go 6 rfl ?_
        refine V_icmp_ne rfl (fun h2 => ?_) (fun h2 => ?_)
        · skip
          refine V_go 2 rfl ?_
          refine V.st (I' := I1) (L' := [(0, .ref 23), (1, .int x), (2, .int (i32 m)), (3, .int (sGn T (cOf I 23) p m (i + 1))), (4, .int (i32 (i + 1)))]) (ih.un (i + 1) I1 (by omega) hq) rfl ?_
          rw [i32_s, show sGn T (cOf I 23) p m (i + 1) = sGn T (cOf I 23) p m i from by rw [sGn]; rw [if_neg (by have := hp i (by omega); grind)]; simp]
          simp
        · skip
          refine V_go 7 rfl ?_
          refine V_icmp_ne rfl (fun h3 => ?_) (fun h3 => ?_)
          · skip
            refine V_go 3 rfl ?_
            refine cVP (mt' := mX0_silenceOf) rfl kX0_118 fX0_silenceOf rfl rfl rfl (Nat.le_of_ble_eq_true rfl) (Nat.le_of_ble_eq_true rfl) (Nat.le_of_ble_eq_true rfl) (Nat.le_of_ble_eq_true rfl) (Nat.le_refl _) (c_silenceOf (c := i) (m := m) (hC.sq hq) (by rw [cOf_sq ho hq]; omega) hm) ?_
            intro rq IQ Jq h4
            obtain ⟨hv, rfl, hq2⟩ := h4
            rw [cOf_sq ho hq] at hv
            refine V_go 4 rfl ?_
            refine V.st (I' := IQ) (L' := [(0, .ref 23), (1, .int x), (2, .int (i32 m)), (3, .int (sGn T (cOf I 23) p m (i + 1))), (4, .int (i32 (i + 1)))]) (ih.un (i + 1) IQ (by omega) (hq.tr hq2)) rfl ?_
            rw [i32_s, show sGn T (cOf I 23) p m (i + 1) = sGn T (cOf I 23) p m i + rq from by rw [sGn]; rw [if_pos (by have := hp i (by omega); grind), if_neg (by have := bit_ok m hm i (by omega); grind), hv]]
            simp
          · skip
            refine V_go 3 rfl ?_
            refine cVP (mt' := mX0_timeOf) rfl kX0_114 fX0_timeOf rfl rfl rfl (Nat.le_of_ble_eq_true rfl) (Nat.le_of_ble_eq_true rfl) (Nat.le_of_ble_eq_true rfl) (Nat.le_of_ble_eq_true rfl) (Nat.le_refl _) (c_timeOf (c := i) (m := m) (hC.sq hq) (by rw [cOf_sq ho hq]; omega) hm) ?_
            intro rq IQ Jq h5
            obtain ⟨hv, rfl, hq2⟩ := h5
            rw [cOf_sq ho hq] at hv
            refine V_go 5 rfl ?_
            refine V.st (I' := IQ) (L' := [(0, .ref 23), (1, .int x), (2, .int (i32 m)), (3, .int (sGn T (cOf I 23) p m (i + 1))), (4, .int (i32 (i + 1)))]) (ih.un (i + 1) IQ (by omega) (hq.tr hq2)) rfl ?_
            rw [i32_s, show sGn T (cOf I 23) p m (i + 1) = sGn T (cOf I 23) p m i + rq from by rw [sGn]; rw [if_pos (by have := hp i (by omega); grind), if_pos (by have := bit_ok m hm i (by omega); grind), hv]]
            simp
  refine V_go 4 rfl ?_
  exact (key _).un 0 I (Nat.zero_add _) Sq.rf
theorem c_spentOn {o : Nat} {x : Int32} {p : Nat → Bool} {m : Nat} {I : I2} {J : J2} {T : TV} (hC : Cok I o T) (hp : ∀ i, i < 8 → (x >>> (i32 i &&& 31)) &&& 1 = if p i then 1 else 0) (hm : m < 256) : CT mX0_spentOn 5 58 58 [.ref o, .int x, .int (i32 m)] I J RF (RP RF (fun r I1 J1 => r = sGn T (cOf I o) p m (nC (cOf I o)) ∧ J1 = J ∧ Sq o I I1)) := by
  rcases hC.1 with rfl | rfl | rfl
  · exact c_spentOn_7 hC hp hm
  · exact c_spentOn_15 hC hp hm
  · exact c_spentOn_23 hC hp hm
