theorem c_kindsBy {mi x : Int32} {c : Nat} {I0 : I2} {C : CC} {I : I2} {J : J2} {T : TV} (ht : Th I0 I T C) (px : i32 c = x) (pc : c < nC C) : CT mX6_kindsBy 7 58 58 [.ref 0, .int mi, .int x] I J RF (RP RF (fun r I1 J1 => r = i32 (fB (fun k => sGo T (up2 C 1 c (i32 k))) mi 6) ∧ J1 = J ∧ Scr I0 I1)) := by
  skip
  have key : ∀ n, Hid (∀ (i : Nat) (I1 : I2) (v : Int32), i + n = 6 → Th I0 I1 T (up2 C 1 c v) → V mX6_kindsBy none 7 58 (RP RF (fun r I1 J1 => r = i32 (fB (fun k => sGo T (up2 C 1 c (i32 k))) mi 6) ∧ J1 = J ∧ Scr I0 I1)) 5 [(0, .ref 0), (1, .int mi), (2, .int x), (3, .int (i32 (fB (fun k => sGo T (up2 C 1 c (i32 k))) mi (i)))), (4, .int (i32 (i)))] [] 58 I1 J RF) := by
    intro n
    induction n with
    | zero =>
      unfold Hid
      intro i I1 v hi hs
      refine V_go 2 rfl ?_
      refine V_icmp_gt rfl (fun h1 => ?_) (fun h1 => ?_)
      · skip
        refine V_go 1 rfl ?_
        refine V_iret rfl rfl rfl ?_
        exact RP.mk ⟨by rw [show i = 6 from hi], rfl, hs.2.2⟩
      · skip
        exfalso
        have h9 : i = 6 := hi
        rw [h9] at h1
        exact h1 (by decide)
    | succ n ih =>
      unfold Hid
      intro i I1 v hi hs
      refine V_go 2 rfl ?_
      refine V_icmp_gt rfl (fun h1 => ?_) (fun h1 => ?_)
      · skip
        exfalso
        exact absurd h1 (lp_more (i := i) (N := 6) (by omega) (by omega) ∘ (fun h => by grind [i32_ti]))
      · skip
        refine V_go 4 rfl ?_
        refine cVV (mt' := mX0_putKind) rfl kX6_233 fX0_putKind rfl rfl rfl (Nat.le_of_ble_eq_true rfl) (Nat.le_of_ble_eq_true rfl) (Nat.le_of_ble_eq_true rfl) (Nat.le_of_ble_eq_true rfl) (Nat.le_refl _) (c_putKindX (Or.inr (Or.inl rfl)) px (hs.lt (c := c) pc).1 (hs.lt (c := c) pc).2) ?_
        have ht2 : Th I0 (up2 I1 (15 + 2) c (i32 i)) T (up2 C 1 c (i32 i)) := by
          have h := hs.put (g := 1) (i := c) (v := i32 i) (by omega)
          rw [up2_up2] at h
          exact h
        refine V_go 2 rfl ?_
        refine cVP (mt' := mX0_spentByList) rfl kX6_220 fX0_spentByList rfl rfl rfl (Nat.le_of_ble_eq_true rfl) (Nat.le_of_ble_eq_true rfl) (Nat.le_of_ble_eq_true rfl) (Nat.le_of_ble_eq_true rfl) (Nat.le_refl _) (c_spentByList ht2.2.1) ?_
        intro r3 Ir3 Jr3 h3
        obtain ⟨hv, rfl, hq2⟩ := h3
        have ht3 := ht2.sq hq2
        rw [ht2.go] at hv
        subst hv
        refine V_go 1 rfl ?_
        refine V_icmp_ne rfl (fun h4 => ?_) (fun h4 => ?_)
        · skip
          refine V_go 2 rfl ?_
          refine V.st (I' := Ir3) (L' := [(0, .ref 0), (1, .int mi), (2, .int x), (3, .int (i32 (fB (fun k => sGo T (up2 C 1 c (i32 k))) mi (i + 1)))), (4, .int (i32 (i + 1)))]) (ih.un (i + 1) Ir3 (i32 i) (by omega) ht3) rfl ?_
          rw [i32_s i, (f_n (f := (fun k => sGo T (up2 C 1 c (i32 k)))) (k := i) h4).1]
          simp [i32_s]
        · skip
          refine V_go 8 rfl ?_
          refine V.st (I' := Ir3) (L' := [(0, .ref 0), (1, .int mi), (2, .int x), (3, .int (i32 (fB (fun k => sGo T (up2 C 1 c (i32 k))) mi (i + 1)))), (4, .int (i32 (i + 1)))]) (ih.un (i + 1) Ir3 (i32 i) (by omega) ht3) rfl ?_
          rw [i32_s i, (f_y (f := (fun k => sGo T (up2 C 1 c (i32 k)))) (k := i) h4).1, ← orb10 i (by omega) _ (fB_lt _ _ _)]
          simp [i32_s]
  refine CT_of okX6_kindsBy (Nat.le_of_ble_eq_true rfl) ?_
  show V _ _ _ _ _ _ [(0, _), (1, _), (2, _)] _ _ _ _ _
  refine V_go 4 rfl ?_
  exact (key 6).un 0 _ (C 1 c) rfl (by rw [up2_self]; exact ht)
theorem c_numbersBy {mi x : Int32} {c : Nat} {I0 : I2} {C : CC} {I : I2} {J : J2} {T : TV} (ht : Th I0 I T C) (px : i32 c = x) (pc : c < nC C) : CT mX6_numbersBy 7 58 58 [.ref 0, .int mi, .int x] I J RF (RP RF (fun r I1 J1 => r = i32 (fB (fun k => sGo T (up2 C 2 c (i32 k))) mi 10) ∧ J1 = J ∧ Scr I0 I1)) := by
  skip
  have key : ∀ n, Hid (∀ (i : Nat) (I1 : I2) (v : Int32), i + n = 10 → Th I0 I1 T (up2 C 2 c v) → V mX6_numbersBy none 7 58 (RP RF (fun r I1 J1 => r = i32 (fB (fun k => sGo T (up2 C 2 c (i32 k))) mi 10) ∧ J1 = J ∧ Scr I0 I1)) 5 [(0, .ref 0), (1, .int mi), (2, .int x), (3, .int (i32 (fB (fun k => sGo T (up2 C 2 c (i32 k))) mi (i)))), (4, .int (i32 (i)))] [] 58 I1 J RF) := by
    intro n
    induction n with
    | zero =>
      unfold Hid
      intro i I1 v hi hs
      refine V_go 2 rfl ?_
      refine V_icmp_gt rfl (fun h1 => ?_) (fun h1 => ?_)
      · skip
        refine V_go 1 rfl ?_
        refine V_iret rfl rfl rfl ?_
        exact RP.mk ⟨by rw [show i = 10 from hi], rfl, hs.2.2⟩
      · skip
        exfalso
        have h9 : i = 10 := hi
        rw [h9] at h1
        exact h1 (by decide)
    | succ n ih =>
      unfold Hid
      intro i I1 v hi hs
      refine V_go 2 rfl ?_
      refine V_icmp_gt rfl (fun h1 => ?_) (fun h1 => ?_)
      · skip
        exfalso
        exact absurd h1 (lp_more (i := i) (N := 10) (by omega) (by omega) ∘ (fun h => by grind [i32_ti]))
      · skip
        refine V_go 4 rfl ?_
        refine cVV (mt' := mX0_putNumber) rfl kX6_71 fX0_putNumber rfl rfl rfl (Nat.le_of_ble_eq_true rfl) (Nat.le_of_ble_eq_true rfl) (Nat.le_of_ble_eq_true rfl) (Nat.le_of_ble_eq_true rfl) (Nat.le_refl _) (c_putNumberX (Or.inr (Or.inl rfl)) px (hs.lt (c := c) pc).1 (hs.lt (c := c) pc).2) ?_
        have ht2 : Th I0 (up2 I1 (15 + 3) c (i32 i)) T (up2 C 2 c (i32 i)) := by
          have h := hs.put (g := 2) (i := c) (v := i32 i) (by omega)
          rw [up2_up2] at h
          exact h
        refine V_go 2 rfl ?_
        refine cVP (mt' := mX0_spentByList) rfl kX6_220 fX0_spentByList rfl rfl rfl (Nat.le_of_ble_eq_true rfl) (Nat.le_of_ble_eq_true rfl) (Nat.le_of_ble_eq_true rfl) (Nat.le_of_ble_eq_true rfl) (Nat.le_refl _) (c_spentByList ht2.2.1) ?_
        intro r3 Ir3 Jr3 h3
        obtain ⟨hv, rfl, hq2⟩ := h3
        have ht3 := ht2.sq hq2
        rw [ht2.go] at hv
        subst hv
        refine V_go 1 rfl ?_
        refine V_icmp_ne rfl (fun h4 => ?_) (fun h4 => ?_)
        · skip
          refine V_go 2 rfl ?_
          refine V.st (I' := Ir3) (L' := [(0, .ref 0), (1, .int mi), (2, .int x), (3, .int (i32 (fB (fun k => sGo T (up2 C 2 c (i32 k))) mi (i + 1)))), (4, .int (i32 (i + 1)))]) (ih.un (i + 1) Ir3 (i32 i) (by omega) ht3) rfl ?_
          rw [i32_s i, (f_n (f := (fun k => sGo T (up2 C 2 c (i32 k)))) (k := i) h4).1]
          simp [i32_s]
        · skip
          refine V_go 8 rfl ?_
          refine V.st (I' := Ir3) (L' := [(0, .ref 0), (1, .int mi), (2, .int x), (3, .int (i32 (fB (fun k => sGo T (up2 C 2 c (i32 k))) mi (i + 1)))), (4, .int (i32 (i + 1)))]) (ih.un (i + 1) Ir3 (i32 i) (by omega) ht3) rfl ?_
          rw [i32_s i, (f_y (f := (fun k => sGo T (up2 C 2 c (i32 k)))) (k := i) h4).1, ← orb10 i (by omega) _ (fB_lt _ _ _)]
          simp [i32_s]
  refine CT_of okX6_numbersBy (Nat.le_of_ble_eq_true rfl) ?_
  show V _ _ _ _ _ _ [(0, _), (1, _), (2, _)] _ _ _ _ _
  refine V_go 4 rfl ?_
  exact (key 10).un 0 _ (C 2 c) rfl (by rw [up2_self]; exact ht)
theorem c_bribesBy {mi x w : Int32} {c : Nat} {I0 : I2} {C : CC} {I : I2} {J : J2} {T : TV} (ht : Th I0 I T C) (px : i32 c = x) (pc : c < nC C) : CT mX6_bribesBy 7 58 58 [.ref 0, .int mi, .int x, .int w] I J RF (RP RF (fun r I1 J1 => r = (if w = 0 then i32 (fN (fun k => sGo T (up2 C 3 c (i32 k))) mi 100) else fL (fun k => sGo T (up2 C 3 c (i32 k))) mi 100) ∧ J1 = J ∧ Scr I0 I1)) := by
  skip
  have key : ∀ n, Hid (∀ (i : Nat) (I1 : I2) (v : Int32), i + n = 100 → Th I0 I1 T (up2 C 3 c v) → V mX6_bribesBy none 7 58 (RP RF (fun r I1 J1 => r = (if w = 0 then i32 (fN (fun k => sGo T (up2 C 3 c (i32 k))) mi 100) else fL (fun k => sGo T (up2 C 3 c (i32 k))) mi 100) ∧ J1 = J ∧ Scr I0 I1)) 9 [(0, .ref 0), (1, .int mi), (2, .int x), (3, .int w), (4, .int (i32 (fN (fun k => sGo T (up2 C 3 c (i32 k))) mi (i)))), (5, .int (fL (fun k => sGo T (up2 C 3 c (i32 k))) mi (i))), (6, .int (i32 (i)))] [] 58 I1 J RF) := by
    intro n
    induction n with
    | zero =>
      unfold Hid
      intro i I1 v hi hs
      refine V_go 2 rfl ?_
      refine V_icmp_gt rfl (fun h1 => ?_) (fun h1 => ?_)
      · skip
        refine V_go 1 rfl ?_
        refine V_if_eq rfl (fun h2 => ?_) (fun h2 => ?_)
        · skip
          refine V_go 1 rfl ?_
          refine V_iret rfl rfl rfl ?_
          refine RP.mk ⟨?_, rfl, hs.2.2⟩
          rw [show i = 100 from hi]
          first
            | (rw [if_pos (by assumption)]; done)
            | (rw [if_neg (by assumption)]; done)
        · skip
          refine V_go 2 rfl ?_
          refine V_iret rfl rfl rfl ?_
          refine RP.mk ⟨?_, rfl, hs.2.2⟩
          rw [show i = 100 from hi]
          first
            | (rw [if_pos (by assumption)]; done)
            | (rw [if_neg (by assumption)]; done)
      · skip
        exfalso
        have h9 : i = 100 := hi
        rw [h9] at h1
        exact h1 (by decide)
    | succ n ih =>
      unfold Hid
      intro i I1 v hi hs
      refine V_go 2 rfl ?_
      refine V_icmp_gt rfl (fun h1 => ?_) (fun h1 => ?_)
      · skip
        exfalso
        exact absurd h1 (lp_more (i := i) (N := 100) (by omega) (by omega) ∘ (fun h => by grind [i32_ti]))
      · skip
        refine V_go 4 rfl ?_
        refine cVV (mt' := mX0_putBribe) rfl kX6_75 fX0_putBribe rfl rfl rfl (Nat.le_of_ble_eq_true rfl) (Nat.le_of_ble_eq_true rfl) (Nat.le_of_ble_eq_true rfl) (Nat.le_of_ble_eq_true rfl) (Nat.le_refl _) (c_putBribeX (Or.inr (Or.inl rfl)) px (hs.lt (c := c) pc).1 (hs.lt (c := c) pc).2) ?_
        have ht2 : Th I0 (up2 I1 (15 + 4) c (i32 i)) T (up2 C 3 c (i32 i)) := by
          have h := hs.put (g := 3) (i := c) (v := i32 i) (by omega)
          rw [up2_up2] at h
          exact h
        refine V_go 2 rfl ?_
        refine cVP (mt' := mX0_spentByList) rfl kX6_220 fX0_spentByList rfl rfl rfl (Nat.le_of_ble_eq_true rfl) (Nat.le_of_ble_eq_true rfl) (Nat.le_of_ble_eq_true rfl) (Nat.le_of_ble_eq_true rfl) (Nat.le_refl _) (c_spentByList ht2.2.1) ?_
        intro r3 Ir3 Jr3 h3
        obtain ⟨hv, rfl, hq2⟩ := h3
        have ht3 := ht2.sq hq2
        rw [ht2.go] at hv
        subst hv
        refine V_go 1 rfl ?_
        refine V_icmp_ne rfl (fun h4 => ?_) (fun h4 => ?_)
        · skip
          refine V_go 2 rfl ?_
          refine V.st (I' := Ir3) (L' := [(0, .ref 0), (1, .int mi), (2, .int x), (3, .int w), (4, .int (i32 (fN (fun k => sGo T (up2 C 3 c (i32 k))) mi (i + 1)))), (5, .int (fL (fun k => sGo T (up2 C 3 c (i32 k))) mi (i + 1))), (6, .int (i32 (i + 1)))]) (ih.un (i + 1) Ir3 (i32 i) (by omega) ht3) rfl ?_
          rw [i32_s i, (f_n (f := (fun k => sGo T (up2 C 3 c (i32 k)))) (k := i) h4).2.1, (f_n (f := (fun k => sGo T (up2 C 3 c (i32 k)))) (k := i) h4).2.2.2.2]
          simp [i32_s]
        · skip
          refine V_go 1 rfl ?_
          refine V_if_ne rfl (fun h5 => ?_) (fun h5 => ?_)
          · skip
            refine V_go 5 rfl ?_
            refine V.st (I' := Ir3) (L' := [(0, .ref 0), (1, .int mi), (2, .int x), (3, .int w), (4, .int (i32 (fN (fun k => sGo T (up2 C 3 c (i32 k))) mi (i + 1)))), (5, .int (fL (fun k => sGo T (up2 C 3 c (i32 k))) mi (i + 1))), (6, .int (i32 (i + 1)))]) (ih.un (i + 1) Ir3 (i32 i) (by omega) ht3) rfl ?_
            rw [i32_s i, (f_y (f := (fun k => sGo T (up2 C 3 c (i32 k)))) (k := i) h4).2.1, fL_n (f := (fun k => sGo T (up2 C 3 c (i32 k)))) (k := i) (by assumption) (by omega)]
            simp [i32_s]
          · skip
            refine V_go 6 rfl ?_
            refine V.st (I' := Ir3) (L' := [(0, .ref 0), (1, .int mi), (2, .int x), (3, .int w), (4, .int (i32 (fN (fun k => sGo T (up2 C 3 c (i32 k))) mi (i + 1)))), (5, .int (fL (fun k => sGo T (up2 C 3 c (i32 k))) mi (i + 1))), (6, .int (i32 (i + 1)))]) (ih.un (i + 1) Ir3 (i32 i) (by omega) ht3) rfl ?_
            rw [i32_s i, (f_y (f := (fun k => sGo T (up2 C 3 c (i32 k)))) (k := i) h4).2.1, fL_y (f := (fun k => sGo T (up2 C 3 c (i32 k)))) (k := i) h4 (by assumption) (by omega)]
            simp [i32_s]
  refine CT_of okX6_bribesBy (Nat.le_of_ble_eq_true rfl) ?_
  show V _ _ _ _ _ _ [(0, _), (1, _), (2, _), (3, _)] _ _ _ _ _
  refine V_go 6 rfl ?_
  exact (key 100).un 0 _ (C 3 c) rfl (by rw [up2_self]; exact ht)
