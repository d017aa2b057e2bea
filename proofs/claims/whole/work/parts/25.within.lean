def sDr (C : CC) (z0 : Int32) : Nat → CC × Int32
  | 0 => (C, z0)
  | i + 1 => (up2 (sDr C z0 i).1 3 i (iushrV ((sDr C z0 i).2 * 1103515245 + 12345) 9 - iushrV ((sDr C z0 i).2 * 1103515245 + 12345) 9 / 100 * 100), (sDr C z0 i).2 * 1103515245 + 12345)
theorem sDr_0 (C : CC) (z : Int32) : ∀ i, (sDr C z i).1 0 = C 0
  | 0 => rfl
  | i + 1 => by
    simp only [sDr]
    rw [up2_ne (by omega), sDr_0 C z i]
theorem Cok.lt {I I1 : I2} {o : Nat} (h : cOf I1 o 0 = cOf I o 0) : nC (cOf I1 o) = nC (cOf I o) ∧ mC (cOf I1 o) = mC (cOf I o) := by
  unfold nC mC
  rw [h]
  exact ⟨rfl, rfl⟩
/-- all scalars but the sitting -/
def Cq0 (C C' : CC) : Prop := ∀ j, j ≠ 0 → C 0 j = C' 0 j
theorem Cq0.rf {C : CC} : Cq0 C C := fun _ _ => rfl
theorem Cok.frq {I I1 : I2} {o : Nat} {T : TV} (h : Cok I o T) (q : Fr o I I1) (e : Cq0 (cOf I1 o) (cOf I o)) : Cok I1 o T := by
  obtain ⟨ho, ⟨h1, h2, h3⟩, h4⟩ := h
  have e1 : I1 1 = I 1 := q 1 (by omega) (by rcases ho with rfl | rfl | rfl <;> omega)
  have e2 : I1 2 = I 2 := q 2 (by omega) (by rcases ho with rfl | rfl | rfl <;> omega)
  have e3 : I1 3 = I 3 := q 3 (by omega) (by rcases ho with rfl | rfl | rfl <;> omega)
  have f2 : I1 o 4 = I o 4 := e 2 (by omega)
  have f3 : I1 o 5 = I o 5 := e 3 (by omega)
  have f4 : I1 o 9 = I o 9 := e 4 (by omega)
  refine ⟨ho, ⟨?_, ?_, ?_⟩, ?_⟩
  · rw [e1]; exact h1
  · rw [e1]; exact h2
  · rw [e1, e2, e3]; exact h3
  · rw [f2, f3, f4, e1]; exact h4
theorem Cq0.nm {C C' : CC} (e : Cq0 C C') : nC C = nC C' ∧ mC C = mC C' := ⟨by unfold nC; rw [e 3 (by omega)], by unfold mC; rw [e 4 (by omega)]⟩
theorem c_doneWithin_7 {it : Nat} {I : I2} {J : J2} {T : TV} (hC : Cok I 7 T) (hi : it < mC (cOf I 7)) : CT mX0_doneWithin 8 58 58 [.ref 7, .int 40, .int (i32 it)] I J RF (RP RF (fun r I2 J2 => r = sDW T it 40 (cOf I 7) 6 it ∧ cOf I2 7 = sDW T it 40 (cOf I 7) ∧ J2 = J ∧ Fr 7 I I2)) := by
  have ho := hC.1
  obtain ⟨-, hT, hr0, hr1, hn0, hn8, hi0, hi6⟩ := id hC
  obtain ⟨e9, hM6⟩ := mC_i hi0 hi6
  refine CT_of okX0_doneWithin (Nat.le_of_ble_eq_true rfl) ?_
  show V _ _ _ _ _ _ [(0, _), (1, _), (2, _)] _ _ _ _ _
  have key : ∀ n, Hid (∀ (i : Nat) (I1 : I2), i + n = 40 → (Cq0 (cOf I1 7) (cOf I 7) ∧ Fr 7 I I1) → V mX0_doneWithin none 8 58 (RP RF (fun r I2 J2 => r = sDW T it n (cOf I1 7) 6 it ∧ cOf I2 7 = sDW T it n (cOf I1 7) ∧ J2 = J ∧ Fr 7 I I2)) 2 [(0, .ref 7), (1, .int 40), (2, .int (i32 it)), (3, .int (i32 i))] [] 58 I1 J RF) := by
    intro n
    induction n with
    | zero =>
      unfold Hid
      intro i I1 hi ⟨hs, hq⟩
      have f9 : I1 7 9 = I 7 9 := hs 4 (by omega)
      refine V_go 2 rfl ?_
      refine V_icmp_ge rfl (fun h1 => ?_) (fun h1 => ?_)
      · skip
        refine V_go 2 rfl ?_
        refine cVI (mt' := mX0_doneAt) rfl kX0_68 fX0_doneAt rfl rfl rfl (Nat.le_of_ble_eq_true rfl) (Nat.le_of_ble_eq_true rfl) (Nat.le_of_ble_eq_true rfl) (Nat.le_of_ble_eq_true rfl) (Nat.le_refl _) (c_doneAtR ho (c := it) (by rw [f9, e9]; grind [i32_ti]) (by omega)) ?_
        refine V_iret rfl rfl rfl ?_
        exact RP.mk ⟨rfl, rfl, rfl, hq⟩
      · skip
        exfalso
        have h9 : i = 40 := hi
        rw [h9] at h1
        exact h1 (by decide)
    | succ n ih =>
      unfold Hid
      intro i I1 hi ⟨hs, hq⟩
      have f9 : I1 7 9 = I 7 9 := hs 4 (by omega)
      refine V_go 2 rfl ?_
      refine V_icmp_ge rfl (fun h1 => ?_) (fun h1 => ?_)
      · skip
        exfalso
        exact lp_more (i := i) (N := 40) (by omega) (by omega) h1
      · skip
        refine V_go 2 rfl ?_
        refine cVI (mt' := mX0_doneAt) rfl kX0_68 fX0_doneAt rfl rfl rfl (Nat.le_of_ble_eq_true rfl) (Nat.le_of_ble_eq_true rfl) (Nat.le_of_ble_eq_true rfl) (Nat.le_of_ble_eq_true rfl) (Nat.le_refl _) (c_doneAtR ho (c := it) (by rw [f9, e9]; grind [i32_ti]) (by omega)) ?_
        refine V_go 1 rfl ?_
        refine V_icmp_ne rfl (fun h3 => ?_) (fun h3 => ?_)
        · skip
          refine V_go 2 rfl ?_
          refine cVI (mt' := mX0_doneAt) rfl kX0_68 fX0_doneAt rfl rfl rfl (Nat.le_of_ble_eq_true rfl) (Nat.le_of_ble_eq_true rfl) (Nat.le_of_ble_eq_true rfl) (Nat.le_of_ble_eq_true rfl) (Nat.le_refl _) (c_doneAtR ho (c := it) (by rw [f9, e9]; grind [i32_ti]) (by omega)) ?_
          refine V_iret rfl rfl rfl ?_
          have e : sDW T it (n + 1) (cOf I1 7) = cOf I1 7 := by
            simp only [sDW]
            rw [if_neg (by simp only [cOf, Nat.reduceAdd]; assumption)]
          rw [e]
          exact RP.mk ⟨rfl, rfl, rfl, hq⟩
        · skip
          refine V_go 1 rfl ?_
          refine cVP (mt' := mX0_hold) rfl kX0_145 fX0_hold rfl rfl rfl (Nat.le_of_ble_eq_true rfl) (Nat.le_of_ble_eq_true rfl) (Nat.le_of_ble_eq_true rfl) (Nat.le_of_ble_eq_true rfl) (Nat.le_refl _) (c_hold (hC.frq hq hs)) ?_
          intro r5 Ir5 Jr5 h5
          obtain ⟨hv, hc2, rfl, hq2⟩ := h5
          refine V_go 3 rfl ?_
          have e : sDW T it (n + 1) (cOf I1 7) = sDW T it n (cOf Ir5 7) := by
            rw [hc2]
            simp only [sDW]
            rw [if_pos (by simp only [cOf, Nat.reduceAdd]; assumption)]
          rw [e]
          refine V.st (I' := Ir5) (L' := [(0, .ref 7), (1, .int 40), (2, .int (i32 it)), (3, .int (i32 (i + 1)))]) (ih.un (i + 1) Ir5 (by omega) ⟨fun j hj => by rw [hc2, sHold_0 _ _ _ hj]; exact hs j hj, hq.tr hq2⟩) rfl ?_
          rw [i32_s]
          simp
  refine V_go 2 rfl ?_
  exact (key 40).un 0 I rfl ⟨Cq0.rf, Fr.rf⟩
theorem c_doneWithin_15 {it : Nat} {I : I2} {J : J2} {T : TV} (hC : Cok I 15 T) (hi : it < mC (cOf I 15)) : CT mX0_doneWithin 8 58 58 [.ref 15, .int 40, .int (i32 it)] I J RF (RP RF (fun r I2 J2 => r = sDW T it 40 (cOf I 15) 6 it ∧ cOf I2 15 = sDW T it 40 (cOf I 15) ∧ J2 = J ∧ Fr 15 I I2)) := by
  have ho := hC.1
  obtain ⟨-, hT, hr0, hr1, hn0, hn8, hi0, hi6⟩ := id hC
  obtain ⟨e9, hM6⟩ := mC_i hi0 hi6
  refine CT_of okX0_doneWithin (Nat.le_of_ble_eq_true rfl) ?_
  show V _ _ _ _ _ _ [(0, _), (1, _), (2, _)] _ _ _ _ _
  have key : ∀ n, Hid (∀ (i : Nat) (I1 : I2), i + n = 40 → (Cq0 (cOf I1 15) (cOf I 15) ∧ Fr 15 I I1) → V mX0_doneWithin none 8 58 (RP RF (fun r I2 J2 => r = sDW T it n (cOf I1 15) 6 it ∧ cOf I2 15 = sDW T it n (cOf I1 15) ∧ J2 = J ∧ Fr 15 I I2)) 2 [(0, .ref 15), (1, .int 40), (2, .int (i32 it)), (3, .int (i32 i))] [] 58 I1 J RF) := by
    intro n
    induction n with
    | zero =>
      unfold Hid
      intro i I1 hi ⟨hs, hq⟩
      have f9 : I1 15 9 = I 15 9 := hs 4 (by omega)
      refine V_go 2 rfl ?_
      refine V_icmp_ge rfl (fun h1 => ?_) (fun h1 => ?_)
      · skip
        refine V_go 2 rfl ?_
        refine cVI (mt' := mX0_doneAt) rfl kX0_68 fX0_doneAt rfl rfl rfl (Nat.le_of_ble_eq_true rfl) (Nat.le_of_ble_eq_true rfl) (Nat.le_of_ble_eq_true rfl) (Nat.le_of_ble_eq_true rfl) (Nat.le_refl _) (c_doneAtR ho (c := it) (by rw [f9, e9]; grind [i32_ti]) (by omega)) ?_
        refine V_iret rfl rfl rfl ?_
        exact RP.mk ⟨rfl, rfl, rfl, hq⟩
      · skip
        exfalso
        have h9 : i = 40 := hi
        rw [h9] at h1
        exact h1 (by decide)
    | succ n ih =>
      unfold Hid
      intro i I1 hi ⟨hs, hq⟩
      have f9 : I1 15 9 = I 15 9 := hs 4 (by omega)
      refine V_go 2 rfl ?_
      refine V_icmp_ge rfl (fun h1 => ?_) (fun h1 => ?_)
      · skip
        exfalso
        exact lp_more (i := i) (N := 40) (by omega) (by omega) h1
      · skip
        refine V_go 2 rfl ?_
        refine cVI (mt' := mX0_doneAt) rfl kX0_68 fX0_doneAt rfl rfl rfl (Nat.le_of_ble_eq_true rfl) (Nat.le_of_ble_eq_true rfl) (Nat.le_of_ble_eq_true rfl) (Nat.le_of_ble_eq_true rfl) (Nat.le_refl _) (c_doneAtR ho (c := it) (by rw [f9, e9]; grind [i32_ti]) (by omega)) ?_
        refine V_go 1 rfl ?_
        refine V_icmp_ne rfl (fun h3 => ?_) (fun h3 => ?_)
        · skip
          refine V_go 2 rfl ?_
          refine cVI (mt' := mX0_doneAt) rfl kX0_68 fX0_doneAt rfl rfl rfl (Nat.le_of_ble_eq_true rfl) (Nat.le_of_ble_eq_true rfl) (Nat.le_of_ble_eq_true rfl) (Nat.le_of_ble_eq_true rfl) (Nat.le_refl _) (c_doneAtR ho (c := it) (by rw [f9, e9]; grind [i32_ti]) (by omega)) ?_
          refine V_iret rfl rfl rfl ?_
          have e : sDW T it (n + 1) (cOf I1 15) = cOf I1 15 := by
            simp only [sDW]
            rw [if_neg (by simp only [cOf, Nat.reduceAdd]; assumption)]
          rw [e]
          exact RP.mk ⟨rfl, rfl, rfl, hq⟩
        · skip
          refine V_go 1 rfl ?_
          refine cVP (mt' := mX0_hold) rfl kX0_145 fX0_hold rfl rfl rfl (Nat.le_of_ble_eq_true rfl) (Nat.le_of_ble_eq_true rfl) (Nat.le_of_ble_eq_true rfl) (Nat.le_of_ble_eq_true rfl) (Nat.le_refl _) (c_hold (hC.frq hq hs)) ?_
          intro r5 Ir5 Jr5 h5
          obtain ⟨hv, hc2, rfl, hq2⟩ := h5
          refine V_go 3 rfl ?_
          have e : sDW T it (n + 1) (cOf I1 15) = sDW T it n (cOf Ir5 15) := by
            rw [hc2]
            simp only [sDW]
            rw [if_pos (by simp only [cOf, Nat.reduceAdd]; assumption)]
          rw [e]
          refine V.st (I' := Ir5) (L' := [(0, .ref 15), (1, .int 40), (2, .int (i32 it)), (3, .int (i32 (i + 1)))]) (ih.un (i + 1) Ir5 (by omega) ⟨fun j hj => by rw [hc2, sHold_0 _ _ _ hj]; exact hs j hj, hq.tr hq2⟩) rfl ?_
          rw [i32_s]
          simp
  refine V_go 2 rfl ?_
  exact (key 40).un 0 I rfl ⟨Cq0.rf, Fr.rf⟩
theorem c_doneWithin_23 {it : Nat} {I : I2} {J : J2} {T : TV} (hC : Cok I 23 T) (hi : it < mC (cOf I 23)) : CT mX0_doneWithin 8 58 58 [.ref 23, .int 40, .int (i32 it)] I J RF (RP RF (fun r I2 J2 => r = sDW T it 40 (cOf I 23) 6 it ∧ cOf I2 23 = sDW T it 40 (cOf I 23) ∧ J2 = J ∧ Fr 23 I I2)) := by
  have ho := hC.1
  obtain ⟨-, hT, hr0, hr1, hn0, hn8, hi0, hi6⟩ := id hC
  obtain ⟨e9, hM6⟩ := mC_i hi0 hi6
  refine CT_of okX0_doneWithin (Nat.le_of_ble_eq_true rfl) ?_
  show V _ _ _ _ _ _ [(0, _), (1, _), (2, _)] _ _ _ _ _
  have key : ∀ n, Hid (∀ (i : Nat) (I1 : I2), i + n = 40 → (Cq0 (cOf I1 23) (cOf I 23) ∧ Fr 23 I I1) → V mX0_doneWithin none 8 58 (RP RF (fun r I2 J2 => r = sDW T it n (cOf I1 23) 6 it ∧ cOf I2 23 = sDW T it n (cOf I1 23) ∧ J2 = J ∧ Fr 23 I I2)) 2 [(0, .ref 23), (1, .int 40), (2, .int (i32 it)), (3, .int (i32 i))] [] 58 I1 J RF) := by
    intro n
    induction n with
    | zero =>
      unfold Hid
      intro i I1 hi ⟨hs, hq⟩
      have f9 : I1 23 9 = I 23 9 := hs 4 (by omega)
      refine V_go 2 rfl ?_
      refine V_icmp_ge rfl (fun h1 => ?_) (fun h1 => ?_)
      · skip
        refine V_go 2 rfl ?_
        refine cVI (mt' := mX0_doneAt) rfl kX0_68 fX0_doneAt rfl rfl rfl (Nat.le_of_ble_eq_true rfl) (Nat.le_of_ble_eq_true rfl) (Nat.le_of_ble_eq_true rfl) (Nat.le_of_ble_eq_true rfl) (Nat.le_refl _) (c_doneAtR ho (c := it) (by rw [f9, e9]; grind [i32_ti]) (by omega)) ?_
        refine V_iret rfl rfl rfl ?_
        exact RP.mk ⟨rfl, rfl, rfl, hq⟩
      · skip
        exfalso
        have h9 : i = 40 := hi
        rw [h9] at h1
        exact h1 (by decide)
    | succ n ih =>
      unfold Hid
      intro i I1 hi ⟨hs, hq⟩
      have f9 : I1 23 9 = I 23 9 := hs 4 (by omega)
      refine V_go 2 rfl ?_
      refine V_icmp_ge rfl (fun h1 => ?_) (fun h1 => ?_)
      · skip
        exfalso
        exact lp_more (i := i) (N := 40) (by omega) (by omega) h1
      · skip
        refine V_go 2 rfl ?_
        refine cVI (mt' := mX0_doneAt) rfl kX0_68 fX0_doneAt rfl rfl rfl (Nat.le_of_ble_eq_true rfl) (Nat.le_of_ble_eq_true rfl) (Nat.le_of_ble_eq_true rfl) (Nat.le_of_ble_eq_true rfl) (Nat.le_refl _) (c_doneAtR ho (c := it) (by rw [f9, e9]; grind [i32_ti]) (by omega)) ?_
        refine V_go 1 rfl ?_
        refine V_icmp_ne rfl (fun h3 => ?_) (fun h3 => ?_)
        · skip
          refine V_go 2 rfl ?_
          refine cVI (mt' := mX0_doneAt) rfl kX0_68 fX0_doneAt rfl rfl rfl (Nat.le_of_ble_eq_true rfl) (Nat.le_of_ble_eq_true rfl) (Nat.le_of_ble_eq_true rfl) (Nat.le_of_ble_eq_true rfl) (Nat.le_refl _) (c_doneAtR ho (c := it) (by rw [f9, e9]; grind [i32_ti]) (by omega)) ?_
          refine V_iret rfl rfl rfl ?_
          have e : sDW T it (n + 1) (cOf I1 23) = cOf I1 23 := by
            simp only [sDW]
            rw [if_neg (by simp only [cOf, Nat.reduceAdd]; assumption)]
          rw [e]
          exact RP.mk ⟨rfl, rfl, rfl, hq⟩
        · skip
          refine V_go 1 rfl ?_
          refine cVP (mt' := mX0_hold) rfl kX0_145 fX0_hold rfl rfl rfl (Nat.le_of_ble_eq_true rfl) (Nat.le_of_ble_eq_true rfl) (Nat.le_of_ble_eq_true rfl) (Nat.le_of_ble_eq_true rfl) (Nat.le_refl _) (c_hold (hC.frq hq hs)) ?_
          intro r5 Ir5 Jr5 h5
          obtain ⟨hv, hc2, rfl, hq2⟩ := h5
          refine V_go 3 rfl ?_
          have e : sDW T it (n + 1) (cOf I1 23) = sDW T it n (cOf Ir5 23) := by
            rw [hc2]
            simp only [sDW]
            rw [if_pos (by simp only [cOf, Nat.reduceAdd]; assumption)]
          rw [e]
          refine V.st (I' := Ir5) (L' := [(0, .ref 23), (1, .int 40), (2, .int (i32 it)), (3, .int (i32 (i + 1)))]) (ih.un (i + 1) Ir5 (by omega) ⟨fun j hj => by rw [hc2, sHold_0 _ _ _ hj]; exact hs j hj, hq.tr hq2⟩) rfl ?_
          rw [i32_s]
          simp
  refine V_go 2 rfl ?_
  exact (key 40).un 0 I rfl ⟨Cq0.rf, Fr.rf⟩
theorem c_doneWithin {o : Nat} {it : Nat} {I : I2} {J : J2} {T : TV} (hC : Cok I o T) (hi : it < mC (cOf I o)) : CT mX0_doneWithin 8 58 58 [.ref o, .int 40, .int (i32 it)] I J RF (RP RF (fun r I2 J2 => r = sDW T it 40 (cOf I o) 6 it ∧ cOf I2 o = sDW T it 40 (cOf I o) ∧ J2 = J ∧ Fr o I I2)) := by
  rcases hC.1 with rfl | rfl | rfl
  · exact c_doneWithin_7 hC hi
  · exact c_doneWithin_15 hC hi
  · exact c_doneWithin_23 hC hi
theorem c_putKindR {o c : Nat} {v : Int32} {I : I2} {J : J2} (ho : oC o) (h1 : i32 c < I o 5) (h2 : c < 8) : CT mX0_putKind 2 58 58 [.ref o, .int (i32 c), .int v] I J RF (RV RF (up2 I (o + 2) c v) J) := by
  have h := c_putKind (x := i32 c) (v := v) (I := I) (J := J) ho
  rw [if_pos ⟨by grind [i32_ti], h1, by grind [i32_ti]⟩, tn_of (by omega)] at h
  exact h
theorem c_putNumberR {o c : Nat} {v : Int32} {I : I2} {J : J2} (ho : oC o) (h1 : i32 c < I o 5) (h2 : c < 8) : CT mX0_putNumber 2 58 58 [.ref o, .int (i32 c), .int v] I J RF (RV RF (up2 I (o + 3) c v) J) := by
  have h := c_putNumber (x := i32 c) (v := v) (I := I) (J := J) ho
  rw [if_pos ⟨by grind [i32_ti], h1, by grind [i32_ti]⟩, tn_of (by omega)] at h
  exact h
theorem c_putBribeR {o c : Nat} {v : Int32} {I : I2} {J : J2} (ho : oC o) (h1 : i32 c < I o 5) (h2 : c < 8) : CT mX0_putBribe 2 58 58 [.ref o, .int (i32 c), .int v] I J RF (RV RF (up2 I (o + 4) c v) J) := by
  have h := c_putBribe (x := i32 c) (v := v) (I := I) (J := J) ho
  rw [if_pos ⟨by grind [i32_ti], h1, by grind [i32_ti]⟩, tn_of (by omega)] at h
  exact h
theorem c_drawBribes_7 {z0 : Int32} {I : I2} {J : J2} {T : TV} (hC : Cok I 7 T) : CT mX0_drawBribes 3 58 58 [.ref 7, .int z0] I J RF (RVP RF (fun I2 J2 => cOf I2 7 = (sDr (cOf I 7) z0 (nC (cOf I 7))).1 ∧ J2 = J ∧ Fr 7 I I2)) := by
  have ho := hC.1
  obtain ⟨-, hT, hr0, hr1, hn0, hn8, hi0, hi6⟩ := id hC
  obtain ⟨e9, hM6⟩ := mC_i hi0 hi6
  obtain ⟨e5, hN8⟩ := nC_i hn0 hn8
  refine CT_of okX0_drawBribes (Nat.le_of_ble_eq_true rfl) ?_
  show V _ _ _ _ _ _ [(0, _), (1, _)] _ _ _ _ _
  have key : ∀ n, Hid (∀ (i : Nat) (I1 : I2), i + n = nC (cOf I 7) → (cOf I1 7 = (sDr (cOf I 7) z0 i).1 ∧ Fr 7 I I1) → V mX0_drawBribes none 3 58 (RVP RF (fun I2 J2 => cOf I2 7 = (sDr (cOf I 7) z0 (nC (cOf I 7))).1 ∧ J2 = J ∧ Fr 7 I I2)) 4 [(0, .ref 7), (1, .int z0), (2, .int (sDr (cOf I 7) z0 i).2), (3, .int (i32 i))] [] 58 I1 J RF) := by
    intro n
    induction n with
    | zero =>
      unfold Hid
      intro i I1 hi ⟨hs, hq⟩
      have h00 : cOf I1 7 0 = cOf I 7 0 := by rw [hs]; exact sDr_0 _ _ _
      obtain ⟨-, -, -, f5, -⟩ := cOf_0 h00
      refine V_go 3 rfl ?_
      refine V_icmp_ge rfl (fun h1 => ?_) (fun h1 => ?_)
      · skip
        refine V_vret rfl rfl rfl ?_
        refine RVP.mk ⟨?_, rfl, hq⟩
        rw [hs, show i = nC (cOf I 7) from hi]
      · skip
        exfalso
        rw [f5, e5] at h1
        exact h1 (lp_stop hi)
    | succ n ih =>
      unfold Hid
      intro i I1 hi ⟨hs, hq⟩
      have h00 : cOf I1 7 0 = cOf I 7 0 := by rw [hs]; exact sDr_0 _ _ _
      obtain ⟨-, -, -, f5, -⟩ := cOf_0 h00
      refine V_go 3 rfl ?_
      refine V_icmp_ge rfl (fun h1 => ?_) (fun h1 => ?_)
      · skip
        exfalso
        rw [f5, e5] at h1
        exact lp_more (by omega) (by omega) h1
      · skip
        refine V_go 12 rfl ?_
        refine V_irem0 rfl (by decide) ?_
        refine cVV (mt' := mX0_putBribe) rfl kX0_72 fX0_putBribe rfl rfl rfl (Nat.le_of_ble_eq_true rfl) (Nat.le_of_ble_eq_true rfl) (Nat.le_of_ble_eq_true rfl) (Nat.le_of_ble_eq_true rfl) (Nat.le_refl _) (c_putBribeR ho (c := i) (by rw [f5, e5]; grind [i32_ti]) (by omega)) ?_
        refine V_go 2 rfl ?_
        refine V.st (I' := up2 I1 (7 + 4) i _) (L' := [(0, .ref 7), (1, .int z0), (2, .int (sDr (cOf I 7) z0 (i + 1)).2), (3, .int (i32 (i + 1)))]) (ih.un (i + 1) _ (by omega) ⟨?_, hq.tr (Fr.up (by omega))⟩) rfl ?_
        · rw [cOf_row (o := 7) (g := 3) rfl (by omega), hs]; rfl
        · rw [i32_s]
          simp [sDr]
  refine V_go 4 rfl ?_
  exact (key _).un 0 I (Nat.zero_add _) ⟨rfl, Fr.rf⟩
theorem c_drawBribes_15 {z0 : Int32} {I : I2} {J : J2} {T : TV} (hC : Cok I 15 T) : CT mX0_drawBribes 3 58 58 [.ref 15, .int z0] I J RF (RVP RF (fun I2 J2 => cOf I2 15 = (sDr (cOf I 15) z0 (nC (cOf I 15))).1 ∧ J2 = J ∧ Fr 15 I I2)) := by
  have ho := hC.1
  obtain ⟨-, hT, hr0, hr1, hn0, hn8, hi0, hi6⟩ := id hC
  obtain ⟨e9, hM6⟩ := mC_i hi0 hi6
  obtain ⟨e5, hN8⟩ := nC_i hn0 hn8
  refine CT_of okX0_drawBribes (Nat.le_of_ble_eq_true rfl) ?_
  show V _ _ _ _ _ _ [(0, _), (1, _)] _ _ _ _ _
  have key : ∀ n, Hid (∀ (i : Nat) (I1 : I2), i + n = nC (cOf I 15) → (cOf I1 15 = (sDr (cOf I 15) z0 i).1 ∧ Fr 15 I I1) → V mX0_drawBribes none 3 58 (RVP RF (fun I2 J2 => cOf I2 15 = (sDr (cOf I 15) z0 (nC (cOf I 15))).1 ∧ J2 = J ∧ Fr 15 I I2)) 4 [(0, .ref 15), (1, .int z0), (2, .int (sDr (cOf I 15) z0 i).2), (3, .int (i32 i))] [] 58 I1 J RF) := by
    intro n
    induction n with
    | zero =>
      unfold Hid
      intro i I1 hi ⟨hs, hq⟩
      have h00 : cOf I1 15 0 = cOf I 15 0 := by rw [hs]; exact sDr_0 _ _ _
      obtain ⟨-, -, -, f5, -⟩ := cOf_0 h00
      refine V_go 3 rfl ?_
      refine V_icmp_ge rfl (fun h1 => ?_) (fun h1 => ?_)
      · skip
        refine V_vret rfl rfl rfl ?_
        refine RVP.mk ⟨?_, rfl, hq⟩
        rw [hs, show i = nC (cOf I 15) from hi]
      · skip
        exfalso
        rw [f5, e5] at h1
        exact h1 (lp_stop hi)
    | succ n ih =>
      unfold Hid
      intro i I1 hi ⟨hs, hq⟩
      have h00 : cOf I1 15 0 = cOf I 15 0 := by rw [hs]; exact sDr_0 _ _ _
      obtain ⟨-, -, -, f5, -⟩ := cOf_0 h00
      refine V_go 3 rfl ?_
      refine V_icmp_ge rfl (fun h1 => ?_) (fun h1 => ?_)
      · skip
        exfalso
        rw [f5, e5] at h1
        exact lp_more (by omega) (by omega) h1
      · skip
        refine V_go 12 rfl ?_
        refine V_irem0 rfl (by decide) ?_
        refine cVV (mt' := mX0_putBribe) rfl kX0_72 fX0_putBribe rfl rfl rfl (Nat.le_of_ble_eq_true rfl) (Nat.le_of_ble_eq_true rfl) (Nat.le_of_ble_eq_true rfl) (Nat.le_of_ble_eq_true rfl) (Nat.le_refl _) (c_putBribeR ho (c := i) (by rw [f5, e5]; grind [i32_ti]) (by omega)) ?_
        refine V_go 2 rfl ?_
        refine V.st (I' := up2 I1 (15 + 4) i _) (L' := [(0, .ref 15), (1, .int z0), (2, .int (sDr (cOf I 15) z0 (i + 1)).2), (3, .int (i32 (i + 1)))]) (ih.un (i + 1) _ (by omega) ⟨?_, hq.tr (Fr.up (by omega))⟩) rfl ?_
        · rw [cOf_row (o := 15) (g := 3) rfl (by omega), hs]; rfl
        · rw [i32_s]
          simp [sDr]
  refine V_go 4 rfl ?_
  exact (key _).un 0 I (Nat.zero_add _) ⟨rfl, Fr.rf⟩
theorem c_drawBribes_23 {z0 : Int32} {I : I2} {J : J2} {T : TV} (hC : Cok I 23 T) : CT mX0_drawBribes 3 58 58 [.ref 23, .int z0] I J RF (RVP RF (fun I2 J2 => cOf I2 23 = (sDr (cOf I 23) z0 (nC (cOf I 23))).1 ∧ J2 = J ∧ Fr 23 I I2)) := by
  have ho := hC.1
  obtain ⟨-, hT, hr0, hr1, hn0, hn8, hi0, hi6⟩ := id hC
  obtain ⟨e9, hM6⟩ := mC_i hi0 hi6
  obtain ⟨e5, hN8⟩ := nC_i hn0 hn8
  refine CT_of okX0_drawBribes (Nat.le_of_ble_eq_true rfl) ?_
  show V _ _ _ _ _ _ [(0, _), (1, _)] _ _ _ _ _
  have key : ∀ n, Hid (∀ (i : Nat) (I1 : I2), i + n = nC (cOf I 23) → (cOf I1 23 = (sDr (cOf I 23) z0 i).1 ∧ Fr 23 I I1) → V mX0_drawBribes none 3 58 (RVP RF (fun I2 J2 => cOf I2 23 = (sDr (cOf I 23) z0 (nC (cOf I 23))).1 ∧ J2 = J ∧ Fr 23 I I2)) 4 [(0, .ref 23), (1, .int z0), (2, .int (sDr (cOf I 23) z0 i).2), (3, .int (i32 i))] [] 58 I1 J RF) := by
    intro n
    induction n with
    | zero =>
      unfold Hid
      intro i I1 hi ⟨hs, hq⟩
      have h00 : cOf I1 23 0 = cOf I 23 0 := by rw [hs]; exact sDr_0 _ _ _
      obtain ⟨-, -, -, f5, -⟩ := cOf_0 h00
      refine V_go 3 rfl ?_
      refine V_icmp_ge rfl (fun h1 => ?_) (fun h1 => ?_)
      · skip
        refine V_vret rfl rfl rfl ?_
        refine RVP.mk ⟨?_, rfl, hq⟩
        rw [hs, show i = nC (cOf I 23) from hi]
      · skip
        exfalso
        rw [f5, e5] at h1
        exact h1 (lp_stop hi)
    | succ n ih =>
      unfold Hid
      intro i I1 hi ⟨hs, hq⟩
      have h00 : cOf I1 23 0 = cOf I 23 0 := by rw [hs]; exact sDr_0 _ _ _
      obtain ⟨-, -, -, f5, -⟩ := cOf_0 h00
      refine V_go 3 rfl ?_
      refine V_icmp_ge rfl (fun h1 => ?_) (fun h1 => ?_)
      · skip
        exfalso
        rw [f5, e5] at h1
        exact lp_more (by omega) (by omega) h1
      · skip
        refine V_go 12 rfl ?_
        refine V_irem0 rfl (by decide) ?_
        refine cVV (mt' := mX0_putBribe) rfl kX0_72 fX0_putBribe rfl rfl rfl (Nat.le_of_ble_eq_true rfl) (Nat.le_of_ble_eq_true rfl) (Nat.le_of_ble_eq_true rfl) (Nat.le_of_ble_eq_true rfl) (Nat.le_refl _) (c_putBribeR ho (c := i) (by rw [f5, e5]; grind [i32_ti]) (by omega)) ?_
        refine V_go 2 rfl ?_
        refine V.st (I' := up2 I1 (23 + 4) i _) (L' := [(0, .ref 23), (1, .int z0), (2, .int (sDr (cOf I 23) z0 (i + 1)).2), (3, .int (i32 (i + 1)))]) (ih.un (i + 1) _ (by omega) ⟨?_, hq.tr (Fr.up (by omega))⟩) rfl ?_
        · rw [cOf_row (o := 23) (g := 3) rfl (by omega), hs]; rfl
        · rw [i32_s]
          simp [sDr]
  refine V_go 4 rfl ?_
  exact (key _).un 0 I (Nat.zero_add _) ⟨rfl, Fr.rf⟩
theorem c_drawBribes {o : Nat} {z0 : Int32} {I : I2} {J : J2} {T : TV} (hC : Cok I o T) : CT mX0_drawBribes 3 58 58 [.ref o, .int z0] I J RF (RVP RF (fun I2 J2 => cOf I2 o = (sDr (cOf I o) z0 (nC (cOf I o))).1 ∧ J2 = J ∧ Fr o I I2)) := by
  rcases hC.1 with rfl | rfl | rfl
  · exact c_drawBribes_7 hC
  · exact c_drawBribes_15 hC
  · exact c_drawBribes_23 hC
