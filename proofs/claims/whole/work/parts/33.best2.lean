def sFewest (T : TV) (C : CC) (k : Int32) : Int32 := if 0 ≤ k ∧ k ≤ 999 then (sFew T C k (2 ^ nC C)).1 else -2
theorem sFew_0 (T : TV) (C : CC) {k : Int32} {m : Nat} (h : (sFew T C k m).2 < i32 (cnt m 8)) (h2 : sGone T C m ≤ k) : sFew T C k (m + 1) = (i32 m, i32 (cnt m 8)) := by rw [sFew, if_pos ⟨h, h2⟩]
theorem sFew_1 (T : TV) (C : CC) {k : Int32} {m : Nat} (h : ¬ (sFew T C k m).2 < i32 (cnt m 8)) : sFew T C k (m + 1) = sFew T C k m := by rw [sFew, if_neg (fun h' => h h'.1)]
theorem sFew_2 (T : TV) (C : CC) {k : Int32} {m : Nat} (h : ¬ sGone T C m ≤ k) : sFew T C k (m + 1) = sFew T C k m := by rw [sFew, if_neg (fun h' => h h'.2)]
theorem c_fewest {x : Int32} {I : I2} {J : J2} {T : TV} (hC : Cok I 7 T) : CT mX6_fewest 8 58 58 [.ref 0, .int x] I J RF (RP RF (fun r I1 J1 => r = sFewest T (cOf I 7) x ∧ J1 = J ∧ Scr I I1)) := by
  obtain ⟨hN8, hM6⟩ := nC8 hC
  obtain ⟨hev, hp, hp1⟩ := evr hC
  have k14 : (0 ≤ x ∧ x ≤ 999) → V mX6_fewest none 8 58 (RP RF (fun r I1 J1 => r = sFewest T (cOf I 7) x ∧ J1 = J ∧ Scr I I1)) 14 [(0, .ref 0), (1, .int x)] [] 58 I J RF := by
    intro pw
    have key : ∀ n, Hid (∀ (i : Nat) (I1 : I2), i + n = 2 ^ nC (cOf I 7) → Sq 7 I I1 → V mX6_fewest none 8 58 (RP RF (fun r I1 J1 => r = sFewest T (cOf I 7) x ∧ J1 = J ∧ Scr I I1)) 30 [(0, .ref 0), (1, .int x), (2, .int (i32 (2 ^ nC (cOf I 7) - 1))), (3, .int (sFew T (cOf I 7) x (i)).1), (4, .int (sFew T (cOf I 7) x (i)).2), (5, .int (i32 (i)))] [] 58 I1 J RF) := by
      intro n
      induction n with
      | zero =>
        unfold Hid
        intro i I1 hi hq
        refine V_go 2 rfl ?_
        refine V_icmp_gt rfl (fun h1 => ?_) (fun h1 => ?_)
        · skip
          refine V_go 1 rfl ?_
          refine V_iret rfl rfl rfl ?_
          refine RP.mk ⟨?_, rfl, hq.scr7⟩
          unfold sFewest
          rw [if_pos pw, show 2 ^ nC (cOf I 7) = i from hi.symm]
        · skip
          exfalso
          exact h1 (by have := pw1 hN8; grind [i32_ti])
      | succ n ih =>
        unfold Hid
        intro i I1 hi hq
        refine V_go 2 rfl ?_
        refine V_icmp_gt rfl (fun h1 => ?_) (fun h1 => ?_)
        · skip
          exfalso
          have := pw1 hN8
          grind [i32_ti]
        · skip
          refine V_go 1 rfl ?_
          refine cSI (mt' := mJ6_bitCount_0f7a4) rfl kX6_150 fJ6_bitCount_0f7a4 rfl (Nat.le_of_ble_eq_true rfl) (Nat.le_of_ble_eq_true rfl) (Nat.le_refl _) (c_bitCount) ?_
          refine V_go 3 rfl ?_
          refine V_icmp_le rfl (fun h3 => ?_) (fun h3 => ?_)
          · skip
            refine V_go 2 rfl ?_
            rw [bitc_all i (by omega)] at h3
            refine V.st (I' := I1) (L' := [(0, .ref 0), (1, .int x), (2, .int (i32 (2 ^ nC (cOf I 7) - 1))), (3, .int (sFew T (cOf I 7) x (i + 1)).1), (4, .int (sFew T (cOf I 7) x (i + 1)).2), (5, .int (i32 (i + 1)))]) (ih.un (i + 1) I1 (by omega) hq) rfl ?_
            rw [i32_s, sFew_1 _ _ (by grind)]
            simp
          · skip
            refine V_go 3 rfl ?_
            refine cVP (mt' := mX0_spentBy) rfl kX6_164 fX0_spentBy rfl rfl rfl (Nat.le_of_ble_eq_true rfl) (Nat.le_of_ble_eq_true rfl) (Nat.le_of_ble_eq_true rfl) (Nat.le_of_ble_eq_true rfl) (Nat.le_refl _) (c_spentBy (m := i) (hC.sq hq) (by omega)) ?_
            intro r4 Ir4 Jr4 h4
            obtain ⟨hv, rfl, hq2⟩ := h4
            rw [cOf_sq (Or.inl rfl) hq] at hv
            subst hv
            refine V_go 1 rfl ?_
            refine V_icmp_gt rfl (fun h5 => ?_) (fun h5 => ?_)
            · skip
              refine V_go 2 rfl ?_
              refine V.st (I' := Ir4) (L' := [(0, .ref 0), (1, .int x), (2, .int (i32 (2 ^ nC (cOf I 7) - 1))), (3, .int (sFew T (cOf I 7) x (i + 1)).1), (4, .int (sFew T (cOf I 7) x (i + 1)).2), (5, .int (i32 (i + 1)))]) (ih.un (i + 1) Ir4 (by omega) (hq.tr hq2)) rfl ?_
              rw [i32_s, sFew_2 _ _ (by grind)]
              simp
            · skip
              refine V_go 6 rfl ?_
              rw [bitc_all i (by omega)] at *
              refine V.st (I' := Ir4) (L' := [(0, .ref 0), (1, .int x), (2, .int (i32 (2 ^ nC (cOf I 7) - 1))), (3, .int (sFew T (cOf I 7) x (i + 1)).1), (4, .int (sFew T (cOf I 7) x (i + 1)).2), (5, .int (i32 (i + 1)))]) (ih.un (i + 1) Ir4 (by omega) (hq.tr hq2)) rfl ?_
              rw [i32_s, sFew_0 _ _ (by grind) (by grind)]
              simp
    refine V_go 2 rfl ?_
    refine cVI (mt' := mX0_everyone) rfl kX6_161 fX0_everyone rfl rfl rfl (Nat.le_of_ble_eq_true rfl) (Nat.le_of_ble_eq_true rfl) (Nat.le_of_ble_eq_true rfl) (Nat.le_of_ble_eq_true rfl) (Nat.le_refl _) (c_everyone (by unfold oC; decide)) ?_
    rw [hev]
    refine V_go 7 rfl ?_
    exact (key _).un 0 _ (Nat.zero_add _) Sq.rf
  refine CT_of okX6_fewest (Nat.le_of_ble_eq_true rfl) ?_
  show V _ _ _ _ _ _ [(0, _), (1, _)] _ _ _ _ _
  refine V_go 1 rfl ?_
  refine V_if_lt rfl (fun h1 => ?_) (fun h1 => ?_)
  · skip
    refine V_go 1 rfl ?_
    refine V_iret rfl rfl rfl ?_
    refine RP.mk ⟨?_, rfl, Scr.rf⟩
    unfold sFewest
    rw [if_neg (by grind)]
  · skip
    refine V_go 2 rfl ?_
    refine V_icmp_le rfl (fun h2 => ?_) (fun h2 => ?_)
    · skip
      exact k14 ⟨Int32.not_lt.mp (by assumption), by assumption⟩
    · skip
      refine V_go 1 rfl ?_
      refine V_iret rfl rfl rfl ?_
      refine RP.mk ⟨?_, rfl, Scr.rf⟩
      unfold sFewest
      rw [if_neg (by grind)]
def sTurn (T : TV) (C : CC) (m : Nat) : Nat → Int32 × Int32
  | 0 => (-1, -1)
  | i + 1 => if (sTurn T C m i).1 = -1 ∨ sGone T C (m ^^^ 2 ^ i) < (sTurn T C m i).2 then (i32 i, sGone T C (m ^^^ 2 ^ i)) else sTurn T C m i
def sTurned (T : TV) (C : CC) (w : Int32) : Int32 := if w = 0 ∨ w = 1 then (if w = 0 then (sTurn T C (sLst T C) (nC C)).1 else (sTurn T C (sLst T C) (nC C)).2) else -2
theorem xor_ok : ∀ i, i < 8 → ∀ m, m < 256 → i32 m ^^^ (1 : Int32) <<< (i32 i &&& 31) = i32 (m ^^^ 2 ^ i) ∧ m ^^^ 2 ^ i < 256 := by decide +kernel
theorem sTurn_0 (T : TV) (C : CC) {m i : Nat} (h : (sTurn T C m i).1 = -1 ∨ sGone T C (m ^^^ 2 ^ i) < (sTurn T C m i).2) : sTurn T C m (i + 1) = (i32 i, sGone T C (m ^^^ 2 ^ i)) := by rw [sTurn, if_pos h]
theorem sTurn_1 (T : TV) (C : CC) {m i : Nat} (h1 : ¬ (sTurn T C m i).1 = -1) (h2 : ¬ sGone T C (m ^^^ 2 ^ i) < (sTurn T C m i).2) : sTurn T C m (i + 1) = sTurn T C m i := by rw [sTurn, if_neg (fun h => h.elim h1 h2)]
theorem c_spentByT {x : Int32} {m : Nat} {I : I2} {J : J2} {T : TV} (hC : Cok I 7 T) (e : x = i32 m) (h : m < 256) : CT mX0_spentBy 6 58 58 [.ref 7, .int x] I J RF (RP RF (fun r I1 J1 => r = sGone T (cOf I 7) m ∧ J1 = J ∧ Sq 7 I I1)) := by
  subst e
  exact c_spentBy hC h
theorem c_turned {w : Int32} {I : I2} {J : J2} {T : TV} (hC : Cok I 7 T) : CT mX6_turned 8 58 58 [.ref 0, .int w] I J RF (RP RF (fun r I1 J1 => r = sTurned T (cOf I 7) w ∧ J1 = J ∧ Scr I I1)) := by
  obtain ⟨hN8, hM6⟩ := nC8 hC
  obtain ⟨hev, hp, hp1⟩ := evr hC
  have k12 : (w = 0 ∨ w = 1) → V mX6_turned none 8 58 (RP RF (fun r I1 J1 => r = sTurned T (cOf I 7) w ∧ J1 = J ∧ Scr I I1)) 12 [(0, .ref 0), (1, .int w)] [] 58 I J RF := by
    intro pw
    obtain ⟨e5, -⟩ := nC_i hC.2.2.2.2.1 hC.2.2.2.2.2.1
    have key : ∀ n, Hid (∀ (i : Nat) (I1 : I2), i + n = nC (cOf I 7) → Sq 7 I I1 → V mX6_turned none 8 58 (RP RF (fun r I1 J1 => r = sTurned T (cOf I 7) w ∧ J1 = J ∧ Scr I I1)) 28 [(0, .ref 0), (1, .int w), (2, .int (i32 (sLst T (cOf I 7)))), (3, .int (sTurn T (cOf I 7) (sLst T (cOf I 7)) (i)).1), (4, .int (sTurn T (cOf I 7) (sLst T (cOf I 7)) (i)).2), (5, .int (i32 (i)))] [] 58 I1 J RF) := by
      intro n
      induction n with
      | zero =>
        unfold Hid
        intro i I1 hi hq
        refine V_go 4 rfl ?_
        refine V_icmp_ge rfl (fun h1 => ?_) (fun h1 => ?_)
        · skip
          refine V_go 1 rfl ?_
          refine V_if_ne rfl (fun h2 => ?_) (fun h2 => ?_)
          · skip
            refine V_go 1 rfl ?_
            refine V_iret rfl rfl rfl ?_
            refine RP.mk ⟨?_, rfl, hq.scr7⟩
            unfold sTurned
            rw [if_pos pw, show nC (cOf I 7) = i from hi.symm]
            first
              | (rw [if_pos (by assumption)]; done)
              | (rw [if_neg (by assumption)]; done)
          · skip
            refine V_go 2 rfl ?_
            refine V_iret rfl rfl rfl ?_
            refine RP.mk ⟨?_, rfl, hq.scr7⟩
            unfold sTurned
            rw [if_pos pw, show nC (cOf I 7) = i from hi.symm]
            first
              | (rw [if_pos (by assumption)]; done)
              | (rw [if_neg (by assumption)]; done)
        · skip
          exfalso
          rw [sq_o (Or.inl rfl) hq, e5] at h1
          exact h1 (lp_stop hi)
      | succ n ih =>
        unfold Hid
        intro i I1 hi hq
        refine V_go 4 rfl ?_
        refine V_icmp_ge rfl (fun h1 => ?_) (fun h1 => ?_)
        · skip
          exfalso
          rw [sq_o (Or.inl rfl) hq, e5] at h1
          exact lp_more (by omega) (by omega) h1
        · skip
          refine V_go 7 rfl ?_
          refine cVP (mt' := mX0_spentBy) rfl kX6_164 fX0_spentBy rfl rfl rfl (Nat.le_of_ble_eq_true rfl) (Nat.le_of_ble_eq_true rfl) (Nat.le_of_ble_eq_true rfl) (Nat.le_of_ble_eq_true rfl) (Nat.le_refl _) (c_spentByT (m := sLst T (cOf I 7) ^^^ 2 ^ i) (hC.sq hq) (xor_ok i (by omega) _ (sLs_256 T _ hN8)).1 (xor_ok i (by omega) _ (sLs_256 T _ hN8)).2) ?_
          intro r2 Ir2 Jr2 h2
          obtain ⟨hv, rfl, hq2⟩ := h2
          rw [cOf_sq (Or.inl rfl) hq] at hv
          subst hv
          refine V_go 3 rfl ?_
          refine V_icmp_eq rfl (fun h3 => ?_) (fun h3 => ?_)
          · skip
            refine V_go 6 rfl ?_
            refine V.st (I' := Ir2) (L' := [(0, .ref 0), (1, .int w), (2, .int (i32 (sLst T (cOf I 7)))), (3, .int (sTurn T (cOf I 7) (sLst T (cOf I 7)) (i + 1)).1), (4, .int (sTurn T (cOf I 7) (sLst T (cOf I 7)) (i + 1)).2), (5, .int (i32 (i + 1)))]) (ih.un (i + 1) Ir2 (by omega) (hq.tr hq2)) rfl ?_
            rw [i32_s, sTurn_0 _ _ (Or.inl (by assumption))]
            simp
          · skip
            refine V_go 2 rfl ?_
            refine V_icmp_ge rfl (fun h4 => ?_) (fun h4 => ?_)
            · skip
              refine V_go 2 rfl ?_
              refine V.st (I' := Ir2) (L' := [(0, .ref 0), (1, .int w), (2, .int (i32 (sLst T (cOf I 7)))), (3, .int (sTurn T (cOf I 7) (sLst T (cOf I 7)) (i + 1)).1), (4, .int (sTurn T (cOf I 7) (sLst T (cOf I 7)) (i + 1)).2), (5, .int (i32 (i + 1)))]) (ih.un (i + 1) Ir2 (by omega) (hq.tr hq2)) rfl ?_
              rw [i32_s, sTurn_1 _ _ (by assumption) (by grind)]
              simp
            · skip
              refine V_go 6 rfl ?_
              refine V.st (I' := Ir2) (L' := [(0, .ref 0), (1, .int w), (2, .int (i32 (sLst T (cOf I 7)))), (3, .int (sTurn T (cOf I 7) (sLst T (cOf I 7)) (i + 1)).1), (4, .int (sTurn T (cOf I 7) (sLst T (cOf I 7)) (i + 1)).2), (5, .int (i32 (i + 1)))]) (ih.un (i + 1) Ir2 (by omega) (hq.tr hq2)) rfl ?_
              rw [i32_s, sTurn_0 _ _ (Or.inr (by grind))]
              simp
    refine V_go 2 rfl ?_
    refine cVP (mt' := mX0_listed) rfl kX6_111 fX0_listed rfl rfl rfl (Nat.le_of_ble_eq_true rfl) (Nat.le_of_ble_eq_true rfl) (Nat.le_of_ble_eq_true rfl) (Nat.le_of_ble_eq_true rfl) (Nat.le_refl _) (c_listed hC) ?_
    intro r1 Ir1 Jr1 h1
    obtain ⟨rfl, rfl, hq⟩ := h1
    refine V_go 7 rfl ?_
    exact (key _).un 0 _ (Nat.zero_add _) hq
  refine CT_of okX6_turned (Nat.le_of_ble_eq_true rfl) ?_
  show V _ _ _ _ _ _ [(0, _), (1, _)] _ _ _ _ _
  refine V_go 1 rfl ?_
  refine V_if_eq rfl (fun h1 => ?_) (fun h1 => ?_)
  · skip
    exact k12 (by first | exact Or.inl (by assumption) | exact Or.inr (by assumption))
  · skip
    refine V_go 2 rfl ?_
    refine V_icmp_eq rfl (fun h2 => ?_) (fun h2 => ?_)
    · skip
      exact k12 (by first | exact Or.inl (by assumption) | exact Or.inr (by assumption))
    · skip
      refine V_go 1 rfl ?_
      refine V_iret rfl rfl rfl ?_
      refine RP.mk ⟨?_, rfl, Scr.rf⟩
      unfold sTurned
      rw [if_neg (fun h => by rcases h with h | h <;> contradiction)]
