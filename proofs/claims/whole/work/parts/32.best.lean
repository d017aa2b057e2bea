theorem pw1 {n : Nat} (hn : n ≤ 8) : 2 ^ n - 1 < 256 := by have := pow_lt8 hn; omega
def sShortest (T : TV) (C : CC) (w : Int32) : Int32 := if w = 0 ∨ w = 1 then (if w = 0 then i32 (sShort T C (2 ^ nC C - 1)).1 else (sShort T C (2 ^ nC C - 1)).2) else -2
theorem sShort_0 (T : TV) (C : CC) {k : Nat} (h : sGone T C (k + 1) < (sShort T C k).2) : sShort T C (k + 1) = (k + 1, sGone T C (k + 1)) := by rw [sShort, if_pos h]
theorem sShort_1 (T : TV) (C : CC) {k : Nat} (h : ¬ sGone T C (k + 1) < (sShort T C k).2) : sShort T C (k + 1) = sShort T C k := by rw [sShort, if_neg h]
theorem c_shortest {w : Int32} {I : I2} {J : J2} {T : TV} (hC : Cok I 7 T) : CT mX6_shortest 8 58 58 [.ref 0, .int w] I J RF (RP RF (fun r I1 J1 => r = sShortest T (cOf I 7) w ∧ J1 = J ∧ Scr I I1)) := by
  obtain ⟨hN8, hM6⟩ := nC8 hC
  obtain ⟨hev, hp, hp1⟩ := evr hC
  have k12 : (w = 0 ∨ w = 1) → V mX6_shortest none 8 58 (RP RF (fun r I1 J1 => r = sShortest T (cOf I 7) w ∧ J1 = J ∧ Scr I I1)) 12 [(0, .ref 0), (1, .int w)] [] 58 I J RF := by
    intro pw
    have key : ∀ n, Hid (∀ (i : Nat) (I1 : I2), i + n = 2 ^ nC (cOf I 7) - 1 → Sq 7 I I1 → V mX6_shortest none 8 58 (RP RF (fun r I1 J1 => r = sShortest T (cOf I 7) w ∧ J1 = J ∧ Scr I I1)) 35 [(0, .ref 0), (1, .int w), (2, .int (i32 (2 ^ nC (cOf I 7) - 1))), (3, .int (i32 (sShort T (cOf I 7) (i)).1)), (4, .int (sShort T (cOf I 7) (i)).2), (5, .int (i32 (i + 1)))] [] 58 I1 J RF) := by
      intro n
      induction n with
      | zero =>
        unfold Hid
        intro i I1 hi hq
        refine V_go 2 rfl ?_
        refine V_icmp_gt rfl (fun h1 => ?_) (fun h1 => ?_)
        · skip
          refine V_go 1 rfl ?_
          refine V_if_ne rfl (fun h2 => ?_) (fun h2 => ?_)
          · skip
            refine V_go 1 rfl ?_
            refine V_iret rfl rfl rfl ?_
            refine RP.mk ⟨?_, rfl, hq.scr7⟩
            unfold sShortest
            rw [if_pos pw, show 2 ^ nC (cOf I 7) - 1 = i from hi.symm]
            first
              | (rw [if_pos (by assumption)]; done)
              | (rw [if_neg (by assumption)]; done)
          · skip
            refine V_go 2 rfl ?_
            refine V_iret rfl rfl rfl ?_
            refine RP.mk ⟨?_, rfl, hq.scr7⟩
            unfold sShortest
            rw [if_pos pw, show 2 ^ nC (cOf I 7) - 1 = i from hi.symm]
            first
              | (rw [if_pos (by assumption)]; done)
              | (rw [if_neg (by assumption)]; done)
        · skip
          exfalso
          exact h1 (by grind [i32_ti])
      | succ n ih =>
        unfold Hid
        intro i I1 hi hq
        refine V_go 2 rfl ?_
        refine V_icmp_gt rfl (fun h1 => ?_) (fun h1 => ?_)
        · skip
          exfalso
          rw [i32_s] at h1
          have := pw1 hN8
          grind [i32_ti]
        · skip
          refine V_go 3 rfl ?_
          refine cVP (mt' := mX0_spentBy) rfl kX6_164 fX0_spentBy rfl rfl rfl (Nat.le_of_ble_eq_true rfl) (Nat.le_of_ble_eq_true rfl) (Nat.le_of_ble_eq_true rfl) (Nat.le_of_ble_eq_true rfl) (Nat.le_refl _) (c_spentBy (m := i + 1) (hC.sq hq) (by have := pw1 hN8; omega)) ?_
          intro r2 Ir2 Jr2 h2
          obtain ⟨hv, rfl, hq2⟩ := h2
          rw [cOf_sq (Or.inl rfl) hq] at hv
          subst hv
          refine V_go 3 rfl ?_
          refine V_icmp_ge rfl (fun h3 => ?_) (fun h3 => ?_)
          · skip
            rcases Decidable.em (sGone T (cOf I 7) (i + 1) < (sShort T (cOf I 7) i).2) with hw | hw
            · exact absurd hw (by grind)
            refine V_go 2 rfl ?_
            refine V.st (I' := Ir2) (L' := [(0, .ref 0), (1, .int w), (2, .int (i32 (2 ^ nC (cOf I 7) - 1))), (3, .int (i32 (sShort T (cOf I 7) (i + 1)).1)), (4, .int (sShort T (cOf I 7) (i + 1)).2), (5, .int (i32 (i + 1 + 1)))]) (ih.un (i + 1) Ir2 (by omega) (hq.tr hq2)) rfl ?_
            rw [i32_s, sShort_1 _ _ hw]
            simp
          · skip
            refine V_go 6 rfl ?_
            refine V.st (I' := Ir2) (L' := [(0, .ref 0), (1, .int w), (2, .int (i32 (2 ^ nC (cOf I 7) - 1))), (3, .int (i32 (sShort T (cOf I 7) (i + 1)).1)), (4, .int (sShort T (cOf I 7) (i + 1)).2), (5, .int (i32 (i + 1 + 1)))]) (ih.un (i + 1) Ir2 (by omega) (hq.tr hq2)) rfl ?_
            rw [i32_s, sShort_0 _ _ (by grind)]
            simp [i32_s]
    refine V_go 2 rfl ?_
    refine cVI (mt' := mX0_everyone) rfl kX6_161 fX0_everyone rfl rfl rfl (Nat.le_of_ble_eq_true rfl) (Nat.le_of_ble_eq_true rfl) (Nat.le_of_ble_eq_true rfl) (Nat.le_of_ble_eq_true rfl) (Nat.le_refl _) (c_everyone (by unfold oC; decide)) ?_
    rw [hev]
    refine V_go 6 rfl ?_
    refine cVP (mt' := mX0_spentBy) rfl kX6_164 fX0_spentBy rfl rfl rfl (Nat.le_of_ble_eq_true rfl) (Nat.le_of_ble_eq_true rfl) (Nat.le_of_ble_eq_true rfl) (Nat.le_of_ble_eq_true rfl) (Nat.le_refl _) (c_spentBy (m := 0) hC (by omega)) ?_
    intro r2 Ir2 Jr2 h2
    obtain ⟨hv, rfl, hq⟩ := h2
    subst hv
    refine V_go 3 rfl ?_
    exact (key _).un 0 _ (Nat.zero_add _) hq
  refine CT_of okX6_shortest (Nat.le_of_ble_eq_true rfl) ?_
  show V _ _ _ _ _ _ [(0, _), (1, _)] _ _ _ _ _
  refine V_go 1 rfl ?_
  refine V_if_eq rfl (fun h1 => ?_) (fun h1 => ?_)
  · skip
    exact k12 (by first | exact Or.inl (by assumption) | exact Or.inr (by assumption))
  · skip
    refine V_go 2 rfl ?_
    refine V_icmp_eq rfl (fun h2 => ?_) (fun h2 => ?_)
    · skip
      exact k12 (by first | exact Or.inl (by assumption) | exact Or.inr (by assumption))
    · skip
      refine V_go 1 rfl ?_
      refine V_iret rfl rfl rfl ?_
      refine RP.mk ⟨?_, rfl, Scr.rf⟩
      unfold sShortest
      rw [if_neg (fun h => by rcases h with h | h <;> contradiction)]
