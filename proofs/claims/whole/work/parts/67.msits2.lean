theorem add_c (a b : Int32) : a + 1 - (b + 1) = a - b := by grind
theorem add_c1 (a b : Int32) : a + 1 - b = a - b + 1 := by grind

theorem c_sits7 {tc : Nat} {I : I2} {J : J2} {T : TV} {C : CC} (hM : MC tc I J T C) (hs : C 0 0 ≤ 1090) : CT mX7_sits 48 58 58 [.ref 38] I J RF (RP RF (fun r9 I9 J9 => r9 = sCntD (sHold T C).1 (mC C) - sCntD C (mC C) ∧ MC tc I9 J9 T (sHold T C).1 ∧ I9 38 32 = I 38 32 + (sHold T C).2 ∧ Sf [45] [7, 32] I I9)) := by
  obtain ⟨hn1, hn8, hm1, hm6, hC3, hC4⟩ := hM.nm
  have key : ∀ n, Hid (∀ (i : Nat) (I1 : I2) (J1 : J2), i + n = mC C → (Cq (nC C) (mC C) (cMd I1) ((sHoldN C (sLeft T C) (i)).1) ∧ EvM tc I1 J1 T ∧ Sf [45] [7, 32] I I1 ∧ I1 38 7 = I 38 7 ∧ I1 38 32 = I 38 32) → V mX7_sits none 48 58 (RP RF (fun r9 I9 J9 => r9 = sCntD (sHold T C).1 (mC C) - sCntD C (mC C) ∧ MC tc I9 J9 T (sHold T C).1 ∧ I9 38 32 = I 38 32 + (sHold T C).2 ∧ Sf [45] [7, 32] I I9)) 9 [(0, .ref 38), (1, .int (sHoldN C (sLeft T C) (i)).2), (2, .int (sCntD (sHoldN C (sLeft T C) (i)).1 (i) - sCntD C (i))), (3, .int (i32 (i)))] [] 58 I1 J1 RF) := by
    intro n
    induction n with
    | zero =>
      unfold Hid
      intro i I1 J1 hi ⟨hcq, hE, hsf, s7, s32⟩
      obtain rfl : i = mC C := hi
      have vm : I1 38 14 = i32 (mC C) := by
        have z := hcq.1 4 (by omega)
        rw [hN_unt (mC C) 0 4 (by omega)] at z
        exact z.trans hC4
      refine V_go 3 rfl ?_
      refine V_icmp_ge rfl (fun h1 => ?_) (fun h1 => ?_)
      · skip
        refine V_go 13 rfl ?_
        refine V_iret rfl rfl rfl ?_
        refine RP.mk ⟨?_, ⟨?_, Cr.hold hM.2.1 hM.leftB hs, hE.same rfl rfl rfl hE.2.2.2.2.2⟩, ?_, hsf.tr ((Sf.fld (Or.inl (by simp))).tr (Sf.fld (Or.inl (by simp))))⟩
        · refine congrArg (fun z => z - sCntD C (mC C)) (cntD_congr (mC C) (fun j hj => ?_))
          unfold sHold
          simp only [up2_rd]
          rw [if_neg (by omega)]
        · rw [sHold_nC, sHold_mC]
          unfold sHold
          have z : up2 (up2 I1 38 32 (I1 38 32 + (sHoldN C (sLeft T C) ((mC C))).2)) 38 7 (up2 I1 38 32 (I1 38 32 + (sHoldN C (sLeft T C) ((mC C))).2) 38 7 + 1) = up2 (up2 I1 38 32 (I1 38 32 + (sHoldN C (sLeft T C) ((mC C))).2)) 38 7 (C 0 0 + 1) := by
            rw [show up2 I1 38 32 (I1 38 32 + (sHoldN C (sLeft T C) ((mC C))).2) 38 7 = C 0 0 from s7.trans hM.f.1]
          first
            | rw [z, cMd_7, cMd_f (by omega)]
            | rw [cMd_7, cMd_f (by omega)]
          first
            | exact hcq.up
            | (rw [s7, hM.f.1]; exact hcq.up)
        · rw [← s32]
          unfold sHold
          rfl
      · skip
        rw [vm] at h1
        exact absurd (by exact Int32.le_refl _) h1
    | succ n ih =>
      unfold Hid
      intro i I1 J1 hi ⟨hcq, hE, hsf, s7, s32⟩
      have hi6 : i < 6 := by omega
      have j1 : i32 (3 * i) + 1 = i32 (3 * i + 1) := (i32_add (3 * i) 1).symm
      have j2 : i32 (3 * i) + 2 = i32 (3 * i + 2) := (i32_add (3 * i) 2).symm
      have v0 : I1 38 7 = C 0 0 := s7.trans hM.f.1
      have vm : I1 38 14 = i32 (mC C) := by
        have z := hcq.1 4 (by omega)
        rw [hN_unt i 0 4 (by omega)] at z
        exact z.trans hC4
      have v1 : I1 45 (3 * i) = C 4 i := (hcq.2.2 4 i (by omega) (by omega) (by omega)).trans (hN_unt i 4 i (Or.inl (Nat.le_refl _)))
      have v2 : I1 45 (3 * i + 1) = C 5 i := (hcq.2.2 5 i (by omega) (by omega) (by omega)).trans (hN_unt i 5 i (Or.inl (Nat.le_refl _)))
      have v3 : I1 45 (3 * i + 2) = C 6 i := (hcq.2.2 6 i (by omega) (by omega) (by omega)).trans (hN_unt i 6 i (Or.inl (Nat.le_refl _)))
      obtain ⟨l0, lit⟩ := hN_ok (C := C) hM.leftB hM.2.1.1.1 i (fun j hj => hM.2.1.2.2.2.2.2.2 j (by omega))
      have hit : ItI (C 4 i) (C 5 i) (C 6 i) := hM.2.1.2.2.2.2.2.2 i (by omega)
      have d4 : (sHoldN C (sLeft T C) (i)).1 4 i = C 4 i := hN_unt i 4 i (Or.inl (Nat.le_refl _))
      have d5 : (sHoldN C (sLeft T C) (i)).1 5 i = C 5 i := hN_unt i 5 i (Or.inl (Nat.le_refl _))
      have d6 : (sHoldN C (sLeft T C) (i)).1 6 i = C 6 i := hN_unt i 6 i (Or.inl (Nat.le_refl _))
      have d0 : (sHoldN C (sLeft T C) (i)).1 0 0 = C 0 0 := hN_unt i 0 0 (by omega)
      have hsn : sHoldN C (sLeft T C) (i + 1) = ((sGoOn (sHoldN C (sLeft T C) (i)).1 i (sHoldN C (sLeft T C) (i)).2).1, (sHoldN C (sLeft T C) (i)).2 - (sGoOn (sHoldN C (sLeft T C) (i)).1 i (sHoldN C (sLeft T C) (i)).2).2) := rfl
      refine V_go 3 rfl ?_
      try simp only [up2_rd, row2_rd, reduceIte, Nat.reduceEqDiff, ix30 i hi6, j1, j2, tn_of (show 3 * i < 2147483648 by omega), tn_of (show 3 * i + 1 < 2147483648 by omega), tn_of (show 3 * i + 2 < 2147483648 by omega), v0, v1, v2, v3]
      refine V_icmp_ge rfl (fun h1 => ?_) (fun h1 => ?_)
      · skip
        rw [vm] at h1
        exact absurd ((i32_le (a := mC C) (b := i) (by omega) (by omega)).mp h1) (by omega)
      · skip
        refine V_go 7 rfl ?_
        try simp only [up2_rd, row2_rd, reduceIte, Nat.reduceEqDiff, ix30 i hi6, j1, j2, tn_of (show 3 * i < 2147483648 by omega), tn_of (show 3 * i + 1 < 2147483648 by omega), tn_of (show 3 * i + 2 < 2147483648 by omega), v0, v1, v2, v3]
        refine V_iald rfl rfl (Nat.le_of_ble_eq_true rfl) (inb_i32 (by omega) (by decide)) ?_
        try simp only [up2_rd, row2_rd, reduceIte, Nat.reduceEqDiff, ix30 i hi6, j1, j2, tn_of (show 3 * i < 2147483648 by omega), tn_of (show 3 * i + 1 < 2147483648 by omega), tn_of (show 3 * i + 2 < 2147483648 by omega), v0, v1, v2, v3]
        refine V_go 1 rfl ?_
        try simp only [up2_rd, row2_rd, reduceIte, Nat.reduceEqDiff, ix30 i hi6, j1, j2, tn_of (show 3 * i < 2147483648 by omega), tn_of (show 3 * i + 1 < 2147483648 by omega), tn_of (show 3 * i + 2 < 2147483648 by omega), v0, v1, v2, v3]
        refine V_icmp_ne rfl (fun h2 => ?_) (fun h2 => ?_)
        · skip
          have h6 : ¬ C 6 i = -1 := h2
          have hg : sGoOn (sHoldN C (sLeft T C) (i)).1 i (sHoldN C (sLeft T C) (i)).2 = ((sHoldN C (sLeft T C) (i)).1, 0) := sGoOn_c (by rw [d6]; exact h6)
          refine V_go 2 rfl ?_
          refine V.st (L' := [(0, .ref 38), (1, .int (sHoldN C (sLeft T C) (i + 1)).2), (2, .int (sCntD (sHoldN C (sLeft T C) (i + 1)).1 (i + 1) - sCntD C (i + 1))), (3, .int (i32 (i + 1)))]) (ih.un (i + 1) I1 J1 (by omega) ⟨?_, hE, hsf, s7, s32⟩) rfl ?_
          · rw [hsn, hg]; exact hcq
          · rw [hsn, hg, i32_s, sCntD, sCntD, d6, if_neg h6, Int32.sub_zero, add_c]
            simp
        · skip
          have h6 : C 6 i = -1 := h2
          have hs0 : ¬ C 0 0 = -1 := fun z => absurd hM.2.1.1.1 (by rw [z]; decide)
          obtain ⟨g1, g2, g3⟩ := go_1 ⟨hit.1, hit.2.1⟩ l0
          have k66 : ∀ tk, tk = sMi (sHoldN C (sLeft T C) (i)).1 i (sHoldN C (sLeft T C) (i)).2 → V mX7_sits none 48 58 (RP RF (fun r9 I9 J9 => r9 = sCntD (sHold T C).1 (mC C) - sCntD C (mC C) ∧ MC tc I9 J9 T (sHold T C).1 ∧ I9 38 32 = I 38 32 + (sHold T C).2 ∧ Sf [45] [7, 32] I I9)) 66 [(0, .ref 38), (1, .int (sHoldN C (sLeft T C) (i)).2), (2, .int (sCntD (sHoldN C (sLeft T C) (i)).1 i - sCntD C i)), (3, .int (i32 i)), (4, .int (C 4 i - C 5 i)), (5, .int tk)] [] 58 I1 J1 RF := by
            intro tk htk
            have htk' : tk = if C 4 i - C 5 i < (sHoldN C (sLeft T C) (i)).2 then C 4 i - C 5 i else (sHoldN C (sLeft T C) (i)).2 := by rw [htk]; unfold sMi; rw [d4, d5]
            have g1t := g1
            rw [← htk'] at g1t
            refine V_go 8 rfl ?_
            try simp only [up2_rd, row2_rd, reduceIte, Nat.reduceEqDiff, ix30 i hi6, j1, j2, tn_of (show 3 * i < 2147483648 by omega), tn_of (show 3 * i + 1 < 2147483648 by omega), tn_of (show 3 * i + 2 < 2147483648 by omega), v0, v1, v2, v3]
            refine V_iald rfl rfl (Nat.le_of_ble_eq_true rfl) (inb_i32 (by omega) (by decide)) ?_
            try simp only [up2_rd, row2_rd, reduceIte, Nat.reduceEqDiff, ix30 i hi6, j1, j2, tn_of (show 3 * i < 2147483648 by omega), tn_of (show 3 * i + 1 < 2147483648 by omega), tn_of (show 3 * i + 2 < 2147483648 by omega), v0, v1, v2, v3]
            refine V_go 2 rfl ?_
            try simp only [up2_rd, row2_rd, reduceIte, Nat.reduceEqDiff, ix30 i hi6, j1, j2, tn_of (show 3 * i < 2147483648 by omega), tn_of (show 3 * i + 1 < 2147483648 by omega), tn_of (show 3 * i + 2 < 2147483648 by omega), v0, v1, v2, v3]
            refine V_iast rfl rfl (Nat.le_of_ble_eq_true rfl) (inb_i32 (by omega) (by decide)) ?_
            refine V_go 6 rfl ?_
            try simp only [up2_rd, row2_rd, reduceIte, Nat.reduceEqDiff, ix30 i hi6, j1, j2, tn_of (show 3 * i < 2147483648 by omega), tn_of (show 3 * i + 1 < 2147483648 by omega), tn_of (show 3 * i + 2 < 2147483648 by omega), v0, v1, v2, v3]
            refine V_icmp_ne rfl (fun h51 => ?_) (fun h51 => ?_)
            · skip
              have hge : ¬ C 4 i ≤ C 5 i + tk := fun z => h51 (g1t.mp z)
              have hg : sGoOn (sHoldN C (sLeft T C) (i)).1 i (sHoldN C (sLeft T C) (i)).2 = (up2 (sHoldN C (sLeft T C) (i)).1 5 i (C 5 i + tk), tk) := by
                have z := sGoOn_b (C := (sHoldN C (sLeft T C) (i)).1) (i := i) (l := (sHoldN C (sLeft T C) (i)).2) (by rw [d6]; exact h6) (by rw [d4, d5, ← htk]; exact hge)
                rw [z, ← htk, d5]
              refine V_go 2 rfl ?_
              refine V.st (L' := [(0, .ref 38), (1, .int (sHoldN C (sLeft T C) (i + 1)).2), (2, .int (sCntD (sHoldN C (sLeft T C) (i + 1)).1 (i + 1) - sCntD C (i + 1))), (3, .int (i32 (i + 1)))]) (ih.un (i + 1) (up2 I1 45 (3 * i + 1) (C 5 i + tk)) J1 (by omega) ⟨?_, hE.same rfl rfl rfl hE.2.2.2.2.2, hsf.tr (Sf.row (by simp) (by omega)), s7, s32⟩) rfl ?_
              · rw [hsn, hg, cMd_45 (r := 1) (by omega)]
                exact hcq.up
              · rw [hsn, hg, i32_s, sCntD, sCntD, h6, if_pos rfl, cntD_congr (C := up2 (sHoldN C (sLeft T C) (i)).1 5 i (C 5 i + tk)) (C' := (sHoldN C (sLeft T C) (i)).1) i (fun j hj => by simp only [up2_rd, Nat.reduceEqDiff, reduceIte])]
                simp only [up2_rd, Nat.reduceEqDiff, reduceIte, d6, h6, Int32.add_zero]
                simp
            · skip
              have hge : C 4 i ≤ C 5 i + tk := g1t.mpr h51
              refine V_go 9 rfl ?_
              try simp only [up2_rd, row2_rd, reduceIte, Nat.reduceEqDiff, ix30 i hi6, j1, j2, tn_of (show 3 * i < 2147483648 by omega), tn_of (show 3 * i + 1 < 2147483648 by omega), tn_of (show 3 * i + 2 < 2147483648 by omega), v0, v1, v2, v3]
              refine V_iast rfl rfl (Nat.le_of_ble_eq_true rfl) (inb_i32 (by omega) (by decide)) ?_
              have hg : sGoOn (sHoldN C (sLeft T C) (i)).1 i (sHoldN C (sLeft T C) (i)).2 = (up2 (up2 (sHoldN C (sLeft T C) (i)).1 5 i (C 5 i + tk)) 6 i (C 0 0), tk) := by
                have z := sGoOn_a (C := (sHoldN C (sLeft T C) (i)).1) (i := i) (l := (sHoldN C (sLeft T C) (i)).2) (by rw [d6]; exact h6) (by rw [d4, d5, ← htk]; exact hge)
                rw [z, ← htk, d5, d0]
              refine V_go 3 rfl ?_
              refine V.st (L' := [(0, .ref 38), (1, .int (sHoldN C (sLeft T C) (i + 1)).2), (2, .int (sCntD (sHoldN C (sLeft T C) (i + 1)).1 (i + 1) - sCntD C (i + 1))), (3, .int (i32 (i + 1)))]) (ih.un (i + 1) (up2 (up2 I1 45 (3 * i + 1) (C 5 i + tk)) 45 (3 * i + 2) (C 0 0)) J1 (by omega) ⟨?_, hE.same rfl rfl rfl hE.2.2.2.2.2, hsf.tr ((Sf.row (by simp) (by omega)).tr (Sf.row (by simp) (by omega))), s7, s32⟩) (by rw [tn_of (by omega)]) ?_
              · rw [hsn, hg, cMd_45 (r := 2) (by omega), cMd_45 (r := 1) (by omega)]
                exact hcq.up.up
              · rw [hsn, hg, i32_s, sCntD, sCntD, h6, if_pos rfl, cntD_congr (C := up2 (up2 (sHoldN C (sLeft T C) (i)).1 5 i (C 5 i + tk)) 6 i (C 0 0)) (C' := (sHoldN C (sLeft T C) (i)).1) i (fun j hj => by simp only [up2_rd, reduceIte, Nat.reduceEqDiff, if_neg (show ¬ j = i by omega)])]
                simp only [up2_rd, reduceIte]
                rw [if_neg hs0, Int32.add_zero, add_c1]
                simp
          refine V_go 5 rfl ?_
          try simp only [up2_rd, row2_rd, reduceIte, Nat.reduceEqDiff, ix30 i hi6, j1, j2, tn_of (show 3 * i < 2147483648 by omega), tn_of (show 3 * i + 1 < 2147483648 by omega), tn_of (show 3 * i + 2 < 2147483648 by omega), v0, v1, v2, v3]
          refine V_iald rfl rfl (Nat.le_of_ble_eq_true rfl) (inb_i32 (by omega) (by decide)) ?_
          try simp only [up2_rd, row2_rd, reduceIte, Nat.reduceEqDiff, ix30 i hi6, j1, j2, tn_of (show 3 * i < 2147483648 by omega), tn_of (show 3 * i + 1 < 2147483648 by omega), tn_of (show 3 * i + 2 < 2147483648 by omega), v0, v1, v2, v3]
          refine V_go 7 rfl ?_
          try simp only [up2_rd, row2_rd, reduceIte, Nat.reduceEqDiff, ix30 i hi6, j1, j2, tn_of (show 3 * i < 2147483648 by omega), tn_of (show 3 * i + 1 < 2147483648 by omega), tn_of (show 3 * i + 2 < 2147483648 by omega), v0, v1, v2, v3]
          refine V_iald rfl rfl (Nat.le_of_ble_eq_true rfl) (inb_i32 (by omega) (by decide)) ?_
          try simp only [up2_rd, row2_rd, reduceIte, Nat.reduceEqDiff, ix30 i hi6, j1, j2, tn_of (show 3 * i < 2147483648 by omega), tn_of (show 3 * i + 1 < 2147483648 by omega), tn_of (show 3 * i + 2 < 2147483648 by omega), v0, v1, v2, v3]
          refine V_go 4 rfl ?_
          try simp only [up2_rd, row2_rd, reduceIte, Nat.reduceEqDiff, ix30 i hi6, j1, j2, tn_of (show 3 * i < 2147483648 by omega), tn_of (show 3 * i + 1 < 2147483648 by omega), tn_of (show 3 * i + 2 < 2147483648 by omega), v0, v1, v2, v3]
          refine V_icmp_ge rfl (fun h31 => ?_) (fun h31 => ?_)
          · skip
            refine V_go 2 rfl ?_
            exact k66 _ (by unfold sMi; rw [d4, d5, if_neg (Int32.not_lt.mpr h31)])
          · skip
            refine V_go 3 rfl ?_
            exact k66 _ (by unfold sMi; rw [d4, d5, if_pos (Int32.not_le.mp h31)])
  refine CT_of okX7_sits (Nat.le_of_ble_eq_true rfl) ?_
  show V _ _ _ _ _ _ [(0, _)] _ _ _ _ _
  refine V_go 1 rfl ?_
  refine cVP (mt' := mX7_leftNow) rfl kX7_290 fX7_leftNow rfl rfl rfl (Nat.le_of_ble_eq_true rfl) (Nat.le_of_ble_eq_true rfl) (Nat.le_of_ble_eq_true rfl) (Nat.le_of_ble_eq_true rfl) (Nat.le_refl _) (c_leftNow7 hM) ?_
  intro r1 Ir1 Jr1 h1
  obtain ⟨hv, hM2, hq2⟩ := h1
  subst hv
  refine V_go 5 rfl ?_
  refine V.st (L' := [(0, .ref 38), (1, .int (sHoldN C (sLeft T C) (0)).2), (2, .int (sCntD (sHoldN C (sLeft T C) (0)).1 (0) - sCntD C (0))), (3, .int (i32 (0)))]) ((key _).un 0 _ _ (Nat.zero_add _) ⟨hM2.1, hM2.2.2, hq2.sf, hq2.2 7 (by omega), hq2.2 32 (by omega)⟩) rfl ?_
  simp [sHoldN, sCntD, show i32 0 = 0 from rfl]
