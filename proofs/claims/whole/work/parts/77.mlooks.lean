theorem fL_iff (f : Nat → Int32) (mi : Int32) : ∀ k, k < 1000 → (fL f mi k = -1 ↔ fN f mi k = 0)
  | 0, _ => ⟨fun _ => rfl, fun _ => rfl⟩
  | k + 1, hk => by
    have ih := fL_iff f mi k (by omega)
    rw [fL, fN]
    by_cases h : f k = mi
    · rw [if_pos h]
      by_cases h2 : fN f mi k = 0
      · rw [if_pos ⟨h, h2⟩]
        exact ⟨fun z => absurd z (i32_n1 (by omega)), fun z => by omega⟩
      · rw [if_neg (fun z => h2 z.2)]
        exact ⟨fun z => absurd (ih.mp z) h2, fun z => by omega⟩
    · rw [if_neg h, if_neg (fun z => h z.1)]
      exact ih

theorem c_looks7 {tc : Nat} {I : I2} {J : J2} {T : TV} {C : CC} (hM : MC tc I J T C) {mi : Int32} : CT mX7_looks 46 58 58 [.ref 38, .int mi] I J RF (RVP RF (fun I9 J9 => MC tc I9 J9 T C ∧ Mp I I9 ∧ I9 38 38 = i32 (fN (sGone T C) mi (2 ^ nC C)) ∧ I9 38 39 = fL (sGone T C) mi (2 ^ nC C) ∧ I9 38 40 = fA (sGone T C) mi (i32 (2 ^ nC C - 1)) (2 ^ nC C) ∧ I9 38 41 = fO (sGone T C) mi (2 ^ nC C))) := by
  have he1 : (1 : Int32) <<< (I 38 12 &&& 31) - 1 = i32 (2 ^ nC C - 1) := by
    rw [hM.nm.1]
    exact evr_ok _ (by have := hM.nm.2.1; omega)
  have key : ∀ n, Hid (∀ (i : Nat) (I1 : I2) (J1 : J2), i + n = 2 ^ nC C → (MC tc I1 J1 T C ∧ Mp I I1 ∧ I1 38 38 = i32 (fN (sGone T C) mi (i)) ∧ I1 38 39 = fL (sGone T C) mi (i) ∧ I1 38 40 = fA (sGone T C) mi (i32 (2 ^ nC C - 1)) (i) ∧ I1 38 41 = fO (sGone T C) mi (i)) → V mX7_looks none 46 58 (RVP RF (fun I9 J9 => MC tc I9 J9 T C ∧ Mp I I9 ∧ I9 38 38 = i32 (fN (sGone T C) mi (2 ^ nC C)) ∧ I9 38 39 = fL (sGone T C) mi (2 ^ nC C) ∧ I9 38 40 = fA (sGone T C) mi (i32 (2 ^ nC C - 1)) (2 ^ nC C) ∧ I9 38 41 = fO (sGone T C) mi (2 ^ nC C))) 29 [(0, .ref 38), (1, .int mi), (2, .int (i32 (i)))] [] 58 I1 J1 RF) := by
    intro n
    induction n with
    | zero =>
      unfold Hid
      intro i I1 J1 hi ⟨hM1, hq1, hv1, hv2, hv3, hv4⟩
      obtain ⟨f1, f2, f3⟩ := hM1.p2
      refine V_go 5 rfl ?_
      refine V_icmp_ge rfl (fun h1 => ?_) (fun h1 => ?_)
      · skip
        refine V_vret rfl rfl rfl ?_
        obtain rfl : i = 2 ^ nC C := hi
        exact RVP.mk ⟨hM1, hq1, hv1, hv2, hv3, hv4⟩
      · skip
        rw [f1] at h1
        exact absurd ((i32_le (a := 2 ^ nC C) (b := i) (by omega) (by omega)).mpr (by omega)) h1
    | succ n ih =>
      unfold Hid
      intro i I1 J1 hi ⟨hM1, hq1, hv1, hv2, hv3, hv4⟩
      obtain ⟨f1, f2, f3⟩ := hM1.p2
      refine V_go 5 rfl ?_
      refine V_icmp_ge rfl (fun h1 => ?_) (fun h1 => ?_)
      · skip
        rw [f1] at h1
        exact absurd ((i32_le (a := 2 ^ nC C) (b := i) (by omega) (by omega)).mp h1) (by omega)
      · skip
        refine V_go 3 rfl ?_
        refine cVP (mt' := mX7_goneBy) rfl kX7_282 fX7_goneBy rfl rfl rfl (Nat.le_of_ble_eq_true rfl) (Nat.le_of_ble_eq_true rfl) (Nat.le_of_ble_eq_true rfl) (Nat.le_of_ble_eq_true rfl) (Nat.le_refl _) (c_goneM (m := i) hM1 (by omega)) ?_
        intro r2 Ir2 Jr2 h2
        obtain ⟨hv, hM2, hq2⟩ := h2
        obtain ⟨rv9, hrv9⟩ : ∃ rv9, rv9 = r2 := ⟨_, rfl⟩
        rw [← hrv9] at hv ⊢
        refine V_go 1 rfl ?_
        refine V_icmp_ne rfl (fun h3 => ?_) (fun h3 => ?_)
        · skip
          refine V_go 2 rfl ?_
          obtain ⟨g1, g2, g3, g4, g5⟩ := f_n (f := (sGone T C)) (mi := mi) (k := i) (by rw [← hv]; exact h3)
          refine V.st (L' := [(0, .ref 38), (1, .int mi), (2, .int (i32 (i + 1)))]) (ih.un (i + 1) _ _ (by omega) ⟨hM2, hq1.tr hq2.mp, ?_, ?_, ?_, ?_⟩) rfl (by rw [i32_s]; simp)
          · rw [g2, hq2.2 38 (by omega)]; exact hv1
          · rw [g5, hq2.2 39 (by omega)]; exact hv2
          · rw [g3, hq2.2 40 (by omega)]; exact hv3
          · rw [g4, hq2.2 41 (by omega)]; exact hv4
        · skip
          have hhit : (sGone T C) i = mi := by rw [← hv]; exact h3
          obtain ⟨g1, g2, g3, g4⟩ := f_y hhit
          refine V_go 10 rfl ?_
          try simp only [up2_rd, row2_rd, reduceIte, Nat.reduceEqDiff]
          refine V_icmp_ne rfl (fun h21 => ?_) (fun h21 => ?_)
          · skip
            have hf := h21
            have h39 : Ir2 38 39 = fL (sGone T C) mi i := (hq2.2 39 (by omega)).trans hv2
            refine V_go 17 rfl ?_
            try simp only [up2_rd, row2_rd, reduceIte, Nat.reduceEqDiff]
            refine V.st (L' := [(0, .ref 38), (1, .int mi), (2, .int (i32 (i + 1)))]) (ih.un (i + 1) _ _ (by omega) ⟨((((hM2.fld (k := 38) (by omega)).fld (k := 39) (by omega)).fld (k := 40) (by omega)).fld (k := 41) (by omega)), ((((hq1.tr hq2.mp).tr (Mp.fld (k := 38) (by omega) (by omega))).tr (Mp.fld (k := 39) (by omega) (by omega))).tr (Mp.fld (k := 40) (by omega) (by omega))).tr (Mp.fld (k := 41) (by omega) (by omega)), ?_, ?_, ?_, ?_⟩) rfl (by rw [i32_s]; simp)
            · simp only [up2_rd, reduceIte, Nat.reduceEqDiff]
              rw [g2, i32_s, hq2.2 38 (by omega), hv1]
            · simp only [up2_rd, reduceIte, Nat.reduceEqDiff]
              rw [fL, if_neg (fun z => hf (h39.trans ((fL_iff (sGone T C) mi i (by omega)).mpr z.2)))]; exact h39
            · simp only [up2_rd, reduceIte, Nat.reduceEqDiff]
              rw [g3, hq2.2 40 (by omega), hv3]
            · simp only [up2_rd, reduceIte, Nat.reduceEqDiff]
              rw [g4, hq2.2 41 (by omega), hv4]
          · skip
            have hf := h21
            have h39 : Ir2 38 39 = fL (sGone T C) mi i := (hq2.2 39 (by omega)).trans hv2
            refine V_go 17 rfl ?_
            try simp only [up2_rd, row2_rd, reduceIte, Nat.reduceEqDiff]
            refine V.st (L' := [(0, .ref 38), (1, .int mi), (2, .int (i32 (i + 1)))]) (ih.un (i + 1) _ _ (by omega) ⟨((((hM2.fld (k := 38) (by omega)).fld (k := 39) (by omega)).fld (k := 40) (by omega)).fld (k := 41) (by omega)), ((((hq1.tr hq2.mp).tr (Mp.fld (k := 38) (by omega) (by omega))).tr (Mp.fld (k := 39) (by omega) (by omega))).tr (Mp.fld (k := 40) (by omega) (by omega))).tr (Mp.fld (k := 41) (by omega) (by omega)), ?_, ?_, ?_, ?_⟩) rfl (by rw [i32_s]; simp)
            · simp only [up2_rd, reduceIte, Nat.reduceEqDiff]
              rw [g2, i32_s, hq2.2 38 (by omega), hv1]
            · simp only [up2_rd, reduceIte, Nat.reduceEqDiff]
              rw [fL, if_pos ⟨hhit, (fL_iff (sGone T C) mi i (by omega)).mp (h39.symm.trans hf)⟩]
            · simp only [up2_rd, reduceIte, Nat.reduceEqDiff]
              rw [g3, hq2.2 40 (by omega), hv3]
            · simp only [up2_rd, reduceIte, Nat.reduceEqDiff]
              rw [g4, hq2.2 41 (by omega), hv4]
  refine CT_of okX7_looks (Nat.le_of_ble_eq_true rfl) ?_
  show V _ _ _ _ _ _ [(0, _), (1, _)] _ _ _ _ _
  refine V_go 19 rfl ?_
  try simp only [up2_rd, row2_rd, reduceIte, Nat.reduceEqDiff]
  refine (key _).un 0 _ J (Nat.zero_add _) ⟨((((hM.fld (k := 38) (by omega)).fld (k := 39) (by omega)).fld (k := 40) (by omega)).fld (k := 41) (by omega)), (((Mp.fld (k := 38) (by omega) (by omega)).tr (Mp.fld (k := 39) (by omega) (by omega))).tr (Mp.fld (k := 40) (by omega) (by omega))).tr (Mp.fld (k := 41) (by omega) (by omega)), rfl, rfl, ?_, rfl⟩
  simp only [up2_rd, reduceIte, Nat.reduceEqDiff]
  exact he1
