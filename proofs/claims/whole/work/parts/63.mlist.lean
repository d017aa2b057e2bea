theorem isx {x : Int32} {n : Nat} (hn : n < 1000) : (0 ≤ x ∧ x ≤ i32 n - 1) ↔ (0 ≤ x ∧ x < i32 n) := by
  have e : (i32 n - 1).toInt = (n : Int) - 1 := by
    rw [Int32.toInt_sub, Int32.toInt_ofNat_of_lt (by omega), show (1 : Int32).toInt = 1 from rfl, Int.bmod_eq_of_le (by omega) (by omega)]
  rw [Int32.le_iff_toInt_le (x := x), Int32.lt_iff_toInt_lt, e, Int32.toInt_ofNat_of_lt (by omega)]
  exact and_congr_right (fun _ => by omega)
theorem b2i_congr {p q : Prop} [Decidable p] [Decidable q] (h : p ↔ q) : b2i p = b2i q := by
  by_cases hq : q
  · rw [b2i_1 (h.mpr hq), b2i_1 hq]
  · rw [b2i_0 (fun z => hq (h.mp z)), b2i_0 hq]

theorem c_isOne7 {tc : Nat} {I : I2} {J : J2} {T : TV} {C : CC} (hM : MC tc I J T C) {x : Int32} : CT mX7_isOne 2 58 58 [.ref 38, .int x] I J RF (RI RF (b2i (isCi C x)) I J) := by
  obtain ⟨hn1, hn8, hm1, hm6, hC3, hC4⟩ := hM.nm
  refine CT_of okX7_isOne (Nat.le_of_ble_eq_true rfl) ?_
  show V _ _ _ _ _ _ [(0, _), (1, _)] _ _ _ _ _
  refine V_go 8 rfl ?_
  refine cSI (mt' := mX7_in) rfl kX7_89 fX7_in rfl (Nat.le_of_ble_eq_true rfl) (Nat.le_of_ble_eq_true rfl) (Nat.le_refl _) (c_inI (lo := 0) rfl (by decide +kernel) rfl) ?_
  refine V_zret rfl rfl rfl (by first | exact Or.inl rfl | exact Or.inr rfl | exact b2i_or _ | assumption) ?_
  refine RI.mk ?_
  rw [hn1]
  rw [b2i_congr (isx (n := nC C) (by omega))]
  rw [← hC3]
theorem c_isItem7 {tc : Nat} {I : I2} {J : J2} {T : TV} {C : CC} (hM : MC tc I J T C) {x : Int32} : CT mX7_isItem 2 58 58 [.ref 38, .int x] I J RF (RI RF (b2i (isIt C x)) I J) := by
  obtain ⟨hn1, hn8, hm1, hm6, hC3, hC4⟩ := hM.nm
  refine CT_of okX7_isItem (Nat.le_of_ble_eq_true rfl) ?_
  show V _ _ _ _ _ _ [(0, _), (1, _)] _ _ _ _ _
  refine V_go 8 rfl ?_
  refine cSI (mt' := mX7_in) rfl kX7_89 fX7_in rfl (Nat.le_of_ble_eq_true rfl) (Nat.le_of_ble_eq_true rfl) (Nat.le_refl _) (c_inI (lo := 0) rfl (by decide +kernel) rfl) ?_
  refine V_zret rfl rfl rfl (by first | exact Or.inl rfl | exact Or.inr rfl | exact b2i_or _ | assumption) ?_
  refine RI.mk ?_
  rw [hm1]
  rw [b2i_congr (isx (n := mC C) (by omega))]
  rw [← hC4]
theorem c_isRead7 {tc : Nat} {I : I2} {J : J2} {T : TV} {C : CC} (hM : MC tc I J T C) {c ah : Nat} (hc : c < nC C) (ha : ah ≤ 8) : CT mX7_isRead 44 58 58 [.ref 38, .int (i32 c), .int (i32 ah)] I J RF (RP RF (fun r9 I9 J9 => r9 = sRd T C c ah ∧ MC tc I9 J9 T C ∧ Sm I I9)) := by
  obtain ⟨hn1, hn8, hm1, hm6, hC3, hC4⟩ := hM.nm
  obtain ⟨hq0, hcr, -⟩ := id hM
  have e1c : I 42 c = C 1 c := hq0.2.1 1 c (by omega) (by omega) hc
  have e2c : I 43 c = C 2 c := hq0.2.1 2 c (by omega) (by omega) hc
  have e3c : I 44 c = C 3 c := hq0.2.1 3 c (by omega) (by omega) hc
  have e00 : I 38 7 = C 0 0 := hq0.1 0 (by omega)
  obtain ⟨k0, k5⟩ := (hcr.2.2.2.2.2.1 c hc).1
  refine CT_of okX7_isRead (Nat.le_of_ble_eq_true rfl) ?_
  show V _ _ _ _ _ _ [(0, _), (1, _), (2, _)] _ _ _ _ _
  refine V_go 3 rfl ?_
  try simp only [up2_rd, row2_rd, reduceIte, Nat.reduceEqDiff, tn_of (show c < 2147483648 by omega), e1c, e2c, e3c, e00]
  refine V_iald rfl rfl (Nat.le_of_ble_eq_true rfl) (inb_i32 (by omega) (by decide)) ?_
  try simp only [up2_rd, row2_rd, reduceIte, Nat.reduceEqDiff, tn_of (show c < 2147483648 by omega), e1c, e2c, e3c, e00]
  refine V_go 4 rfl ?_
  try simp only [up2_rd, row2_rd, reduceIte, Nat.reduceEqDiff, tn_of (show c < 2147483648 by omega), e1c, e2c, e3c, e00]
  refine V_iald rfl rfl (Nat.le_of_ble_eq_true rfl) (inb_i32 (by omega) (by decide)) ?_
  try simp only [up2_rd, row2_rd, reduceIte, Nat.reduceEqDiff, tn_of (show c < 2147483648 by omega), e1c, e2c, e3c, e00]
  refine V_go 3 rfl ?_
  try simp only [up2_rd, row2_rd, reduceIte, Nat.reduceEqDiff, tn_of (show c < 2147483648 by omega), e1c, e2c, e3c, e00]
  refine V_icmp_eq rfl (fun h1 => ?_) (fun h1 => ?_)
  · skip
    refine V_go 2 rfl ?_
    try simp only [up2_rd, row2_rd, reduceIte, Nat.reduceEqDiff, tn_of (show c < 2147483648 by omega), e1c, e2c, e3c, e00]
    refine V_icmp_ne rfl (fun h2 => ?_) (fun h2 => ?_)
    · skip
      refine V_go 1 rfl ?_
      try simp only [up2_rd, row2_rd, reduceIte, Nat.reduceEqDiff, tn_of (show c < 2147483648 by omega), e1c, e2c, e3c, e00]
      refine V_zret rfl rfl rfl (by first | exact Or.inl rfl | exact Or.inr rfl | exact b2i_or _ | assumption) ?_
      first
        | exact RP.mk ⟨by (unfold sRd sKRd; grind [b2i]), hM, Sm.rf⟩
        | exact RP.mk ⟨by (unfold sRd sKRd; grind [b2i]), hM9, hq9⟩
    · skip
      refine V_go 2 rfl ?_
      try simp only [up2_rd, row2_rd, reduceIte, Nat.reduceEqDiff, tn_of (show c < 2147483648 by omega), e1c, e2c, e3c, e00]
      refine V_zret rfl rfl rfl (by first | exact Or.inl rfl | exact Or.inr rfl | exact b2i_or _ | assumption) ?_
      first
        | exact RP.mk ⟨by (unfold sRd sKRd; grind [b2i]), hM, Sm.rf⟩
        | exact RP.mk ⟨by (unfold sRd sKRd; grind [b2i]), hM9, hq9⟩
  · skip
    refine V_go 2 rfl ?_
    try simp only [up2_rd, row2_rd, reduceIte, Nat.reduceEqDiff, tn_of (show c < 2147483648 by omega), e1c, e2c, e3c, e00]
    refine V_icmp_ne rfl (fun h3 => ?_) (fun h3 => ?_)
    · skip
      refine V_go 2 rfl ?_
      try simp only [up2_rd, row2_rd, reduceIte, Nat.reduceEqDiff, tn_of (show c < 2147483648 by omega), e1c, e2c, e3c, e00]
      refine V_icmp_ne rfl (fun h4 => ?_) (fun h4 => ?_)
      · skip
        refine V_go 4 rfl ?_
        try simp only [up2_rd, row2_rd, reduceIte, Nat.reduceEqDiff, tn_of (show c < 2147483648 by omega), e1c, e2c, e3c, e00]
        refine cVP (mt' := mX7_asks) rfl kX7_276 fX7_asks rfl rfl rfl (Nat.le_of_ble_eq_true rfl) (Nat.le_of_ble_eq_true rfl) (Nat.le_of_ble_eq_true rfl) (Nat.le_of_ble_eq_true rfl) (Nat.le_refl _) (c_asks (part := 0) hM (by omega) hc ha) ?_
        intro r5 Ir5 Jr5 h5
        obtain ⟨hv, hM9, hq9⟩ := h5
        have e2d : Ir5 43 c = C 2 c := by rw [hq9.1 43 (by omega) (by omega)]; exact e2c
        have e0d : Ir5 38 7 = C 0 0 := by rw [hq9.2 7 (by omega)]; exact e00
        subst hv
        refine V_if_eq rfl (fun h6 => ?_) (fun h6 => ?_)
        · skip
          refine V_go 3 rfl ?_
          try simp only [up2_rd, row2_rd, reduceIte, Nat.reduceEqDiff, tn_of (show c < 2147483648 by omega), e1c, e2d, e0d]
          refine V_if_ne rfl (fun h7 => ?_) (fun h7 => ?_)
          · skip
            refine V_go 1 rfl ?_
            try simp only [up2_rd, row2_rd, reduceIte, Nat.reduceEqDiff, tn_of (show c < 2147483648 by omega), e1c, e2d, e0d]
            refine V_if_eq rfl (fun h8 => ?_) (fun h8 => ?_)
            · skip
              refine V_go 2 rfl ?_
              try simp only [up2_rd, row2_rd, reduceIte, Nat.reduceEqDiff, tn_of (show c < 2147483648 by omega), e1c, e2d, e0d]
              refine V_icmp_ne rfl (fun h9 => ?_) (fun h9 => ?_)
              · skip
                refine V_go 1 rfl ?_
                try simp only [up2_rd, row2_rd, reduceIte, Nat.reduceEqDiff, tn_of (show c < 2147483648 by omega), e1c, e2d, e0d]
                refine V_zret rfl rfl rfl (by first | exact Or.inl rfl | exact Or.inr rfl | exact b2i_or _ | assumption) ?_
                first
                  | exact RP.mk ⟨by (unfold sRd sKRd; grind [b2i]), hM, Sm.rf⟩
                  | exact RP.mk ⟨by (unfold sRd sKRd; grind [b2i]), hM9, hq9⟩
              · skip
                refine V_go 5 rfl ?_
                try simp only [up2_rd, row2_rd, reduceIte, Nat.reduceEqDiff, tn_of (show c < 2147483648 by omega), e1c, e2d, e0d]
                refine V_iald rfl rfl (Nat.le_of_ble_eq_true rfl) (inb_i32 (by omega) (by decide)) ?_
                try simp only [up2_rd, row2_rd, reduceIte, Nat.reduceEqDiff, tn_of (show c < 2147483648 by omega), e1c, e2d, e0d]
                refine V_go 1 rfl ?_
                try simp only [up2_rd, row2_rd, reduceIte, Nat.reduceEqDiff, tn_of (show c < 2147483648 by omega), e1c, e2d, e0d]
                refine V_icmp_lt rfl (fun h10 => ?_) (fun h10 => ?_)
                · skip
                  refine V_go 1 rfl ?_
                  try simp only [up2_rd, row2_rd, reduceIte, Nat.reduceEqDiff, tn_of (show c < 2147483648 by omega), e1c, e2d, e0d]
                  refine V_zret rfl rfl rfl (by first | exact Or.inl rfl | exact Or.inr rfl | exact b2i_or _ | assumption) ?_
                  first
                    | exact RP.mk ⟨by (unfold sRd sKRd; grind [b2i]), hM, Sm.rf⟩
                    | exact RP.mk ⟨by (unfold sRd sKRd; grind [b2i]), hM9, hq9⟩
                · skip
                  refine V_go 2 rfl ?_
                  try simp only [up2_rd, row2_rd, reduceIte, Nat.reduceEqDiff, tn_of (show c < 2147483648 by omega), e1c, e2d, e0d]
                  refine V_zret rfl rfl rfl (by first | exact Or.inl rfl | exact Or.inr rfl | exact b2i_or _ | assumption) ?_
                  first
                    | exact RP.mk ⟨by (unfold sRd sKRd; grind [b2i]), hM, Sm.rf⟩
                    | exact RP.mk ⟨by (unfold sRd sKRd; grind [b2i]), hM9, hq9⟩
            · skip
              refine V_go 1 rfl ?_
              try simp only [up2_rd, row2_rd, reduceIte, Nat.reduceEqDiff, tn_of (show c < 2147483648 by omega), e1c, e2d, e0d]
              refine V_if_gt rfl (fun h11 => ?_) (fun h11 => ?_)
              · skip
                refine V_go 2 rfl ?_
                try simp only [up2_rd, row2_rd, reduceIte, Nat.reduceEqDiff, tn_of (show c < 2147483648 by omega), e1c, e2d, e0d]
                refine V_zret rfl rfl rfl (by first | exact Or.inl rfl | exact Or.inr rfl | exact b2i_or _ | assumption) ?_
                first
                  | exact RP.mk ⟨by (unfold sRd sKRd; grind [b2i]), hM, Sm.rf⟩
                  | exact RP.mk ⟨by (unfold sRd sKRd; grind [b2i]), hM9, hq9⟩
              · skip
                refine V_go 2 rfl ?_
                try simp only [up2_rd, row2_rd, reduceIte, Nat.reduceEqDiff, tn_of (show c < 2147483648 by omega), e1c, e2d, e0d]
                refine V_icmp_ne rfl (fun h12 => ?_) (fun h12 => ?_)
                · skip
                  refine V_go 1 rfl ?_
                  try simp only [up2_rd, row2_rd, reduceIte, Nat.reduceEqDiff, tn_of (show c < 2147483648 by omega), e1c, e2d, e0d]
                  refine V_zret rfl rfl rfl (by first | exact Or.inl rfl | exact Or.inr rfl | exact b2i_or _ | assumption) ?_
                  first
                    | exact RP.mk ⟨by (unfold sRd sKRd; grind [b2i]), hM, Sm.rf⟩
                    | exact RP.mk ⟨by (unfold sRd sKRd; grind [b2i]), hM9, hq9⟩
                · skip
                  refine V_go 5 rfl ?_
                  try simp only [up2_rd, row2_rd, reduceIte, Nat.reduceEqDiff, tn_of (show c < 2147483648 by omega), e1c, e2d, e0d]
                  refine V_iald rfl rfl (Nat.le_of_ble_eq_true rfl) (inb_i32 (by omega) (by decide)) ?_
                  try simp only [up2_rd, row2_rd, reduceIte, Nat.reduceEqDiff, tn_of (show c < 2147483648 by omega), e1c, e2d, e0d]
                  refine V_go 1 rfl ?_
                  try simp only [up2_rd, row2_rd, reduceIte, Nat.reduceEqDiff, tn_of (show c < 2147483648 by omega), e1c, e2d, e0d]
                  refine V_icmp_lt rfl (fun h13 => ?_) (fun h13 => ?_)
                  · skip
                    refine V_go 1 rfl ?_
                    try simp only [up2_rd, row2_rd, reduceIte, Nat.reduceEqDiff, tn_of (show c < 2147483648 by omega), e1c, e2d, e0d]
                    refine V_zret rfl rfl rfl (by first | exact Or.inl rfl | exact Or.inr rfl | exact b2i_or _ | assumption) ?_
                    first
                      | exact RP.mk ⟨by (unfold sRd sKRd; grind [b2i]), hM, Sm.rf⟩
                      | exact RP.mk ⟨by (unfold sRd sKRd; grind [b2i]), hM9, hq9⟩
                  · skip
                    refine V_go 2 rfl ?_
                    try simp only [up2_rd, row2_rd, reduceIte, Nat.reduceEqDiff, tn_of (show c < 2147483648 by omega), e1c, e2d, e0d]
                    refine V_zret rfl rfl rfl (by first | exact Or.inl rfl | exact Or.inr rfl | exact b2i_or _ | assumption) ?_
                    first
                      | exact RP.mk ⟨by (unfold sRd sKRd; grind [b2i]), hM, Sm.rf⟩
                      | exact RP.mk ⟨by (unfold sRd sKRd; grind [b2i]), hM9, hq9⟩
          · skip
            refine V_go 2 rfl ?_
            try simp only [up2_rd, row2_rd, reduceIte, Nat.reduceEqDiff, tn_of (show c < 2147483648 by omega), e1c, e2d, e0d]
            refine V_zret rfl rfl rfl (by first | exact Or.inl rfl | exact Or.inr rfl | exact b2i_or _ | assumption) ?_
            first
              | exact RP.mk ⟨by (unfold sRd sKRd; grind [b2i]), hM, Sm.rf⟩
              | exact RP.mk ⟨by (unfold sRd sKRd; grind [b2i]), hM9, hq9⟩
        · skip
          refine V_go 4 rfl ?_
          try simp only [up2_rd, row2_rd, reduceIte, Nat.reduceEqDiff, tn_of (show c < 2147483648 by omega), e1c, e2d, e0d]
          refine V_if_ne rfl (fun h14 => ?_) (fun h14 => ?_)
          · skip
            refine V_go 1 rfl ?_
            try simp only [up2_rd, row2_rd, reduceIte, Nat.reduceEqDiff, tn_of (show c < 2147483648 by omega), e1c, e2d, e0d]
            refine V_if_eq rfl (fun h15 => ?_) (fun h15 => ?_)
            · skip
              refine V_go 2 rfl ?_
              try simp only [up2_rd, row2_rd, reduceIte, Nat.reduceEqDiff, tn_of (show c < 2147483648 by omega), e1c, e2d, e0d]
              refine V_icmp_ne rfl (fun h16 => ?_) (fun h16 => ?_)
              · skip
                refine V_go 1 rfl ?_
                try simp only [up2_rd, row2_rd, reduceIte, Nat.reduceEqDiff, tn_of (show c < 2147483648 by omega), e1c, e2d, e0d]
                refine V_zret rfl rfl rfl (by first | exact Or.inl rfl | exact Or.inr rfl | exact b2i_or _ | assumption) ?_
                first
                  | exact RP.mk ⟨by (unfold sRd sKRd; grind [b2i]), hM, Sm.rf⟩
                  | exact RP.mk ⟨by (unfold sRd sKRd; grind [b2i]), hM9, hq9⟩
              · skip
                refine V_go 5 rfl ?_
                try simp only [up2_rd, row2_rd, reduceIte, Nat.reduceEqDiff, tn_of (show c < 2147483648 by omega), e1c, e2d, e0d]
                refine V_iald rfl rfl (Nat.le_of_ble_eq_true rfl) (inb_i32 (by omega) (by decide)) ?_
                try simp only [up2_rd, row2_rd, reduceIte, Nat.reduceEqDiff, tn_of (show c < 2147483648 by omega), e1c, e2d, e0d]
                refine V_go 1 rfl ?_
                try simp only [up2_rd, row2_rd, reduceIte, Nat.reduceEqDiff, tn_of (show c < 2147483648 by omega), e1c, e2d, e0d]
                refine V_icmp_lt rfl (fun h17 => ?_) (fun h17 => ?_)
                · skip
                  refine V_go 1 rfl ?_
                  try simp only [up2_rd, row2_rd, reduceIte, Nat.reduceEqDiff, tn_of (show c < 2147483648 by omega), e1c, e2d, e0d]
                  refine V_zret rfl rfl rfl (by first | exact Or.inl rfl | exact Or.inr rfl | exact b2i_or _ | assumption) ?_
                  first
                    | exact RP.mk ⟨by (unfold sRd sKRd; grind [b2i]), hM, Sm.rf⟩
                    | exact RP.mk ⟨by (unfold sRd sKRd; grind [b2i]), hM9, hq9⟩
                · skip
                  refine V_go 2 rfl ?_
                  try simp only [up2_rd, row2_rd, reduceIte, Nat.reduceEqDiff, tn_of (show c < 2147483648 by omega), e1c, e2d, e0d]
                  refine V_zret rfl rfl rfl (by first | exact Or.inl rfl | exact Or.inr rfl | exact b2i_or _ | assumption) ?_
                  first
                    | exact RP.mk ⟨by (unfold sRd sKRd; grind [b2i]), hM, Sm.rf⟩
                    | exact RP.mk ⟨by (unfold sRd sKRd; grind [b2i]), hM9, hq9⟩
            · skip
              refine V_go 1 rfl ?_
              try simp only [up2_rd, row2_rd, reduceIte, Nat.reduceEqDiff, tn_of (show c < 2147483648 by omega), e1c, e2d, e0d]
              refine V_if_gt rfl (fun h18 => ?_) (fun h18 => ?_)
              · skip
                refine V_go 2 rfl ?_
                try simp only [up2_rd, row2_rd, reduceIte, Nat.reduceEqDiff, tn_of (show c < 2147483648 by omega), e1c, e2d, e0d]
                refine V_zret rfl rfl rfl (by first | exact Or.inl rfl | exact Or.inr rfl | exact b2i_or _ | assumption) ?_
                first
                  | exact RP.mk ⟨by (unfold sRd sKRd; grind [b2i]), hM, Sm.rf⟩
                  | exact RP.mk ⟨by (unfold sRd sKRd; grind [b2i]), hM9, hq9⟩
              · skip
                refine V_go 2 rfl ?_
                try simp only [up2_rd, row2_rd, reduceIte, Nat.reduceEqDiff, tn_of (show c < 2147483648 by omega), e1c, e2d, e0d]
                refine V_icmp_ne rfl (fun h19 => ?_) (fun h19 => ?_)
                · skip
                  refine V_go 1 rfl ?_
                  try simp only [up2_rd, row2_rd, reduceIte, Nat.reduceEqDiff, tn_of (show c < 2147483648 by omega), e1c, e2d, e0d]
                  refine V_zret rfl rfl rfl (by first | exact Or.inl rfl | exact Or.inr rfl | exact b2i_or _ | assumption) ?_
                  first
                    | exact RP.mk ⟨by (unfold sRd sKRd; grind [b2i]), hM, Sm.rf⟩
                    | exact RP.mk ⟨by (unfold sRd sKRd; grind [b2i]), hM9, hq9⟩
                · skip
                  refine V_go 5 rfl ?_
                  try simp only [up2_rd, row2_rd, reduceIte, Nat.reduceEqDiff, tn_of (show c < 2147483648 by omega), e1c, e2d, e0d]
                  refine V_iald rfl rfl (Nat.le_of_ble_eq_true rfl) (inb_i32 (by omega) (by decide)) ?_
                  try simp only [up2_rd, row2_rd, reduceIte, Nat.reduceEqDiff, tn_of (show c < 2147483648 by omega), e1c, e2d, e0d]
                  refine V_go 1 rfl ?_
                  try simp only [up2_rd, row2_rd, reduceIte, Nat.reduceEqDiff, tn_of (show c < 2147483648 by omega), e1c, e2d, e0d]
                  refine V_icmp_lt rfl (fun h20 => ?_) (fun h20 => ?_)
                  · skip
                    refine V_go 1 rfl ?_
                    try simp only [up2_rd, row2_rd, reduceIte, Nat.reduceEqDiff, tn_of (show c < 2147483648 by omega), e1c, e2d, e0d]
                    refine V_zret rfl rfl rfl (by first | exact Or.inl rfl | exact Or.inr rfl | exact b2i_or _ | assumption) ?_
                    first
                      | exact RP.mk ⟨by (unfold sRd sKRd; grind [b2i]), hM, Sm.rf⟩
                      | exact RP.mk ⟨by (unfold sRd sKRd; grind [b2i]), hM9, hq9⟩
                  · skip
                    refine V_go 2 rfl ?_
                    try simp only [up2_rd, row2_rd, reduceIte, Nat.reduceEqDiff, tn_of (show c < 2147483648 by omega), e1c, e2d, e0d]
                    refine V_zret rfl rfl rfl (by first | exact Or.inl rfl | exact Or.inr rfl | exact b2i_or _ | assumption) ?_
                    first
                      | exact RP.mk ⟨by (unfold sRd sKRd; grind [b2i]), hM, Sm.rf⟩
                      | exact RP.mk ⟨by (unfold sRd sKRd; grind [b2i]), hM9, hq9⟩
          · skip
            refine V_go 2 rfl ?_
            try simp only [up2_rd, row2_rd, reduceIte, Nat.reduceEqDiff, tn_of (show c < 2147483648 by omega), e1c, e2d, e0d]
            refine V_zret rfl rfl rfl (by first | exact Or.inl rfl | exact Or.inr rfl | exact b2i_or _ | assumption) ?_
            first
              | exact RP.mk ⟨by (unfold sRd sKRd; grind [b2i]), hM, Sm.rf⟩
              | exact RP.mk ⟨by (unfold sRd sKRd; grind [b2i]), hM9, hq9⟩
      · skip
        refine V_go 3 rfl ?_
        try simp only [up2_rd, row2_rd, reduceIte, Nat.reduceEqDiff, tn_of (show c < 2147483648 by omega), e1c, e2c, e3c, e00]
        refine V_irem0 rfl (by decide) ?_
        refine V_go 3 rfl ?_
        try simp only [up2_rd, row2_rd, reduceIte, Nat.reduceEqDiff, tn_of (show c < 2147483648 by omega), e1c, e2c, e3c, e00]
        refine V_iald rfl rfl (Nat.le_of_ble_eq_true rfl) (inb_i32 (by omega) (by decide)) ?_
        try simp only [up2_rd, row2_rd, reduceIte, Nat.reduceEqDiff, tn_of (show c < 2147483648 by omega), e1c, e2c, e3c, e00]
        refine V_icmp_eq rfl (fun h21 => ?_) (fun h21 => ?_)
        · skip
          refine V_go 1 rfl ?_
          try simp only [up2_rd, row2_rd, reduceIte, Nat.reduceEqDiff, tn_of (show c < 2147483648 by omega), e1c, e2c, e3c, e00]
          refine V_zret rfl rfl rfl (by first | exact Or.inl rfl | exact Or.inr rfl | exact b2i_or _ | assumption) ?_
          first
            | exact RP.mk ⟨by (unfold sRd sKRd; grind [b2i]), hM, Sm.rf⟩
            | exact RP.mk ⟨by (unfold sRd sKRd; grind [b2i]), hM9, hq9⟩
        · skip
          refine V_go 2 rfl ?_
          try simp only [up2_rd, row2_rd, reduceIte, Nat.reduceEqDiff, tn_of (show c < 2147483648 by omega), e1c, e2c, e3c, e00]
          refine V_zret rfl rfl rfl (by first | exact Or.inl rfl | exact Or.inr rfl | exact b2i_or _ | assumption) ?_
          first
            | exact RP.mk ⟨by (unfold sRd sKRd; grind [b2i]), hM, Sm.rf⟩
            | exact RP.mk ⟨by (unfold sRd sKRd; grind [b2i]), hM9, hq9⟩
    · skip
      refine V_go 2 rfl ?_
      try simp only [up2_rd, row2_rd, reduceIte, Nat.reduceEqDiff, tn_of (show c < 2147483648 by omega), e1c, e2c, e3c, e00]
      refine V_icmp_ne rfl (fun h22 => ?_) (fun h22 => ?_)
      · skip
        refine V_go 1 rfl ?_
        try simp only [up2_rd, row2_rd, reduceIte, Nat.reduceEqDiff, tn_of (show c < 2147483648 by omega), e1c, e2c, e3c, e00]
        refine V_zret rfl rfl rfl (by first | exact Or.inl rfl | exact Or.inr rfl | exact b2i_or _ | assumption) ?_
        first
          | exact RP.mk ⟨by (unfold sRd sKRd; grind [b2i]), hM, Sm.rf⟩
          | exact RP.mk ⟨by (unfold sRd sKRd; grind [b2i]), hM9, hq9⟩
      · skip
        refine V_go 2 rfl ?_
        try simp only [up2_rd, row2_rd, reduceIte, Nat.reduceEqDiff, tn_of (show c < 2147483648 by omega), e1c, e2c, e3c, e00]
        refine V_zret rfl rfl rfl (by first | exact Or.inl rfl | exact Or.inr rfl | exact b2i_or _ | assumption) ?_
        first
          | exact RP.mk ⟨by (unfold sRd sKRd; grind [b2i]), hM, Sm.rf⟩
          | exact RP.mk ⟨by (unfold sRd sKRd; grind [b2i]), hM9, hq9⟩
theorem c_silenceOf7 {tc : Nat} {I : I2} {J : J2} {T : TV} {C : CC} (hM : MC tc I J T C) {c ah : Nat} (hc : c < nC C) (ha : ah ≤ 8) : CT mX7_silenceOf 44 58 58 [.ref 38, .int (i32 c), .int (i32 ah)] I J RF (RP RF (fun r9 I9 J9 => r9 = sSl T C c ah ∧ MC tc I9 J9 T C ∧ Sm I I9)) := by
  obtain ⟨hn1, hn8, hm1, hm6, hC3, hC4⟩ := hM.nm
  obtain ⟨hq0, hcr, -⟩ := id hM
  have e1c : I 42 c = C 1 c := hq0.2.1 1 c (by omega) (by omega) hc
  have e2c : I 43 c = C 2 c := hq0.2.1 2 c (by omega) (by omega) hc
  have e3c : I 44 c = C 3 c := hq0.2.1 3 c (by omega) (by omega) hc
  have e00 : I 38 7 = C 0 0 := hq0.1 0 (by omega)
  obtain ⟨k0, k5⟩ := (hcr.2.2.2.2.2.1 c hc).1
  refine CT_of okX7_silenceOf (Nat.le_of_ble_eq_true rfl) ?_
  show V _ _ _ _ _ _ [(0, _), (1, _), (2, _)] _ _ _ _ _
  refine V_go 3 rfl ?_
  try simp only [up2_rd, row2_rd, reduceIte, Nat.reduceEqDiff, tn_of (show c < 2147483648 by omega), e1c, e2c, e3c, e00]
  refine V_iald rfl rfl (Nat.le_of_ble_eq_true rfl) (inb_i32 (by omega) (by decide)) ?_
  try simp only [up2_rd, row2_rd, reduceIte, Nat.reduceEqDiff, tn_of (show c < 2147483648 by omega), e1c, e2c, e3c, e00]
  refine V_go 3 rfl ?_
  try simp only [up2_rd, row2_rd, reduceIte, Nat.reduceEqDiff, tn_of (show c < 2147483648 by omega), e1c, e2c, e3c, e00]
  refine V_icmp_ne rfl (fun h1 => ?_) (fun h1 => ?_)
  · skip
    refine V_go 4 rfl ?_
    try simp only [up2_rd, row2_rd, reduceIte, Nat.reduceEqDiff, tn_of (show c < 2147483648 by omega), e1c, e2c, e3c, e00]
    refine cVP (mt' := mX7_asks) rfl kX7_276 fX7_asks rfl rfl rfl (Nat.le_of_ble_eq_true rfl) (Nat.le_of_ble_eq_true rfl) (Nat.le_of_ble_eq_true rfl) (Nat.le_of_ble_eq_true rfl) (Nat.le_refl _) (c_asks (part := 1) hM (by omega) hc ha) ?_
    intro r2 Ir2 Jr2 h2
    obtain ⟨hv, hM9, hq9⟩ := h2
    have e2d : Ir2 43 c = C 2 c := by rw [hq9.1 43 (by omega) (by omega)]; exact e2c
    have e0d : Ir2 38 7 = C 0 0 := by rw [hq9.2 7 (by omega)]; exact e00
    subst hv
    refine V_go 3 rfl ?_
    try simp only [up2_rd, row2_rd, reduceIte, Nat.reduceEqDiff, tn_of (show c < 2147483648 by omega), e1c, e2d, e0d]
    refine V_icmp_ne rfl (fun h3 => ?_) (fun h3 => ?_)
    · skip
      refine V_go 2 rfl ?_
      try simp only [up2_rd, row2_rd, reduceIte, Nat.reduceEqDiff, tn_of (show c < 2147483648 by omega), e1c, e2d, e0d]
      refine V_icmp_ne rfl (fun h4 => ?_) (fun h4 => ?_)
      · skip
        refine V_go 2 rfl ?_
        try simp only [up2_rd, row2_rd, reduceIte, Nat.reduceEqDiff, tn_of (show c < 2147483648 by omega), e1c, e2d, e0d]
        refine V_icmp_ne rfl (fun h5 => ?_) (fun h5 => ?_)
        · skip
          refine V_go 2 rfl ?_
          try simp only [up2_rd, row2_rd, reduceIte, Nat.reduceEqDiff, tn_of (show c < 2147483648 by omega), e1c, e2d, e0d]
          refine V_icmp_ne rfl (fun h6 => ?_) (fun h6 => ?_)
          · skip
            refine V_go 1 rfl ?_
            try simp only [up2_rd, row2_rd, reduceIte, Nat.reduceEqDiff, tn_of (show c < 2147483648 by omega), e1c, e2d, e0d]
            refine V_iret rfl rfl rfl ?_
            first
              | exact RP.mk ⟨by (unfold sSl sKSil; grind), hM, Sm.rf⟩
              | exact RP.mk ⟨by (unfold sSl sKSil; grind), hM9, hq9⟩
          · skip
            refine V_go 2 rfl ?_
            try simp only [up2_rd, row2_rd, reduceIte, Nat.reduceEqDiff, tn_of (show c < 2147483648 by omega), e1c, e2d, e0d]
            refine V_idiv rfl (by decide) ?_
            refine V_go 3 rfl ?_
            try simp only [up2_rd, row2_rd, reduceIte, Nat.reduceEqDiff, tn_of (show c < 2147483648 by omega), e1c, e2d, e0d]
            refine V_iret rfl rfl rfl ?_
            first
              | exact RP.mk ⟨by (unfold sSl sKSil; grind), hM, Sm.rf⟩
              | exact RP.mk ⟨by (unfold sSl sKSil; grind), hM9, hq9⟩
        · skip
          refine V_go 2 rfl ?_
          try simp only [up2_rd, row2_rd, reduceIte, Nat.reduceEqDiff, tn_of (show c < 2147483648 by omega), e1c, e2d, e0d]
          refine V_idiv rfl (by decide) ?_
          refine V_go 1 rfl ?_
          try simp only [up2_rd, row2_rd, reduceIte, Nat.reduceEqDiff, tn_of (show c < 2147483648 by omega), e1c, e2d, e0d]
          refine V_iret rfl rfl rfl ?_
          first
            | exact RP.mk ⟨by (unfold sSl sKSil; grind), hM, Sm.rf⟩
            | exact RP.mk ⟨by (unfold sSl sKSil; grind), hM9, hq9⟩
      · skip
        refine V_go 6 rfl ?_
        try simp only [up2_rd, row2_rd, reduceIte, Nat.reduceEqDiff, tn_of (show c < 2147483648 by omega), e1c, e2d, e0d]
        refine V_iald rfl rfl (Nat.le_of_ble_eq_true rfl) (inb_i32 (by omega) (by decide)) ?_
        try simp only [up2_rd, row2_rd, reduceIte, Nat.reduceEqDiff, tn_of (show c < 2147483648 by omega), e1c, e2d, e0d]
        refine V_go 2 rfl ?_
        try simp only [up2_rd, row2_rd, reduceIte, Nat.reduceEqDiff, tn_of (show c < 2147483648 by omega), e1c, e2d, e0d]
        refine V_iret rfl rfl rfl ?_
        first
          | exact RP.mk ⟨by (unfold sSl sKSil; grind), hM, Sm.rf⟩
          | exact RP.mk ⟨by (unfold sSl sKSil; grind), hM9, hq9⟩
    · skip
      refine V_go 4 rfl ?_
      try simp only [up2_rd, row2_rd, reduceIte, Nat.reduceEqDiff, tn_of (show c < 2147483648 by omega), e1c, e2d, e0d]
      refine V_iret rfl rfl rfl ?_
      first
        | exact RP.mk ⟨by (unfold sSl sKSil; grind), hM, Sm.rf⟩
        | exact RP.mk ⟨by (unfold sSl sKSil; grind), hM9, hq9⟩
  · skip
    refine V_go 1 rfl ?_
    try simp only [up2_rd, row2_rd, reduceIte, Nat.reduceEqDiff, tn_of (show c < 2147483648 by omega), e1c, e2c, e3c, e00]
    refine V_iret rfl rfl rfl ?_
    first
      | exact RP.mk ⟨by (unfold sSl sKSil; grind), hM, Sm.rf⟩
      | exact RP.mk ⟨by (unfold sSl sKSil; grind), hM9, hq9⟩
theorem c_timeOf7 {tc : Nat} {I : I2} {J : J2} {T : TV} {C : CC} (hM : MC tc I J T C) {c ah : Nat} (hc : c < nC C) (ha : ah ≤ 8) : CT mX7_timeOf 44 58 58 [.ref 38, .int (i32 c), .int (i32 ah)] I J RF (RP RF (fun r9 I9 J9 => r9 = sTm T C c ah ∧ MC tc I9 J9 T C ∧ Sm I I9)) := by
  obtain ⟨hn1, hn8, hm1, hm6, hC3, hC4⟩ := hM.nm
  obtain ⟨hq0, hcr, -⟩ := id hM
  have e1c : I 42 c = C 1 c := hq0.2.1 1 c (by omega) (by omega) hc
  have e2c : I 43 c = C 2 c := hq0.2.1 2 c (by omega) (by omega) hc
  have e3c : I 44 c = C 3 c := hq0.2.1 3 c (by omega) (by omega) hc
  have e00 : I 38 7 = C 0 0 := hq0.1 0 (by omega)
  obtain ⟨k0, k5⟩ := (hcr.2.2.2.2.2.1 c hc).1
  refine CT_of okX7_timeOf (Nat.le_of_ble_eq_true rfl) ?_
  show V _ _ _ _ _ _ [(0, _), (1, _), (2, _)] _ _ _ _ _
  refine V_go 3 rfl ?_
  try simp only [up2_rd, row2_rd, reduceIte, Nat.reduceEqDiff, tn_of (show c < 2147483648 by omega), e1c, e2c, e3c, e00]
  refine V_iald rfl rfl (Nat.le_of_ble_eq_true rfl) (inb_i32 (by omega) (by decide)) ?_
  try simp only [up2_rd, row2_rd, reduceIte, Nat.reduceEqDiff, tn_of (show c < 2147483648 by omega), e1c, e2c, e3c, e00]
  refine V_go 5 rfl ?_
  try simp only [up2_rd, row2_rd, reduceIte, Nat.reduceEqDiff, tn_of (show c < 2147483648 by omega), e1c, e2c, e3c, e00]
  refine cVP (mt' := mX7_asks) rfl kX7_276 fX7_asks rfl rfl rfl (Nat.le_of_ble_eq_true rfl) (Nat.le_of_ble_eq_true rfl) (Nat.le_of_ble_eq_true rfl) (Nat.le_of_ble_eq_true rfl) (Nat.le_refl _) (c_asks (part := 2) hM (by omega) hc ha) ?_
  intro r1 Ir1 Jr1 h1
  obtain ⟨hv, hM9, hq9⟩ := h1
  have e2d : Ir1 43 c = C 2 c := by rw [hq9.1 43 (by omega) (by omega)]; exact e2c
  have e0d : Ir1 38 7 = C 0 0 := by rw [hq9.2 7 (by omega)]; exact e00
  subst hv
  refine V_go 3 rfl ?_
  try simp only [up2_rd, row2_rd, reduceIte, Nat.reduceEqDiff, tn_of (show c < 2147483648 by omega), e1c, e2d, e0d]
  refine V_icmp_eq rfl (fun h2 => ?_) (fun h2 => ?_)
  · skip
    refine V_go 4 rfl ?_
    try simp only [up2_rd, row2_rd, reduceIte, Nat.reduceEqDiff, tn_of (show c < 2147483648 by omega), e1c, e2d, e0d]
    refine V_iald rfl rfl (Nat.le_of_ble_eq_true rfl) (inb_i32 (by omega) (by decide)) ?_
    try simp only [up2_rd, row2_rd, reduceIte, Nat.reduceEqDiff, tn_of (show c < 2147483648 by omega), e1c, e2d, e0d]
    refine V_go 2 rfl ?_
    try simp only [up2_rd, row2_rd, reduceIte, Nat.reduceEqDiff, tn_of (show c < 2147483648 by omega), e1c, e2d, e0d]
    refine V_iret rfl rfl rfl ?_
    first
      | exact RP.mk ⟨by (unfold sTm sKTim; grind), hM, Sm.rf⟩
      | exact RP.mk ⟨by (unfold sTm sKTim; grind), hM9, hq9⟩
  · skip
    refine V_go 2 rfl ?_
    try simp only [up2_rd, row2_rd, reduceIte, Nat.reduceEqDiff, tn_of (show c < 2147483648 by omega), e1c, e2d, e0d]
    refine V_icmp_ne rfl (fun h3 => ?_) (fun h3 => ?_)
    · skip
      refine V_go 2 rfl ?_
      try simp only [up2_rd, row2_rd, reduceIte, Nat.reduceEqDiff, tn_of (show c < 2147483648 by omega), e1c, e2d, e0d]
      refine V_icmp_ne rfl (fun h4 => ?_) (fun h4 => ?_)
      · skip
        refine V_go 1 rfl ?_
        try simp only [up2_rd, row2_rd, reduceIte, Nat.reduceEqDiff, tn_of (show c < 2147483648 by omega), e1c, e2d, e0d]
        refine V_iret rfl rfl rfl ?_
        first
          | exact RP.mk ⟨by (unfold sTm sKTim; grind), hM, Sm.rf⟩
          | exact RP.mk ⟨by (unfold sTm sKTim; grind), hM9, hq9⟩
      · skip
        refine V_go 3 rfl ?_
        try simp only [up2_rd, row2_rd, reduceIte, Nat.reduceEqDiff, tn_of (show c < 2147483648 by omega), e1c, e2d, e0d]
        refine V_irem0 rfl (by decide) ?_
        refine V_go 1 rfl ?_
        try simp only [up2_rd, row2_rd, reduceIte, Nat.reduceEqDiff, tn_of (show c < 2147483648 by omega), e1c, e2d, e0d]
        refine V_icmp_ne rfl (fun h5 => ?_) (fun h5 => ?_)
        · skip
          refine V_go 1 rfl ?_
          try simp only [up2_rd, row2_rd, reduceIte, Nat.reduceEqDiff, tn_of (show c < 2147483648 by omega), e1c, e2d, e0d]
          refine V_iret rfl rfl rfl ?_
          first
            | exact RP.mk ⟨by (unfold sTm sKTim; grind), hM, Sm.rf⟩
            | exact RP.mk ⟨by (unfold sTm sKTim; grind), hM9, hq9⟩
        · skip
          refine V_go 2 rfl ?_
          try simp only [up2_rd, row2_rd, reduceIte, Nat.reduceEqDiff, tn_of (show c < 2147483648 by omega), e1c, e2d, e0d]
          refine V_iret rfl rfl rfl ?_
          first
            | exact RP.mk ⟨by (unfold sTm sKTim; grind), hM, Sm.rf⟩
            | exact RP.mk ⟨by (unfold sTm sKTim; grind), hM9, hq9⟩
    · skip
      refine V_go 4 rfl ?_
      try simp only [up2_rd, row2_rd, reduceIte, Nat.reduceEqDiff, tn_of (show c < 2147483648 by omega), e1c, e2d, e0d]
      refine V_iald rfl rfl (Nat.le_of_ble_eq_true rfl) (inb_i32 (by omega) (by decide)) ?_
      try simp only [up2_rd, row2_rd, reduceIte, Nat.reduceEqDiff, tn_of (show c < 2147483648 by omega), e1c, e2d, e0d]
      refine V_go 2 rfl ?_
      try simp only [up2_rd, row2_rd, reduceIte, Nat.reduceEqDiff, tn_of (show c < 2147483648 by omega), e1c, e2d, e0d]
      refine V_iret rfl rfl rfl ?_
      first
        | exact RP.mk ⟨by (unfold sTm sKTim; grind), hM, Sm.rf⟩
        | exact RP.mk ⟨by (unfold sTm sKTim; grind), hM9, hq9⟩
theorem cnt_on : ∀ i, i < 8 → ∀ m, m < 2 ^ i → cnt (m + 2 ^ i) (i + 1) = cnt m i + 1 ∧ cnt m (i + 1) = cnt m i := by decide +kernel
theorem sLs_s1 {T : TV} {C : CC} {i : Nat} (h : ¬ sRd T C i (cnt (sLs T C i) i) = 0) : sLs T C (i + 1) = sLs T C i + 2 ^ i := by rw [sLs, if_neg h]
theorem sLs_s0 {T : TV} {C : CC} {i : Nat} (h : sRd T C i (cnt (sLs T C i) i) = 0) : sLs T C (i + 1) = sLs T C i := by rw [sLs, if_pos h]

theorem c_listNow7 {tc : Nat} {I : I2} {J : J2} {T : TV} {C : CC} (hM : MC tc I J T C)  : CT mX7_listNow 45 58 58 [.ref 38] I J RF (RP RF (fun r9 I9 J9 => r9 = i32 (sLst T C) ∧ MC tc I9 J9 T C ∧ Sm I I9)) := by
  obtain ⟨hn1, hn8, hm1, hm6, hC3, hC4⟩ := hM.nm
  have key : ∀ n, Hid (∀ (i : Nat) (I1 : I2) (J1 : J2), i + n = nC C → (MC tc I1 J1 T C ∧ Sm I I1) → V mX7_listNow none 45 58 (RP RF (fun r9 I9 J9 => r9 = i32 (sLst T C) ∧ MC tc I9 J9 T C ∧ Sm I I9)) 6 [(0, .ref 38), (1, .int (i32 (sLs T C (i)))), (2, .int (i32 (cnt (sLs T C (i)) (i)))), (3, .int (i32 (i)))] [] 58 I1 J1 RF) := by
    intro n
    induction n with
    | zero =>
      unfold Hid
      intro i I1 J1 hi ⟨hM1, hq1⟩
      have hn2 : I1 38 12 = i32 (nC C) := hM1.nm.1
      refine V_go 3 rfl ?_
      refine V_icmp_ge rfl (fun h1 => ?_) (fun h1 => ?_)
      · skip
        refine V_go 1 rfl ?_
        refine V_iret rfl rfl rfl ?_
        exact RP.mk ⟨by unfold sLst; rw [show i = nC C from hi], hM1, hq1⟩
      · skip
        exact absurd (by rw [hn2, ← show i = nC C from hi]; exact Int32.le_refl _) h1
    | succ n ih =>
      unfold Hid
      intro i I1 J1 hi ⟨hM1, hq1⟩
      have hn2 : I1 38 12 = i32 (nC C) := hM1.nm.1
      refine V_go 3 rfl ?_
      refine V_icmp_ge rfl (fun h1 => ?_) (fun h1 => ?_)
      · skip
        exact absurd ((i32_le (a := nC C) (b := i) (by omega) (by omega)).mp (by rw [← hn2]; exact h1)) (by omega)
      · skip
        refine V_go 3 rfl ?_
        refine cVP (mt' := mX7_isRead) rfl kX7_279 fX7_isRead rfl rfl rfl (Nat.le_of_ble_eq_true rfl) (Nat.le_of_ble_eq_true rfl) (Nat.le_of_ble_eq_true rfl) (Nat.le_of_ble_eq_true rfl) (Nat.le_refl _) (c_isRead7 hM1 (c := i) (ah := cnt (sLs T C i) i) (by omega) (by have := cnt_le (sLs T C i) i; omega)) ?_
        intro r2 Ir2 Jr2 h2
        obtain ⟨hv, hM2, hq2⟩ := h2
        subst hv
        refine V_if_eq rfl (fun h3 => ?_) (fun h3 => ?_)
        · skip
          have hl := sLs_lt T C i
          have hco := (cnt_on i (by omega) _ hl).2
          refine V_go 2 rfl ?_
          refine V.st (L' := [(0, .ref 38), (1, .int (i32 (sLs T C (i + 1)))), (2, .int (i32 (cnt (sLs T C (i + 1)) (i + 1)))), (3, .int (i32 (i + 1)))]) (ih.un (i + 1) _ _ (by omega) ⟨hM2, hq1.tr hq2⟩) rfl ?_
          rw [i32_s, sLs_s0 h3, hco]
          simp
        · skip
          have hl := sLs_lt T C i
          have hco := (cnt_on i (by omega) _ hl).1
          refine V_go 9 rfl ?_
          refine V.st (L' := [(0, .ref 38), (1, .int (i32 (sLs T C (i + 1)))), (2, .int (i32 (cnt (sLs T C (i + 1)) (i + 1)))), (3, .int (i32 (i + 1)))]) (ih.un (i + 1) _ _ (by omega) ⟨hM2, hq1.tr hq2⟩) rfl ?_
          rw [i32_s, sLs_s1 h3, hco, i32_s, ← orbit_ok i (by omega) _ hl]
          simp
  refine CT_of okX7_listNow (Nat.le_of_ble_eq_true rfl) ?_
  show V _ _ _ _ _ _ [(0, _)] _ _ _ _ _
  refine V_go 6 rfl ?_
  exact (key _).un 0 I J (Nat.zero_add _) ⟨hM, Sm.rf⟩
def pW (w m : Nat) : Nat → Bool := fun i => if w = 2 then true else if w = 0 then !m.testBit i else m.testBit i
theorem pW_t1 {w m i : Nat} (h0 : ¬ w = 0) (hb : m.testBit i = true) : pW w m i = true := by
  unfold pW
  by_cases h2 : w = 2
  · rw [if_pos h2]
  · rw [if_neg h2, if_neg h0, hb]
theorem pW_f0 {w m i : Nat} (h0 : w = 0) (hb : m.testBit i = true) : ¬ pW w m i = true := by
  unfold pW
  rw [if_neg (by omega), if_pos h0, hb]
  decide
theorem pW_t0 {w m i : Nat} (hw : w < 3) (h1 : ¬ w = 1) (hb : ¬ m.testBit i = true) : pW w m i = true := by
  unfold pW
  by_cases h2 : w = 2
  · rw [if_pos h2]
  · rw [if_neg h2, if_pos (by omega), bof hb]
    rfl
theorem pW_f1 {w m i : Nat} (h1 : w = 1) (hb : ¬ m.testBit i = true) : ¬ pW w m i = true := by
  unfold pW
  rw [if_neg (by omega), if_neg (by omega)]
  exact hb
theorem sGn_s {T : TV} {C : CC} {p : Nat → Bool} {m i : Nat} : sGn T C p m (i + 1) = sGn T C p m i + (if p i then (if m.testBit i then sTm T C i (cnt m i) else sSl T C i (cnt m i)) else 0) := rfl
theorem cnt_1 {m i : Nat} (h : m.testBit i = true) : cnt m (i + 1) = cnt m i + 1 := by rw [cnt, if_pos h]
theorem cnt_n {m i : Nat} (h : ¬ m.testBit i = true) : cnt m (i + 1) = cnt m i := by rw [cnt, if_neg h]; rfl

theorem c_goneBy7 {tc : Nat} {I : I2} {J : J2} {T : TV} {C : CC} (hM : MC tc I J T C) {m w : Nat} (hm : m < 256) (hw : w < 3) : CT mX7_goneBy 45 58 58 [.ref 38, .int (i32 m), .int (i32 w)] I J RF (RP RF (fun r9 I9 J9 => r9 = sGn T C (pW w m) m (nC C) ∧ MC tc I9 J9 T C ∧ Sm I I9)) := by
  obtain ⟨hn1, hn8, hm1, hm6, hC3, hC4⟩ := hM.nm
  have key : ∀ n, Hid (∀ (i : Nat) (I1 : I2) (J1 : J2), i + n = nC C → (MC tc I1 J1 T C ∧ Sm I I1) → V mX7_goneBy none 45 58 (RP RF (fun r9 I9 J9 => r9 = sGn T C (pW w m) m (nC C) ∧ MC tc I9 J9 T C ∧ Sm I I9)) 8 [(0, .ref 38), (1, .int (i32 m)), (2, .int (i32 w)), (3, .int (i32 (cnt m (i)))), (4, .int (sGn T C (pW w m) m (i))), (5, .int (i32 (i)))] [] 58 I1 J1 RF) := by
    intro n
    induction n with
    | zero =>
      unfold Hid
      intro i I1 J1 hi ⟨hM1, hq1⟩
      have hn2 : I1 38 12 = i32 (nC C) := hM1.nm.1
      refine V_go 3 rfl ?_
      refine V_icmp_ge rfl (fun h1 => ?_) (fun h1 => ?_)
      · skip
        refine V_go 1 rfl ?_
        refine V_iret rfl rfl rfl ?_
        exact RP.mk ⟨by rw [show i = nC C from hi], hM1, hq1⟩
      · skip
        exact absurd (by rw [hn2, ← show i = nC C from hi]; exact Int32.le_refl _) h1
    | succ n ih =>
      unfold Hid
      intro i I1 J1 hi ⟨hM1, hq1⟩
      have hn2 : I1 38 12 = i32 (nC C) := hM1.nm.1
      refine V_go 3 rfl ?_
      refine V_icmp_ge rfl (fun h1 => ?_) (fun h1 => ?_)
      · skip
        exact absurd ((i32_le (a := nC C) (b := i) (by omega) (by omega)).mp (by rw [← hn2]; exact h1)) (by omega)
      · skip
        refine V_go 6 rfl ?_
        refine V_icmp_ne rfl (fun h2 => ?_) (fun h2 => ?_)
        · skip
          rw [bit_ok m hm i (by omega)] at h2
          have hbit : ¬ m.testBit i = true := fun z => h2 (if_pos z)
          refine V_go 3 rfl ?_
          refine V_icmp_ne rfl (fun h41 => ?_) (fun h41 => ?_)
          · skip
            have hw1 : ¬ w = 1 := fun z => h41 (by rw [z]; rfl)
            refine V_go 3 rfl ?_
            refine cVP (mt' := mX7_silenceOf) rfl kX7_142 fX7_silenceOf rfl rfl rfl (Nat.le_of_ble_eq_true rfl) (Nat.le_of_ble_eq_true rfl) (Nat.le_of_ble_eq_true rfl) (Nat.le_of_ble_eq_true rfl) (Nat.le_refl _) (c_silenceOf7 hM1 (c := i) (ah := cnt m i) (by omega) (by have := cnt_le m i; omega)) ?_
            intro r51 Ir51 Jr51 h51
            obtain ⟨hv, hM2, hq2⟩ := h51
            subst hv
            refine V_go 4 rfl ?_
            refine V.st (L' := [(0, .ref 38), (1, .int (i32 m)), (2, .int (i32 w)), (3, .int (i32 (cnt m (i + 1)))), (4, .int (sGn T C (pW w m) m (i + 1))), (5, .int (i32 (i + 1)))]) (ih.un (i + 1) _ _ (by omega) ⟨hM2, hq1.tr hq2⟩) rfl ?_
            rw [i32_s i, cnt_n hbit, sGn_s, if_pos (pW_t0 hw hw1 hbit), if_neg hbit]
            simp
          · skip
            have hw1 : w = 1 := (i32_inj (a := w) (b := 1) (by omega) (by omega)).mp h41
            refine V_go 2 rfl ?_
            refine V_go 4 rfl ?_
            refine V.st (L' := [(0, .ref 38), (1, .int (i32 m)), (2, .int (i32 w)), (3, .int (i32 (cnt m (i + 1)))), (4, .int (sGn T C (pW w m) m (i + 1))), (5, .int (i32 (i + 1)))]) (ih.un (i + 1) _ _ (by omega) ⟨hM1, hq1⟩) rfl ?_
            rw [i32_s i, cnt_n hbit, sGn_s, if_neg (pW_f1 hw1 hbit)]
            simp
        · skip
          rw [bit_ok m hm i (by omega)] at h2
          have hbit : m.testBit i = true := by
            cases hb : m.testBit i
            · rw [hb] at h2; exact absurd h2 (by decide)
            · rfl
          refine V_go 2 rfl ?_
          refine V_if_ne rfl (fun h21 => ?_) (fun h21 => ?_)
          · skip
            have hw0 : ¬ w = 0 := fun z => h21 (by rw [z]; rfl)
            refine V_go 3 rfl ?_
            refine cVP (mt' := mX7_timeOf) rfl kX7_145 fX7_timeOf rfl rfl rfl (Nat.le_of_ble_eq_true rfl) (Nat.le_of_ble_eq_true rfl) (Nat.le_of_ble_eq_true rfl) (Nat.le_of_ble_eq_true rfl) (Nat.le_refl _) (c_timeOf7 hM1 (c := i) (ah := cnt m i) (by omega) (by have := cnt_le m i; omega)) ?_
            intro r31 Ir31 Jr31 h31
            obtain ⟨hv, hM2, hq2⟩ := h31
            subst hv
            refine V_go 6 rfl ?_
            refine V.st (L' := [(0, .ref 38), (1, .int (i32 m)), (2, .int (i32 w)), (3, .int (i32 (cnt m (i + 1)))), (4, .int (sGn T C (pW w m) m (i + 1))), (5, .int (i32 (i + 1)))]) (ih.un (i + 1) _ _ (by omega) ⟨hM2, hq1.tr hq2⟩) rfl ?_
            rw [i32_s i, cnt_1 hbit, i32_s, sGn_s, if_pos (pW_t1 hw0 hbit), if_pos hbit]
            simp
          · skip
            have hw0 : w = 0 := (i32_inj (a := w) (b := 0) (by omega) (by omega)).mp h21
            refine V_go 2 rfl ?_
            refine V_go 6 rfl ?_
            refine V.st (L' := [(0, .ref 38), (1, .int (i32 m)), (2, .int (i32 w)), (3, .int (i32 (cnt m (i + 1)))), (4, .int (sGn T C (pW w m) m (i + 1))), (5, .int (i32 (i + 1)))]) (ih.un (i + 1) _ _ (by omega) ⟨hM1, hq1⟩) rfl ?_
            rw [i32_s i, cnt_1 hbit, i32_s, sGn_s, if_neg (pW_f0 hw0 hbit)]
            simp
  refine CT_of okX7_goneBy (Nat.le_of_ble_eq_true rfl) ?_
  show V _ _ _ _ _ _ [(0, _), (1, _), (2, _)] _ _ _ _ _
  refine V_go 6 rfl ?_
  exact (key _).un 0 I J (Nat.zero_add _) ⟨hM, Sm.rf⟩
theorem pW_2 (m : Nat) : pW 2 m = fun _ => true := by
  funext i
  rfl
theorem c_goneM {tc : Nat} {I : I2} {J : J2} {T : TV} {C : CC} (hM : MC tc I J T C) {m : Nat} (hm : m < 256) : CT mX7_goneBy 45 58 58 [.ref 38, .int (i32 m), .int 2] I J RF (RP RF (fun r9 I9 J9 => r9 = sGone T C m ∧ MC tc I9 J9 T C ∧ Sm I I9)) := by
  have e := c_goneBy7 (w := 2) hM hm (by omega)
  rw [pW_2] at e
  exact e
theorem MC.l256 {tc : Nat} {I : I2} {J : J2} {T : TV} {C : CC} (hM : MC tc I J T C) : sLst T C < 256 := sLs_256 T C hM.nm.2.1

theorem c_gone7 {tc : Nat} {I : I2} {J : J2} {T : TV} {C : CC} (hM : MC tc I J T C) : CT mX7_gone 46 58 58 [.ref 38] I J RF (RP RF (fun r9 I9 J9 => r9 = sGo T C ∧ MC tc I9 J9 T C ∧ Sm I I9)) := by
  refine CT_of okX7_gone (Nat.le_of_ble_eq_true rfl) ?_
  show V _ _ _ _ _ _ [(0, _)] _ _ _ _ _
  refine V_go 2 rfl ?_
  refine cVP (mt' := mX7_listNow) rfl kX7_135 fX7_listNow rfl rfl rfl (Nat.le_of_ble_eq_true rfl) (Nat.le_of_ble_eq_true rfl) (Nat.le_of_ble_eq_true rfl) (Nat.le_of_ble_eq_true rfl) (Nat.le_refl _) (c_listNow7 hM) ?_
  intro r1 Ir1 Jr1 h1
  obtain ⟨hv, hM1, hq1⟩ := h1
  subst hv
  refine V_go 1 rfl ?_
  refine cVP (mt' := mX7_goneBy) rfl kX7_282 fX7_goneBy rfl rfl rfl (Nat.le_of_ble_eq_true rfl) (Nat.le_of_ble_eq_true rfl) (Nat.le_of_ble_eq_true rfl) (Nat.le_of_ble_eq_true rfl) (Nat.le_refl _) (c_goneM hM1 hM.l256) ?_
  intro r2 Ir2 Jr2 h2
  obtain ⟨hv, hM2, hq2⟩ := h2
  refine V_iret rfl rfl rfl ?_
  exact RP.mk ⟨hv, hM2, hq1.tr hq2⟩
theorem vCl_b {part : Nat} (x : Int32) (hp : ¬ part = 0) : 0 ≤ vCl part x ∧ vCl part x ≤ 60 := by
  unfold vCl
  rw [if_neg hp]
  by_cases h1 : x < 60
  · rw [if_pos h1]
    by_cases h2 : 0 < x
    · rw [if_pos h2]; exact ⟨Int32.le_of_lt h2, Int32.le_of_lt h1⟩
    · rw [if_neg h2]; decide
  · rw [if_neg h1, if_pos (by decide)]; decide
theorem tm_b {k v num sit : Int32} (h0 : 0 ≤ v) (h6 : v ≤ 60) (n0 : 0 ≤ num) (n9 : num ≤ 9) : 0 ≤ sKTim k v num sit ∧ sKTim k v num sit ≤ 200 := by unfold sKTim; grind
theorem half_b : ∀ m, m < 61 → 0 ≤ i32 m / 2 ∧ i32 m / 2 ≤ 60 := by decide +kernel
theorem sl_b {k v num : Int32} (h0 : 0 ≤ v) (h6 : v ≤ 60) (n0 : 0 ≤ num) (n9 : num ≤ 9) : 0 ≤ sKSil k v num ∧ sKSil k v num ≤ 200 := by
  obtain ⟨m, hm, e⟩ := nat_of (k := 60) h0 h6 (by omega)
  have hh := half_b m (by omega)
  rw [← e] at hh
  obtain ⟨a, b⟩ := hh
  unfold sKSil
  generalize v / 2 = w at *
  grind
theorem add_b {x y : Int32} {i : Nat} (hi : i < 8) (h0 : 0 ≤ x) (h1 : x ≤ i32 (200 * i)) (h2 : 0 ≤ y) (h3 : y ≤ 200) : 0 ≤ x + y ∧ x + y ≤ i32 (200 * (i + 1)) := by
  have a1 := Int32.le_iff_toInt_le.mp h0
  have a2 := Int32.le_iff_toInt_le.mp h1
  have a3 := Int32.le_iff_toInt_le.mp h2
  have a4 := Int32.le_iff_toInt_le.mp h3
  rw [Int32.toInt_ofNat_of_lt (by omega)] at a2
  rw [show (0 : Int32).toInt = 0 from rfl] at a1 a3
  rw [show (200 : Int32).toInt = 200 from rfl] at a4
  have e : (x + y).toInt = x.toInt + y.toInt := by rw [Int32.toInt_add, Int.bmod_eq_of_le (by omega) (by omega)]
  rw [Int32.le_iff_toInt_le, Int32.le_iff_toInt_le, e, Int32.toInt_ofNat_of_lt (by omega), show (0 : Int32).toInt = 0 from rfl]
  omega
theorem MC.askB {tc : Nat} {I : I2} {J : J2} {T : TV} {C : CC} (hM : MC tc I J T C) {part c ah : Nat} (hp : part < 3) (h0 : ¬ part = 0) : 0 ≤ askT T C part c ah ∧ askT T C part c ah ≤ 60 := by
  obtain ⟨-, ⟨-, -, r2, -⟩, hE⟩ := hM
  obtain ⟨r, hr9, hr⟩ := nat_of (k := tc) r2.1 (Int32.le_of_lt r2.2) (by have := hE.2.2.1; omega)
  have hrt : r < tc := by
    have z := r2.2
    rw [hr] at z
    have := hE.2.2.1
    exact (i32_lt (by omega) (by omega)).mp z
  unfold askT
  rw [hr, hE.2.2.2.2.1 r part _ _ _ _ _ _ hrt hp]
  exact vCl_b _ h0
theorem MC.gnB {tc : Nat} {I : I2} {J : J2} {T : TV} {C : CC} (hM : MC tc I J T C) {m : Nat} : ∀ i, i ≤ nC C → 0 ≤ sGn T C (fun _ => true) m i ∧ sGn T C (fun _ => true) m i ≤ i32 (200 * i)
  | 0, _ => ⟨Int32.le_refl _, Int32.le_refl _⟩
  | i + 1, hi => by
    obtain ⟨h0, h1⟩ := MC.gnB hM (m := m) i (by omega)
    have hn8 := hM.nm.2.1
    have hr := (hM.2.1.2.2.2.2.2.1 i (by omega)).2.1
    rw [sGn_s, if_pos rfl]
    split
    · obtain ⟨b0, b1⟩ := hM.askB (part := 2) (c := i) (ah := cnt m i) (by omega) (by omega)
      obtain ⟨t0, t1⟩ := tm_b (k := C 1 i) (sit := C 0 0) b0 b1 hr.1 hr.2
      exact add_b (by omega) h0 h1 t0 t1
    · obtain ⟨b0, b1⟩ := hM.askB (part := 1) (c := i) (ah := cnt m i) (by omega) (by omega)
      obtain ⟨t0, t1⟩ := sl_b (k := C 1 i) b0 b1 hr.1 hr.2
      exact add_b (by omega) h0 h1 t0 t1
theorem MC.goneB {tc : Nat} {I : I2} {J : J2} {T : TV} {C : CC} (hM : MC tc I J T C) (m : Nat) : 0 ≤ sGone T C m ∧ sGone T C m ≤ 1600 := by
  obtain ⟨h0, h1⟩ := hM.gnB (m := m) (nC C) (Nat.le_refl _)
  have hn8 := hM.nm.2.1
  exact ⟨h0, Int32.le_trans h1 ((i32_le (a := 200 * nC C) (b := 1600) (by omega) (by omega)).mpr (by omega))⟩
theorem left_eq {l g : Int32} (h0 : 0 ≤ l) (h6 : l ≤ 600) (g0 : 0 ≤ g) (g1 : g ≤ 1600) : sWi (l - g) 0 600 = if l - g < 0 then 0 else l - g := by unfold sWi; grind
theorem left_b {l g : Int32} (h0 : 0 ≤ l) (h6 : l ≤ 600) (g0 : 0 ≤ g) (g1 : g ≤ 1600) : 0 ≤ (if l - g < 0 then 0 else l - g) ∧ (if l - g < 0 then 0 else l - g) ≤ 600 := by grind
theorem MC.leftB {tc : Nat} {I : I2} {J : J2} {T : TV} {C : CC} (hM : MC tc I J T C) : 0 ≤ sLeft T C ∧ sLeft T C ≤ 600 := by
  obtain ⟨g0, g1⟩ := hM.goneB (sLst T C)
  exact left_b hM.2.1.2.1.1 hM.2.1.2.1.2 g0 g1

theorem c_leftNow7 {tc : Nat} {I : I2} {J : J2} {T : TV} {C : CC} (hM : MC tc I J T C) : CT mX7_leftNow 47 58 58 [.ref 38] I J RF (RP RF (fun r9 I9 J9 => r9 = sLeft T C ∧ MC tc I9 J9 T C ∧ Sm I I9)) := by
  refine CT_of okX7_leftNow (Nat.le_of_ble_eq_true rfl) ?_
  show V _ _ _ _ _ _ [(0, _)] _ _ _ _ _
  refine V_go 3 rfl ?_
  refine cVP (mt' := mX7_gone) rfl kX7_285 fX7_gone rfl rfl rfl (Nat.le_of_ble_eq_true rfl) (Nat.le_of_ble_eq_true rfl) (Nat.le_of_ble_eq_true rfl) (Nat.le_of_ble_eq_true rfl) (Nat.le_refl _) (c_gone7 hM) ?_
  intro r1 Ir1 Jr1 h1
  obtain ⟨hv, hM2, hq2⟩ := h1
  subst hv
  refine V_go 3 rfl ?_
  refine cSI (mt' := mX7_within) rfl kX7_272 fX7_within rfl (Nat.le_of_ble_eq_true rfl) (Nat.le_of_ble_eq_true rfl) (Nat.le_refl _) (c_within) ?_
  refine V_iret rfl rfl rfl ?_
  refine RP.mk ⟨?_, hM2, hq2⟩
  obtain ⟨g0, g1⟩ := hM.goneB (sLst T C)
  rw [show I 38 8 = C 0 1 from hM.1.1 1 (by omega)]
  exact left_eq hM.2.1.2.1.1 hM.2.1.2.1.2 g0 g1
theorem bc_s : ∀ l, l < 256 → l ≠ 0 → i32 l &&& (i32 l - 1) = i32 (l &&& (l - 1)) ∧ cnt (l &&& (l - 1)) 8 + 1 = cnt l 8 ∧ (l &&& (l - 1)) < l := by decide +kernel
theorem bc_0 : ∀ l, l < 256 → cnt l 8 = 0 → l = 0 := by decide +kernel

theorem c_bitsOf7 {m : Nat} {I : I2} {J : J2} (hm : m < 256) : CT mX7_bitsOf 1 58 58 [.int (i32 m)] I J RF (RI RF (i32 (cnt m 8)) I J) := by
  have key : ∀ n, Hid (∀ (i : Nat) (l : Nat), i + n = cnt m 8 → (l < 256 ∧ cnt l 8 = n) → V mX7_bitsOf none 1 58 (RI RF (i32 (cnt m 8)) I J) 4 [(0, .int (i32 m)), (1, .int (i32 i)), (2, .int (i32 l))] [] 58 I J RF) := by
    intro n
    induction n with
    | zero =>
      unfold Hid
      intro i l hi ⟨hl, hc⟩
      refine V_go 1 rfl ?_
      refine V_if_eq rfl (fun h1 => ?_) (fun h1 => ?_)
      · skip
        refine V_go 1 rfl ?_
        refine V_iret rfl rfl rfl ?_
        exact RI.mk (by rw [show i = cnt m 8 from hi])
      · skip
        exact absurd (by rw [bc_0 l hl hc]; rfl) h1
    | succ n ih =>
      unfold Hid
      intro i l hi ⟨hl, hc⟩
      refine V_go 1 rfl ?_
      refine V_if_eq rfl (fun h1 => ?_) (fun h1 => ?_)
      · skip
        exact absurd hc (by rw [(i32_inj (a := l) (b := 0) (by omega) (by omega)).mp h1]; exact Nat.zero_ne_add_one n)
      · skip
        have hl0 : l ≠ 0 := fun z => h1 (by rw [z]; rfl)
        obtain ⟨e1, e2, e3⟩ := bc_s l hl hl0
        refine V_go 8 rfl ?_
        refine V.st (I' := I) (L' := [(0, .int (i32 m)), (1, .int (i32 (i + 1))), (2, .int (i32 (l &&& (l - 1))))]) (ih.un (i + 1) (l &&& (l - 1)) (by omega) ⟨by omega, by omega⟩) rfl ?_
        rw [i32_s, ← e1]
        simp
  refine CT_of okX7_bitsOf (Nat.le_of_ble_eq_true rfl) ?_
  show V _ _ _ _ _ _ [(0, _)] _ _ _ _ _
  refine V_go 4 rfl ?_
  exact (key (cnt m 8)).un 0 m (Nat.zero_add _) ⟨hm, rfl⟩
