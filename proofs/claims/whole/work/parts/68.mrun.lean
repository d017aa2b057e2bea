theorem c_doneMany7 {tc : Nat} {I : I2} {J : J2} {T : TV} {C : CC} (hM : MC tc I J T C)  : CT mX7_doneMany 1 58 58 [.ref 38] I J RF (RI RF (sCntD C (mC C)) I J) := by
  obtain ⟨hn1, hn8, hm1, hm6, hC3, hC4⟩ := hM.nm
  have key : ∀ n, Hid (∀ (i : Nat), i + n = mC C → True → V mX7_doneMany none 1 58 (RI RF (sCntD C (mC C)) I J) 4 [(0, .ref 38), (1, .int (sCntD C (i))), (2, .int (i32 (i)))] [] 58 I J RF) := by
    intro n
    induction n with
    | zero =>
      unfold Hid
      intro i  hi _
      refine V_go 3 rfl ?_
      refine V_icmp_ge rfl (fun h1 => ?_) (fun h1 => ?_)
      · skip
        refine V_go 1 rfl ?_
        refine V_iret rfl rfl rfl ?_
        exact RI.mk (by rw [show i = mC C from hi])
      · skip
        exact absurd (by rw [hm1, show i = mC C from hi]; exact Int32.le_refl _) h1
    | succ n ih =>
      unfold Hid
      intro i  hi _
      have hi6 : i < 6 := by omega
      obtain ⟨v1, v2, v3⟩ := hM.it (i := i) (by omega)
      have j1 : i32 (3 * i) + 1 = i32 (3 * i + 1) := (i32_add (3 * i) 1).symm
      have j2 : i32 (3 * i) + 2 = i32 (3 * i + 2) := (i32_add (3 * i) 2).symm
      refine V_go 3 rfl ?_
      try simp only [up2_rd, row2_rd, reduceIte, Nat.reduceEqDiff, ix30 i hi6, j1, j2, tn_of (show 3 * i < 2147483648 by omega), tn_of (show 3 * i + 1 < 2147483648 by omega), tn_of (show 3 * i + 2 < 2147483648 by omega), v3]
      refine V_icmp_ge rfl (fun h1 => ?_) (fun h1 => ?_)
      · skip
        exact absurd ((i32_le (a := mC C) (b := i) (by omega) (by omega)).mp (by rw [← hm1]; exact h1)) (by omega)
      · skip
        refine V_go 8 rfl ?_
        try simp only [up2_rd, row2_rd, reduceIte, Nat.reduceEqDiff, ix30 i hi6, j1, j2, tn_of (show 3 * i < 2147483648 by omega), tn_of (show 3 * i + 1 < 2147483648 by omega), tn_of (show 3 * i + 2 < 2147483648 by omega), v3]
        refine V_iald rfl rfl (Nat.le_of_ble_eq_true rfl) (inb_i32 (by omega) (by decide)) ?_
        try simp only [up2_rd, row2_rd, reduceIte, Nat.reduceEqDiff, ix30 i hi6, j1, j2, tn_of (show 3 * i < 2147483648 by omega), tn_of (show 3 * i + 1 < 2147483648 by omega), tn_of (show 3 * i + 2 < 2147483648 by omega), v3]
        refine V_go 1 rfl ?_
        try simp only [up2_rd, row2_rd, reduceIte, Nat.reduceEqDiff, ix30 i hi6, j1, j2, tn_of (show 3 * i < 2147483648 by omega), tn_of (show 3 * i + 1 < 2147483648 by omega), tn_of (show 3 * i + 2 < 2147483648 by omega), v3]
        refine V_icmp_ne rfl (fun h2 => ?_) (fun h2 => ?_)
        · skip
          refine V_go 5 rfl ?_
          refine V.st (L' := [(0, .ref 38), (1, .int (sCntD C (i + 1))), (2, .int (i32 (i + 1)))]) (ih.un (i + 1) (by omega) trivial) rfl ?_
          rw [i32_s, sCntD, if_neg h2]
          simp
        · skip
          refine V_go 6 rfl ?_
          refine V.st (L' := [(0, .ref 38), (1, .int (sCntD C (i + 1))), (2, .int (i32 (i + 1)))]) (ih.un (i + 1) (by omega) trivial) rfl ?_
          rw [i32_s, sCntD, if_pos h2]
          simp
  refine CT_of okX7_doneMany (Nat.le_of_ble_eq_true rfl) ?_
  show V _ _ _ _ _ _ [(0, _)] _ _ _ _ _
  refine V_go 4 rfl ?_
  exact (key _).un 0 (Nat.zero_add _) trivial
theorem c_laysAside {I : I2} {J : J2} : CT mX7_laysAside 1 58 58 [.ref 38] I J RF (RV RF (up2 (up2 (row2 I 48 (fun j => if j < 18 then I 45 j else I 48 j)) 38 34 (I 38 7)) 38 32 0) J) := by
  have key : ∀ n, Hid (∀ (i : Nat), i + n = 18 → True → V mX7_laysAside none 1 58 (RV RF (up2 (up2 (row2 I 48 (fun j => if j < 18 then I 45 j else I 48 j)) 38 34 (I 38 7)) 38 32 0) J) 2 [(0, .ref 38), (1, .int (i32 i))] [] 58 (row2 I 48 (fun j => if j < i then I 45 j else I 48 j)) J RF) := by
    intro n
    induction n with
    | zero =>
      unfold Hid
      intro i  hi _
      refine V_go 2 rfl ?_
      try simp only [up2_rd, row2_rd, reduceIte, Nat.reduceEqDiff]
      refine V_icmp_ge rfl (fun h1 => ?_) (fun h1 => ?_)
      · skip
        refine V_go 7 rfl ?_
        try simp only [up2_rd, row2_rd, reduceIte, Nat.reduceEqDiff]
        refine V_vret rfl rfl rfl ?_
        obtain rfl : i = 18 := hi
        exact RV.mk2 rfl
      · skip
        exact absurd (by rw [show i = 18 from hi]; exact Int32.le_refl _) h1
    | succ n ih =>
      unfold Hid
      intro i  hi _
      refine V_go 2 rfl ?_
      try simp only [up2_rd, row2_rd, reduceIte, Nat.reduceEqDiff]
      refine V_icmp_ge rfl (fun h1 => ?_) (fun h1 => ?_)
      · skip
        exact absurd ((i32_le (a := 18) (b := i) (by omega) (by omega)).mp h1) (by omega)
      · skip
        refine V_go 6 rfl ?_
        try simp only [up2_rd, row2_rd, reduceIte, Nat.reduceEqDiff]
        refine V_iald rfl rfl (Nat.le_of_ble_eq_true rfl) (inb_i32 (by omega) (by decide)) ?_
        try simp only [up2_rd, row2_rd, reduceIte, Nat.reduceEqDiff]
        refine V_iast rfl rfl (Nat.le_of_ble_eq_true rfl) (inb_i32 (by omega) (by decide)) ?_
        refine V_go 2 rfl ?_
        try simp only [up2_rd, row2_rd, reduceIte, Nat.reduceEqDiff]
        refine V.st (I' := (row2 I 48 (fun j => if j < i + 1 then I 45 j else I 48 j))) (L' := [(0, .ref 38), (1, .int (i32 (i + 1)))]) (ih.un (i + 1) (by omega) trivial) ?_ (by rw [i32_s]; simp)
        funext a b
        simp only [up2_rd, row2_rd, Nat.reduceEqDiff, reduceIte, tn_of (show i < 2147483648 by omega)]
        by_cases h9 : a = 48
        · subst h9
          by_cases h8 : b = i
          · subst h8
            simp
          · by_cases h7 : b < i
            · simp [h8, h7, Nat.lt_succ_of_lt h7]
            · have h6 : ¬ b < i + 1 := by omega
              simp [h8, h7, h6]
        · simp [h9]
  refine CT_of okX7_laysAside (Nat.le_of_ble_eq_true rfl) ?_
  show V _ _ _ _ _ _ [(0, _)] _ _ _ _ _
  refine V_go 2 rfl ?_
  have z := (key 18).un 0 rfl trivial
  simp only [Nat.not_lt_zero, if_false] at z
  rw [show (row2 I 48 fun j => I 48 j) = I from row2_self] at z
  exact z
theorem c_laysBack {I : I2} {J : J2} : CT mX7_laysBack 1 58 58 [.ref 38] I J RF (RV RF (up2 (row2 I 45 (fun j => if j < 18 then I 48 j else I 45 j)) 38 7 (I 38 34)) J) := by
  have key : ∀ n, Hid (∀ (i : Nat), i + n = 18 → True → V mX7_laysBack none 1 58 (RV RF (up2 (row2 I 45 (fun j => if j < 18 then I 48 j else I 45 j)) 38 7 (I 38 34)) J) 2 [(0, .ref 38), (1, .int (i32 i))] [] 58 (row2 I 45 (fun j => if j < i then I 48 j else I 45 j)) J RF) := by
    intro n
    induction n with
    | zero =>
      unfold Hid
      intro i  hi _
      refine V_go 2 rfl ?_
      try simp only [up2_rd, row2_rd, reduceIte, Nat.reduceEqDiff]
      refine V_icmp_ge rfl (fun h1 => ?_) (fun h1 => ?_)
      · skip
        refine V_go 4 rfl ?_
        try simp only [up2_rd, row2_rd, reduceIte, Nat.reduceEqDiff]
        refine V_vret rfl rfl rfl ?_
        obtain rfl : i = 18 := hi
        exact RV.mk2 rfl
      · skip
        exact absurd (by rw [show i = 18 from hi]; exact Int32.le_refl _) h1
    | succ n ih =>
      unfold Hid
      intro i  hi _
      refine V_go 2 rfl ?_
      try simp only [up2_rd, row2_rd, reduceIte, Nat.reduceEqDiff]
      refine V_icmp_ge rfl (fun h1 => ?_) (fun h1 => ?_)
      · skip
        exact absurd ((i32_le (a := 18) (b := i) (by omega) (by omega)).mp h1) (by omega)
      · skip
        refine V_go 6 rfl ?_
        try simp only [up2_rd, row2_rd, reduceIte, Nat.reduceEqDiff]
        refine V_iald rfl rfl (Nat.le_of_ble_eq_true rfl) (inb_i32 (by omega) (by decide)) ?_
        try simp only [up2_rd, row2_rd, reduceIte, Nat.reduceEqDiff]
        refine V_iast rfl rfl (Nat.le_of_ble_eq_true rfl) (inb_i32 (by omega) (by decide)) ?_
        refine V_go 2 rfl ?_
        try simp only [up2_rd, row2_rd, reduceIte, Nat.reduceEqDiff]
        refine V.st (I' := (row2 I 45 (fun j => if j < i + 1 then I 48 j else I 45 j))) (L' := [(0, .ref 38), (1, .int (i32 (i + 1)))]) (ih.un (i + 1) (by omega) trivial) ?_ (by rw [i32_s]; simp)
        funext a b
        simp only [up2_rd, row2_rd, Nat.reduceEqDiff, reduceIte, tn_of (show i < 2147483648 by omega)]
        by_cases h9 : a = 45
        · subst h9
          by_cases h8 : b = i
          · subst h8
            simp
          · by_cases h7 : b < i
            · simp [h8, h7, Nat.lt_succ_of_lt h7]
            · have h6 : ¬ b < i + 1 := by omega
              simp [h8, h7, h6]
        · simp [h9]
  refine CT_of okX7_laysBack (Nat.le_of_ble_eq_true rfl) ?_
  show V _ _ _ _ _ _ [(0, _)] _ _ _ _ _
  refine V_go 2 rfl ?_
  have z := (key 18).un 0 rfl trivial
  simp only [Nat.not_lt_zero, if_false] at z
  rw [show (row2 I 45 fun j => I 45 j) = I from row2_self] at z
  exact z
