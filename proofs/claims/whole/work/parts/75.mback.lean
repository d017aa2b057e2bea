/-- two rows copied so far; three *-/
def Cp2 (a b c d i : Nat) (I I1 : I2) : Prop := (∀ o, o ≠ b → o ≠ d → I1 o = I o) ∧ ∀ j, j < i → I1 b j = I a j ∧ I1 d j = I c j
def Cp3 (a b c d e f i : Nat) (I I1 : I2) : Prop := (∀ o, o ≠ b → o ≠ d → o ≠ f → I1 o = I o) ∧ (∀ j, j < 8 → I1 b j = I a j ∧ I1 d j = I c j) ∧ ∀ j, j < i → I1 f j = I e j
theorem Cp2.s {a b c d i : Nat} {I I1 : I2} (h : Cp2 a b c d i I I1) (n1 : a ≠ b) (n2 : a ≠ d) (n3 : c ≠ b) (n4 : c ≠ d) (n5 : b ≠ d) : Cp2 a b c d (i + 1) I (up2 (up2 I1 b i (I1 a i)) d i (I1 c i)) := by
  refine ⟨fun o o1 o2 => by rw [up2_ne o2, up2_ne o1]; exact h.1 o o1 o2, fun j hj => ?_⟩
  rw [up2_ne n5]
  simp only [up2_rd, reduceIte, if_neg (Ne.symm n5)]
  by_cases hji : j = i
  · rw [if_pos hji, if_pos hji, h.1 a n1 n2, h.1 c n3 n4, hji]
    exact ⟨rfl, rfl⟩
  · rw [if_neg hji, if_neg hji]
    exact h.2 j (by omega)
theorem Cp3.s {a b c d e f i : Nat} {I I1 : I2} (h : Cp3 a b c d e f i I I1) (n1 : e ≠ b) (n2 : e ≠ d) (n3 : e ≠ f) (n4 : b ≠ f) (n5 : d ≠ f) : Cp3 a b c d e f (i + 1) I (up2 I1 f i (I1 e i)) := by
  refine ⟨fun o o1 o2 o3 => by rw [up2_ne o3]; exact h.1 o o1 o2 o3, fun j hj => by rw [up2_ne n4, up2_ne n5]; exact h.2.1 j hj, fun j hj => ?_⟩
  simp only [up2_rd, reduceIte]
  by_cases hji : j = i
  · rw [if_pos hji, h.1 e n1 n2 n3, hji]
  · rw [if_neg hji]
    exact h.2.2 j (by omega)

theorem c_image7 {I : I2} {J : J2} : CT mX7_image 1 58 58 [.ref 38] I J RF (RP RF (fun r I9 J9 => J9 = J ∧ r = I 38 12 ∧ (∀ o, o ≠ 38 → o ≠ 51 → o ≠ 52 → o ≠ 53 → I9 o = I o) ∧ (∀ k, k < 46 ∨ 50 < k → I9 38 k = I 38 k) ∧ (∀ j, j < 8 → I9 51 j = I 43 j ∧ I9 52 j = I 44 j) ∧ (∀ j, j < 18 → I9 53 j = I 45 j) ∧ I9 38 46 = I 38 12 ∧ I9 38 47 = I 38 14 ∧ I9 38 48 = I 38 7 ∧ I9 38 49 = I 38 8 ∧ I9 38 50 = I 38 4)) := by
  have key2 : ∀ n, Hid (∀ (i : Nat) (I1 : I2), i + n = 18 → Cp3 43 51 44 52 45 53 i I I1 → V mX7_image none 1 58 (RP RF (fun r I9 J9 => J9 = J ∧ r = I 38 12 ∧ (∀ o, o ≠ 38 → o ≠ 51 → o ≠ 52 → o ≠ 53 → I9 o = I o) ∧ (∀ k, k < 46 ∨ 50 < k → I9 38 k = I 38 k) ∧ (∀ j, j < 8 → I9 51 j = I 43 j ∧ I9 52 j = I 44 j) ∧ (∀ j, j < 18 → I9 53 j = I 45 j) ∧ I9 38 46 = I 38 12 ∧ I9 38 47 = I 38 14 ∧ I9 38 48 = I 38 7 ∧ I9 38 49 = I 38 8 ∧ I9 38 50 = I 38 4)) 40 [(0, .ref 38), (1, .int (i32 i))] [] 58 I1 J RF) := by
    intro n
    induction n with
    | zero =>
      unfold Hid
      intro i I1 hi hc
      refine V_go 2 rfl ?_
      refine V_icmp_ge rfl (fun h1 => ?_) (fun h1 => ?_)
      · skip
        obtain rfl : i = 18 := hi
        have e38 : I1 38 = I 38 := hc.1 38 (by decide) (by decide) (by decide)
        refine V_go 22 rfl ?_
        try simp only [up2_rd, row2_rd, reduceIte, Nat.reduceEqDiff]
        refine V_iret rfl rfl rfl ?_
        refine RP.mk ⟨rfl, ?_, fun o o1 o2 o3 o4 => ?_, fun k hk => ?_, fun j hj => ?_, fun j hj => ?_, ?_, ?_, ?_, ?_, ?_⟩
        · first | exact congrFun e38 12 | (simp only [up2_rd, reduceIte, Nat.reduceEqDiff]; exact congrFun e38 12)
        · simp only [up2_ne o1]; exact hc.1 o o2 o3 o4
        · have k1 : ¬ k = 46 := by omega
          have k2 : ¬ k = 47 := by omega
          have k3 : ¬ k = 48 := by omega
          have k4 : ¬ k = 49 := by omega
          have k5 : ¬ k = 50 := by omega
          simp only [up2_rd, reduceIte, if_neg k1, if_neg k2, if_neg k3, if_neg k4, if_neg k5]
          exact congrFun e38 k
        · simp only [up2_rd, reduceIte, Nat.reduceEqDiff]; exact hc.2.1 j hj
        · simp only [up2_rd, reduceIte, Nat.reduceEqDiff]; exact hc.2.2 j hj
        · simp only [up2_rd, reduceIte, Nat.reduceEqDiff]; exact congrFun e38 12
        · simp only [up2_rd, reduceIte, Nat.reduceEqDiff]; exact congrFun e38 14
        · simp only [up2_rd, reduceIte, Nat.reduceEqDiff]; exact congrFun e38 7
        · simp only [up2_rd, reduceIte, Nat.reduceEqDiff]; exact congrFun e38 8
        · simp only [up2_rd, reduceIte, Nat.reduceEqDiff]; exact congrFun e38 4
      · skip
        exact absurd (by rw [show i = 18 from hi]; exact Int32.le_refl _) h1
    | succ n ih =>
      unfold Hid
      intro i I1 hi hc
      refine V_go 2 rfl ?_
      try simp only [up2_rd, row2_rd, reduceIte, Nat.reduceEqDiff, tn_of (show i < 2147483648 by omega)]
      refine V_icmp_ge rfl (fun h1 => ?_) (fun h1 => ?_)
      · skip
        exact absurd ((i32_le (a := 18) (b := i) (by omega) (by omega)).mp h1) (by omega)
      · skip
        refine V_go 6 rfl ?_
        try simp only [up2_rd, row2_rd, reduceIte, Nat.reduceEqDiff, tn_of (show i < 2147483648 by omega)]
        refine V_iald rfl rfl (Nat.le_of_ble_eq_true rfl) (inb_i32 (by omega) (by decide)) ?_
        try simp only [up2_rd, row2_rd, reduceIte, Nat.reduceEqDiff, tn_of (show i < 2147483648 by omega)]
        refine V_iast rfl rfl (Nat.le_of_ble_eq_true rfl) (inb_i32 (by omega) (by decide)) ?_
        refine V_go 2 rfl ?_
        try simp only [up2_rd, row2_rd, reduceIte, Nat.reduceEqDiff, tn_of (show i < 2147483648 by omega)]
        refine V.st (L' := [(0, .ref 38), (1, .int (i32 (i + 1)))]) (ih.un (i + 1) _ (by omega) (hc.s (by decide) (by decide) (by decide) (by decide) (by decide))) rfl (by rw [i32_s]; simp)
  have key1 : ∀ n, Hid (∀ (i : Nat) (I1 : I2), i + n = 8 → Cp2 43 51 44 52 i I I1 → V mX7_image none 1 58 (RP RF (fun r I9 J9 => J9 = J ∧ r = I 38 12 ∧ (∀ o, o ≠ 38 → o ≠ 51 → o ≠ 52 → o ≠ 53 → I9 o = I o) ∧ (∀ k, k < 46 ∨ 50 < k → I9 38 k = I 38 k) ∧ (∀ j, j < 8 → I9 51 j = I 43 j ∧ I9 52 j = I 44 j) ∧ (∀ j, j < 18 → I9 53 j = I 45 j) ∧ I9 38 46 = I 38 12 ∧ I9 38 47 = I 38 14 ∧ I9 38 48 = I 38 7 ∧ I9 38 49 = I 38 8 ∧ I9 38 50 = I 38 4)) 2 [(0, .ref 38), (1, .int (i32 i))] [] 58 I1 J RF) := by
    intro n
    induction n with
    | zero =>
      unfold Hid
      intro i I1 hi hc
      refine V_go 2 rfl ?_
      refine V_icmp_ge rfl (fun h1 => ?_) (fun h1 => ?_)
      · skip
        obtain rfl : i = 8 := hi
        refine V_go 2 rfl ?_
        refine V.st (L' := [(0, .ref 38), (1, .int (i32 0))]) ((key2 18).un 0 I1 rfl ⟨fun o o1 o2 _ => hc.1 o o1 o2, hc.2, fun j hj => absurd hj (Nat.not_lt_zero _)⟩) rfl (by simp [show i32 0 = 0 from rfl])
      · skip
        exact absurd (by rw [show i = 8 from hi]; exact Int32.le_refl _) h1
    | succ n ih =>
      unfold Hid
      intro i I1 hi hc
      refine V_go 2 rfl ?_
      try simp only [up2_rd, row2_rd, reduceIte, Nat.reduceEqDiff, tn_of (show i < 2147483648 by omega)]
      refine V_icmp_ge rfl (fun h1 => ?_) (fun h1 => ?_)
      · skip
        exact absurd ((i32_le (a := 8) (b := i) (by omega) (by omega)).mp h1) (by omega)
      · skip
        refine V_go 6 rfl ?_
        try simp only [up2_rd, row2_rd, reduceIte, Nat.reduceEqDiff, tn_of (show i < 2147483648 by omega)]
        refine V_iald rfl rfl (Nat.le_of_ble_eq_true rfl) (inb_i32 (by omega) (by decide)) ?_
        try simp only [up2_rd, row2_rd, reduceIte, Nat.reduceEqDiff, tn_of (show i < 2147483648 by omega)]
        refine V_iast rfl rfl (Nat.le_of_ble_eq_true rfl) (inb_i32 (by omega) (by decide)) ?_
        refine V_go 6 rfl ?_
        try simp only [up2_rd, row2_rd, reduceIte, Nat.reduceEqDiff, tn_of (show i < 2147483648 by omega)]
        refine V_iald rfl rfl (Nat.le_of_ble_eq_true rfl) (inb_i32 (by omega) (by decide)) ?_
        try simp only [up2_rd, row2_rd, reduceIte, Nat.reduceEqDiff, tn_of (show i < 2147483648 by omega)]
        refine V_iast rfl rfl (Nat.le_of_ble_eq_true rfl) (inb_i32 (by omega) (by decide)) ?_
        refine V_go 2 rfl ?_
        try simp only [up2_rd, row2_rd, reduceIte, Nat.reduceEqDiff, tn_of (show i < 2147483648 by omega)]
        refine V.st (L' := [(0, .ref 38), (1, .int (i32 (i + 1)))]) (ih.un (i + 1) _ (by omega) (hc.s (by decide) (by decide) (by decide) (by decide) (by decide))) rfl (by rw [i32_s]; simp)
  refine CT_of okX7_image (Nat.le_of_ble_eq_true rfl) ?_
  show V _ _ _ _ _ _ [(0, _)] _ _ _ _ _
  refine V_go 2 rfl ?_
  exact (key1 8).un 0 I rfl ⟨fun o _ _ => rfl, fun j hj => absurd hj (Nat.not_lt_zero _)⟩
theorem c_back7 {I : I2} {J : J2} : CT mX7_back 1 58 58 [.ref 38] I J RF (RP RF (fun r I9 J9 => J9 = J ∧ ((I 38 46 = -1 ∧ r = -3 ∧ I9 = I) ∨ (¬ I 38 46 = -1 ∧ r = I 38 46 ∧ (∀ o, o ≠ 38 → o ≠ 43 → o ≠ 44 → o ≠ 45 → I9 o = I o) ∧ (∀ k, k ≠ 12 → k ≠ 14 → k ≠ 7 → k ≠ 8 → k ≠ 4 → I9 38 k = I 38 k) ∧ (∀ j, j < 8 → I9 43 j = I 51 j ∧ I9 44 j = I 52 j) ∧ (∀ j, j < 18 → I9 45 j = I 53 j) ∧ I9 38 12 = I 38 46 ∧ I9 38 14 = I 38 47 ∧ I9 38 7 = I 38 48 ∧ I9 38 8 = I 38 49 ∧ I9 38 4 = I 38 50)))) := by
  have key2 : (¬ I 38 46 = -1) → ∀ n, Hid (∀ (i : Nat) (I1 : I2), i + n = 18 → Cp3 51 43 52 44 53 45 i I I1 → V mX7_back none 1 58 (RP RF (fun r I9 J9 => J9 = J ∧ ((I 38 46 = -1 ∧ r = -3 ∧ I9 = I) ∨ (¬ I 38 46 = -1 ∧ r = I 38 46 ∧ (∀ o, o ≠ 38 → o ≠ 43 → o ≠ 44 → o ≠ 45 → I9 o = I o) ∧ (∀ k, k ≠ 12 → k ≠ 14 → k ≠ 7 → k ≠ 8 → k ≠ 4 → I9 38 k = I 38 k) ∧ (∀ j, j < 8 → I9 43 j = I 51 j ∧ I9 44 j = I 52 j) ∧ (∀ j, j < 18 → I9 45 j = I 53 j) ∧ I9 38 12 = I 38 46 ∧ I9 38 14 = I 38 47 ∧ I9 38 7 = I 38 48 ∧ I9 38 8 = I 38 49 ∧ I9 38 4 = I 38 50)))) 51 [(0, .ref 38), (1, .int (i32 i))] [] 58 I1 J RF) := by
    intro hne n
    induction n with
    | zero =>
      unfold Hid
      intro i I1 hi hc
      refine V_go 2 rfl ?_
      refine V_icmp_ge rfl (fun h1 => ?_) (fun h1 => ?_)
      · skip
        obtain rfl : i = 18 := hi
        have e38 : I1 38 = I 38 := hc.1 38 (by decide) (by decide) (by decide)
        refine V_go 22 rfl ?_
        try simp only [up2_rd, row2_rd, reduceIte, Nat.reduceEqDiff]
        refine V_iret rfl rfl rfl ?_
        refine RP.mk ⟨rfl, Or.inr ⟨hne, ?_, fun o o1 o2 o3 o4 => ?_, fun k k1 k2 k3 k4 k5 => ?_, fun j hj => ?_, fun j hj => ?_, ?_, ?_, ?_, ?_, ?_⟩⟩
        · first | exact congrFun e38 46 | (simp only [up2_rd, reduceIte, Nat.reduceEqDiff]; exact congrFun e38 46)
        · simp only [up2_ne o1]; exact hc.1 o o2 o3 o4
        · simp only [up2_rd, reduceIte, if_neg k1, if_neg k2, if_neg k3, if_neg k4, if_neg k5]
          exact congrFun e38 k
        · simp only [up2_rd, reduceIte, Nat.reduceEqDiff]; exact hc.2.1 j hj
        · simp only [up2_rd, reduceIte, Nat.reduceEqDiff]; exact hc.2.2 j hj
        · simp only [up2_rd, reduceIte, Nat.reduceEqDiff]; exact congrFun e38 46
        · simp only [up2_rd, reduceIte, Nat.reduceEqDiff]; exact congrFun e38 47
        · simp only [up2_rd, reduceIte, Nat.reduceEqDiff]; exact congrFun e38 48
        · simp only [up2_rd, reduceIte, Nat.reduceEqDiff]; exact congrFun e38 49
        · simp only [up2_rd, reduceIte, Nat.reduceEqDiff]; exact congrFun e38 50
      · skip
        exact absurd (by rw [show i = 18 from hi]; exact Int32.le_refl _) h1
    | succ n ih =>
      unfold Hid
      intro i I1 hi hc
      refine V_go 2 rfl ?_
      try simp only [up2_rd, row2_rd, reduceIte, Nat.reduceEqDiff, tn_of (show i < 2147483648 by omega)]
      refine V_icmp_ge rfl (fun h1 => ?_) (fun h1 => ?_)
      · skip
        exact absurd ((i32_le (a := 18) (b := i) (by omega) (by omega)).mp h1) (by omega)
      · skip
        refine V_go 6 rfl ?_
        try simp only [up2_rd, row2_rd, reduceIte, Nat.reduceEqDiff, tn_of (show i < 2147483648 by omega)]
        refine V_iald rfl rfl (Nat.le_of_ble_eq_true rfl) (inb_i32 (by omega) (by decide)) ?_
        try simp only [up2_rd, row2_rd, reduceIte, Nat.reduceEqDiff, tn_of (show i < 2147483648 by omega)]
        refine V_iast rfl rfl (Nat.le_of_ble_eq_true rfl) (inb_i32 (by omega) (by decide)) ?_
        refine V_go 2 rfl ?_
        try simp only [up2_rd, row2_rd, reduceIte, Nat.reduceEqDiff, tn_of (show i < 2147483648 by omega)]
        refine V.st (L' := [(0, .ref 38), (1, .int (i32 (i + 1)))]) (ih.un (i + 1) _ (by omega) (hc.s (by decide) (by decide) (by decide) (by decide) (by decide))) rfl (by rw [i32_s]; simp)
  have key1 : (¬ I 38 46 = -1) → ∀ n, Hid (∀ (i : Nat) (I1 : I2), i + n = 8 → Cp2 51 43 52 44 i I I1 → V mX7_back none 1 58 (RP RF (fun r I9 J9 => J9 = J ∧ ((I 38 46 = -1 ∧ r = -3 ∧ I9 = I) ∨ (¬ I 38 46 = -1 ∧ r = I 38 46 ∧ (∀ o, o ≠ 38 → o ≠ 43 → o ≠ 44 → o ≠ 45 → I9 o = I o) ∧ (∀ k, k ≠ 12 → k ≠ 14 → k ≠ 7 → k ≠ 8 → k ≠ 4 → I9 38 k = I 38 k) ∧ (∀ j, j < 8 → I9 43 j = I 51 j ∧ I9 44 j = I 52 j) ∧ (∀ j, j < 18 → I9 45 j = I 53 j) ∧ I9 38 12 = I 38 46 ∧ I9 38 14 = I 38 47 ∧ I9 38 7 = I 38 48 ∧ I9 38 8 = I 38 49 ∧ I9 38 4 = I 38 50)))) 13 [(0, .ref 38), (1, .int (i32 i))] [] 58 I1 J RF) := by
    intro hne n
    induction n with
    | zero =>
      unfold Hid
      intro i I1 hi hc
      refine V_go 2 rfl ?_
      refine V_icmp_ge rfl (fun h1 => ?_) (fun h1 => ?_)
      · skip
        obtain rfl : i = 8 := hi
        refine V_go 2 rfl ?_
        refine V.st (L' := [(0, .ref 38), (1, .int (i32 0))]) ((key2 hne 18).un 0 I1 rfl ⟨fun o o1 o2 _ => hc.1 o o1 o2, hc.2, fun j hj => absurd hj (Nat.not_lt_zero _)⟩) rfl (by simp [show i32 0 = 0 from rfl])
      · skip
        exact absurd (by rw [show i = 8 from hi]; exact Int32.le_refl _) h1
    | succ n ih =>
      unfold Hid
      intro i I1 hi hc
      refine V_go 2 rfl ?_
      try simp only [up2_rd, row2_rd, reduceIte, Nat.reduceEqDiff, tn_of (show i < 2147483648 by omega)]
      refine V_icmp_ge rfl (fun h1 => ?_) (fun h1 => ?_)
      · skip
        exact absurd ((i32_le (a := 8) (b := i) (by omega) (by omega)).mp h1) (by omega)
      · skip
        refine V_go 6 rfl ?_
        try simp only [up2_rd, row2_rd, reduceIte, Nat.reduceEqDiff, tn_of (show i < 2147483648 by omega)]
        refine V_iald rfl rfl (Nat.le_of_ble_eq_true rfl) (inb_i32 (by omega) (by decide)) ?_
        try simp only [up2_rd, row2_rd, reduceIte, Nat.reduceEqDiff, tn_of (show i < 2147483648 by omega)]
        refine V_iast rfl rfl (Nat.le_of_ble_eq_true rfl) (inb_i32 (by omega) (by decide)) ?_
        refine V_go 6 rfl ?_
        try simp only [up2_rd, row2_rd, reduceIte, Nat.reduceEqDiff, tn_of (show i < 2147483648 by omega)]
        refine V_iald rfl rfl (Nat.le_of_ble_eq_true rfl) (inb_i32 (by omega) (by decide)) ?_
        try simp only [up2_rd, row2_rd, reduceIte, Nat.reduceEqDiff, tn_of (show i < 2147483648 by omega)]
        refine V_iast rfl rfl (Nat.le_of_ble_eq_true rfl) (inb_i32 (by omega) (by decide)) ?_
        refine V_go 2 rfl ?_
        try simp only [up2_rd, row2_rd, reduceIte, Nat.reduceEqDiff, tn_of (show i < 2147483648 by omega)]
        refine V.st (L' := [(0, .ref 38), (1, .int (i32 (i + 1)))]) (ih.un (i + 1) _ (by omega) (hc.s (by decide) (by decide) (by decide) (by decide) (by decide))) rfl (by rw [i32_s]; simp)
  refine CT_of okX7_back (Nat.le_of_ble_eq_true rfl) ?_
  show V _ _ _ _ _ _ [(0, _)] _ _ _ _ _
  refine V_go 3 rfl ?_
  refine V_icmp_ne rfl (fun h1 => ?_) (fun h1 => ?_)
  · skip
    have hne := h1
    refine V_go 2 rfl ?_
    exact (key1 hne 8).un 0 I rfl ⟨fun o _ _ => rfl, fun j hj => absurd hj (Nat.not_lt_zero _)⟩
  · skip
    refine V_go 1 rfl ?_
    refine V_iret rfl rfl rfl ?_
    exact RP.mk ⟨rfl, Or.inl ⟨h1, rfl, rfl⟩⟩
