theorem c_isBlank {x : Int32} {I : I2} {J : J2} : CT mX3_isBlank 1 58 58 [.int x] I J RF (RI RF (if isBl x then 1 else 0) I J) := by
  refine CT_of okX3_isBlank (Nat.le_of_ble_eq_true rfl) ?_
  show V _ _ _ _ _ _ [(0, _)] _ _ _ _ _
  refine V_go 2 rfl ?_
  refine V_icmp_eq rfl (fun h1 => ?_) (fun h1 => ?_)
  · skip
    refine V_go 2 rfl ?_
    refine V_zret rfl rfl rfl (by first | exact Or.inl rfl | exact Or.inr rfl | exact b2i_or _ | assumption) ?_
    refine RI.mk ?_
    unfold isBl
    first
      | (rw [if_pos (by simp only [decide_eq_true_eq]; first | assumption | (simp only [*]; done) | grind)]; done)
      | (rw [if_neg (by simp only [decide_eq_true_eq]; grind)]; done)
  · skip
    refine V_go 2 rfl ?_
    refine V_icmp_ne rfl (fun h2 => ?_) (fun h2 => ?_)
    · skip
      refine V_go 1 rfl ?_
      refine V_zret rfl rfl rfl (by first | exact Or.inl rfl | exact Or.inr rfl | exact b2i_or _ | assumption) ?_
      refine RI.mk ?_
      unfold isBl
      first
        | (rw [if_pos (by simp only [decide_eq_true_eq]; first | assumption | (simp only [*]; done) | grind)]; done)
        | (rw [if_neg (by simp only [decide_eq_true_eq]; grind)]; done)
    · skip
      refine V_go 2 rfl ?_
      refine V_zret rfl rfl rfl (by first | exact Or.inl rfl | exact Or.inr rfl | exact b2i_or _ | assumption) ?_
      refine RI.mk ?_
      unfold isBl
      first
        | (rw [if_pos (by simp only [decide_eq_true_eq]; first | assumption | (simp only [*]; done) | grind)]; done)
        | (rw [if_neg (by simp only [decide_eq_true_eq]; grind)]; done)
theorem c_isLetter {x : Int32} {I : I2} {J : J2} : CT mX3_isLetter 1 58 58 [.int x] I J RF (RI RF (if isLe x then 1 else 0) I J) := by
  refine CT_of okX3_isLetter (Nat.le_of_ble_eq_true rfl) ?_
  show V _ _ _ _ _ _ [(0, _)] _ _ _ _ _
  refine V_go 2 rfl ?_
  refine V_icmp_lt rfl (fun h1 => ?_) (fun h1 => ?_)
  · skip
    refine V_go 1 rfl ?_
    refine V_zret rfl rfl rfl (by first | exact Or.inl rfl | exact Or.inr rfl | exact b2i_or _ | assumption) ?_
    refine RI.mk ?_
    unfold isLe
    first
      | (rw [if_pos (by simp only [decide_eq_true_eq]; first | assumption | (simp only [*]; done) | grind)]; done)
      | (rw [if_neg (by simp only [decide_eq_true_eq]; grind)]; done)
  · skip
    refine V_go 2 rfl ?_
    refine V_icmp_gt rfl (fun h2 => ?_) (fun h2 => ?_)
    · skip
      refine V_go 1 rfl ?_
      refine V_zret rfl rfl rfl (by first | exact Or.inl rfl | exact Or.inr rfl | exact b2i_or _ | assumption) ?_
      refine RI.mk ?_
      unfold isLe
      first
        | (rw [if_pos (by simp only [decide_eq_true_eq]; first | assumption | (simp only [*]; done) | grind)]; done)
        | (rw [if_neg (by simp only [decide_eq_true_eq]; grind)]; done)
    · skip
      refine V_go 2 rfl ?_
      refine V_zret rfl rfl rfl (by first | exact Or.inl rfl | exact Or.inr rfl | exact b2i_or _ | assumption) ?_
      refine RI.mk ?_
      unfold isLe
      first
        | (rw [if_pos (by simp only [decide_eq_true_eq]; first | assumption | (simp only [*]; done) | grind)]; done)
        | (rw [if_neg (by simp only [decide_eq_true_eq]; grind)]; done)
theorem c_isDigit {x : Int32} {I : I2} {J : J2} : CT mX3_isDigit 1 58 58 [.int x] I J RF (RI RF (if isDi x then 1 else 0) I J) := by
  refine CT_of okX3_isDigit (Nat.le_of_ble_eq_true rfl) ?_
  show V _ _ _ _ _ _ [(0, _)] _ _ _ _ _
  refine V_go 2 rfl ?_
  refine V_icmp_lt rfl (fun h1 => ?_) (fun h1 => ?_)
  · skip
    refine V_go 1 rfl ?_
    refine V_zret rfl rfl rfl (by first | exact Or.inl rfl | exact Or.inr rfl | exact b2i_or _ | assumption) ?_
    refine RI.mk ?_
    unfold isDi
    first
      | (rw [if_pos (by simp only [decide_eq_true_eq]; first | assumption | (simp only [*]; done) | grind)]; done)
      | (rw [if_neg (by simp only [decide_eq_true_eq]; grind)]; done)
  · skip
    refine V_go 2 rfl ?_
    refine V_icmp_gt rfl (fun h2 => ?_) (fun h2 => ?_)
    · skip
      refine V_go 1 rfl ?_
      refine V_zret rfl rfl rfl (by first | exact Or.inl rfl | exact Or.inr rfl | exact b2i_or _ | assumption) ?_
      refine RI.mk ?_
      unfold isDi
      first
        | (rw [if_pos (by simp only [decide_eq_true_eq]; first | assumption | (simp only [*]; done) | grind)]; done)
        | (rw [if_neg (by simp only [decide_eq_true_eq]; grind)]; done)
    · skip
      refine V_go 2 rfl ?_
      refine V_zret rfl rfl rfl (by first | exact Or.inl rfl | exact Or.inr rfl | exact b2i_or _ | assumption) ?_
      refine RI.mk ?_
      unfold isDi
      first
        | (rw [if_pos (by simp only [decide_eq_true_eq]; first | assumption | (simp only [*]; done) | grind)]; done)
        | (rw [if_neg (by simp only [decide_eq_true_eq]; grind)]; done)
theorem c_begin {I : I2} {J : J2} : CT mX5_begin 1 58 58 [.ref 1] I J RF (RV RF (up2 I 1 1 0) J) := by
  refine CT_of okX5_begin (Nat.le_of_ble_eq_true rfl) ?_
  show V _ _ _ _ _ _ [(0, _)] _ _ _ _ _
  refine V_go 3 rfl ?_
  refine V_vret rfl rfl rfl ?_
  exact RV.mk
theorem c_cellOfName {x : Int32} {I : I2} {J : J2} : CT mX5_cellOfName 1 58 58 [.int x] I J RF (RI RF (-1 - x) I J) := by
  refine CT_of okX5_cellOfName (Nat.le_of_ble_eq_true rfl) ?_
  show V _ _ _ _ _ _ [(0, _)] _ _ _ _ _
  refine V_go 3 rfl ?_
  refine V_iret rfl rfl rfl ?_
  exact RI.mk rfl
theorem c_keep {I : I2} {J : J2} : CT mX5_keep 1 58 58 [.ref 1] I J RF (RI RF (I 1 0) (up2 I 1 0 (I 1 0 + 1)) J) := by
  refine CT_of okX5_keep (Nat.le_of_ble_eq_true rfl) ?_
  show V _ _ _ _ _ _ [(0, _)] _ _ _ _ _
  refine V_go 7 rfl ?_
  refine V_iret rfl rfl rfl ?_
  exact RI.mk rfl
theorem p160 : ∀ t, t < 6 → i32 t * 160 = i32 (160 * t) := by decide +kernel
theorem p160u {t u : Nat} (ht : t < 6) : i32 t * 160 + i32 u = i32 (160 * t + u) := by
  rw [p160 t ht]
  exact (Int32.ofNat_add _ _).symm
theorem inb_i32 {k len : Nat} (h : k < len) (hl : len < 2147483648) : inb (i32 k) len := by
  refine inb_ofN hl ?_ ?_
  · rw [Int32.le_iff_toInt_le, Int32.toInt_ofNat_of_lt (by omega)]
    simp
  · rw [Int32.lt_iff_toInt_lt, Int32.toInt_ofNat_of_lt (by omega), Int32.toInt_ofNat_of_lt (by omega)]
    omega
theorem lt_lit {u k : Nat} (h : i32 k ≤ i32 u) (hk : k < 100000) (hu : u < 100000) : k ≤ u := by
  rw [Int32.le_iff_toInt_le, Int32.toInt_ofNat_of_lt (by omega), Int32.toInt_ofNat_of_lt (by omega)] at h
  omega

theorem c_put {c : Int32} {t u : Nat} {I : I2} {J : J2} (e0 : I 1 0 = i32 t) (e1 : I 1 1 = i32 u) (ht : t < 6) (hu : u ≤ 160) : CT mX5_put 1 58 58 [.ref 1, .int c] I J RF (RV RF (if u < 160 then up2 (up2 I 2 (160 * t + u) c) 1 1 (i32 (u + 1)) else I) J) := by
  refine CT_of okX5_put (Nat.le_of_ble_eq_true rfl) ?_
  show V _ _ _ _ _ _ [(0, _), (1, _)] _ _ _ _ _
  refine V_go 3 rfl ?_
  refine V_icmp_ge rfl (fun h1 => ?_) (fun h1 => ?_)
  · skip
    exfalso
    rw [e0] at h1
    have := lt_lit (k := 6) h1 (by omega) (by omega)
    omega
  · skip
    refine V_go 3 rfl ?_
    refine V_icmp_ge rfl (fun h2 => ?_) (fun h2 => ?_)
    · skip
      rw [e1] at h2
      have h3 := lt_lit (k := 160) h2 (by omega) (by omega)
      refine V_vret rfl rfl rfl ?_
      refine RV.mk2 ?_
      first
        | (rw [if_neg (by omega)]; done)
        | (rw [if_pos (by omega), e0, e1, p160u ht]
           simp only [up2_rd, reduceIte, Nat.reduceEqDiff, e1, i32_s, tn_of (show 160 * t + u < 2147483648 by omega)]
           done)
    · skip
      rw [e1] at h2
      have h3 : u < 160 := Nat.lt_of_not_le (fun q => h2 (by rw [Int32.le_iff_toInt_le, Int32.toInt_ofNat_of_lt (by omega), show (160 : Int32).toInt = 160 from rfl]; omega))
      refine V_go 10 rfl ?_
      refine V_iast rfl rfl (Nat.le_of_ble_eq_true rfl) (by rw [e0, e1, p160u ht]; exact inb_i32 (by omega) (by decide)) ?_
      refine V_go 6 rfl ?_
      refine V_vret rfl rfl rfl ?_
      refine RV.mk2 ?_
      first
        | (rw [if_neg (by omega)]; done)
        | (rw [if_pos (by omega), e0, e1, p160u ht]
           simp only [up2_rd, reduceIte, Nat.reduceEqDiff, e1, i32_s, tn_of (show 160 * t + u < 2147483648 by omega)]
           done)
theorem p3u : ∀ t, t < 6 → ∀ k, k < 3 → i32 t * 3 + i32 k = i32 (3 * t + k) := by decide +kernel
theorem p3n : ∀ k, k < 3 → (0 : Int32) ≤ i32 k ∧ i32 k < 3 := by decide +kernel

theorem c_endPart {t k : Nat} {I : I2} {J : J2} (e0 : I 1 0 = i32 t) (ht : t < 6) (hk : k < 3) : CT mX5_endPart 1 58 58 [.ref 1, .int (i32 k)] I J RF (RV RF (up2 I 3 (3 * t + k) (I 1 1)) J) := by
  refine CT_of okX5_endPart (Nat.le_of_ble_eq_true rfl) ?_
  show V _ _ _ _ _ _ [(0, _), (1, _)] _ _ _ _ _
  refine V_go 3 rfl ?_
  refine V_icmp_ge rfl (fun h1 => ?_) (fun h1 => ?_)
  · skip
    exfalso
    rw [e0] at h1
    have := lt_lit (k := 6) h1 (by omega) (by omega)
    omega
  · skip
    refine V_go 1 rfl ?_
    refine V_if_lt rfl (fun h2 => ?_) (fun h2 => ?_)
    · skip
      exact absurd (p3n k hk).1 (Int32.not_le.mpr h2)
    · skip
      refine V_go 2 rfl ?_
      refine V_icmp_ge rfl (fun h3 => ?_) (fun h3 => ?_)
      · skip
        exact absurd (p3n k hk).2 (Int32.not_lt.mpr h3)
      · skip
        refine V_go 10 rfl ?_
        refine V_iast rfl rfl (Nat.le_of_ble_eq_true rfl) (by rw [e0, p3u t ht k hk]; exact inb_i32 (by omega) (by decide)) ?_
        refine V_vret rfl rfl rfl ?_
        refine RV.mk2 ?_
        rw [e0, p3u t ht k hk, tn_of (show 3 * t + k < 2147483648 by omega)]
