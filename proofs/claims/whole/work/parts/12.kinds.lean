theorem c_isOne {k : Int32} {I : I2} {J : J2} : CT mX1_isOne 1 58 58 [.int k] I J RF (RI RF (b2i (0 ≤ k ∧ k ≤ 5)) I J) := by
  refine CT_of okX1_isOne (Nat.le_of_ble_eq_true rfl) ?_
  show V _ _ _ _ _ _ [(0, _)] _ _ _ _ _
  refine V_go 1 rfl ?_
  refine V_if_lt rfl (fun h1 => ?_) (fun h1 => ?_)
  · skip
    refine V_go 1 rfl ?_
    refine V_zret rfl rfl rfl (by first | exact Or.inl rfl | exact Or.inr rfl | exact b2i_or _ | assumption) ?_
    exact RI.mk (by grind [b2i, i32_ti, tcn])
  · skip
    refine V_go 2 rfl ?_
    refine V_icmp_gt rfl (fun h2 => ?_) (fun h2 => ?_)
    · skip
      refine V_go 1 rfl ?_
      refine V_zret rfl rfl rfl (by first | exact Or.inl rfl | exact Or.inr rfl | exact b2i_or _ | assumption) ?_
      exact RI.mk (by grind [b2i, i32_ti, tcn])
    · skip
      refine V_go 2 rfl ?_
      refine V_zret rfl rfl rfl (by first | exact Or.inl rfl | exact Or.inr rfl | exact b2i_or _ | assumption) ?_
      exact RI.mk (by grind [b2i, i32_ti, tcn])
def sAbove (k : Int32) : Int32 := if k = 1 ∨ k = 2 ∨ k = 5 then 0 else if k = 3 then 1 else if k = 4 then 2 else -1
theorem c_above {k : Int32} {I : I2} {J : J2} : CT mX1_above 1 58 58 [.int k] I J RF (RI RF (sAbove k) I J) := by
  refine CT_of okX1_above (Nat.le_of_ble_eq_true rfl) ?_
  show V _ _ _ _ _ _ [(0, _)] _ _ _ _ _
  refine V_go 1 rfl ?_
  refine V_tswC (v := 1) rfl (by decide) (by decide) rfl (fun h2 => ?_) (fun h2 => ?_)
  · skip
    refine V_go 1 rfl ?_
    refine V_iret rfl rfl rfl ?_
    exact RI.mk (by grind [sAbove])
  refine V_tswC (v := 2) rfl (by decide) (by decide) rfl (fun h3 => ?_) (fun h3 => ?_)
  · skip
    refine V_go 1 rfl ?_
    refine V_iret rfl rfl rfl ?_
    exact RI.mk (by grind [sAbove])
  refine V_tswC (v := 3) rfl (by decide) (by decide) rfl (fun h4 => ?_) (fun h4 => ?_)
  · skip
    refine V_go 1 rfl ?_
    refine V_iret rfl rfl rfl ?_
    exact RI.mk (by grind [sAbove])
  refine V_tswC (v := 4) rfl (by decide) (by decide) rfl (fun h5 => ?_) (fun h5 => ?_)
  · skip
    refine V_go 1 rfl ?_
    refine V_iret rfl rfl rfl ?_
    exact RI.mk (by grind [sAbove])
  refine V_tswC (v := 5) rfl (by decide) (by decide) rfl (fun h6 => ?_) (fun h6 => ?_)
  · skip
    refine V_go 1 rfl ?_
    refine V_iret rfl rfl rfl ?_
    exact RI.mk (by grind [sAbove])
  refine V_tswD rfl (by decide) (by decide) (t9 := 42) rfl (by have q0 := lv_neT h2 (a := 1) (by decide); have q1 := lv_neT h3 (a := 2) (by decide); have q2 := lv_neT h4 (a := 3) (by decide); have q3 := lv_neT h5 (a := 4) (by decide); have q4 := lv_neT h6 (a := 5) (by decide); omega) ?_
  refine V_go 1 rfl ?_
  refine V_iret rfl rfl rfl ?_
  exact RI.mk (by grind [sAbove])
def sUnder : Nat → Int32 → Int32 → Int32
  | 0, a, _ => a
  | n + 1, a, o => if a = -1 ∨ a = o then a else sUnder n (sAbove a) o
theorem c_isUnder {k q : Int32} {I : I2} {J : J2} : CT mX1_isUnder 2 58 58 [.int k, .int q] I J RF (RI RF (b2i (sUnder 6 k q = q)) I J) := by
  refine CT_of okX1_isUnder (Nat.le_of_ble_eq_true rfl) ?_
  show V _ _ _ _ _ _ [(0, _), (1, _)] _ _ _ _ _
  have key : ∀ (n : Nat) (i a : Int32), i = 6 - Int32.ofNat n → n ≤ 6 → V mX1_isUnder none 2 58 (RI RF (b2i (sUnder n a q = q)) I J) 4 [(0, .int k), (1, .int q), (2, .int a), (3, .int i)] [] 58 I J RF := by
    intro n
    induction n with
    | zero =>
      intro i a hi hn
      refine V_go 2 rfl ?_
      refine V_icmp_gt rfl (fun h1 => ?_) (fun h1 => ?_)
      · skip
        refine V_go 2 rfl ?_
        refine V_icmp_ne rfl (fun h2 => ?_) (fun h2 => ?_)
        · skip
          refine V_go 1 rfl ?_
          refine V_zret rfl rfl rfl (by first | exact Or.inl rfl | exact Or.inr rfl | exact b2i_or _ | assumption) ?_
          exact RI.mk (by grind [b2i, sUnder, i32_ti])
        · skip
          refine V_go 2 rfl ?_
          refine V_zret rfl rfl rfl (by first | exact Or.inl rfl | exact Or.inr rfl | exact b2i_or _ | assumption) ?_
          exact RI.mk (by grind [b2i, sUnder, i32_ti])
      · skip
        exact absurd hi (by grind [i32_ti])
    | succ n ih =>
      intro i a hi hn
      refine V_go 2 rfl ?_
      refine V_icmp_gt rfl (fun h1 => ?_) (fun h1 => ?_)
      · skip
        exact absurd hi (by grind [i32_ti])
      · skip
        refine V_go 2 rfl ?_
        refine V_icmp_eq rfl (fun h2 => ?_) (fun h2 => ?_)
        · skip
          refine V_go 2 rfl ?_
          refine V_icmp_ne rfl (fun h3 => ?_) (fun h3 => ?_)
          · skip
            refine V_go 1 rfl ?_
            refine V_zret rfl rfl rfl (by first | exact Or.inl rfl | exact Or.inr rfl | exact b2i_or _ | assumption) ?_
            exact RI.mk (by grind [b2i, sUnder, i32_ti])
          · skip
            refine V_go 2 rfl ?_
            refine V_zret rfl rfl rfl (by first | exact Or.inl rfl | exact Or.inr rfl | exact b2i_or _ | assumption) ?_
            exact RI.mk (by grind [b2i, sUnder, i32_ti])
        · skip
          refine V_go 2 rfl ?_
          refine V_icmp_eq rfl (fun h4 => ?_) (fun h4 => ?_)
          · skip
            refine V_go 2 rfl ?_
            refine V_icmp_ne rfl (fun h5 => ?_) (fun h5 => ?_)
            · skip
              refine V_go 1 rfl ?_
              refine V_zret rfl rfl rfl (by first | exact Or.inl rfl | exact Or.inr rfl | exact b2i_or _ | assumption) ?_
              exact RI.mk (by grind [b2i, sUnder, i32_ti])
            · skip
              refine V_go 2 rfl ?_
              refine V_zret rfl rfl rfl (by first | exact Or.inl rfl | exact Or.inr rfl | exact b2i_or _ | assumption) ?_
              exact RI.mk (by grind [b2i, sUnder, i32_ti])
          · skip
            refine V_go 1 rfl ?_
            refine cSI (mt' := mX1_above) rfl kX1_11 fX1_above rfl (Nat.le_of_ble_eq_true rfl) (Nat.le_of_ble_eq_true rfl) (Nat.le_refl _) (c_above) ?_
            refine V_go 3 rfl ?_
            have e := ih (i + 1) (sAbove a) (by grind [i32_ti]) (by omega)
            have e2 : sUnder (n + 1) a q = sUnder n (sAbove a) q := by grind [sUnder]
            rw [e2]
            exact e
  refine V_go 4 rfl ?_
  exact key 6 0 k (by decide) (by decide)
def sKRd (k yes num bri sit : Int32) : Int32 := if k = 0 then b2i (yes ≠ 0) else if k = 1 then 1 else if k = 2 then b2i (yes ≠ 0 ∧ 0 < bri) else if k = 3 then b2i (sit - sit / 10 * 10 ≠ num) else if k = 4 then b2i ((yes ≠ 0 ∧ 0 < bri) ∨ num * 10 ≤ bri) else 0
def sKSil (k v num : Int32) : Int32 := if k = 0 then v else if k = 1 then 2 * v else if k = 2 then v / 2 else if k = 3 then 2 * v + num else if k = 4 then v / 2 + 2 else 1
def sKTim (k v num sit : Int32) : Int32 := if k = 1 ∨ k = 3 then v + num else if k = 4 then (if sit - sit / 2 * 2 = 1 then 0 else v) else v
theorem c_kRead {k yes num bri sit : Int32} {I : I2} {J : J2} (hy : yes = 0 ∨ yes = 1) : CT mX1_isRead 1 58 58 [.int k, .int yes, .int num, .int bri, .int sit] I J RF (RI RF (sKRd k yes num bri sit) I J) := by
  refine CT_of okX1_isRead (Nat.le_of_ble_eq_true rfl) ?_
  show V _ _ _ _ _ _ [(0, _), (1, _), (2, _), (3, _), (4, _)] _ _ _ _ _
  refine V_go 1 rfl ?_
  refine V_if_eq rfl (fun h1 => ?_) (fun h1 => ?_)
  · skip
    refine V_go 3 rfl ?_
    refine V_tswC (v := 0) rfl (by decide) (by decide) rfl (fun h3 => ?_) (fun h3 => ?_)
    · skip
      refine V_go 1 rfl ?_
      refine V_zret rfl rfl rfl (by first | exact Or.inl rfl | exact Or.inr rfl | exact b2i_or _ | assumption) ?_
      exact RI.mk (by grind [sKRd, b2i])
    refine V_tswC (v := 1) rfl (by decide) (by decide) rfl (fun h4 => ?_) (fun h4 => ?_)
    · skip
      refine V_go 1 rfl ?_
      refine V_zret rfl rfl rfl (by first | exact Or.inl rfl | exact Or.inr rfl | exact b2i_or _ | assumption) ?_
      exact RI.mk (by grind [sKRd, b2i])
    refine V_tswC (v := 2) rfl (by decide) (by decide) rfl (fun h5 => ?_) (fun h5 => ?_)
    · skip
      refine V_go 1 rfl ?_
      refine V_zret rfl rfl rfl (by first | exact Or.inl rfl | exact Or.inr rfl | exact b2i_or _ | assumption) ?_
      exact RI.mk (by grind [sKRd, b2i])
    refine V_tswC (v := 3) rfl (by decide) (by decide) rfl (fun h6 => ?_) (fun h6 => ?_)
    · skip
      refine V_go 2 rfl ?_
      refine V_irem0 rfl (by decide) ?_
      refine V_go 1 rfl ?_
      refine V_icmp_eq rfl (fun h7 => ?_) (fun h7 => ?_)
      · skip
        refine V_go 1 rfl ?_
        refine V_zret rfl rfl rfl (by first | exact Or.inl rfl | exact Or.inr rfl | exact b2i_or _ | assumption) ?_
        exact RI.mk (by grind [sKRd, b2i])
      · skip
        refine V_go 2 rfl ?_
        refine V_zret rfl rfl rfl (by first | exact Or.inl rfl | exact Or.inr rfl | exact b2i_or _ | assumption) ?_
        exact RI.mk (by grind [sKRd, b2i])
    refine V_tswC (v := 4) rfl (by decide) (by decide) rfl (fun h8 => ?_) (fun h8 => ?_)
    · skip
      refine V_go 1 rfl ?_
      refine V_if_ne rfl (fun h9 => ?_) (fun h9 => ?_)
      · skip
        refine V_go 2 rfl ?_
        refine V_zret rfl rfl rfl (by first | exact Or.inl rfl | exact Or.inr rfl | exact b2i_or _ | assumption) ?_
        exact RI.mk (by grind [sKRd, b2i])
      · skip
        refine V_go 4 rfl ?_
        refine V_icmp_lt rfl (fun h10 => ?_) (fun h10 => ?_)
        · skip
          refine V_go 1 rfl ?_
          refine V_zret rfl rfl rfl (by first | exact Or.inl rfl | exact Or.inr rfl | exact b2i_or _ | assumption) ?_
          exact RI.mk (by grind [sKRd, b2i])
        · skip
          refine V_go 2 rfl ?_
          refine V_zret rfl rfl rfl (by first | exact Or.inl rfl | exact Or.inr rfl | exact b2i_or _ | assumption) ?_
          exact RI.mk (by grind [sKRd, b2i])
    refine V_tswD rfl (by decide) (by decide) (t9 := 93) rfl (by have q0 := lv_neT h3 (a := 0) (by decide); have q1 := lv_neT h4 (a := 1) (by decide); have q2 := lv_neT h5 (a := 2) (by decide); have q3 := lv_neT h6 (a := 3) (by decide); have q4 := lv_neT h8 (a := 4) (by decide); omega) ?_
    refine V_go 1 rfl ?_
    refine V_zret rfl rfl rfl (by first | exact Or.inl rfl | exact Or.inr rfl | exact b2i_or _ | assumption) ?_
    exact RI.mk (by grind [sKRd, b2i])
  · skip
    refine V_go 1 rfl ?_
    refine V_if_le rfl (fun h11 => ?_) (fun h11 => ?_)
    · skip
      refine V_go 3 rfl ?_
      refine V_tswC (v := 0) rfl (by decide) (by decide) rfl (fun h13 => ?_) (fun h13 => ?_)
      · skip
        refine V_go 1 rfl ?_
        refine V_zret rfl rfl rfl (by first | exact Or.inl rfl | exact Or.inr rfl | exact b2i_or _ | assumption) ?_
        exact RI.mk (by grind [sKRd, b2i])
      refine V_tswC (v := 1) rfl (by decide) (by decide) rfl (fun h14 => ?_) (fun h14 => ?_)
      · skip
        refine V_go 1 rfl ?_
        refine V_zret rfl rfl rfl (by first | exact Or.inl rfl | exact Or.inr rfl | exact b2i_or _ | assumption) ?_
        exact RI.mk (by grind [sKRd, b2i])
      refine V_tswC (v := 2) rfl (by decide) (by decide) rfl (fun h15 => ?_) (fun h15 => ?_)
      · skip
        refine V_go 1 rfl ?_
        refine V_zret rfl rfl rfl (by first | exact Or.inl rfl | exact Or.inr rfl | exact b2i_or _ | assumption) ?_
        exact RI.mk (by grind [sKRd, b2i])
      refine V_tswC (v := 3) rfl (by decide) (by decide) rfl (fun h16 => ?_) (fun h16 => ?_)
      · skip
        refine V_go 2 rfl ?_
        refine V_irem0 rfl (by decide) ?_
        refine V_go 1 rfl ?_
        refine V_icmp_eq rfl (fun h17 => ?_) (fun h17 => ?_)
        · skip
          refine V_go 1 rfl ?_
          refine V_zret rfl rfl rfl (by first | exact Or.inl rfl | exact Or.inr rfl | exact b2i_or _ | assumption) ?_
          exact RI.mk (by grind [sKRd, b2i])
        · skip
          refine V_go 2 rfl ?_
          refine V_zret rfl rfl rfl (by first | exact Or.inl rfl | exact Or.inr rfl | exact b2i_or _ | assumption) ?_
          exact RI.mk (by grind [sKRd, b2i])
      refine V_tswC (v := 4) rfl (by decide) (by decide) rfl (fun h18 => ?_) (fun h18 => ?_)
      · skip
        refine V_go 1 rfl ?_
        refine V_if_ne rfl (fun h19 => ?_) (fun h19 => ?_)
        · skip
          refine V_go 2 rfl ?_
          refine V_zret rfl rfl rfl (by first | exact Or.inl rfl | exact Or.inr rfl | exact b2i_or _ | assumption) ?_
          exact RI.mk (by grind [sKRd, b2i])
        · skip
          refine V_go 4 rfl ?_
          refine V_icmp_lt rfl (fun h20 => ?_) (fun h20 => ?_)
          · skip
            refine V_go 1 rfl ?_
            refine V_zret rfl rfl rfl (by first | exact Or.inl rfl | exact Or.inr rfl | exact b2i_or _ | assumption) ?_
            exact RI.mk (by grind [sKRd, b2i])
          · skip
            refine V_go 2 rfl ?_
            refine V_zret rfl rfl rfl (by first | exact Or.inl rfl | exact Or.inr rfl | exact b2i_or _ | assumption) ?_
            exact RI.mk (by grind [sKRd, b2i])
      refine V_tswD rfl (by decide) (by decide) (t9 := 93) rfl (by have q0 := lv_neT h13 (a := 0) (by decide); have q1 := lv_neT h14 (a := 1) (by decide); have q2 := lv_neT h15 (a := 2) (by decide); have q3 := lv_neT h16 (a := 3) (by decide); have q4 := lv_neT h18 (a := 4) (by decide); omega) ?_
      refine V_go 1 rfl ?_
      refine V_zret rfl rfl rfl (by first | exact Or.inl rfl | exact Or.inr rfl | exact b2i_or _ | assumption) ?_
      exact RI.mk (by grind [sKRd, b2i])
    · skip
      refine V_go 4 rfl ?_
      refine V_tswC (v := 0) rfl (by decide) (by decide) rfl (fun h22 => ?_) (fun h22 => ?_)
      · skip
        refine V_go 1 rfl ?_
        refine V_zret rfl rfl rfl (by first | exact Or.inl rfl | exact Or.inr rfl | exact b2i_or _ | assumption) ?_
        exact RI.mk (by grind [sKRd, b2i])
      refine V_tswC (v := 1) rfl (by decide) (by decide) rfl (fun h23 => ?_) (fun h23 => ?_)
      · skip
        refine V_go 1 rfl ?_
        refine V_zret rfl rfl rfl (by first | exact Or.inl rfl | exact Or.inr rfl | exact b2i_or _ | assumption) ?_
        exact RI.mk (by grind [sKRd, b2i])
      refine V_tswC (v := 2) rfl (by decide) (by decide) rfl (fun h24 => ?_) (fun h24 => ?_)
      · skip
        refine V_go 1 rfl ?_
        refine V_zret rfl rfl rfl (by first | exact Or.inl rfl | exact Or.inr rfl | exact b2i_or _ | assumption) ?_
        exact RI.mk (by grind [sKRd, b2i])
      refine V_tswC (v := 3) rfl (by decide) (by decide) rfl (fun h25 => ?_) (fun h25 => ?_)
      · skip
        refine V_go 2 rfl ?_
        refine V_irem0 rfl (by decide) ?_
        refine V_go 1 rfl ?_
        refine V_icmp_eq rfl (fun h26 => ?_) (fun h26 => ?_)
        · skip
          refine V_go 1 rfl ?_
          refine V_zret rfl rfl rfl (by first | exact Or.inl rfl | exact Or.inr rfl | exact b2i_or _ | assumption) ?_
          exact RI.mk (by grind [sKRd, b2i])
        · skip
          refine V_go 2 rfl ?_
          refine V_zret rfl rfl rfl (by first | exact Or.inl rfl | exact Or.inr rfl | exact b2i_or _ | assumption) ?_
          exact RI.mk (by grind [sKRd, b2i])
      refine V_tswC (v := 4) rfl (by decide) (by decide) rfl (fun h27 => ?_) (fun h27 => ?_)
      · skip
        refine V_go 1 rfl ?_
        refine V_if_ne rfl (fun h28 => ?_) (fun h28 => ?_)
        · skip
          refine V_go 2 rfl ?_
          refine V_zret rfl rfl rfl (by first | exact Or.inl rfl | exact Or.inr rfl | exact b2i_or _ | assumption) ?_
          exact RI.mk (by grind [sKRd, b2i])
        · skip
          refine V_go 4 rfl ?_
          refine V_icmp_lt rfl (fun h29 => ?_) (fun h29 => ?_)
          · skip
            refine V_go 1 rfl ?_
            refine V_zret rfl rfl rfl (by first | exact Or.inl rfl | exact Or.inr rfl | exact b2i_or _ | assumption) ?_
            exact RI.mk (by grind [sKRd, b2i])
          · skip
            refine V_go 2 rfl ?_
            refine V_zret rfl rfl rfl (by first | exact Or.inl rfl | exact Or.inr rfl | exact b2i_or _ | assumption) ?_
            exact RI.mk (by grind [sKRd, b2i])
      refine V_tswD rfl (by decide) (by decide) (t9 := 93) rfl (by have q0 := lv_neT h22 (a := 0) (by decide); have q1 := lv_neT h23 (a := 1) (by decide); have q2 := lv_neT h24 (a := 2) (by decide); have q3 := lv_neT h25 (a := 3) (by decide); have q4 := lv_neT h27 (a := 4) (by decide); omega) ?_
      refine V_go 1 rfl ?_
      refine V_zret rfl rfl rfl (by first | exact Or.inl rfl | exact Or.inr rfl | exact b2i_or _ | assumption) ?_
      exact RI.mk (by grind [sKRd, b2i])
theorem c_kSil {k v num : Int32} {I : I2} {J : J2} : CT mX1_silence 1 58 58 [.int k, .int v, .int num] I J RF (RI RF (sKSil k v num) I J) := by
  refine CT_of okX1_silence (Nat.le_of_ble_eq_true rfl) ?_
  show V _ _ _ _ _ _ [(0, _), (1, _), (2, _)] _ _ _ _ _
  refine V_go 6 rfl ?_
  refine V_idiv rfl (by decide) ?_
  refine V_go 2 rfl ?_
  refine V_tswC (v := 0) rfl (by decide) (by decide) rfl (fun h2 => ?_) (fun h2 => ?_)
  · skip
    refine V_go 1 rfl ?_
    refine V_iret rfl rfl rfl ?_
    exact RI.mk (by grind [sKSil])
  refine V_tswC (v := 1) rfl (by decide) (by decide) rfl (fun h3 => ?_) (fun h3 => ?_)
  · skip
    refine V_go 1 rfl ?_
    refine V_iret rfl rfl rfl ?_
    exact RI.mk (by grind [sKSil])
  refine V_tswC (v := 2) rfl (by decide) (by decide) rfl (fun h4 => ?_) (fun h4 => ?_)
  · skip
    refine V_go 1 rfl ?_
    refine V_iret rfl rfl rfl ?_
    exact RI.mk (by grind [sKSil])
  refine V_tswC (v := 3) rfl (by decide) (by decide) rfl (fun h5 => ?_) (fun h5 => ?_)
  · skip
    refine V_go 3 rfl ?_
    refine V_iret rfl rfl rfl ?_
    exact RI.mk (by grind [sKSil])
  refine V_tswC (v := 4) rfl (by decide) (by decide) rfl (fun h6 => ?_) (fun h6 => ?_)
  · skip
    refine V_go 3 rfl ?_
    refine V_iret rfl rfl rfl ?_
    exact RI.mk (by grind [sKSil])
  refine V_tswD rfl (by decide) (by decide) (t9 := 60) rfl (by have q0 := lv_neT h2 (a := 0) (by decide); have q1 := lv_neT h3 (a := 1) (by decide); have q2 := lv_neT h4 (a := 2) (by decide); have q3 := lv_neT h5 (a := 3) (by decide); have q4 := lv_neT h6 (a := 4) (by decide); omega) ?_
  refine V_go 1 rfl ?_
  refine V_iret rfl rfl rfl ?_
  exact RI.mk (by grind [sKSil])
theorem c_kTim {k v num sit : Int32} {I : I2} {J : J2} : CT mX1_time 1 58 58 [.int k, .int v, .int num, .int sit] I J RF (RI RF (sKTim k v num sit) I J) := by
  refine CT_of okX1_time (Nat.le_of_ble_eq_true rfl) ?_
  show V _ _ _ _ _ _ [(0, _), (1, _), (2, _), (3, _)] _ _ _ _ _
  refine V_go 1 rfl ?_
  refine V_tswC (v := 1) rfl (by decide) (by decide) rfl (fun h2 => ?_) (fun h2 => ?_)
  · skip
    refine V_go 3 rfl ?_
    refine V_iret rfl rfl rfl ?_
    exact RI.mk (by grind [sKTim])
  refine V_tswC (v := 2) rfl (by decide) (by decide) rfl (fun h3 => ?_) (fun h3 => ?_)
  · skip
    refine V_go 1 rfl ?_
    refine V_iret rfl rfl rfl ?_
    exact RI.mk (by grind [sKTim])
  refine V_tswC (v := 3) rfl (by decide) (by decide) rfl (fun h4 => ?_) (fun h4 => ?_)
  · skip
    refine V_go 3 rfl ?_
    refine V_iret rfl rfl rfl ?_
    exact RI.mk (by grind [sKTim])
  refine V_tswC (v := 4) rfl (by decide) (by decide) rfl (fun h5 => ?_) (fun h5 => ?_)
  · skip
    refine V_go 2 rfl ?_
    refine V_irem0 rfl (by decide) ?_
    refine V_go 1 rfl ?_
    refine V_icmp_ne rfl (fun h6 => ?_) (fun h6 => ?_)
    · skip
      refine V_go 1 rfl ?_
      refine V_iret rfl rfl rfl ?_
      exact RI.mk (by grind [sKTim])
    · skip
      refine V_go 2 rfl ?_
      refine V_iret rfl rfl rfl ?_
      exact RI.mk (by grind [sKTim])
  refine V_tswD rfl (by decide) (by decide) (t9 := 49) rfl (by have q0 := lv_neT h2 (a := 1) (by decide); have q1 := lv_neT h3 (a := 2) (by decide); have q2 := lv_neT h4 (a := 3) (by decide); have q3 := lv_neT h5 (a := 4) (by decide); omega) ?_
  refine V_go 1 rfl ?_
  refine V_iret rfl rfl rfl ?_
  exact RI.mk (by grind [sKTim])
