theorem c_isSort {k : Int32} {I : I2} {J : J2} : CT mX4_isSort 1 58 58 [.int k] I J RF (RI RF (b2i (0 ≤ k ∧ k ≤ 2)) I J) := by
  refine CT_of okX4_isSort (Nat.le_of_ble_eq_true rfl) ?_
  show V _ _ _ _ _ _ [(0, _)] _ _ _ _ _
  refine V_go 1 rfl ?_
  refine V_if_lt rfl (fun h1 => ?_) (fun h1 => ?_)
  · skip
    refine V_go 1 rfl ?_
    refine V_zret rfl rfl rfl (by first | exact Or.inl rfl | exact Or.inr rfl | exact b2i_or _ | assumption) ?_
    exact RI.mk (by grind [b2i, i32_ti, tcn])
  · skip
    refine V_go 2 rfl ?_
    refine V_icmp_gt rfl (fun h2 => ?_) (fun h2 => ?_)
    · skip
      refine V_go 1 rfl ?_
      refine V_zret rfl rfl rfl (by first | exact Or.inl rfl | exact Or.inr rfl | exact b2i_or _ | assumption) ?_
      exact RI.mk (by grind [b2i, i32_ti, tcn])
    · skip
      refine V_go 2 rfl ?_
      refine V_zret rfl rfl rfl (by first | exact Or.inl rfl | exact Or.inr rfl | exact b2i_or _ | assumption) ?_
      exact RI.mk (by grind [b2i, i32_ti, tcn])
theorem c_hasPlace {x : Int32} {I : I2} {J : J2} : CT mX4_hasPlace 1 58 58 [.ref 34, .int x] I J RF (RI RF (b2i (0 ≤ x ∧ x < 4)) I J) := by
  refine CT_of okX4_hasPlace (Nat.le_of_ble_eq_true rfl) ?_
  show V _ _ _ _ _ _ [(0, _), (1, _)] _ _ _ _ _
  refine V_go 1 rfl ?_
  refine V_if_lt rfl (fun h1 => ?_) (fun h1 => ?_)
  · skip
    refine V_go 1 rfl ?_
    refine V_zret rfl rfl rfl (by first | exact Or.inl rfl | exact Or.inr rfl | exact b2i_or _ | assumption) ?_
    exact RI.mk (by grind [b2i, i32_ti, tcn])
  · skip
    refine V_go 2 rfl ?_
    refine V_icmp_ge rfl (fun h2 => ?_) (fun h2 => ?_)
    · skip
      refine V_go 1 rfl ?_
      refine V_zret rfl rfl rfl (by first | exact Or.inl rfl | exact Or.inr rfl | exact b2i_or _ | assumption) ?_
      exact RI.mk (by grind [b2i, i32_ti, tcn])
    · skip
      refine V_go 2 rfl ?_
      refine V_zret rfl rfl rfl (by first | exact Or.inl rfl | exact Or.inr rfl | exact b2i_or _ | assumption) ?_
      exact RI.mk (by grind [b2i, i32_ti, tcn])
theorem c_sortOf {x : Int32} {I : I2} {J : J2} : CT mX4_sortOf 2 58 58 [.ref 34, .int x] I J RF (RI RF (if 0 ≤ x ∧ x < 4 then I 35 x.toNatClampNeg else -1) I J) := by
  refine CT_of okX4_sortOf (Nat.le_of_ble_eq_true rfl) ?_
  show V _ _ _ _ _ _ [(0, _), (1, _)] _ _ _ _ _
  refine V_go 2 rfl ?_
  refine cVI (mt' := mX4_hasPlace) rfl kX4_19 fX4_hasPlace rfl rfl rfl (Nat.le_of_ble_eq_true rfl) (Nat.le_of_ble_eq_true rfl) (Nat.le_of_ble_eq_true rfl) (Nat.le_of_ble_eq_true rfl) (Nat.le_refl _) (c_hasPlace) ?_
  refine V_if_eq rfl (fun h2 => ?_) (fun h2 => ?_)
  · skip
    refine V_go 1 rfl ?_
    refine V_iret rfl rfl rfl ?_
    exact RI.mk (by grind [b2i, i32_ti, tcn])
  · skip
    refine V_go 3 rfl ?_
    refine V_iald rfl rfl (Nat.le_of_ble_eq_true rfl) (inb_ofN (by decide) (by grind [b2i, i32_ti, tcn]) (by grind [b2i, i32_ti, tcn])) ?_
    refine V_go 1 rfl ?_
    refine V_iret rfl rfl rfl ?_
    exact RI.mk (by grind [b2i, i32_ti, tcn])
theorem c_sizeOf {x : Int32} {I : I2} {J : J2} : CT mX4_sizeOf 2 58 58 [.ref 34, .int x] I J RF (RI RF (if 0 ≤ x ∧ x < 4 then I 36 x.toNatClampNeg else 0) I J) := by
  refine CT_of okX4_sizeOf (Nat.le_of_ble_eq_true rfl) ?_
  show V _ _ _ _ _ _ [(0, _), (1, _)] _ _ _ _ _
  refine V_go 2 rfl ?_
  refine cVI (mt' := mX4_hasPlace) rfl kX4_19 fX4_hasPlace rfl rfl rfl (Nat.le_of_ble_eq_true rfl) (Nat.le_of_ble_eq_true rfl) (Nat.le_of_ble_eq_true rfl) (Nat.le_of_ble_eq_true rfl) (Nat.le_refl _) (c_hasPlace) ?_
  refine V_if_eq rfl (fun h2 => ?_) (fun h2 => ?_)
  · skip
    refine V_go 1 rfl ?_
    refine V_iret rfl rfl rfl ?_
    exact RI.mk (by grind [b2i, i32_ti, tcn])
  · skip
    refine V_go 3 rfl ?_
    refine V_iald rfl rfl (Nat.le_of_ble_eq_true rfl) (inb_ofN (by decide) (by grind [b2i, i32_ti, tcn]) (by grind [b2i, i32_ti, tcn])) ?_
    refine V_go 1 rfl ?_
    refine V_iret rfl rfl rfl ?_
    exact RI.mk (by grind [b2i, i32_ti, tcn])
theorem c_sortOfR {x : Int32} {I : I2} {J : J2} (p0 : 0 ≤ x) (p4 : x < 4) : CT mX4_sortOf 2 58 58 [.ref 34, .int x] I J RF (RI RF (I 35 x.toNatClampNeg) I J) := by
  have h := c_sortOf (x := x) (I := I) (J := J)
  rw [if_pos ⟨p0, p4⟩] at h
  exact h
theorem c_sizeOfR {x : Int32} {I : I2} {J : J2} (p0 : 0 ≤ x) (p4 : x < 4) : CT mX4_sizeOf 2 58 58 [.ref 34, .int x] I J RF (RI RF (I 36 x.toNatClampNeg) I J) := by
  have h := c_sizeOf (x := x) (I := I) (J := J)
  rw [if_pos ⟨p0, p4⟩] at h
  exact h
theorem c_isMissing {x : Int32} {I : I2} {J : J2} (p0 : 0 ≤ x) (p4 : x < 4) : CT mX4_isMissing 3 58 58 [.ref 34, .int x] I J RF (RI RF (b2i (I 35 x.toNatClampNeg = -1)) I J) := by
  refine CT_of okX4_isMissing (Nat.le_of_ble_eq_true rfl) ?_
  show V _ _ _ _ _ _ [(0, _), (1, _)] _ _ _ _ _
  refine V_go 2 rfl ?_
  refine cVI (mt' := mX4_sortOf) rfl kX4_23 fX4_sortOf rfl rfl rfl (Nat.le_of_ble_eq_true rfl) (Nat.le_of_ble_eq_true rfl) (Nat.le_of_ble_eq_true rfl) (Nat.le_of_ble_eq_true rfl) (Nat.le_refl _) (c_sortOfR p0 p4) ?_
  refine V_go 1 rfl ?_
  refine V_icmp_ne rfl (fun h2 => ?_) (fun h2 => ?_)
  · skip
    refine V_go 1 rfl ?_
    refine V_zret rfl rfl rfl (by first | exact Or.inl rfl | exact Or.inr rfl | exact b2i_or _ | assumption) ?_
    exact RI.mk (by grind [b2i, i32_ti, tcn])
  · skip
    refine V_go 2 rfl ?_
    refine V_zret rfl rfl rfl (by first | exact Or.inl rfl | exact Or.inr rfl | exact b2i_or _ | assumption) ?_
    exact RI.mk (by grind [b2i, i32_ti, tcn])
theorem c_hasItem9 {x y : Int32} {I : I2} {J : J2} (p0 : 0 ≤ x) (p4 : x < 4) : CT mX4_hasItem 3 58 58 [.ref 34, .int x, .int y] I J RF (RI RF (b2i (0 ≤ y ∧ y < I 36 x.toNatClampNeg ∧ y < 40)) I J) := by
  refine CT_of okX4_hasItem (Nat.le_of_ble_eq_true rfl) ?_
  show V _ _ _ _ _ _ [(0, _), (1, _), (2, _)] _ _ _ _ _
  refine V_go 1 rfl ?_
  refine V_if_lt rfl (fun h1 => ?_) (fun h1 => ?_)
  · skip
    refine V_go 1 rfl ?_
    refine V_zret rfl rfl rfl (by first | exact Or.inl rfl | exact Or.inr rfl | exact b2i_or _ | assumption) ?_
    exact RI.mk (by grind [b2i, i32_ti, tcn])
  · skip
    refine V_go 3 rfl ?_
    refine cVI (mt' := mX4_sizeOf) rfl kX4_27 fX4_sizeOf rfl rfl rfl (Nat.le_of_ble_eq_true rfl) (Nat.le_of_ble_eq_true rfl) (Nat.le_of_ble_eq_true rfl) (Nat.le_of_ble_eq_true rfl) (Nat.le_refl _) (c_sizeOfR p0 p4) ?_
    refine V_icmp_ge rfl (fun h3 => ?_) (fun h3 => ?_)
    · skip
      refine V_go 1 rfl ?_
      refine V_zret rfl rfl rfl (by first | exact Or.inl rfl | exact Or.inr rfl | exact b2i_or _ | assumption) ?_
      exact RI.mk (by grind [b2i, i32_ti, tcn])
    · skip
      refine V_go 2 rfl ?_
      refine V_icmp_ge rfl (fun h4 => ?_) (fun h4 => ?_)
      · skip
        refine V_go 1 rfl ?_
        refine V_zret rfl rfl rfl (by first | exact Or.inl rfl | exact Or.inr rfl | exact b2i_or _ | assumption) ?_
        exact RI.mk (by grind [b2i, i32_ti, tcn])
      · skip
        refine V_go 2 rfl ?_
        refine V_zret rfl rfl rfl (by first | exact Or.inl rfl | exact Or.inr rfl | exact b2i_or _ | assumption) ?_
        exact RI.mk (by grind [b2i, i32_ti, tcn])
theorem c_hasItems {x y n : Int32} {I : I2} {J : J2} (p0 : 0 ≤ x) (p4 : x < 4) : CT mX4_hasItems 3 58 58 [.ref 34, .int x, .int y, .int n] I J RF (RI RF (b2i (0 ≤ y ∧ 0 ≤ n ∧ n ≤ 40 ∧ y ≤ I 36 x.toNatClampNeg - n)) I J) := by
  refine CT_of okX4_hasItems (Nat.le_of_ble_eq_true rfl) ?_
  show V _ _ _ _ _ _ [(0, _), (1, _), (2, _), (3, _)] _ _ _ _ _
  refine V_go 1 rfl ?_
  refine V_if_lt rfl (fun h1 => ?_) (fun h1 => ?_)
  · skip
    refine V_go 1 rfl ?_
    refine V_zret rfl rfl rfl (by first | exact Or.inl rfl | exact Or.inr rfl | exact b2i_or _ | assumption) ?_
    exact RI.mk (by grind [b2i, i32_ti, tcn])
  · skip
    refine V_go 1 rfl ?_
    refine V_if_lt rfl (fun h2 => ?_) (fun h2 => ?_)
    · skip
      refine V_go 1 rfl ?_
      refine V_zret rfl rfl rfl (by first | exact Or.inl rfl | exact Or.inr rfl | exact b2i_or _ | assumption) ?_
      exact RI.mk (by grind [b2i, i32_ti, tcn])
    · skip
      refine V_go 2 rfl ?_
      refine V_icmp_gt rfl (fun h3 => ?_) (fun h3 => ?_)
      · skip
        refine V_go 1 rfl ?_
        refine V_zret rfl rfl rfl (by first | exact Or.inl rfl | exact Or.inr rfl | exact b2i_or _ | assumption) ?_
        exact RI.mk (by grind [b2i, i32_ti, tcn])
      · skip
        refine V_go 3 rfl ?_
        refine cVI (mt' := mX4_sizeOf) rfl kX4_27 fX4_sizeOf rfl rfl rfl (Nat.le_of_ble_eq_true rfl) (Nat.le_of_ble_eq_true rfl) (Nat.le_of_ble_eq_true rfl) (Nat.le_of_ble_eq_true rfl) (Nat.le_refl _) (c_sizeOfR p0 p4) ?_
        refine V_go 2 rfl ?_
        refine V_icmp_gt rfl (fun h5 => ?_) (fun h5 => ?_)
        · skip
          refine V_go 1 rfl ?_
          refine V_zret rfl rfl rfl (by first | exact Or.inl rfl | exact Or.inr rfl | exact b2i_or _ | assumption) ?_
          exact RI.mk (by grind [b2i, i32_ti, tcn])
        · skip
          refine V_go 2 rfl ?_
          refine V_zret rfl rfl rfl (by first | exact Or.inl rfl | exact Or.inr rfl | exact b2i_or _ | assumption) ?_
          exact RI.mk (by grind [b2i, i32_ti, tcn])
theorem s40n {a b : Nat} (ha : a < 4) (hb : b < 41) : (i32 a * 40 + i32 b) = i32 (40 * a + b) := by
  have : a = 0 ∨ a = 1 ∨ a = 2 ∨ a = 3 := by omega
  rcases this with rfl | rfl | rfl | rfl <;> grind [i32_ti]
theorem s40 {x y : Int32} (p0 : 0 ≤ x) (p4 : x < 4) (hy : 0 ≤ y) (hy2 : y < 41) : (x * 40 + y).toNatClampNeg = 40 * x.toNatClampNeg + y.toNatClampNeg ∧ 0 ≤ x * 40 + y ∧ x * 40 + y < 161 := by
  have a := tcn x p0
  have b := tcn y hy
  have h1 : 0 ≤ x * 40 + y ∧ x * 40 + y < 161 := by grind
  refine ⟨?_, h1⟩
  have ex : i32 x.toNatClampNeg = x := Int32.ofNat_toNatClampNeg _ p0
  have ey : i32 y.toNatClampNeg = y := Int32.ofNat_toNatClampNeg _ hy
  have e := s40n (a := x.toNatClampNeg) (b := y.toNatClampNeg) (by grind) (by grind)
  rw [ex, ey] at e
  rw [e]
  exact tn_of (by grind)
theorem s40i {x y : Int32} (p0 : 0 ≤ x) (p4 : x < 4) (hy : 0 ≤ y) (hy2 : y < 40) : inb (x * 40 + y) 160 := by
  refine inb_ofN (by decide) (s40 p0 p4 hy (by grind)).2.1 ?_
  grind
def sConv (k v : Int32) : Int32 := if k = 0 then i2bV v else if k = 1 then i2sV v else v
theorem c_valueAt {x y : Int32} {I : I2} {J : J2} (p0 : 0 ≤ x) (p4 : x < 4) (hy : 0 ≤ y) (hy1 : y < I 36 x.toNatClampNeg) (hy2 : y < 40) : CT mX4_valueAt 4 58 58 [.ref 34, .int x, .int y] I J RF (RI RF (I 37 (40 * x.toNatClampNeg + y.toNatClampNeg)) I J) := by
  refine CT_of okX4_valueAt (Nat.le_of_ble_eq_true rfl) ?_
  show V _ _ _ _ _ _ [(0, _), (1, _), (2, _)] _ _ _ _ _
  refine V_go 3 rfl ?_
  refine cVI (mt' := mX4_hasItem) rfl kX4_30 fX4_hasItem rfl rfl rfl (Nat.le_of_ble_eq_true rfl) (Nat.le_of_ble_eq_true rfl) (Nat.le_of_ble_eq_true rfl) (Nat.le_of_ble_eq_true rfl) (Nat.le_refl _) (c_hasItem9 p0 p4) ?_
  refine V_if_eq rfl (fun h2 => ?_) (fun h2 => ?_)
  · skip
    refine V_go 1 rfl ?_
    refine V_iret rfl rfl rfl ?_
    first
      | exact RI.mk (by rw [(s40 p0 p4 hy (by grind)).1])
      | (exfalso; grind [b2i])
  · skip
    refine V_go 7 rfl ?_
    refine V_iald rfl rfl (Nat.le_of_ble_eq_true rfl) (s40i p0 p4 hy hy2) ?_
    refine V_go 1 rfl ?_
    refine V_iret rfl rfl rfl ?_
    first
      | exact RI.mk (by rw [(s40 p0 p4 hy (by grind)).1])
      | (exfalso; grind [b2i])
theorem c_store {x y v : Int32} {I : I2} {J : J2} (p0 : 0 ≤ x) (p4 : x < 4) (hy : 0 ≤ y) (hy1 : y < I 36 x.toNatClampNeg) (hy2 : y < 40) : CT mX4_store 4 58 58 [.ref 34, .int x, .int y, .int v] I J RF (RV RF (up2 I 37 (40 * x.toNatClampNeg + y.toNatClampNeg) (sConv (I 35 x.toNatClampNeg) v)) J) := by
  refine CT_of okX4_store (Nat.le_of_ble_eq_true rfl) ?_
  show V _ _ _ _ _ _ [(0, _), (1, _), (2, _), (3, _)] _ _ _ _ _
  refine V_go 3 rfl ?_
  refine cVI (mt' := mX4_hasItem) rfl kX4_30 fX4_hasItem rfl rfl rfl (Nat.le_of_ble_eq_true rfl) (Nat.le_of_ble_eq_true rfl) (Nat.le_of_ble_eq_true rfl) (Nat.le_of_ble_eq_true rfl) (Nat.le_refl _) (c_hasItem9 p0 p4) ?_
  refine V_if_ne rfl (fun h2 => ?_) (fun h2 => ?_)
  · skip
    refine V_go 2 rfl ?_
    refine cVI (mt' := mX4_sortOf) rfl kX4_23 fX4_sortOf rfl rfl rfl (Nat.le_of_ble_eq_true rfl) (Nat.le_of_ble_eq_true rfl) (Nat.le_of_ble_eq_true rfl) (Nat.le_of_ble_eq_true rfl) (Nat.le_refl _) (c_sortOfR p0 p4) ?_
    refine V_go 9 rfl ?_
    refine V_if_ne rfl (fun h4 => ?_) (fun h4 => ?_)
    · skip
      refine V_go 2 rfl ?_
      refine V_icmp_ne rfl (fun h5 => ?_) (fun h5 => ?_)
      · skip
        refine V_go 1 rfl ?_
        refine V_iast rfl rfl (Nat.le_of_ble_eq_true rfl) (s40i p0 p4 hy hy2) ?_
        refine V_vret rfl rfl rfl ?_
        first
          | (exfalso; grind [b2i]; done)
          | exact RV.mk2 (by rw [(s40 p0 p4 hy (by grind)).1]; congr 1; unfold sConv; grind)
      · skip
        refine V_go 3 rfl ?_
        refine V_iast rfl rfl (Nat.le_of_ble_eq_true rfl) (s40i p0 p4 hy hy2) ?_
        refine V_vret rfl rfl rfl ?_
        first
          | (exfalso; grind [b2i]; done)
          | exact RV.mk2 (by rw [(s40 p0 p4 hy (by grind)).1]; congr 1; unfold sConv; grind)
    · skip
      refine V_go 3 rfl ?_
      refine V_iast rfl rfl (Nat.le_of_ble_eq_true rfl) (s40i p0 p4 hy hy2) ?_
      refine V_vret rfl rfl rfl ?_
      first
        | (exfalso; grind [b2i]; done)
        | exact RV.mk2 (by rw [(s40 p0 p4 hy (by grind)).1]; congr 1; unfold sConv; grind)
  · skip
    refine V_vret rfl rfl rfl ?_
    first
      | (exfalso; grind [b2i]; done)
      | exact RV.mk2 (by rw [(s40 p0 p4 hy (by grind)).1]; congr 1; unfold sConv; grind)
theorem c_move {x y o w n : Int32} {I : I2} {J : J2} (p0 : 0 ≤ x) (p4 : x < 4) (g0 : 0 ≤ o) (g4 : o < 4) (hy : 0 ≤ y) (hn : 0 ≤ n) (hn4 : n ≤ 40) (hy1 : y ≤ I 36 x.toNatClampNeg - n) (hw : 0 ≤ w) (hw1 : w ≤ I 36 o.toNatClampNeg - n) (hs1 : 0 ≤ I 36 x.toNatClampNeg ∧ I 36 x.toNatClampNeg ≤ 40) (hs2 : 0 ≤ I 36 o.toNatClampNeg ∧ I 36 o.toNatClampNeg ≤ 40) : CT mX4_move 4 58 58 [.ref 34, .int x, .int y, .int o, .int w, .int n] I J RF (RV RF (row2 I 37 (va_cpy (I 37) (I 37) (40 * x.toNatClampNeg + y.toNatClampNeg) (40 * o.toNatClampNeg + w.toNatClampNeg) n.toNatClampNeg)) J) := by
  refine CT_of okX4_move (Nat.le_of_ble_eq_true rfl) ?_
  show V _ _ _ _ _ _ [(0, _), (1, _), (2, _), (3, _), (4, _), (5, _)] _ _ _ _ _
  refine V_go 4 rfl ?_
  refine cVI (mt' := mX4_hasItems) rfl kX4_34 fX4_hasItems rfl rfl rfl (Nat.le_of_ble_eq_true rfl) (Nat.le_of_ble_eq_true rfl) (Nat.le_of_ble_eq_true rfl) (Nat.le_of_ble_eq_true rfl) (Nat.le_refl _) (c_hasItems p0 p4) ?_
  refine V_if_eq rfl (fun h2 => ?_) (fun h2 => ?_)
  · skip
    refine V_vret rfl rfl rfl ?_
    first
      | exact RV.mk2 (by rw [(s40 p0 p4 hy (by grind)).1, (s40 g0 g4 hw (by grind)).1])
      | (exfalso; grind [b2i])
  · skip
    refine V_go 4 rfl ?_
    refine cVI (mt' := mX4_hasItems) rfl kX4_34 fX4_hasItems rfl rfl rfl (Nat.le_of_ble_eq_true rfl) (Nat.le_of_ble_eq_true rfl) (Nat.le_of_ble_eq_true rfl) (Nat.le_of_ble_eq_true rfl) (Nat.le_refl _) (c_hasItems g0 g4) ?_
    refine V_if_eq rfl (fun h4 => ?_) (fun h4 => ?_)
    · skip
      refine V_vret rfl rfl rfl ?_
      first
        | exact RV.mk2 (by rw [(s40 p0 p4 hy (by grind)).1, (s40 g0 g4 hw (by grind)).1])
        | (exfalso; grind [b2i])
    · skip
      refine V_go 15 rfl ?_
      refine V_copy (wl1 := 857) (wn := 677) (ws9 := 676) (wi1 := 125) rfl (by decide +kernel) (by decide +kernel) (by decide +kernel) (by decide +kernel) (Nat.le_of_ble_eq_true rfl) (Nat.le_of_ble_eq_true rfl) rfl rfl (Nat.le_of_ble_eq_true rfl) (Nat.le_of_ble_eq_true rfl) (s40 p0 p4 hy (by grind)).2.1 (s40 g0 g4 hw (by grind)).2.1 hn (by rw [(s40 p0 p4 hy (by grind)).1]; grind [tcn]) (by rw [(s40 g0 g4 hw (by grind)).1]; grind [tcn]) ?_
      refine V_vret rfl rfl rfl ?_
      first
        | exact RV.mk2 (by rw [(s40 p0 p4 hy (by grind)).1, (s40 g0 g4 hw (by grind)).1])
        | (exfalso; grind [b2i])
def sZero (g : Nat → Int32) (a n : Nat) : Nat → Int32 := fun j => if a ≤ j ∧ j < a + n then 0 else g j
theorem sZero_s (g : Nat → Int32) (a n : Nat) : upd (sZero g a n) (a + n) 0 = sZero g a (n + 1) := by
  funext j
  simp only [upd, sZero]
  grind
theorem sZero_0 (g : Nat → Int32) (a : Nat) : sZero g a 0 = g := by
  funext j
  simp only [sZero]
  grind

theorem c_lay {x k : Int32} {N : Nat} {I : I2} {J : J2} (p0 : 0 ≤ x) (p4 : x < 4) (hN : N ≤ 40) : CT mX4_lay 2 58 58 [.ref 34, .int x, .int k, .int (i32 N)] I J RF (RV RF (row2 (up2 (up2 I 35 x.toNatClampNeg k) 36 x.toNatClampNeg (i32 N)) 37 (sZero (I 37) (40 * x.toNatClampNeg) N)) J) := by
  refine CT_of okX4_lay (Nat.le_of_ble_eq_true rfl) ?_
  show V _ _ _ _ _ _ [(0, _), (1, _), (2, _), (3, _)] _ _ _ _ _
  have key : ∀ n, Hid (∀ (i : Nat), i + n = N → True → V mX4_lay none 2 58 (RV RF (row2 (up2 (up2 I 35 x.toNatClampNeg k) 36 x.toNatClampNeg (i32 N)) 37 (sZero (I 37) (40 * x.toNatClampNeg) N)) J) 36 [(0, .ref 34), (1, .int x), (2, .int k), (3, .int (i32 N)), (4, .int (i32 i))] [] 58 (row2 (up2 (up2 I 35 x.toNatClampNeg k) 36 x.toNatClampNeg (i32 N)) 37 (sZero (I 37) (40 * x.toNatClampNeg) i)) J RF) := by
    intro n
    induction n with
    | zero =>
      unfold Hid
      intro i  hi _
      refine V_go 2 rfl ?_
      refine V_icmp_ge rfl (fun h1 => ?_) (fun h1 => ?_)
      · skip
        refine V_vret rfl rfl rfl ?_
        exact RV.mk2 (by rw [show i = N from hi])
      · skip
        exfalso
        exact h1 (lp_stop hi)
    | succ n ih =>
      unfold Hid
      intro i  hi _
      have q1 : 0 ≤ i32 i := by grind [i32_ti]
      refine V_go 2 rfl ?_
      refine V_icmp_ge rfl (fun h1 => ?_) (fun h1 => ?_)
      · skip
        exfalso
        exact lp_more (by omega) (by omega) h1
      · skip
        refine V_go 8 rfl ?_
        refine V_iast rfl rfl (Nat.le_of_ble_eq_true rfl) (s40i p0 p4 q1 (by grind [i32_ti])) ?_
        refine V_go 2 rfl ?_
        refine V.st (L' := [(0, .ref 34), (1, .int x), (2, .int k), (3, .int (i32 N)), (4, .int (i32 (i + 1)))]) (ih.un (i + 1) (by omega) trivial) ?_ ?_
        · rw [(s40 p0 p4 q1 (by grind [i32_ti])).1, tn_of (by omega), up2_row2, sZero_s]
        · rw [i32_s]; simp
  refine V_go 2 rfl ?_
  refine cVI (mt' := mX4_hasPlace) rfl kX4_19 fX4_hasPlace rfl rfl rfl (Nat.le_of_ble_eq_true rfl) (Nat.le_of_ble_eq_true rfl) (Nat.le_of_ble_eq_true rfl) (Nat.le_of_ble_eq_true rfl) (Nat.le_refl _) (c_hasPlace) ?_
  refine V_if_eq rfl (fun h2 => ?_) (fun h2 => ?_)
  · skip
    refine V_vret rfl rfl rfl ?_
    exfalso
    grind [b2i, i32_ti]
  · skip
    refine V_go 1 rfl ?_
    refine V_if_lt rfl (fun h3 => ?_) (fun h3 => ?_)
    · skip
      refine V_vret rfl rfl rfl ?_
      exfalso
      grind [b2i, i32_ti]
    · skip
      refine V_go 2 rfl ?_
      refine V_icmp_le rfl (fun h4 => ?_) (fun h4 => ?_)
      · skip
        refine V_go 4 rfl ?_
        refine V_iast rfl rfl (Nat.le_of_ble_eq_true rfl) (inb_ofN (by decide) (by grind [b2i, i32_ti, tcn]) (by grind [b2i, i32_ti, tcn])) ?_
        refine V_go 4 rfl ?_
        refine V_iast rfl rfl (Nat.le_of_ble_eq_true rfl) (inb_ofN (by decide) (by grind [b2i, i32_ti, tcn]) (by grind [b2i, i32_ti, tcn])) ?_
        refine V_go 2 rfl ?_
        have e := (key N).un 0 (Nat.zero_add _) trivial
        rw [sZero_0, show I 37 = (up2 (up2 I 35 x.toNatClampNeg k) 36 x.toNatClampNeg (i32 N)) 37 from by rw [up2_ne (by omega), up2_ne (by omega)], row2_self] at e
        exact e
      · skip
        refine V_vret rfl rfl rfl ?_
        exfalso
        grind [b2i, i32_ti]
