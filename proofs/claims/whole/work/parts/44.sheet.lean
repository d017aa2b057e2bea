def shR (s k n : Int32) : Int32 := if 0 ≤ s ∧ s < 4 then (if k = -1 then 1 else if (0 ≤ k ∧ k ≤ 2) ∧ n ≤ 40 then (if n < 0 then -14 else 1) else -2) else -2
def shM (I : I2) (s k n : Int32) : I2 := if 0 ≤ s ∧ s < 4 then (if k = -1 then fLay I s.toNatClampNeg (-1) 0 else if (0 ≤ k ∧ k ≤ 2) ∧ n ≤ 40 then (if n < 0 then I else fLay I s.toNatClampNeg k n.toNatClampNeg) else I) else I
theorem n40 {n : Int32} (h0 : 0 ≤ n) (h : n ≤ 40) : n.toNatClampNeg ≤ 40 := by
  have h1 := tcn n h0
  have h4 : Lean.Grind.ToInt.toInt n = n.toInt := rfl
  have h2 := Int32.le_iff_toInt_le.mp h
  have h3 : (40 : Int32).toInt = 40 := rfl
  omega

theorem c_sheet {s k n : Int32} {I : I2} {J : J2} : CT mX6_sheet 3 58 58 [.ref 0, .int s, .int k, .int n] I J RF (RI RF (shR s k n) (shM I s k n) J) := by
  refine CT_of okX6_sheet (Nat.le_of_ble_eq_true rfl) ?_
  show V _ _ _ _ _ _ [(0, _), (1, _), (2, _), (3, _)] _ _ _ _ _
  refine V_go 3 rfl ?_
  refine cVI (mt' := mX4_hasPlace) rfl kX6_192 fX4_hasPlace rfl rfl rfl (Nat.le_of_ble_eq_true rfl) (Nat.le_of_ble_eq_true rfl) (Nat.le_of_ble_eq_true rfl) (Nat.le_of_ble_eq_true rfl) (Nat.le_refl _) (c_hasPlace) ?_
  refine V_if_ne rfl (fun h2 => ?_) (fun h2 => ?_)
  · skip
    obtain ⟨p0, p4⟩ := b2i_eq1.mp ((b2i_or _).resolve_left h2)
    refine V_go 2 rfl ?_
    refine V_icmp_ne rfl (fun h7 => ?_) (fun h7 => ?_)
    · skip
      refine V_go 1 rfl ?_
      refine cSI (mt' := mX4_isSort) rfl kX6_258 fX4_isSort rfl (Nat.le_of_ble_eq_true rfl) (Nat.le_of_ble_eq_true rfl) (Nat.le_refl _) (c_isSort) ?_
      refine V_if_eq rfl (fun h9 => ?_) (fun h9 => ?_)
      · skip
        refine V_go 1 rfl ?_
        refine V_iret rfl rfl rfl ?_
        refine RI.mk2 ?_ ?_
        · unfold shR
          rw [if_pos ⟨p0, p4⟩, if_neg (by assumption), if_neg (fun q => by
            first
              | exact absurd (b2i_1 q.1) (by rw [show b2i _ = 0 from by assumption]; decide)
              | exact absurd q.2 (by first | assumption | exact Int32.not_le.mpr (by assumption)))]
        · unfold shM
          rw [if_pos ⟨p0, p4⟩, if_neg (by assumption), if_neg (fun q => by
            first
              | exact absurd (b2i_1 q.1) (by rw [show b2i _ = 0 from by assumption]; decide)
              | exact absurd q.2 (by first | assumption | exact Int32.not_le.mpr (by assumption)))]
      · skip
        refine V_go 2 rfl ?_
        refine V_icmp_le rfl (fun h10 => ?_) (fun h10 => ?_)
        · skip
          refine V_go 1 rfl ?_
          refine V_if_ge rfl (fun h11 => ?_) (fun h11 => ?_)
          · skip
            refine V_go 5 rfl ?_
            refine cVV (mt' := mX4_lay) rfl kX6_236 fX4_lay rfl rfl rfl (Nat.le_of_ble_eq_true rfl) (Nat.le_of_ble_eq_true rfl) (Nat.le_of_ble_eq_true rfl) (Nat.le_of_ble_eq_true rfl) (Nat.le_refl _) (c_layX (N := n.toNatClampNeg) (xn ((by first | assumption | exact Int32.not_lt.mp (by assumption)))) p0 p4 (n40 ((by first | assumption | exact Int32.not_lt.mp (by assumption))) (by assumption))) ?_
            refine V_go 1 rfl ?_
            refine V_iret rfl rfl rfl ?_
            refine RI.mk2 ?_ ?_
            · unfold shR
              rw [if_pos ⟨p0, p4⟩, if_neg (by assumption), if_pos ⟨(b2i_eq1.mp ((b2i_or _).resolve_left (by assumption))), by assumption⟩, if_neg (Int32.not_lt.mpr ((by first | assumption | exact Int32.not_lt.mp (by assumption))))]
            · unfold shM
              rw [if_pos ⟨p0, p4⟩, if_neg (by assumption), if_pos ⟨(b2i_eq1.mp ((b2i_or _).resolve_left (by assumption))), by assumption⟩, if_neg (Int32.not_lt.mpr ((by first | assumption | exact Int32.not_lt.mp (by assumption))))]
          · skip
            refine V_go 1 rfl ?_
            refine V_iret rfl rfl rfl ?_
            refine RI.mk2 ?_ ?_
            · unfold shR
              rw [if_pos ⟨p0, p4⟩, if_neg (by assumption), if_pos ⟨(b2i_eq1.mp ((b2i_or _).resolve_left (by assumption))), by assumption⟩, if_pos (Int32.not_le.mp (by assumption))]
            · unfold shM
              rw [if_pos ⟨p0, p4⟩, if_neg (by assumption), if_pos ⟨(b2i_eq1.mp ((b2i_or _).resolve_left (by assumption))), by assumption⟩, if_pos (Int32.not_le.mp (by assumption))]
        · skip
          refine V_go 1 rfl ?_
          refine V_iret rfl rfl rfl ?_
          refine RI.mk2 ?_ ?_
          · unfold shR
            rw [if_pos ⟨p0, p4⟩, if_neg (by assumption), if_neg (fun q => by
              first
                | exact absurd (b2i_1 q.1) (by rw [show b2i _ = 0 from by assumption]; decide)
                | exact absurd q.2 (by first | assumption | exact Int32.not_le.mpr (by assumption)))]
          · unfold shM
            rw [if_pos ⟨p0, p4⟩, if_neg (by assumption), if_neg (fun q => by
              first
                | exact absurd (b2i_1 q.1) (by rw [show b2i _ = 0 from by assumption]; decide)
                | exact absurd q.2 (by first | assumption | exact Int32.not_le.mpr (by assumption)))]
    · skip
      refine V_go 5 rfl ?_
      refine cVV (mt' := mX4_lay) rfl kX6_236 fX4_lay rfl rfl rfl (Nat.le_of_ble_eq_true rfl) (Nat.le_of_ble_eq_true rfl) (Nat.le_of_ble_eq_true rfl) (Nat.le_of_ble_eq_true rfl) (Nat.le_refl _) (c_layX (N := 0) rfl p0 p4 (by omega)) ?_
      refine V_go 1 rfl ?_
      refine V_iret rfl rfl rfl ?_
      refine RI.mk2 ?_ ?_
      · unfold shR
        rw [if_pos ⟨p0, p4⟩, if_pos (by assumption)]
      · unfold shM
        rw [if_pos ⟨p0, p4⟩, if_pos (by assumption)]
  · skip
    refine V_go 1 rfl ?_
    refine V_iret rfl rfl rfl ?_
    refine RI.mk2 ?_ ?_
    · unfold shR
      rw [if_neg (fun q => absurd (b2i_1 q) (by rw [show b2i _ = 0 from by assumption]; decide))]
    · unfold shM
      rw [if_neg (fun q => absurd (b2i_1 q) (by rw [show b2i _ = 0 from by assumption]; decide))]
def ceR (I : I2) (s i : Int32) : Int32 := if 0 ≤ s ∧ s < 4 then (if I 35 s.toNatClampNeg = -1 then -11 else if 0 ≤ i ∧ i < I 36 s.toNatClampNeg ∧ i < 40 then 1 else -12) else -2
def ceM (I : I2) (s i v : Int32) : I2 := if 0 ≤ s ∧ s < 4 then (if I 35 s.toNatClampNeg = -1 then I else if 0 ≤ i ∧ i < I 36 s.toNatClampNeg ∧ i < 40 then up2 I 37 (40 * s.toNatClampNeg + i.toNatClampNeg) (sConv (I 35 s.toNatClampNeg) v) else I) else I

theorem c_cell {s i v : Int32} {I : I2} {J : J2} : CT mX6_cell 5 58 58 [.ref 0, .int s, .int i, .int v] I J RF (RI RF (ceR I s i) (ceM I s i v) J) := by
  refine CT_of okX6_cell (Nat.le_of_ble_eq_true rfl) ?_
  show V _ _ _ _ _ _ [(0, _), (1, _), (2, _), (3, _)] _ _ _ _ _
  refine V_go 3 rfl ?_
  refine cVI (mt' := mX4_hasPlace) rfl kX6_192 fX4_hasPlace rfl rfl rfl (Nat.le_of_ble_eq_true rfl) (Nat.le_of_ble_eq_true rfl) (Nat.le_of_ble_eq_true rfl) (Nat.le_of_ble_eq_true rfl) (Nat.le_refl _) (c_hasPlace) ?_
  refine V_if_ne rfl (fun h2 => ?_) (fun h2 => ?_)
  · skip
    obtain ⟨p0, p4⟩ := b2i_eq1.mp ((b2i_or _).resolve_left h2)
    refine V_go 3 rfl ?_
    refine cVI (mt' := mX4_isMissing) rfl kX6_198 fX4_isMissing rfl rfl rfl (Nat.le_of_ble_eq_true rfl) (Nat.le_of_ble_eq_true rfl) (Nat.le_of_ble_eq_true rfl) (Nat.le_of_ble_eq_true rfl) (Nat.le_refl _) (c_isMissing p0 p4) ?_
    refine V_if_eq rfl (fun h8 => ?_) (fun h8 => ?_)
    · skip
      refine V_go 4 rfl ?_
      refine cVI (mt' := mX4_hasItem) rfl kX6_261 fX4_hasItem rfl rfl rfl (Nat.le_of_ble_eq_true rfl) (Nat.le_of_ble_eq_true rfl) (Nat.le_of_ble_eq_true rfl) (Nat.le_of_ble_eq_true rfl) (Nat.le_refl _) (c_hasItem9 p0 p4) ?_
      refine V_if_ne rfl (fun h10 => ?_) (fun h10 => ?_)
      · skip
        refine V_go 5 rfl ?_
        refine cVV (mt' := mX4_store) rfl kX6_240 fX4_store rfl rfl rfl (Nat.le_of_ble_eq_true rfl) (Nat.le_of_ble_eq_true rfl) (Nat.le_of_ble_eq_true rfl) (Nat.le_of_ble_eq_true rfl) (Nat.le_refl _) (c_store p0 p4 (b2i_eq1.mp ((b2i_or _).resolve_left (show ¬ b2i (0 ≤ i ∧ i < I 36 s.toNatClampNeg ∧ i < 40) = 0 from by assumption))).1 (b2i_eq1.mp ((b2i_or _).resolve_left (show ¬ b2i (0 ≤ i ∧ i < I 36 s.toNatClampNeg ∧ i < 40) = 0 from by assumption))).2.1 (b2i_eq1.mp ((b2i_or _).resolve_left (show ¬ b2i (0 ≤ i ∧ i < I 36 s.toNatClampNeg ∧ i < 40) = 0 from by assumption))).2.2) ?_
        refine V_go 1 rfl ?_
        refine V_iret rfl rfl rfl ?_
        refine RI.mk2 ?_ ?_
        · unfold ceR
          rw [if_pos ⟨p0, p4⟩, if_neg (fun q => absurd (b2i_1 q) (by rw [show b2i (I 35 s.toNatClampNeg = -1) = 0 from by assumption]; decide)), if_pos (b2i_eq1.mp ((b2i_or _).resolve_left (show ¬ b2i (0 ≤ i ∧ i < I 36 s.toNatClampNeg ∧ i < 40) = 0 from by assumption)))]
        · unfold ceM
          rw [if_pos ⟨p0, p4⟩, if_neg (fun q => absurd (b2i_1 q) (by rw [show b2i (I 35 s.toNatClampNeg = -1) = 0 from by assumption]; decide)), if_pos (b2i_eq1.mp ((b2i_or _).resolve_left (show ¬ b2i (0 ≤ i ∧ i < I 36 s.toNatClampNeg ∧ i < 40) = 0 from by assumption)))]
      · skip
        refine V_go 1 rfl ?_
        refine V_iret rfl rfl rfl ?_
        refine RI.mk2 ?_ ?_
        · unfold ceR
          rw [if_pos ⟨p0, p4⟩, if_neg (fun q => absurd (b2i_1 q) (by rw [show b2i (I 35 s.toNatClampNeg = -1) = 0 from by assumption]; decide)), if_neg (fun q => absurd (b2i_1 q) (by rw [show b2i (0 ≤ i ∧ i < I 36 s.toNatClampNeg ∧ i < 40) = 0 from by assumption]; decide))]
        · unfold ceM
          rw [if_pos ⟨p0, p4⟩, if_neg (fun q => absurd (b2i_1 q) (by rw [show b2i (I 35 s.toNatClampNeg = -1) = 0 from by assumption]; decide)), if_neg (fun q => absurd (b2i_1 q) (by rw [show b2i (0 ≤ i ∧ i < I 36 s.toNatClampNeg ∧ i < 40) = 0 from by assumption]; decide))]
    · skip
      refine V_go 1 rfl ?_
      refine V_iret rfl rfl rfl ?_
      refine RI.mk2 ?_ ?_
      · unfold ceR
        rw [if_pos ⟨p0, p4⟩, if_pos (b2i_eq1.mp ((b2i_or _).resolve_left (show ¬ b2i (I 35 s.toNatClampNeg = -1) = 0 from by assumption)))]
      · unfold ceM
        rw [if_pos ⟨p0, p4⟩, if_pos (b2i_eq1.mp ((b2i_or _).resolve_left (show ¬ b2i (I 35 s.toNatClampNeg = -1) = 0 from by assumption)))]
  · skip
    refine V_go 1 rfl ?_
    refine V_iret rfl rfl rfl ?_
    refine RI.mk2 ?_ ?_
    · unfold ceR
      rw [if_neg (fun q => absurd (b2i_1 q) (by rw [show b2i _ = 0 from by assumption]; decide))]
    · unfold ceM
      rw [if_neg (fun q => absurd (b2i_1 q) (by rw [show b2i _ = 0 from by assumption]; decide))]
def ShOk (I : I2) : Prop := ∀ a, a < 4 → 0 ≤ I 36 a ∧ I 36 a ≤ 40
theorem ShOk.at {I : I2} (h : ShOk I) {s : Int32} (p0 : 0 ≤ s) (p4 : s < 4) : 0 ≤ I 36 s.toNatClampNeg ∧ I 36 s.toNatClampNeg ≤ 40 := by
  refine h _ ?_
  have h1 := tcn s p0
  have h4 : Lean.Grind.ToInt.toInt s = s.toInt := rfl
  have h2 := Int32.lt_iff_toInt_lt.mp p4
  have h3 : (4 : Int32).toInt = 4 := rfl
  omega
abbrev hasIts (I : I2) (s i n : Int32) : Prop := 0 ≤ i ∧ 0 ≤ n ∧ n ≤ 40 ∧ i ≤ I 36 s.toNatClampNeg - n
def coR (I : I2) (s i o j n : Int32) : Int32 := if (0 ≤ s ∧ s < 4) ∧ 0 ≤ o ∧ o < 4 then (if I 35 s.toNatClampNeg = -1 ∨ I 35 o.toNatClampNeg = -1 then -11 else if I 35 s.toNatClampNeg = I 35 o.toNatClampNeg then (if hasIts I s i n ∧ hasIts I o j n then n else -12) else -13) else -2
def coM (I : I2) (s i o j n : Int32) : I2 := if (0 ≤ s ∧ s < 4) ∧ 0 ≤ o ∧ o < 4 then (if I 35 s.toNatClampNeg = -1 ∨ I 35 o.toNatClampNeg = -1 then I else if I 35 s.toNatClampNeg = I 35 o.toNatClampNeg then (if hasIts I s i n ∧ hasIts I o j n then row2 I 37 (va_cpy (I 37) (I 37) (40 * s.toNatClampNeg + i.toNatClampNeg) (40 * o.toNatClampNeg + j.toNatClampNeg) n.toNatClampNeg) else I) else I) else I

theorem c_copy {s i o j n : Int32} {I : I2} {J : J2} (hS : ShOk I) : CT mX6_copy 5 58 58 [.ref 0, .int s, .int i, .int o, .int j, .int n] I J RF (RI RF (coR I s i o j n) (coM I s i o j n) J) := by
  refine CT_of okX6_copy (Nat.le_of_ble_eq_true rfl) ?_
  show V _ _ _ _ _ _ [(0, _), (1, _), (2, _), (3, _), (4, _), (5, _)] _ _ _ _ _
  refine V_go 3 rfl ?_
  refine cVI (mt' := mX4_hasPlace) rfl kX6_192 fX4_hasPlace rfl rfl rfl (Nat.le_of_ble_eq_true rfl) (Nat.le_of_ble_eq_true rfl) (Nat.le_of_ble_eq_true rfl) (Nat.le_of_ble_eq_true rfl) (Nat.le_refl _) (c_hasPlace) ?_
  refine V_if_eq rfl (fun h2 => ?_) (fun h2 => ?_)
  · skip
    refine V_go 1 rfl ?_
    refine V_iret rfl rfl rfl ?_
    refine RI.mk2 ?_ ?_
    · unfold coR
      rw [if_neg (fun q => by
        first
          | exact absurd (b2i_1 q.1) (by rw [show b2i (0 ≤ s ∧ s < 4) = 0 from by assumption]; decide)
          | exact absurd (b2i_1 q.2) (by rw [show b2i (0 ≤ o ∧ o < 4) = 0 from by assumption]; decide))]
    · unfold coM
      rw [if_neg (fun q => by
        first
          | exact absurd (b2i_1 q.1) (by rw [show b2i (0 ≤ s ∧ s < 4) = 0 from by assumption]; decide)
          | exact absurd (b2i_1 q.2) (by rw [show b2i (0 ≤ o ∧ o < 4) = 0 from by assumption]; decide))]
  · skip
    refine V_go 3 rfl ?_
    refine cVI (mt' := mX4_hasPlace) rfl kX6_192 fX4_hasPlace rfl rfl rfl (Nat.le_of_ble_eq_true rfl) (Nat.le_of_ble_eq_true rfl) (Nat.le_of_ble_eq_true rfl) (Nat.le_of_ble_eq_true rfl) (Nat.le_refl _) (c_hasPlace) ?_
    refine V_if_ne rfl (fun h4 => ?_) (fun h4 => ?_)
    · skip
      obtain ⟨p0, p4⟩ := b2i_eq1.mp ((b2i_or _).resolve_left (show ¬ b2i (0 ≤ s ∧ s < 4) = 0 from by assumption))
      obtain ⟨g0, g4⟩ := b2i_eq1.mp ((b2i_or _).resolve_left (show ¬ b2i (0 ≤ o ∧ o < 4) = 0 from by assumption))
      refine V_go 3 rfl ?_
      refine cVI (mt' := mX4_isMissing) rfl kX6_198 fX4_isMissing rfl rfl rfl (Nat.le_of_ble_eq_true rfl) (Nat.le_of_ble_eq_true rfl) (Nat.le_of_ble_eq_true rfl) (Nat.le_of_ble_eq_true rfl) (Nat.le_refl _) (c_isMissing p0 p4) ?_
      refine V_if_ne rfl (fun h22 => ?_) (fun h22 => ?_)
      · skip
        refine V_go 1 rfl ?_
        refine V_iret rfl rfl rfl ?_
        refine RI.mk2 ?_ ?_
        · unfold coR
          rw [if_pos ⟨⟨p0, p4⟩, g0, g4⟩, if_pos (by
            first
              | exact Or.inl (b2i_eq1.mp ((b2i_or _).resolve_left (show ¬ b2i (I 35 s.toNatClampNeg = -1) = 0 from by assumption)))
              | exact Or.inr (b2i_eq1.mp ((b2i_or _).resolve_left (show ¬ b2i (I 35 o.toNatClampNeg = -1) = 0 from by assumption))))]
        · unfold coM
          rw [if_pos ⟨⟨p0, p4⟩, g0, g4⟩, if_pos (by
            first
              | exact Or.inl (b2i_eq1.mp ((b2i_or _).resolve_left (show ¬ b2i (I 35 s.toNatClampNeg = -1) = 0 from by assumption)))
              | exact Or.inr (b2i_eq1.mp ((b2i_or _).resolve_left (show ¬ b2i (I 35 o.toNatClampNeg = -1) = 0 from by assumption))))]
      · skip
        refine V_go 3 rfl ?_
        refine cVI (mt' := mX4_isMissing) rfl kX6_198 fX4_isMissing rfl rfl rfl (Nat.le_of_ble_eq_true rfl) (Nat.le_of_ble_eq_true rfl) (Nat.le_of_ble_eq_true rfl) (Nat.le_of_ble_eq_true rfl) (Nat.le_refl _) (c_isMissing g0 g4) ?_
        refine V_if_eq rfl (fun h24 => ?_) (fun h24 => ?_)
        · skip
          refine V_go 3 rfl ?_
          refine cVI (mt' := mX4_sortOf) rfl kX6_263 fX4_sortOf rfl rfl rfl (Nat.le_of_ble_eq_true rfl) (Nat.le_of_ble_eq_true rfl) (Nat.le_of_ble_eq_true rfl) (Nat.le_of_ble_eq_true rfl) (Nat.le_refl _) (c_sortOfR p0 p4) ?_
          refine V_go 3 rfl ?_
          refine cVI (mt' := mX4_sortOf) rfl kX6_263 fX4_sortOf rfl rfl rfl (Nat.le_of_ble_eq_true rfl) (Nat.le_of_ble_eq_true rfl) (Nat.le_of_ble_eq_true rfl) (Nat.le_of_ble_eq_true rfl) (Nat.le_refl _) (c_sortOfR g0 g4) ?_
          refine V_icmp_eq rfl (fun h27 => ?_) (fun h27 => ?_)
          · skip
            refine V_go 5 rfl ?_
            refine cVI (mt' := mX4_hasItems) rfl kX6_266 fX4_hasItems rfl rfl rfl (Nat.le_of_ble_eq_true rfl) (Nat.le_of_ble_eq_true rfl) (Nat.le_of_ble_eq_true rfl) (Nat.le_of_ble_eq_true rfl) (Nat.le_refl _) (c_hasItems p0 p4) ?_
            refine V_if_eq rfl (fun h29 => ?_) (fun h29 => ?_)
            · skip
              refine V_go 1 rfl ?_
              refine V_iret rfl rfl rfl ?_
              refine RI.mk2 ?_ ?_
              · unfold coR
                rw [if_pos ⟨⟨p0, p4⟩, g0, g4⟩, if_neg (fun q => by rcases q with q | q; exact absurd (b2i_1 q) (by rw [show b2i (I 35 s.toNatClampNeg = -1) = 0 from by assumption]; decide); exact absurd (b2i_1 q) (by rw [show b2i (I 35 o.toNatClampNeg = -1) = 0 from by assumption]; decide)), if_pos (by assumption), if_neg (fun q => by
                  first
                    | exact absurd (b2i_1 q.1) (by rw [show b2i (hasIts I s i n) = 0 from by assumption]; decide)
                    | exact absurd (b2i_1 q.2) (by rw [show b2i (hasIts I o j n) = 0 from by assumption]; decide))]
              · unfold coM
                rw [if_pos ⟨⟨p0, p4⟩, g0, g4⟩, if_neg (fun q => by rcases q with q | q; exact absurd (b2i_1 q) (by rw [show b2i (I 35 s.toNatClampNeg = -1) = 0 from by assumption]; decide); exact absurd (b2i_1 q) (by rw [show b2i (I 35 o.toNatClampNeg = -1) = 0 from by assumption]; decide)), if_pos (by assumption), if_neg (fun q => by
                  first
                    | exact absurd (b2i_1 q.1) (by rw [show b2i (hasIts I s i n) = 0 from by assumption]; decide)
                    | exact absurd (b2i_1 q.2) (by rw [show b2i (hasIts I o j n) = 0 from by assumption]; decide))]
            · skip
              refine V_go 5 rfl ?_
              refine cVI (mt' := mX4_hasItems) rfl kX6_266 fX4_hasItems rfl rfl rfl (Nat.le_of_ble_eq_true rfl) (Nat.le_of_ble_eq_true rfl) (Nat.le_of_ble_eq_true rfl) (Nat.le_of_ble_eq_true rfl) (Nat.le_refl _) (c_hasItems g0 g4) ?_
              refine V_if_ne rfl (fun h31 => ?_) (fun h31 => ?_)
              · skip
                have t1 : hasIts I s i n := b2i_eq1.mp ((b2i_or _).resolve_left (show ¬ b2i (hasIts I s i n) = 0 from by assumption))
                have t2 : hasIts I o j n := b2i_eq1.mp ((b2i_or _).resolve_left (show ¬ b2i (hasIts I o j n) = 0 from by assumption))
                refine V_go 7 rfl ?_
                refine cVV (mt' := mX4_move) rfl kX6_270 fX4_move rfl rfl rfl (Nat.le_of_ble_eq_true rfl) (Nat.le_of_ble_eq_true rfl) (Nat.le_of_ble_eq_true rfl) (Nat.le_of_ble_eq_true rfl) (Nat.le_refl _) (c_move p0 p4 g0 g4 t1.1 t1.2.1 t1.2.2.1 t1.2.2.2 t2.1 t2.2.2.2 (hS.at p0 p4) (hS.at g0 g4)) ?_
                refine V_go 1 rfl ?_
                refine V_iret rfl rfl rfl ?_
                refine RI.mk2 ?_ ?_
                · unfold coR
                  rw [if_pos ⟨⟨p0, p4⟩, g0, g4⟩, if_neg (fun q => by rcases q with q | q; exact absurd (b2i_1 q) (by rw [show b2i (I 35 s.toNatClampNeg = -1) = 0 from by assumption]; decide); exact absurd (b2i_1 q) (by rw [show b2i (I 35 o.toNatClampNeg = -1) = 0 from by assumption]; decide)), if_pos (by assumption), if_pos ⟨t1, t2⟩]
                · unfold coM
                  rw [if_pos ⟨⟨p0, p4⟩, g0, g4⟩, if_neg (fun q => by rcases q with q | q; exact absurd (b2i_1 q) (by rw [show b2i (I 35 s.toNatClampNeg = -1) = 0 from by assumption]; decide); exact absurd (b2i_1 q) (by rw [show b2i (I 35 o.toNatClampNeg = -1) = 0 from by assumption]; decide)), if_pos (by assumption), if_pos ⟨t1, t2⟩]
              · skip
                refine V_go 1 rfl ?_
                refine V_iret rfl rfl rfl ?_
                refine RI.mk2 ?_ ?_
                · unfold coR
                  rw [if_pos ⟨⟨p0, p4⟩, g0, g4⟩, if_neg (fun q => by rcases q with q | q; exact absurd (b2i_1 q) (by rw [show b2i (I 35 s.toNatClampNeg = -1) = 0 from by assumption]; decide); exact absurd (b2i_1 q) (by rw [show b2i (I 35 o.toNatClampNeg = -1) = 0 from by assumption]; decide)), if_pos (by assumption), if_neg (fun q => by
                    first
                      | exact absurd (b2i_1 q.1) (by rw [show b2i (hasIts I s i n) = 0 from by assumption]; decide)
                      | exact absurd (b2i_1 q.2) (by rw [show b2i (hasIts I o j n) = 0 from by assumption]; decide))]
                · unfold coM
                  rw [if_pos ⟨⟨p0, p4⟩, g0, g4⟩, if_neg (fun q => by rcases q with q | q; exact absurd (b2i_1 q) (by rw [show b2i (I 35 s.toNatClampNeg = -1) = 0 from by assumption]; decide); exact absurd (b2i_1 q) (by rw [show b2i (I 35 o.toNatClampNeg = -1) = 0 from by assumption]; decide)), if_pos (by assumption), if_neg (fun q => by
                    first
                      | exact absurd (b2i_1 q.1) (by rw [show b2i (hasIts I s i n) = 0 from by assumption]; decide)
                      | exact absurd (b2i_1 q.2) (by rw [show b2i (hasIts I o j n) = 0 from by assumption]; decide))]
          · skip
            refine V_go 1 rfl ?_
            refine V_iret rfl rfl rfl ?_
            refine RI.mk2 ?_ ?_
            · unfold coR
              rw [if_pos ⟨⟨p0, p4⟩, g0, g4⟩, if_neg (fun q => by rcases q with q | q; exact absurd (b2i_1 q) (by rw [show b2i (I 35 s.toNatClampNeg = -1) = 0 from by assumption]; decide); exact absurd (b2i_1 q) (by rw [show b2i (I 35 o.toNatClampNeg = -1) = 0 from by assumption]; decide)), if_neg (by assumption)]
            · unfold coM
              rw [if_pos ⟨⟨p0, p4⟩, g0, g4⟩, if_neg (fun q => by rcases q with q | q; exact absurd (b2i_1 q) (by rw [show b2i (I 35 s.toNatClampNeg = -1) = 0 from by assumption]; decide); exact absurd (b2i_1 q) (by rw [show b2i (I 35 o.toNatClampNeg = -1) = 0 from by assumption]; decide)), if_neg (by assumption)]
        · skip
          refine V_go 1 rfl ?_
          refine V_iret rfl rfl rfl ?_
          refine RI.mk2 ?_ ?_
          · unfold coR
            rw [if_pos ⟨⟨p0, p4⟩, g0, g4⟩, if_pos (by
              first
                | exact Or.inl (b2i_eq1.mp ((b2i_or _).resolve_left (show ¬ b2i (I 35 s.toNatClampNeg = -1) = 0 from by assumption)))
                | exact Or.inr (b2i_eq1.mp ((b2i_or _).resolve_left (show ¬ b2i (I 35 o.toNatClampNeg = -1) = 0 from by assumption))))]
          · unfold coM
            rw [if_pos ⟨⟨p0, p4⟩, g0, g4⟩, if_pos (by
              first
                | exact Or.inl (b2i_eq1.mp ((b2i_or _).resolve_left (show ¬ b2i (I 35 s.toNatClampNeg = -1) = 0 from by assumption)))
                | exact Or.inr (b2i_eq1.mp ((b2i_or _).resolve_left (show ¬ b2i (I 35 o.toNatClampNeg = -1) = 0 from by assumption))))]
    · skip
      refine V_go 1 rfl ?_
      refine V_iret rfl rfl rfl ?_
      refine RI.mk2 ?_ ?_
      · unfold coR
        rw [if_neg (fun q => by
          first
            | exact absurd (b2i_1 q.1) (by rw [show b2i (0 ≤ s ∧ s < 4) = 0 from by assumption]; decide)
            | exact absurd (b2i_1 q.2) (by rw [show b2i (0 ≤ o ∧ o < 4) = 0 from by assumption]; decide))]
      · unfold coM
        rw [if_neg (fun q => by
          first
            | exact absurd (b2i_1 q.1) (by rw [show b2i (0 ≤ s ∧ s < 4) = 0 from by assumption]; decide)
            | exact absurd (b2i_1 q.2) (by rw [show b2i (0 ≤ o ∧ o < 4) = 0 from by assumption]; decide))]
