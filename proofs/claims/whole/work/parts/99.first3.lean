theorem z_m0 {I1 : I2} : SZ I1 38 7 = 0 ∧ SZ I1 38 8 = 60 ∧ SZ I1 38 4 = 0 ∧ SZ I1 38 12 = 0 ∧ SZ I1 38 14 = 0 := ⟨rfl, rfl, rfl, rfl, rfl⟩
theorem z_c0 {I1 : I2} : SZ I1 7 2 = 0 ∧ SZ I1 7 3 = 60 ∧ SZ I1 7 4 = 0 ∧ SZ I1 7 5 = 0 ∧ SZ I1 7 9 = 0 := ⟨rfl, rfl, rfl, rfl, rfl⟩
theorem z_mc {I1 : I2} {J1 : J2} : MC 1 (SZ I1) (JZ J1) T0 (cOf (SZ I1) 7) := by
  obtain ⟨a1, a2, a3, a4, a5⟩ := z_m0 (I1 := I1)
  obtain ⟨b1, b2, b3, b4, b5⟩ := z_c0 (I1 := I1)
  have hcr := z_cr (I1 := I1)
  have hev := z_ev (I1 := I1) (J1 := J1)
  generalize SZ I1 = I at *
  have en : nC (cOf I 7) = 0 := by show (I 7 5).toNatClampNeg = 0; rw [b4]; rfl
  have em : mC (cOf I 7) = 0 := by show (I 7 9).toNatClampNeg = 0; rw [b5]; rfl
  refine ⟨⟨fun j hj => ?_, fun g j _ _ hj => ?_, fun g j _ _ hj => ?_⟩, hcr, hev⟩
  · match j, hj with
    | 0, _ => exact a1.trans b1.symm
    | 1, _ => exact a2.trans b2.symm
    | 2, _ => exact a3.trans b3.symm
    | 3, _ => exact a4.trans b4.symm
    | 4, _ => exact a5.trans b5.symm
  · rw [en] at hj; exact absurd hj (Nat.not_lt_zero _)
  · rw [em] at hj; exact absurd hj (Nat.not_lt_zero _)

