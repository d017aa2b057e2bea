abbrev SZ (I1 : I2) : I2 := I7 (row2 (I6 I1) 38 fun _ => 0)
abbrev JZ (J1 : J2) : J2 := J7 (row2 J1 38 fun _ => 0)
theorem z_b {I1 : I2} : ∀ i, i < 40 → SZ I1 39 (160 * 0 + i) = bZ i := fun i hi => by rw [Nat.mul_zero, Nat.zero_add]; exact i7_b i hi
theorem z_ev {I1 : I2} {J1 : J2} : EvM 1 (SZ I1) (JZ J1) T0 := by
  refine ⟨rfl, by omega, by omega, fun r hr => ?_, fun r part b0 b1 b2 b3 b4 b5 hr hp => ?_, fun p hp => Or.inl rfl⟩
  · obtain rfl : r = 0 := by omega
    exact ⟨40, rfl, by omega, fun i hi => by rw [z_b i hi]; exact bZ_by i hi, (pOkT_c z_b).mpr bZ_okT⟩
  · obtain rfl : r = 0 := by omega
    unfold T0 tVal wOf
    rw [show (SZ I1 40 0).toNatClampNeg = 40 from rfl, pRd_c z_b]
theorem z_cr {I1 : I2} : Cr 1 (cOf (SZ I1) 7) := by
  refine ⟨?_, ?_, ?_, ?_, ?_, fun c hc => ?_, fun i hi => ?_⟩
  · show (0 : Int32) ≤ 0 ∧ (0 : Int32) ≤ 1100; decide
  · show (0 : Int32) ≤ 60 ∧ (60 : Int32) ≤ 600; decide
  · show (0 : Int32) ≤ 0 ∧ (0 : Int32) < 1; decide
  · show (0 : Int32) ≤ 0 ∧ (0 : Int32) ≤ 8; decide
  · show (0 : Int32) ≤ 0 ∧ (0 : Int32) ≤ 6; decide
  · exact absurd hc (Nat.not_lt_zero _)
  · exact absurd hi (Nat.not_lt_zero _)

