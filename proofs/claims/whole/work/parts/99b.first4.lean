theorem z_sr {I1 : I2} : SR (SZ I1) (SZ I1) := by
  refine ⟨fun a ha => ?_, fun s hs => ?_⟩
  · show (0 : Int32) ≤ SZ I1 36 a ∧ SZ I1 36 a ≤ 40
    have e : SZ I1 36 a = 0 := rfl
    rw [e]; decide
  · have h : s = 0 ∨ s = 1 ∨ s = 2 ∨ s = 3 := by omega
    have e : SZ I1 35 s = -1 := by rcases h with rfl | rfl | rfl | rfl <;> rfl
    have e4 : SZ I1 54 s = 0 := rfl
    rw [e, e4]
    exact ⟨by decide, fun z => absurd rfl z⟩
theorem z_kp {I1 : I2} {C : CC} : Kept 1 (SZ I1) C := Or.inl ⟨rfl, rfl⟩

