/-- the first text, byte by byte -/
def bZ : Nat → Int32 := fun i => ([114, 101, 97, 100, 115, 32, 98, 114, 105, 98, 101, 32, 59, 32, 115, 116, 105, 108, 108, 115, 32, 51, 32, 59, 32, 110, 97, 109, 101, 115, 32, 49, 32, 59, 32, 32, 32, 32, 32, 32] : List Int32).getD i 0
theorem bZ_ok : (pRd bZ 40 3).1 = true ∧ (pRd bZ 40 3).2.1.1 = 0 := by decide +kernel
theorem bZ_okT : pOkT bZ 40 := bZ_ok
theorem bZ_by : ∀ i, i < 40 → 0 ≤ bZ i ∧ bZ i ≤ 255 := by decide +kernel

