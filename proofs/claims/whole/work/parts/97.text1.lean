/-- the first text, byte by byte -/
def bZ : Nat → Int32 := fun i => ([114, 101, 97, 100, 115, 32, 98, 114, 105, 98, 101, 32, 59, 32, 115, 116, 105, 108, 108, 115, 32, 51, 32, 59, 32, 110, 97, 109, 101, 115, 32, 49, 32, 59, 32, 32, 32, 32, 32, 32] : List Int32).getD i 0
theorem bZ_ok : (pRd bZ 40 3).1 = true ∧ (pRd bZ 40 3).2.1.1 = 0 := by decide +kernel
theorem bZ_okT : pOkT bZ 40 := bZ_ok
set_option maxRecDepth 100000 in
theorem bZ_v0 (e : Nat → Int32) : (pRd bZ 40 1).2.2.2 e = e 1 := by rfl
set_option maxRecDepth 100000 in
theorem bZ_v1 (e : Nat → Int32) : (pRd bZ 40 2).2.2.2 e = 3 := by rfl
set_option maxRecDepth 100000 in
theorem bZ_v2 (e : Nat → Int32) : (pRd bZ 40 3).2.2.2 e = 1 := by rfl
/-- what the first text says -/
def T0 : TV := fun _ part a0 a1 a2 a3 a4 a5 => tVal bZ 40 part a0 a1 a2 a3 a4 a5
theorem i7_b {I : I2} : ∀ i, i < 40 → I7 I 39 i = bZ i := by
  intro i hi
  have h : i = 0 ∨ i = 1 ∨ i = 2 ∨ i = 3 ∨ i = 4 ∨ i = 5 ∨ i = 6 ∨ i = 7 ∨ i = 8 ∨ i = 9 ∨ i = 10 ∨ i = 11 ∨ i = 12 ∨ i = 13 ∨ i = 14 ∨ i = 15 ∨ i = 16 ∨ i = 17 ∨ i = 18 ∨ i = 19 ∨ i = 20 ∨ i = 21 ∨ i = 22 ∨ i = 23 ∨ i = 24 ∨ i = 25 ∨ i = 26 ∨ i = 27 ∨ i = 28 ∨ i = 29 ∨ i = 30 ∨ i = 31 ∨ i = 32 ∨ i = 33 ∨ i = 34 ∨ i = 35 ∨ i = 36 ∨ i = 37 ∨ i = 38 ∨ i = 39 := by omega
  rcases h with rfl | rfl | rfl | rfl | rfl | rfl | rfl | rfl | rfl | rfl | rfl | rfl | rfl | rfl | rfl | rfl | rfl | rfl | rfl | rfl | rfl | rfl | rfl | rfl | rfl | rfl | rfl | rfl | rfl | rfl | rfl | rfl | rfl | rfl | rfl | rfl | rfl | rfl | rfl | rfl <;> rfl
theorem bZ_by : ∀ i, i < 40 → 0 ≤ bZ i ∧ bZ i ≤ 255 := by decide +kernel

