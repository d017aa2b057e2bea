/-! what the class's first text says, and the first relation -/
set_option maxRecDepth 20000 in
theorem z_r {I1 : I2} : SZ I1 1 = I1 1 ∧ SZ I1 2 = I1 2 ∧ SZ I1 3 = I1 3 := ⟨rfl, rfl, rfl⟩
theorem z_v0 {c e stk names : Nat → Int32} (hc : c 0 = -2) (he : e 0 = 1) : vVal c e stk 0 0 names = vCl 0 (names 1) := by
  show vCl 0 ((vRun names (fun i => c (160 * 0 + i)) (vCnt 0 (e 0)) 0 (0, stk)).2 0) = _
  rw [he, show vCnt 0 1 = 1 from by decide]
  show vCl 0 ((vStep names (c 0) (0, stk)).2 0) = _
  rw [hc]
  rfl
theorem z_v1 {c e stk names : Nat → Int32} (hc : c 1 = 3) (he : e 0 = 1) (he1 : e 1 = 2) : vVal c e stk 0 1 names = vCl 1 3 := by
  show vCl 1 ((vRun names (fun i => c (160 * 0 + i)) (vCnt (e 0) (e 1)) (e 0).toNatClampNeg (0, stk)).2 0) = _
  rw [he, he1, show vCnt 1 2 = 1 from by decide, show (1 : Int32).toNatClampNeg = 1 from rfl]
  show vCl 1 ((vStep names (c 1) (0, stk)).2 0) = _
  rw [hc]
  rfl
theorem z_v2 {c e stk names : Nat → Int32} (hc : c 2 = 1) (he : e 1 = 2) (he1 : e 2 = 3) : vVal c e stk 0 2 names = vCl 2 1 := by
  show vCl 2 ((vRun names (fun i => c (160 * 0 + i)) (vCnt (e 1) (e 2)) (e 1).toNatClampNeg (0, stk)).2 0) = _
  rw [he, he1, show vCnt 2 3 = 1 from by decide, show (2 : Int32).toNatClampNeg = 2 from rfl]
  show vCl 2 ((vStep names (c 2) (0, stk)).2 0) = _
  rw [hc]
  rfl
theorem z_evc {I I1 : I2} (h : Tx1 I I1) : EvC (SZ I1) T0 := by
  obtain ⟨-, h0, c0, c1, c2, e0, e1, e2⟩ := h
  obtain ⟨r1, r2, r3⟩ := z_r (I1 := I1)
  unfold EvC
  rw [r1, r2, r3, h0]
  refine ⟨by decide, by decide, fun t part stk names ht ht6 hp => ?_⟩
  have h1 : t < 1 := (i32_lt (a := t) (b := 1) (by omega) (by omega)).mp ht
  obtain rfl : t = 0 := by omega
  have hq : part = 0 ∨ part = 1 ∨ part = 2 := by omega
  rcases hq with rfl | rfl | rfl
  · rw [z_v0 c0 e0]
    unfold T0 tVal
    rw [show (0 + 1 : Nat) = 1 from rfl, bZ_v0]
    rfl
  · rw [z_v1 c1 e0 e1]
    unfold T0 tVal
    rw [show (1 + 1 : Nat) = 2 from rfl, bZ_v1]
  · rw [z_v2 c2 e1 e2]
    unfold T0 tVal
    rw [show (2 + 1 : Nat) = 3 from rfl, bZ_v2]
theorem z_k {I1 : I2} : SZ I1 5 2 = 0 ∧ SZ I1 38 6 = 0 := ⟨rfl, rfl⟩
theorem z_rl {I I1 : I2} {J1 : J2} (h : Tx1 I I1) : Rl 1 0 T0 (SZ I1) (JZ J1) := by
  have h1 : SZ I1 1 0 = i32 1 := by rw [z_r.1, h.2.1]; rfl
  refine ⟨Cok.of z_cr (z_evc h) h1, z_mc, h1, ?_, ⟨z_k.1, z_k.2, Nat.zero_le _, fun j hj => absurd hj (Nat.not_lt_zero _)⟩, z_sr, z_kp⟩
  show SZ I1 7 2 ≤ 999
  rw [z_c0.1]
  decide
