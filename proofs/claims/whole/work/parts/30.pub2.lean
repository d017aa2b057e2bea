theorem by_bv {n : Nat} (hn : n ≤ 8) (b : BitVec 32) : b &&& ~~~(BitVec.ofNat 32 (2 ^ n - 1)) = 0#32 ↔ b.toNat < 2 ^ n := by
  constructor
  · intro h
    refine Nat.lt_pow_two_of_testBit _ (fun i hi => ?_)
    by_cases h32 : i < 32
    · have h1 := congrArg (fun v => BitVec.getLsbD v i) h
      simp only [BitVec.getLsbD_and, BitVec.getLsbD_not, BitVec.getLsbD_ofNat, BitVec.getLsbD_zero, Nat.zero_testBit, Bool.and_false, Nat.testBit_two_pow_sub_one] at h1
      have h2 : ¬ i < n := by omega
      simp only [h32, h2, decide_true, decide_false, Bool.and_false, Bool.not_false, Bool.and_true, Bool.true_and] at h1
      exact h1
    · exact Nat.testBit_lt_two_pow (Nat.lt_of_lt_of_le b.isLt (Nat.pow_le_pow_right (by omega) (by omega)))
  · intro h
    apply BitVec.eq_of_getLsbD_eq
    intro i hi
    simp only [BitVec.getLsbD_and, BitVec.getLsbD_not, BitVec.getLsbD_ofNat, BitVec.getLsbD_zero, Nat.zero_testBit, Bool.and_false, Nat.testBit_two_pow_sub_one]
    by_cases h2 : i < n
    · simp only [hi, h2, decide_true, Bool.and_true, Bool.not_true, Bool.and_false, Bool.true_and]
    · have h3 : b.getLsbD i = false := Nat.testBit_lt_two_pow (Nat.lt_of_lt_of_le h (Nat.pow_le_pow_right (by omega) (by omega)))
      rw [h3, Bool.false_and]
theorem by_ok {n : Nat} (hn : n ≤ 8) (x : Int32) : x &&& (i32 (2 ^ n - 1) ^^^ -1) = 0 ↔ 0 ≤ x ∧ x < i32 (2 ^ n) := by
  have hb : (x &&& (i32 (2 ^ n - 1) ^^^ -1) = 0) ↔ x.toBitVec &&& ~~~(BitVec.ofNat 32 (2 ^ n - 1)) = 0#32 := by
    rw [← Int32.toBitVec_inj, Int32.toBitVec_and, Int32.toBitVec_xor, show (-1 : Int32).toBitVec = BitVec.allOnes 32 from by decide, BitVec.xor_allOnes]
    rfl
  rw [hb, by_bv hn]
  have h1 : x.toInt = if 2 * x.toBitVec.toNat < 2 ^ 32 then (x.toBitVec.toNat : Int) else (x.toBitVec.toNat : Int) - (2 ^ 32 : Nat) := BitVec.toInt_eq_toNat_cond x.toBitVec
  have h2 := x.toBitVec.isLt
  have h3 := pow_lt8 hn
  have h4 : (i32 (2 ^ n)).toInt = ((2 ^ n : Nat) : Int) := Int32.toInt_ofNat_of_lt (by omega)
  rw [Int32.le_iff_toInt_le, Int32.lt_iff_toInt_lt, Int32.toInt_zero, h4, h1]
  generalize 2 ^ n = q at *
  generalize x.toBitVec.toNat = y at *
  split <;> omega
theorem xn {x : Int32} (h : 0 ≤ x) : i32 x.toNatClampNeg = x := by
  apply Int32.toInt_inj.mp
  have h1 := tcn x h
  have h4 : Lean.Grind.ToInt.toInt x = x.toInt := rfl
  have h2 := x.toInt_lt
  rw [Int32.toInt_ofNat_of_lt (by omega)]
  omega
theorem c_spentByX {x : Int32} {o : Nat} {I : I2} {J : J2} {T : TV} (hC : Cok I o T) (p0 : 0 ≤ x) (p1 : x < 256) : CT mX0_spentBy 6 58 58 [.ref o, .int x] I J RF (RP RF (fun r I1 J1 => r = sGone T (cOf I o) x.toNatClampNeg ∧ J1 = J ∧ Sq o I I1)) := by
  have h := c_spentBy (m := x.toNatClampNeg) (J := J) hC (by grind [tcn])
  rwa [show i32 x.toNatClampNeg = x from xn p0] at h
def sBy (T : TV) (C : CC) (s : Int32) : Int32 := if 0 ≤ s ∧ s < i32 (2 ^ nC C) then sGone T C s.toNatClampNeg else -2
def sRn (T : TV) (C : CC) : Nat → CC × Int32
  | 0 => (C, 0)
  | i + 1 => ((sHold T (sRn T C i).1).1, (sRn T C i).2 + (sHold T (sRn T C i).1).2)
abbrev isIt (C : CC) (x : Int32) : Prop := 0 ≤ x ∧ x < C 0 4
theorem isIt_ok {I : I2} {T : TV} {o : Nat} (h : Cok I o T) (x : Int32) : (0 ≤ x ∧ x < I o 9 ∧ x < 6) ↔ isIt (cOf I o) x := by
  have h6 := h.2.2.2.2.2.2.2
  show _ ↔ 0 ≤ x ∧ x < I o 9
  generalize I o 9 = y at *
  constructor
  · exact fun h => ⟨h.1, h.2.1⟩
  · exact fun h => ⟨h.1, h.2, by grind⟩
abbrev isCi (C : CC) (x : Int32) : Prop := 0 ≤ x ∧ x < C 0 3
theorem isCi_ok {I : I2} {T : TV} {o : Nat} (h : Cok I o T) (x : Int32) : (0 ≤ x ∧ x < I o 5 ∧ x < 8) ↔ isCi (cOf I o) x := by
  have h6 := h.2.2.2.2.2.1
  show _ ↔ 0 ≤ x ∧ x < I o 5
  generalize I o 5 = y at *
  constructor
  · exact fun h => ⟨h.1, h.2.1⟩
  · exact fun h => ⟨h.1, h.2, by grind⟩
theorem b2i_c {p q : Prop} [Decidable p] [Decidable q] (h : p ↔ q) : b2i p = b2i q := by
  unfold b2i
  simp only [h]
theorem isIt_n {C : CC} {x : Int32} (h : isIt C x) : x.toNatClampNeg < mC C ∧ x = i32 x.toNatClampNeg := by
  have h : 0 ≤ x ∧ x < C 0 4 := h
  unfold mC
  generalize C 0 4 = y at *
  refine ⟨?_, (xn h.1).symm⟩
  have h1 := tcn x h.1
  have h2 := tcn y (by grind)
  have h3 := Int32.lt_iff_toInt_lt.mp h.2
  have h4 : Lean.Grind.ToInt.toInt x = x.toInt := rfl
  have h5 : Lean.Grind.ToInt.toInt y = y.toInt := rfl
  omega
theorem isCi_n {C : CC} {x : Int32} (h : isCi C x) : x.toNatClampNeg < nC C ∧ x = i32 x.toNatClampNeg := by
  have h : 0 ≤ x ∧ x < C 0 3 := h
  unfold nC
  generalize C 0 3 = y at *
  refine ⟨?_, (xn h.1).symm⟩
  have h1 := tcn x h.1
  have h2 := tcn y (by grind)
  have h3 := Int32.lt_iff_toInt_lt.mp h.2
  have h4 : Lean.Grind.ToInt.toInt x = x.toInt := rfl
  have h5 : Lean.Grind.ToInt.toInt y = y.toInt := rfl
  omega
theorem c_by {x : Int32} {I : I2} {J : J2} {T : TV} (hC : Cok I 7 T) : CT mX6_by 8 58 58 [.ref 0, .int x] I J RF (RP RF (fun r I1 J1 => r = sBy T (cOf I 7) x ∧ J1 = J ∧ Scr I I1)) := by
  obtain ⟨hN8, hM6⟩ := nC8 hC
  obtain ⟨hev, hp, hp1⟩ := evr hC
  
  refine CT_of okX6_by (Nat.le_of_ble_eq_true rfl) ?_
  show V _ _ _ _ _ _ [(0, _), (1, _)] _ _ _ _ _
  refine V_go 3 rfl ?_
  refine cVI (mt' := mX0_everyone) rfl kX6_161 fX0_everyone rfl rfl rfl (Nat.le_of_ble_eq_true rfl) (Nat.le_of_ble_eq_true rfl) (Nat.le_of_ble_eq_true rfl) (Nat.le_of_ble_eq_true rfl) (Nat.le_refl _) (c_everyone (by unfold oC; decide)) ?_
  refine V_go 3 rfl ?_
  refine V_if_ne rfl (fun h2 => ?_) (fun h2 => ?_)
  · skip
    have hby : ¬ (0 ≤ x ∧ x < i32 (2 ^ nC (cOf I 7))) := by
      rw [hev] at h2
      exact fun h => h2 ((by_ok hN8 x).mpr h)
    refine V_go 1 rfl ?_
    refine V_iret rfl rfl rfl ?_
    first
      | exact RP.mk ⟨by rw [hv]; unfold sBy; rw [if_pos hby], rfl, hq.scr7⟩
      | exact RP.mk ⟨by unfold sBy; rw [if_neg hby], rfl, Scr.rf⟩
  · skip
    have hby : 0 ≤ x ∧ x < i32 (2 ^ nC (cOf I 7)) := by
      rw [hev] at h2
      exact (by_ok hN8 x).mp (by simpa using h2)
    refine V_go 3 rfl ?_
    refine cVP (mt' := mX0_spentBy) rfl kX6_164 fX0_spentBy rfl rfl rfl (Nat.le_of_ble_eq_true rfl) (Nat.le_of_ble_eq_true rfl) (Nat.le_of_ble_eq_true rfl) (Nat.le_of_ble_eq_true rfl) (Nat.le_refl _) (c_spentByX hC hby.1 (by have h := hby.2; have := hp; grind [i32_ti])) ?_
    intro r3 Ir3 Jr3 h3
    obtain ⟨hv, rfl, hq⟩ := h3
    refine V_go 1 rfl ?_
    refine V_iret rfl rfl rfl ?_
    first
      | exact RP.mk ⟨by rw [hv]; unfold sBy; rw [if_pos hby], rfl, hq.scr7⟩
      | exact RP.mk ⟨by unfold sBy; rw [if_neg hby], rfl, Scr.rf⟩
