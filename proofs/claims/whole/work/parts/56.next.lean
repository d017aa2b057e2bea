theorem lgc_lt (x y : Int64) : lg_cmp x y < 0 ↔ x < y := by
  unfold lg_cmp
  by_cases h1 : x > y
  · rw [if_pos h1]
    constructor
    · intro h; exact absurd h (by decide)
    · intro h; exact absurd (Int64.lt_trans h h1) Int64.lt_irrefl
  · rw [if_neg h1]
    by_cases h2 : x = y
    · rw [if_pos h2]
      constructor
      · intro h; exact absurd h (by decide)
      · intro h; rw [h2] at h; exact absurd h Int64.lt_irrefl
    · rw [if_neg h2]
      constructor
      · intro _; exact Int64.lt_of_le_of_ne (Int64.not_lt.mp h1) h2
      · intro _; decide
theorem lgc_gt (x y : Int64) : 0 < lg_cmp x y ↔ y < x := by
  unfold lg_cmp
  by_cases h1 : x > y
  · rw [if_pos h1]
    exact ⟨fun _ => h1, fun _ => by decide⟩
  · rw [if_neg h1]
    by_cases h2 : x = y
    · rw [if_pos h2]
      exact ⟨fun h => absurd h (by decide), fun h => absurd h h1⟩
    · rw [if_neg h2]
      exact ⟨fun h => absurd h (by decide), fun h => absurd h h1⟩
theorem lgc_eq (x y : Int64) : lg_cmp x y = 0 ↔ x = y := by
  unfold lg_cmp
  by_cases h1 : x > y
  · rw [if_pos h1]
    exact ⟨fun h => absurd h (by decide), fun h => absurd h1 (by rw [h]; exact Int64.lt_irrefl)⟩
  · rw [if_neg h1]
    by_cases h2 : x = y
    · rw [if_pos h2]
      exact ⟨fun _ => h2, fun _ => rfl⟩
    · rw [if_neg h2]
      exact ⟨fun h => absurd h (by decide), fun h => absurd h h2⟩

theorem c_in {v l h : Int64} {I : I2} {J : J2} : CT mX7_in 1 58 58 [.long v, .long l, .long h] I J RF (RI RF (b2i (l ≤ v ∧ v ≤ h)) I J) := by
  refine CT_of okX7_in (Nat.le_of_ble_eq_true rfl) ?_
  show V _ _ _ _ _ _ [(0, _), (2, _), (4, _)] _ _ _ _ _
  refine V_go 3 rfl ?_
  refine V_if_lt rfl (fun h1 => ?_) (fun h1 => ?_)
  · skip
    refine V_go 1 rfl ?_
    refine V_zret rfl rfl rfl (Or.inl rfl) ?_
    exact RI.mk (b2i_0 (fun z => absurd z.1 (Int64.not_le.mpr ((lgc_lt _ _).mp h1)))).symm
  · skip
    refine V_go 3 rfl ?_
    refine V_if_gt rfl (fun h2 => ?_) (fun h2 => ?_)
    · skip
      refine V_go 1 rfl ?_
      refine V_zret rfl rfl rfl (Or.inl rfl) ?_
      exact RI.mk (b2i_0 (fun z => absurd z.2 (Int64.not_le.mpr ((lgc_gt _ _).mp h2)))).symm
    · skip
      refine V_go 2 rfl ?_
      refine V_zret rfl rfl rfl (by first | exact Or.inl rfl | exact Or.inr rfl | exact b2i_or _ | assumption) ?_
      exact RI.mk (b2i_1 ⟨Int64.not_lt.mp (fun z => h1 ((lgc_lt _ _).mpr z)), Int64.not_lt.mp (fun z => h2 ((lgc_gt _ _).mpr z))⟩).symm
theorem c_inI {x lo hi : Int32} {v l h : Int64} {I : I2} {J : J2} (hv : v = x.toInt64) (hl : l = lo.toInt64) (hh : h = hi.toInt64) : CT mX7_in 1 58 58 [.long v, .long l, .long h] I J RF (RI RF (b2i (lo ≤ x ∧ x ≤ hi)) I J) := by
  have e := c_in (v := v) (l := l) (h := h) (I := I) (J := J)
  have e2 : b2i (l ≤ v ∧ v ≤ h) = b2i (lo ≤ x ∧ x ≤ hi) := by
    rw [hv, hl, hh]
    simp only [Int32.toInt64_le]
  rw [e2] at e
  exact e
/-- the text that the model reads now -/
def MB (t n : Nat) (b : Nat → Int32) (I : I2) : Prop := t < 6 ∧ n ≤ 160 ∧ I 38 21 = i32 (160 * t) ∧ I 38 22 = i32 n ∧ (∀ i, I 39 (160 * t + i) = b i) ∧ ∀ i, i < n → 0 ≤ b i ∧ b i ≤ 255
def mBt (b : Nat → Int32) (n p : Nat) : Int32 := if p < n then b p else -1

theorem c_byteAt {t n p : Nat} {b : Nat → Int32} {I : I2} {J : J2} (hB : MB t n b I) (hp : p ≤ 1000) : CT mX7_byteAt 1 58 58 [.ref 38, .int (i32 p)] I J RF (RI RF (mBt b n p) I J) := by
  have ht := hB.1
  have hn := hB.2.1
  refine CT_of okX7_byteAt (Nat.le_of_ble_eq_true rfl) ?_
  show V _ _ _ _ _ _ [(0, _), (1, _)] _ _ _ _ _
  refine V_go 3 rfl ?_
  try simp only [up2_rd, row2_rd, reduceIte, Nat.reduceEqDiff]
  refine V_icmp_ge rfl (fun h1 => ?_) (fun h1 => ?_)
  · skip
    rw [hB.2.2.2.1] at h1
    refine V_go 1 rfl ?_
    refine V_iret rfl rfl rfl ?_
    exact RI.mk (if_neg (fun z => absurd ((i32_le (by omega) (by omega)).mp h1) (by omega))).symm
  · skip
    rw [hB.2.2.2.1] at h1
    have hp2 : p < n := Nat.lt_of_not_le (fun z => h1 ((i32_le (by omega) (by omega)).mpr z))
    refine V_go 6 rfl ?_
    refine V_iald rfl rfl (Nat.le_of_ble_eq_true rfl) (by rw [hB.2.2.1, ← i32_add]; exact inb_i32 (by omega) (by decide)) ?_
    refine V_go 1 rfl ?_
    refine V_iret rfl rfl rfl ?_
    refine RI.mk ?_
    unfold mBt
    rw [if_pos hp2, hB.2.2.1, ← i32_add, tn_of (show 160 * t + p < 2147483648 by omega)]
    exact hB.2.2.2.2.1 p
/-- what stands in the model of the token ahead -/
def MTk (b : Nat → Int32) (n : Nat) (I : I2) (J : J2) (s : PT) : Prop := I 38 25 = i32 s.2.1 ∧
  ((I 38 24 = 0 ∧ s.1 = 0 ∧ I 38 23 = i32 s.2.2.1) ∨
   (I 38 24 = 1 ∧ I 38 23 = i32 s.2.2.1 ∧ s.1 = wTok (bts b s.2.1 (s.2.2.1 - s.2.1)) ∧ s.2.1 ≤ s.2.2.1 ∧ ∀ j, s.2.1 ≤ j → j < s.2.2.1 → isLe (b j) = true) ∨
   (I 38 24 = 2 ∧ s.1 = 2 ∧ I 38 23 = i32 s.2.2.1 ∧ J 38 26 = s.2.2.2.toInt64) ∨
   (I 38 24 = 3 ∧ isSi s.1 = true ∧ I 38 23 = i32 s.2.2.1 ∧ J 38 26 = s.1.toInt64) ∨
   (I 38 24 = 4 ∧ s.1 = 1))
def NFr (I : I2) (J : J2) (I9 : I2) (J9 : J2) : Prop := (∀ o, o ≠ 38 → I9 o = I o ∧ J9 o = J o) ∧ ∀ k, k < 23 ∨ 25 < k → I9 38 k = I 38 k
theorem mBt_in {b : Nat → Int32} {n p : Nat} {lo hi : Int32} (hl : -1 < lo) : (lo ≤ mBt b n p ∧ mBt b n p ≤ hi) ↔ p < n ∧ lo ≤ b p ∧ b p ≤ hi := by
  unfold mBt
  by_cases h : p < n
  · rw [if_pos h]
    exact ⟨fun z => ⟨h, z⟩, fun z => z.2⟩
  · rw [if_neg h]
    exact ⟨fun z => absurd z.1 (Int32.not_le.mpr hl), fun z => absurd z.1 h⟩
theorem mBt_p {b : Nat → Int32} {n p : Nat} (h : p < n) : mBt b n p = b p := if_pos h
theorem mBt_n {b : Nat → Int32} {n p : Nat} (h : ¬ p < n) : mBt b n p = -1 := if_neg h
/-- a digit more -/
theorem wrt_s {x y : Int32} (h1 : 0 ≤ x) (h2 : x < 1000) (h3 : 48 ≤ y) (h4 : y ≤ 57) : (10 : Int64) * x.toInt64 + y.toInt64 - 48 = (x * 10 + y - 48).toInt64 := by
  have a1 := Int32.le_iff_toInt_le.mp h1
  have a2 := Int32.lt_iff_toInt_lt.mp h2
  have a3 := Int32.le_iff_toInt_le.mp h3
  have a4 := Int32.le_iff_toInt_le.mp h4
  rw [show (0 : Int32).toInt = 0 from rfl] at a1
  rw [show (1000 : Int32).toInt = 1000 from rfl] at a2
  rw [show (48 : Int32).toInt = 48 from rfl] at a3
  rw [show (57 : Int32).toInt = 57 from rfl] at a4
  have e1 : (x * 10 + y - 48).toInt = x.toInt * 10 + y.toInt - 48 := by
    rw [Int32.toInt_sub, Int32.toInt_add, Int32.toInt_mul, show (10 : Int32).toInt = 10 from rfl, show (48 : Int32).toInt = 48 from rfl]
    rw [Int.bmod_eq_of_le (by omega) (by omega) (n := x.toInt * 10), Int.bmod_eq_of_le (by omega) (by omega) (n := x.toInt * 10 + y.toInt), Int.bmod_eq_of_le (by omega) (by omega)]
  rw [← Int64.toInt_inj, Int32.toInt_toInt64, e1]
  rw [Int64.toInt_sub, Int64.toInt_add, Int64.toInt_mul, Int32.toInt_toInt64, Int32.toInt_toInt64, show (10 : Int64).toInt = 10 from rfl, show (48 : Int64).toInt = 48 from rfl]
  rw [Int.bmod_eq_of_le (by omega) (by omega) (n := 10 * x.toInt), Int.bmod_eq_of_le (by omega) (by omega) (n := 10 * x.toInt + y.toInt), Int.bmod_eq_of_le (by omega) (by omega)]
  omega

