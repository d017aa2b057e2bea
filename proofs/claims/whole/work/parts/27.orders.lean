/-- the first of 40 sittings by which so many minutes are there -/
def aft (Mt : Nat → Int32) (x : Int32) : Nat → Nat → Nat
  | 0, i => i
  | n + 1, i => if Mt i < x then aft Mt x n (i + 1) else i
def tryF (g : Nat → (Int32 × Int32) → (Int32 × Int32)) : Nat → (Int32 × Int32) → (Int32 × Int32)
  | 0, s => s
  | i + 1, s => g i (tryF g i s)
def tryE (sum dg : Int32) (s : Int32 × Int32) : Int32 × Int32 := if sum < s.1 then (sum, dg) else s
/-- all orders of what waits, tried one behind the other: the least sum, its digits -/
def tryS (R Mt : Nat → Int32) (f : Int32) : Nat → Nat → Int32 → Int32 → Int32 → (Int32 × Int32) → (Int32 × Int32)
  | 0, _, _, sum, dg, s => tryE sum dg s
  | k + 1, w, mi, sum, dg, s => if w = 0 then tryE sum dg s else tryF (fun i s => if w.testBit i then tryS R Mt f k (w - 2 ^ i) (mi + R i) (sum + (f + i32 (aft Mt (mi + R i) 40 0))) (dg * 10 + i32 i + 1) s else s) 6 s
def memO (I : I2) (s : Int32 × Int32) : I2 := up2 (up2 I 31 3 s.2) 31 4 s.1
theorem memO_self (I : I2) : memO I (I 31 4, I 31 3) = I := by
  funext a b
  simp only [memO, up2_rd]
  grind
theorem memO_row (I : I2) (s : Int32 × Int32) (a : Nat) (h : a ≠ 31) : memO I s a = I a := by
  unfold memO
  rw [up2_ne h, up2_ne h]
theorem memO_rd (I : I2) (s : Int32 × Int32) : memO I s 31 4 = s.1 ∧ memO I s 31 3 = s.2 ∧ memO I s 31 2 = I 31 2 := by
  simp [memO, up2_rd]
theorem memO_set (I : I2) (s : Int32 × Int32) (x y : Int32) : up2 (up2 (memO I s) 31 4 x) 31 3 y = memO I (x, y) := by
  funext a b
  simp only [memO, up2_rd]
  grind
theorem wbit : ∀ w, w < 64 → ∀ i, i < 6 → (i32 w >>> (i32 i &&& 31)) &&& 1 = if w.testBit i then 1 else 0 := by decide +kernel
theorem wclr : ∀ w, w < 64 → ∀ i, i < 6 → w.testBit i = true → i32 w &&& ((1 : Int32) <<< (i32 i &&& 31) ^^^ -1) = i32 (w - 2 ^ i) := by decide +kernel
theorem i32_0 {w : Nat} (h : w < 64) : i32 w = 0 ↔ w = 0 := by grind [i32_ti]
theorem c_sittingAfter {x : Int32} {I : I2} {J : J2} : CT mX2_sittingAfter 1 58 58 [.ref 31, .int x] I J RF (RI RF (I 31 2 + i32 (aft (I 33) x 40 0)) I J) := by
  refine CT_of okX2_sittingAfter (Nat.le_of_ble_eq_true rfl) ?_
  show V _ _ _ _ _ _ [(0, _), (1, _)] _ _ _ _ _
  have key : ∀ n, Hid (∀ (i : Nat), i + n = 40 → True → V mX2_sittingAfter none 1 58 (RI RF (I 31 2 + i32 (aft (I 33) x n i)) I J) 2 [(0, .ref 31), (1, .int x), (2, .int (i32 i))] [] 58 I J RF) := by
    intro n
    induction n with
    | zero =>
      unfold Hid
      intro i  hi _
      refine V_go 4 rfl ?_
      refine V_icmp_ge rfl (fun h1 => ?_) (fun h1 => ?_)
      · skip
        refine V_go 4 rfl ?_
        refine V_iret rfl rfl rfl ?_
        exact RI.mk rfl
      · skip
        exfalso
        have h9 : i = 40 := hi
        rw [h9] at h1
        exact h1 (by decide)
    | succ n ih =>
      unfold Hid
      intro i  hi _
      refine V_go 4 rfl ?_
      refine V_icmp_ge rfl (fun h1 => ?_) (fun h1 => ?_)
      · skip
        exfalso
        exact lp_more (i := i) (N := 40) (by omega) (by omega) h1
      · skip
        refine V_go 3 rfl ?_
        refine V_iald rfl rfl (Nat.le_of_ble_eq_true rfl) (inb_ofN (by decide) (by grind [b2i, i32_ti, tcn]) (by grind [b2i, i32_ti, tcn])) ?_
        refine V_go 1 rfl ?_
        refine V_icmp_ge rfl (fun h2 => ?_) (fun h2 => ?_)
        · skip
          refine V_go 4 rfl ?_
          refine V_iret rfl rfl rfl ?_
          exact RI.mk (by rw [aft, if_neg (by rw [tn_of (by omega)] at h2; grind)])
        · skip
          refine V_go 2 rfl ?_
          rw [show aft (I 33) x (n + 1) i = aft (I 33) x n (i + 1) from by rw [aft, if_pos (by rw [tn_of (by omega)] at h2; grind)]]
          refine V.st (L' := [(0, .ref 31), (1, .int x), (2, .int (i32 (i + 1)))]) (ih.un (i + 1) (by omega) trivial) rfl ?_
          rw [i32_s]
          simp
  refine V_go 2 rfl ?_
  exact (key 40).un 0 rfl trivial
theorem c_tryAll {I : I2} {J : J2} : ∀ (k : Nat) (s : Int32 × Int32) (w pl : Nat) (mi sum dg : Int32), pl + k = 6 → w < 64 → CT mX2_tryAll (k + 2) 58 58 [.ref 31, .int (i32 pl), .int (i32 w), .int mi, .int sum, .int dg] (memO I s) J RF (RV RF (memO I (tryS (I 32) (I 33) (I 31 2) k w mi sum dg s)) J) := by
  intro k
  induction k with
  | zero =>
    intro s w pl mi sum dg hk hw
    refine CT_of okX2_tryAll (Nat.le_of_ble_eq_true rfl) ?_
    show V _ _ _ _ _ _ [(0, _), (1, _), (2, _), (3, _), (4, _), (5, _)] _ _ _ _ _
    have e13 : V mX2_tryAll none 2 58 (RV RF (memO I (tryS (I 32) (I 33) (I 31 2) 0 w mi sum dg s)) J) 13 [(0, .ref 31), (1, .int (i32 pl)), (2, .int (i32 w)), (3, .int mi), (4, .int sum), (5, .int dg)] [] 58 (memO I s) J RF := by
      rw [tryS]
      refine V_go 3 rfl ?_
      refine V_icmp_ge rfl (fun h1 => ?_) (fun h1 => ?_)
      · skip
        refine V_vret rfl rfl rfl ?_
        simp only [memO_rd] at *
        first
          | exact RV.mk2 (by rw [tryE, if_pos (Int32.not_le.mp h1), memO_set])
          | exact RV.mk2 (by rw [tryE, if_neg (Int32.not_lt.mpr h1)])
      · skip
        refine V_go 6 rfl ?_
        refine V_vret rfl rfl rfl ?_
        simp only [memO_rd] at *
        first
          | exact RV.mk2 (by rw [tryE, if_pos (Int32.not_le.mp h1), memO_set])
          | exact RV.mk2 (by rw [tryE, if_neg (Int32.not_lt.mpr h1)])
    refine V_go 1 rfl ?_
    refine V_if_eq rfl (fun h1 => ?_) (fun h1 => ?_)
    · skip
      exact e13
    · skip
      refine V_go 4 rfl ?_
      refine V_icmp_lt rfl (fun h2 => ?_) (fun h2 => ?_)
      · skip
        exfalso
        rw [show pl = 6 from hk] at h2
        exact absurd h2 (by decide)
      · skip
        exact e13
  | succ k IH =>
    intro s w pl mi sum dg hk hw
    refine CT_of okX2_tryAll (Nat.le_of_ble_eq_true rfl) ?_
    show V _ _ _ _ _ _ [(0, _), (1, _), (2, _), (3, _), (4, _), (5, _)] _ _ _ _ _
    by_cases hw0 : w = 0
    · rw [show tryS (I 32) (I 33) (I 31 2) (k + 1) w mi sum dg s = tryE sum dg s from by rw [tryS, if_pos hw0]]
      have e13 : V mX2_tryAll none (k + 1 + 2) 58 (RV RF (memO I (tryE sum dg s)) J) 13 [(0, .ref 31), (1, .int (i32 pl)), (2, .int (i32 w)), (3, .int mi), (4, .int sum), (5, .int dg)] [] 58 (memO I s) J RF := by
        refine V_go 3 rfl ?_
        refine V_icmp_ge rfl (fun h1 => ?_) (fun h1 => ?_)
        · skip
          refine V_vret rfl rfl rfl ?_
          simp only [memO_rd] at *
          first
            | exact RV.mk2 (by rw [tryE, if_pos (Int32.not_le.mp h1), memO_set])
            | exact RV.mk2 (by rw [tryE, if_neg (Int32.not_lt.mpr h1)])
        · skip
          refine V_go 6 rfl ?_
          refine V_vret rfl rfl rfl ?_
          simp only [memO_rd] at *
          first
            | exact RV.mk2 (by rw [tryE, if_pos (Int32.not_le.mp h1), memO_set])
            | exact RV.mk2 (by rw [tryE, if_neg (Int32.not_lt.mpr h1)])
      refine V_go 1 rfl ?_
      refine V_if_eq rfl (fun h1 => ?_) (fun h1 => ?_)
      · skip
        exact e13
      · skip
        exact absurd ((i32_0 hw).mpr hw0) h1
    · rw [show tryS (I 32) (I 33) (I 31 2) (k + 1) w mi sum dg s = tryF (fun i s => if w.testBit i then tryS (I 32) (I 33) (I 31 2) k (w - 2 ^ i) (mi + I 32 i) (sum + (I 31 2 + i32 (aft (I 33) (mi + I 32 i) 40 0))) (dg * 10 + i32 i + 1) s else s) 6 s from by rw [tryS, if_neg hw0]]
      obtain ⟨g, hg⟩ : ∃ g, g = (fun i s => if w.testBit i then tryS (I 32) (I 33) (I 31 2) k (w - 2 ^ i) (mi + I 32 i) (sum + (I 31 2 + i32 (aft (I 33) (mi + I 32 i) 40 0))) (dg * 10 + i32 i + 1) s else s) := ⟨_, rfl⟩
      rw [← hg]
      have key : ∀ n, Hid (∀ (i : Nat), i + n = 6 → True → V mX2_tryAll none (k + 1 + 2) 58 (RV RF (memO I (tryF g 6 s)) J) 38 [(0, .ref 31), (1, .int (i32 pl)), (2, .int (i32 w)), (3, .int mi), (4, .int sum), (5, .int dg), (6, .int (i32 i))] [] 58 (memO I (tryF g i s)) J RF) := by
        intro n
        induction n with
        | zero =>
          unfold Hid
          intro i  hi _
          refine V_go 4 rfl ?_
          refine V_icmp_ge rfl (fun h1 => ?_) (fun h1 => ?_)
          · skip
            refine V_vret rfl rfl rfl ?_
            exact RV.mk2 (by rw [show i = 6 from hi])
          · skip
            exfalso
            have h9 : i = 6 := hi
            rw [h9] at h1
            exact h1 (by decide)
        | succ n ih =>
          unfold Hid
          intro i  hi _
          refine V_go 4 rfl ?_
          refine V_icmp_ge rfl (fun h1 => ?_) (fun h1 => ?_)
          · skip
            exfalso
            exact lp_more (i := i) (N := 6) (by omega) (by omega) h1
          · skip
            refine V_go 6 rfl ?_
            refine V_icmp_ne rfl (fun h2 => ?_) (fun h2 => ?_)
            · skip
              refine V_go 2 rfl ?_
              refine V.st (L' := [(0, .ref 31), (1, .int (i32 pl)), (2, .int (i32 w)), (3, .int mi), (4, .int sum), (5, .int dg), (6, .int (i32 (i + 1)))]) (ih.un (i + 1) (by omega) trivial) (by rw [tryF, hg]; simp only []; rw [if_neg (by have := wbit w hw i (by omega); grind)]) ?_
              rw [i32_s]
              simp
            · skip
              refine V_go 4 rfl ?_
              refine V_iald rfl rfl (Nat.le_of_ble_eq_true rfl) (inb_ofN (by decide) (by grind [i32_ti]) (by grind [i32_ti])) ?_
              refine V_go 17 rfl ?_
              refine cVI (mt' := mX2_sittingAfter) rfl kX2_51 fX2_sittingAfter rfl rfl rfl (Nat.le_of_ble_eq_true rfl) (Nat.le_of_ble_eq_true rfl) (Nat.le_of_ble_eq_true rfl) (Nat.le_of_ble_eq_true rfl) (Nat.le_refl _) (c_sittingAfter) ?_
              refine V_go 8 rfl ?_
              have hbit : w.testBit i = true := by have := wbit w hw i (by omega); grind
              simp only [memO_row I _ 32 (by omega), memO_row I _ 33 (by omega), memO_rd, tn_of (show i < 2147483648 by omega)]
              rw [wclr w hw i (by omega) hbit, ← i32_s pl]
              have hle : 2 ^ i ≤ w := Nat.ge_two_pow_of_testBit hbit
              have ihk := fun (s : Int32 × Int32) (w9 pl9 : Nat) (a b c : Int32) => IH s w9 pl9 a b c
              refine cVV (mt' := mX2_tryAll) rfl kX2_47 fX2_tryAll rfl rfl rfl (Nat.le_of_ble_eq_true rfl) (Nat.le_of_ble_eq_true rfl) (by omega) (Nat.le_of_ble_eq_true rfl) (Nat.le_refl _) (ihk (tryF g i s) (w - 2 ^ i) (pl + 1) _ _ _ (by omega) (Nat.lt_of_le_of_lt (Nat.sub_le _ _) hw)) ?_
              refine V_go 2 rfl ?_
              refine V.st (L' := [(0, .ref 31), (1, .int (i32 pl)), (2, .int (i32 w)), (3, .int mi), (4, .int sum), (5, .int dg), (6, .int (i32 (i + 1)))]) (ih.un (i + 1) (by omega) trivial) (by rw [tryF, hg]; simp only []; rw [if_pos hbit]) ?_
              rw [i32_s]
              simp
      refine V_go 1 rfl ?_
      refine V_if_eq rfl (fun h1 => ?_) (fun h1 => ?_)
      · skip
        exact absurd ((i32_0 hw).mp h1) hw0
      · skip
        refine V_go 4 rfl ?_
        refine V_icmp_lt rfl (fun h2 => ?_) (fun h2 => ?_)
        · skip
          refine V_go 2 rfl ?_
          exact (key 6).un 0 rfl trivial
        · skip
          exfalso
          grind [i32_ti]
