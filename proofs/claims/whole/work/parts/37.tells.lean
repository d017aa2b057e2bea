/-! which of the first so many give what was told: their bits, how many, the least, what they share, what some of them have -/
def fB (f : Nat → Int32) (mi : Int32) : Nat → Nat
  | 0 => 0
  | k + 1 => if f k = mi then fB f mi k + 2 ^ k else fB f mi k
def fN (f : Nat → Int32) (mi : Int32) : Nat → Nat
  | 0 => 0
  | k + 1 => if f k = mi then fN f mi k + 1 else fN f mi k
def fL (f : Nat → Int32) (mi : Int32) : Nat → Int32
  | 0 => -1
  | k + 1 => if f k = mi ∧ fN f mi k = 0 then i32 k else fL f mi k
def fA (f : Nat → Int32) (mi m : Int32) : Nat → Int32
  | 0 => m
  | k + 1 => if f k = mi then fA f mi m k &&& i32 k else fA f mi m k
def fO (f : Nat → Int32) (mi : Int32) : Nat → Int32
  | 0 => 0
  | k + 1 => if f k = mi then fO f mi k ||| i32 k else fO f mi k
theorem fB_lt (f : Nat → Int32) (mi : Int32) : ∀ k, fB f mi k < 2 ^ k
  | 0 => by simp [fB]
  | k + 1 => by
    have h := fB_lt f mi k
    rw [fB, Nat.pow_succ]
    split <;> omega
theorem fN_le (f : Nat → Int32) (mi : Int32) : ∀ k, fN f mi k ≤ k
  | 0 => Nat.le_refl _
  | k + 1 => by
    have h := fN_le f mi k
    rw [fN]
    split <;> omega
theorem orb10 : ∀ i, i < 10 → ∀ m, m < 2 ^ i → i32 m ||| (1 : Int32) <<< (i32 i &&& 31) = i32 (m + 2 ^ i) := by decide +kernel
theorem f_y {f : Nat → Int32} {mi : Int32} {k : Nat} (h : f k = mi) : fB f mi (k + 1) = fB f mi k + 2 ^ k ∧ fN f mi (k + 1) = fN f mi k + 1 ∧ (∀ m, fA f mi m (k + 1) = fA f mi m k &&& i32 k) ∧ fO f mi (k + 1) = fO f mi k ||| i32 k := ⟨if_pos h, if_pos h, fun _ => if_pos h, if_pos h⟩
theorem f_n {f : Nat → Int32} {mi : Int32} {k : Nat} (h : ¬ f k = mi) : fB f mi (k + 1) = fB f mi k ∧ fN f mi (k + 1) = fN f mi k ∧ (∀ m, fA f mi m (k + 1) = fA f mi m k) ∧ fO f mi (k + 1) = fO f mi k ∧ fL f mi (k + 1) = fL f mi k := ⟨if_neg h, if_neg h, fun _ => if_neg h, if_neg h, if_neg (fun h' => h h'.1)⟩
theorem fL_y {f : Nat → Int32} {mi : Int32} {k : Nat} (h : f k = mi) (h2 : i32 (fN f mi k) = 0) (hk : k < 1000) : fL f mi (k + 1) = i32 k := if_pos ⟨h, (i32_z (by have := fN_le f mi k; omega)).mp h2⟩
theorem fL_n {f : Nat → Int32} {mi : Int32} {k : Nat} (h2 : ¬ i32 (fN f mi k) = 0) (hk : k < 1000) : fL f mi (k + 1) = fL f mi k := if_neg (fun h' => h2 ((i32_z (by have := fN_le f mi k; omega)).mpr h'.2))
def sWay (T : TV) (C : CC) (mi w : Int32) : Int32 :=
  if w = 0 then i32 (fN (sGone T C) mi (2 ^ nC C)) else if w = 1 then fL (sGone T C) mi (2 ^ nC C) else if fN (sGone T C) mi (2 ^ nC C) = 0 then 0 else if w = 2 then fA (sGone T C) mi (i32 (2 ^ nC C - 1)) (2 ^ nC C) else i32 (2 ^ nC C - 1) &&& (fO (sGone T C) mi (2 ^ nC C) ^^^ -1)

theorem c_ways {mi w : Int32} {I : I2} {J : J2} {T : TV} (hC : Cok I 7 T) : CT mX6_ways 8 58 58 [.ref 0, .int mi, .int w] I J RF (RP RF (fun r I1 J1 => r = sWay T (cOf I 7) mi w ∧ J1 = J ∧ Scr I I1)) := by
  obtain ⟨hN8, hM6⟩ := nC8 hC
  obtain ⟨hev, hp, hp1⟩ := evr hC
  have key : ∀ n, Hid (∀ (i : Nat) (I1 : I2), i + n = 2 ^ nC (cOf I 7) → Sq 7 I I1 → V mX6_ways none 8 58 (RP RF (fun r I1 J1 => r = sWay T (cOf I 7) mi w ∧ J1 = J ∧ Scr I I1)) 23 [(0, .ref 0), (1, .int mi), (2, .int w), (3, .int (i32 (2 ^ nC (cOf I 7) - 1))), (4, .int (i32 (fN (sGone T (cOf I 7)) mi (i)))), (5, .int (fL (sGone T (cOf I 7)) mi (i))), (6, .int (fA (sGone T (cOf I 7)) mi (i32 (2 ^ nC (cOf I 7) - 1)) (i))), (7, .int (fO (sGone T (cOf I 7)) mi (i))), (8, .int (i32 (i)))] [] 58 I1 J RF) := by
    intro n
    induction n with
    | zero =>
      unfold Hid
      intro i I1 hi hq
      refine V_go 2 rfl ?_
      refine V_icmp_gt rfl (fun h1 => ?_) (fun h1 => ?_)
      · skip
        refine V_go 1 rfl ?_
        refine V_tswC (v := 0) rfl (by decide) (by decide) rfl (fun h3 => ?_) (fun h3 => ?_)
        · skip
          refine V_go 1 rfl ?_
          refine V_iret rfl rfl rfl ?_
          refine RP.mk ⟨?_, rfl, hq.scr7⟩
          unfold sWay
          rw [show 2 ^ nC (cOf I 7) = i from hi.symm]
          rw [if_pos (by assumption)]
        refine V_tswC (v := 1) rfl (by decide) (by decide) rfl (fun h4 => ?_) (fun h4 => ?_)
        · skip
          refine V_go 1 rfl ?_
          refine V_iret rfl rfl rfl ?_
          refine RP.mk ⟨?_, rfl, hq.scr7⟩
          unfold sWay
          rw [show 2 ^ nC (cOf I 7) = i from hi.symm]
          rw [if_neg (by assumption), if_pos (by assumption)]
        refine V_tswC (v := 2) rfl (by decide) (by decide) rfl (fun h5 => ?_) (fun h5 => ?_)
        · skip
          refine V_go 1 rfl ?_
          refine V_if_ne rfl (fun h6 => ?_) (fun h6 => ?_)
          · skip
            refine V_go 1 rfl ?_
            refine V_iret rfl rfl rfl ?_
            refine RP.mk ⟨?_, rfl, hq.scr7⟩
            unfold sWay
            rw [show 2 ^ nC (cOf I 7) = i from hi.symm]
            rw [if_neg (by assumption), if_neg (by assumption)]
            first
              | (rw [if_pos ((i32_z (by have := fN_le (sGone T (cOf I 7)) mi i; omega)).mp (by assumption))]; done)
              | rw [if_neg (fun h => absurd ((i32_z (by have := fN_le (sGone T (cOf I 7)) mi i; omega)).mpr h) (by assumption)), if_pos (by assumption)]
          · skip
            refine V_go 2 rfl ?_
            refine V_iret rfl rfl rfl ?_
            refine RP.mk ⟨?_, rfl, hq.scr7⟩
            unfold sWay
            rw [show 2 ^ nC (cOf I 7) = i from hi.symm]
            rw [if_neg (by assumption), if_neg (by assumption)]
            first
              | (rw [if_pos ((i32_z (by have := fN_le (sGone T (cOf I 7)) mi i; omega)).mp (by assumption))]; done)
              | rw [if_neg (fun h => absurd ((i32_z (by have := fN_le (sGone T (cOf I 7)) mi i; omega)).mpr h) (by assumption)), if_pos (by assumption)]
        refine V_tswD rfl (by decide) (by decide) (t9 := 126) rfl (by have q0 := lv_neT h3 (a := 0) (by decide); have q1 := lv_neT h4 (a := 1) (by decide); have q2 := lv_neT h5 (a := 2) (by decide); omega) ?_
        refine V_go 1 rfl ?_
        refine V_if_ne rfl (fun h7 => ?_) (fun h7 => ?_)
        · skip
          refine V_go 5 rfl ?_
          refine V_iret rfl rfl rfl ?_
          refine RP.mk ⟨?_, rfl, hq.scr7⟩
          unfold sWay
          rw [show 2 ^ nC (cOf I 7) = i from hi.symm]
          rw [if_neg (by assumption), if_neg (by assumption)]
          first
            | (rw [if_pos ((i32_z (by have := fN_le (sGone T (cOf I 7)) mi i; omega)).mp (by assumption))]; done)
            | rw [if_neg (fun h => absurd ((i32_z (by have := fN_le (sGone T (cOf I 7)) mi i; omega)).mpr h) (by assumption)), if_neg (by assumption)]
        · skip
          refine V_go 2 rfl ?_
          refine V_iret rfl rfl rfl ?_
          refine RP.mk ⟨?_, rfl, hq.scr7⟩
          unfold sWay
          rw [show 2 ^ nC (cOf I 7) = i from hi.symm]
          rw [if_neg (by assumption), if_neg (by assumption)]
          first
            | (rw [if_pos ((i32_z (by have := fN_le (sGone T (cOf I 7)) mi i; omega)).mp (by assumption))]; done)
            | rw [if_neg (fun h => absurd ((i32_z (by have := fN_le (sGone T (cOf I 7)) mi i; omega)).mpr h) (by assumption)), if_neg (by assumption)]
      · skip
        exfalso
        exact h1 (by have := pw1 hN8; grind [i32_ti])
    | succ n ih =>
      unfold Hid
      intro i I1 hi hq
      refine V_go 2 rfl ?_
      refine V_icmp_gt rfl (fun h1 => ?_) (fun h1 => ?_)
      · skip
        exfalso
        have := pw1 hN8
        grind [i32_ti]
      · skip
        refine V_go 3 rfl ?_
        refine cVP (mt' := mX0_spentBy) rfl kX6_164 fX0_spentBy rfl rfl rfl (Nat.le_of_ble_eq_true rfl) (Nat.le_of_ble_eq_true rfl) (Nat.le_of_ble_eq_true rfl) (Nat.le_of_ble_eq_true rfl) (Nat.le_refl _) (c_spentBy (m := i) (hC.sq hq) (by omega)) ?_
        intro r2 Ir2 Jr2 h2
        obtain ⟨hv, rfl, hq2⟩ := h2
        rw [cOf_sq (Or.inl rfl) hq] at hv
        subst hv
        refine V_go 1 rfl ?_
        refine V_icmp_ne rfl (fun h3 => ?_) (fun h3 => ?_)
        · skip
          obtain ⟨-, y2, y3, y4, y5⟩ := f_n (f := sGone T (cOf I 7)) (k := i) h3
          refine V_go 2 rfl ?_
          refine V.st (I' := Ir2) (L' := [(0, .ref 0), (1, .int mi), (2, .int w), (3, .int (i32 (2 ^ nC (cOf I 7) - 1))), (4, .int (i32 (fN (sGone T (cOf I 7)) mi (i + 1)))), (5, .int (fL (sGone T (cOf I 7)) mi (i + 1))), (6, .int (fA (sGone T (cOf I 7)) mi (i32 (2 ^ nC (cOf I 7) - 1)) (i + 1))), (7, .int (fO (sGone T (cOf I 7)) mi (i + 1))), (8, .int (i32 (i + 1)))]) (ih.un (i + 1) Ir2 (by omega) (hq.tr hq2)) rfl ?_
          rw [i32_s i, y2, y3, y4, y5]
          simp [i32_s]
        · skip
          refine V_go 1 rfl ?_
          refine V_if_ne rfl (fun h4 => ?_) (fun h4 => ?_)
          · skip
            obtain ⟨-, y2, y3, y4⟩ := f_y (f := sGone T (cOf I 7)) (k := i) h3
            refine V_go 13 rfl ?_
            refine V.st (I' := Ir2) (L' := [(0, .ref 0), (1, .int mi), (2, .int w), (3, .int (i32 (2 ^ nC (cOf I 7) - 1))), (4, .int (i32 (fN (sGone T (cOf I 7)) mi (i + 1)))), (5, .int (fL (sGone T (cOf I 7)) mi (i + 1))), (6, .int (fA (sGone T (cOf I 7)) mi (i32 (2 ^ nC (cOf I 7) - 1)) (i + 1))), (7, .int (fO (sGone T (cOf I 7)) mi (i + 1))), (8, .int (i32 (i + 1)))]) (ih.un (i + 1) Ir2 (by omega) (hq.tr hq2)) rfl ?_
            rw [i32_s i, y2, y3, y4, fL_n (by assumption) (by omega)]
            simp [i32_s]
          · skip
            obtain ⟨-, y2, y3, y4⟩ := f_y (f := sGone T (cOf I 7)) (k := i) h3
            refine V_go 14 rfl ?_
            refine V.st (I' := Ir2) (L' := [(0, .ref 0), (1, .int mi), (2, .int w), (3, .int (i32 (2 ^ nC (cOf I 7) - 1))), (4, .int (i32 (fN (sGone T (cOf I 7)) mi (i + 1)))), (5, .int (fL (sGone T (cOf I 7)) mi (i + 1))), (6, .int (fA (sGone T (cOf I 7)) mi (i32 (2 ^ nC (cOf I 7) - 1)) (i + 1))), (7, .int (fO (sGone T (cOf I 7)) mi (i + 1))), (8, .int (i32 (i + 1)))]) (ih.un (i + 1) Ir2 (by omega) (hq.tr hq2)) rfl ?_
            rw [i32_s i, y2, y3, y4, fL_y h3 (by assumption) (by omega)]
            simp [i32_s]
  refine CT_of okX6_ways (Nat.le_of_ble_eq_true rfl) ?_
  show V _ _ _ _ _ _ [(0, _), (1, _), (2, _)] _ _ _ _ _
  refine V_go 2 rfl ?_
  refine cVI (mt' := mX0_everyone) rfl kX6_161 fX0_everyone rfl rfl rfl (Nat.le_of_ble_eq_true rfl) (Nat.le_of_ble_eq_true rfl) (Nat.le_of_ble_eq_true rfl) (Nat.le_of_ble_eq_true rfl) (Nat.le_refl _) (c_everyone (by unfold oC; decide)) ?_
  rw [hev]
  refine V_go 11 rfl ?_
  exact (key _).un 0 _ (Nat.zero_add _) Sq.rf
