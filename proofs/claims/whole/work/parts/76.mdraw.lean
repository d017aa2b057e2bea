theorem ius_b (x : Int32) : ∃ m, m < 8388608 ∧ iushrV x 9 = i32 m := by
  have hu : (x.toUInt32 >>> ((9 : Int32).toUInt32 &&& Int32.toUInt32 31)).toNat < 8388608 := by
    rw [UInt32.toNat_shiftRight]
    have : ((9 : Int32).toUInt32 &&& Int32.toUInt32 31).toNat % 32 = 9 := by decide +kernel
    rw [this, Nat.shiftRight_eq_div_pow]
    have h2 := x.toUInt32.toNat_lt
    omega
  unfold iushrV
  generalize (x.toUInt32 >>> ((9 : Int32).toUInt32 &&& Int32.toUInt32 31)) = u at *
  refine ⟨u.toNat, hu, ?_⟩
  rw [← Int32.toInt_inj, Int32.toInt_ofNat_of_lt (by omega)]
  show u.toBitVec.toInt = _
  exact BitVec.toInt_eq_toNat_of_lt (by show 2 * u.toNat < 2 ^ 32; omega)
theorem sDv_b (x : Int32) : 0 ≤ sDv x ∧ sDv x ≤ 99 := by
  obtain ⟨m, hm, e⟩ := ius_b x
  unfold sDv
  rw [e]
  have a0 : (i32 m).toInt = m := Int32.toInt_ofNat_of_lt (by omega)
  have a1 : (i32 m / 100).toInt = ((m / 100 : Nat) : Int) := by
    rw [Int32.toInt_div, a0, show (100 : Int32).toInt = ((100 : Nat) : Int) from rfl, ← Int.ofNat_tdiv, Int.bmod_eq_of_le (by omega) (by omega)]
  have a2 : (i32 m / 100 * 100).toInt = ((m / 100 : Nat) : Int) * 100 := by
    rw [Int32.toInt_mul, a1, show (100 : Int32).toInt = 100 from rfl, Int.bmod_eq_of_le (by omega) (by omega)]
  have a3 : (i32 m - i32 m / 100 * 100).toInt = (m : Int) - ((m / 100 : Nat) : Int) * 100 := by
    rw [Int32.toInt_sub, a0, a2, Int.bmod_eq_of_le (by omega) (by omega)]
  rw [Int32.le_iff_toInt_le, Int32.le_iff_toInt_le, a3, show (0 : Int32).toInt = 0 from rfl, show (99 : Int32).toInt = 99 from rfl]
  omega
theorem MC.re2 {tc : Nat} {I I9 : I2} {J J9 : J2} {T : TV} {C : CC} (h : MC tc I J T C) (hE : EvM tc I9 J9 T) (h5 : I9 45 = I 45) (h2 : ∀ o c, 42 ≤ o → o ≤ 44 → c < nC C → I9 o c = I o c) (hf : ∀ k, k < 15 → I9 38 k = I 38 k) : MC tc I9 J9 T C := by
  refine ⟨⟨fun j hj => ?_, fun g j h1 h3 hj => ?_, fun g j h1 h3 hj => ?_⟩, h.2.1, hE⟩
  · rw [← h.1.1 j hj]
    match j, hj with
    | 0, _ => exact hf 7 (by omega)
    | 1, _ => exact hf 8 (by omega)
    | 2, _ => exact hf 4 (by omega)
    | 3, _ => exact hf 12 (by omega)
    | 4, _ => exact hf 14 (by omega)
  · rw [← h.1.2.1 g j h1 h3 hj]
    match g, h1, h3 with
    | 1, _, _ => exact h2 42 j (by omega) (by omega) hj
    | 2, _, _ => exact h2 43 j (by omega) (by omega) hj
    | 3, _, _ => exact h2 44 j (by omega) (by omega) hj
  · rw [← h.1.2.2 g j h1 h3 hj]
    match g, h1, h3 with
    | 4, _, _ => exact congrFun h5 _
    | 5, _, _ => exact congrFun h5 _
    | 6, _, _ => exact congrFun h5 _
theorem sDr_s (C : CC) (z : Int32) (i : Nat) : (sDr C z (i + 1)).1 = up2 (sDr C z i).1 3 i (sDv ((sDr C z i).2 * 1103515245 + 12345)) ∧ (sDr C z (i + 1)).2 = (sDr C z i).2 * 1103515245 + 12345 := ⟨rfl, rfl⟩

theorem c_draws7 {tc : Nat} {I : I2} {J : J2} {T : TV} {C : CC} (hM : MC tc I J T C) {z : Int32} : CT mX7_draws 2 58 58 [.ref 38, .int z] I J RF (RVP RF (fun I9 J9 => J9 = J ∧ MC tc I9 J T (sDr C z (nC C)).1 ∧ (∀ c, c < nC C → I9 50 c = I 44 c) ∧ Sf [44, 50] [] I I9)) := by
  obtain ⟨hn1, hn8, hm1, hm6, hC3, hC4⟩ := hM.nm
  have key : ∀ n, Hid (∀ (i : Nat) (I1 : I2), i + n = nC C → (MC tc I1 J T (sDr C z i).1 ∧ (∀ c, c < i → I1 50 c = I 44 c) ∧ Sf [44, 50] [] I I1 ∧ ∀ c, i ≤ c → I1 44 c = I 44 c) → V mX7_draws none 2 58 (RVP RF (fun I9 J9 => J9 = J ∧ MC tc I9 J T (sDr C z (nC C)).1 ∧ (∀ c, c < nC C → I9 50 c = I 44 c) ∧ Sf [44, 50] [] I I9)) 4 [(0, .ref 38), (1, .int z), (2, .int (sDr C z (i)).2), (3, .int (i32 (i)))] [] 58 I1 J RF) := by
    intro n
    induction n with
    | zero =>
      unfold Hid
      intro i I1 hi ⟨hM1, hw, hq1, h44⟩
      obtain ⟨dn, dm⟩ := sDr_nm C z i
      have hn2 : I1 38 12 = i32 (nC C) := by rw [hM1.nm.1, dn]
      refine V_go 3 rfl ?_
      refine V_icmp_ge rfl (fun h1 => ?_) (fun h1 => ?_)
      · skip
        refine V_vret rfl rfl rfl ?_
        obtain rfl : i = nC C := hi
        exact RVP.mk ⟨rfl, hM1, hw, hq1⟩
      · skip
        exact absurd (by rw [hn2, ← show i = nC C from hi]; exact Int32.le_refl _) h1
    | succ n ih =>
      unfold Hid
      intro i I1 hi ⟨hM1, hw, hq1, h44⟩
      obtain ⟨dn, dm⟩ := sDr_nm C z i
      have hn2 : I1 38 12 = i32 (nC C) := by rw [hM1.nm.1, dn]
      refine V_go 3 rfl ?_
      try simp only [up2_rd, row2_rd, reduceIte, Nat.reduceEqDiff, tn_of (show i < 2147483648 by omega)]
      refine V_icmp_ge rfl (fun h1 => ?_) (fun h1 => ?_)
      · skip
        exact absurd ((i32_le (a := nC C) (b := i) (by omega) (by omega)).mp (by rw [← hn2]; exact h1)) (by omega)
      · skip
        refine V_go 6 rfl ?_
        try simp only [up2_rd, row2_rd, reduceIte, Nat.reduceEqDiff, tn_of (show i < 2147483648 by omega)]
        refine V_iald rfl rfl (Nat.le_of_ble_eq_true rfl) (inb_i32 (by omega) (by decide)) ?_
        try simp only [up2_rd, row2_rd, reduceIte, Nat.reduceEqDiff, tn_of (show i < 2147483648 by omega)]
        refine V_iast rfl rfl (Nat.le_of_ble_eq_true rfl) (inb_i32 (by omega) (by decide)) ?_
        refine V_go 13 rfl ?_
        try simp only [up2_rd, row2_rd, reduceIte, Nat.reduceEqDiff, tn_of (show i < 2147483648 by omega)]
        refine V_irem0 rfl (by decide) ?_
        refine V_iast rfl rfl (Nat.le_of_ble_eq_true rfl) (inb_i32 (by omega) (by decide)) ?_
        refine V_go 2 rfl ?_
        try simp only [up2_rd, row2_rd, reduceIte, Nat.reduceEqDiff, tn_of (show i < 2147483648 by omega)]
        obtain ⟨b0, b1⟩ := sDv_b ((sDr C z i).2 * 1103515245 + 12345)
        refine V.st (L' := [(0, .ref 38), (1, .int z), (2, .int (sDr C z (i + 1)).2), (3, .int (i32 (i + 1)))]) (ih.un (i + 1) _ (by omega) ⟨?_, fun c hc => ?_, hq1.tr ((Sf.row (by simp) (by omega)).tr (Sf.row (by simp) (by omega))), fun c hc => ?_⟩) rfl (by rw [i32_s]; simp [sDr])
        · rw [(sDr_s C z i).1]
          exact (hM1.r49 (o := 50) (k := i) (v := I1 44 i) (by omega)).row (g := 3) (by omega) (by omega) b0 b1
        · rw [up2_ne (by omega)]
          simp only [up2_rd, reduceIte]
          by_cases hci : c = i
          · rw [if_pos hci, hci]; exact h44 i (Nat.le_refl _)
          · rw [if_neg hci]; exact hw c (by omega)
        · simp only [up2_rd, reduceIte, Nat.reduceEqDiff]
          rw [if_neg (by omega)]
          exact h44 c (by omega)
  refine CT_of okX7_draws (Nat.le_of_ble_eq_true rfl) ?_
  show V _ _ _ _ _ _ [(0, _), (1, _)] _ _ _ _ _
  refine V_go 4 rfl ?_
  exact (key _).un 0 I (Nat.zero_add _) ⟨hM, fun c hc => absurd hc (Nat.not_lt_zero _), Sf.rf, fun _ _ => rfl⟩
theorem c_bribesAgain7 {n9 : Nat} {I : I2} {J : J2} (hn1 : I 38 12 = i32 n9) (hn8 : n9 ≤ 8) : CT mX7_bribesAgain 1 58 58 [.ref 38] I J RF (RV RF (row2 I 44 (fun j => if j < n9 then I 50 j else I 44 j)) J) := by
  have key : ∀ n, Hid (∀ (i : Nat), i + n = n9 → True → V mX7_bribesAgain none 1 58 (RV RF (row2 I 44 (fun j => if j < n9 then I 50 j else I 44 j)) J) 2 [(0, .ref 38), (1, .int (i32 (i)))] [] 58 (row2 I 44 (fun j => if j < i then I 50 j else I 44 j)) J RF) := by
    intro n
    induction n with
    | zero =>
      unfold Hid
      intro i  hi _
      refine V_go 3 rfl ?_
      try simp only [up2_rd, row2_rd, reduceIte, Nat.reduceEqDiff]
      refine V_icmp_ge rfl (fun h1 => ?_) (fun h1 => ?_)
      · skip
        refine V_vret rfl rfl rfl ?_
        obtain rfl : i = n9 := hi
        exact RV.mk2 rfl
      · skip
        exact absurd (by rw [hn1, ← show i = n9 from hi]; exact Int32.le_refl _) h1
    | succ n ih =>
      unfold Hid
      intro i  hi _
      refine V_go 3 rfl ?_
      try simp only [up2_rd, row2_rd, reduceIte, Nat.reduceEqDiff]
      refine V_icmp_ge rfl (fun h1 => ?_) (fun h1 => ?_)
      · skip
        exact absurd ((i32_le (a := n9) (b := i) (by omega) (by omega)).mp (by rw [← hn1]; exact h1)) (by omega)
      · skip
        refine V_go 6 rfl ?_
        try simp only [up2_rd, row2_rd, reduceIte, Nat.reduceEqDiff]
        refine V_iald rfl rfl (Nat.le_of_ble_eq_true rfl) (inb_i32 (by omega) (by decide)) ?_
        try simp only [up2_rd, row2_rd, reduceIte, Nat.reduceEqDiff]
        refine V_iast rfl rfl (Nat.le_of_ble_eq_true rfl) (inb_i32 (by omega) (by decide)) ?_
        refine V_go 2 rfl ?_
        try simp only [up2_rd, row2_rd, reduceIte, Nat.reduceEqDiff]
        refine V.st (I' := (row2 I 44 (fun j => if j < i + 1 then I 50 j else I 44 j))) (L' := [(0, .ref 38), (1, .int (i32 (i + 1)))]) (ih.un (i + 1) (by omega) trivial) ?_ (by rw [i32_s]; simp)
        funext a b
        simp only [up2_rd, row2_rd, Nat.reduceEqDiff, reduceIte, tn_of (show i < 2147483648 by omega)]
        by_cases h9 : a = 44
        · subst h9
          by_cases h8 : b = i
          · subst h8
            simp
          · by_cases h7 : b < i
            · simp [h8, h7, Nat.lt_succ_of_lt h7]
            · have h6 : ¬ b < i + 1 := by omega
              simp [h8, h7, h6]
        · simp [h9]
  refine CT_of okX7_bribesAgain (Nat.le_of_ble_eq_true rfl) ?_
  show V _ _ _ _ _ _ [(0, _)] _ _ _ _ _
  refine V_go 2 rfl ?_
  have z := (key n9).un 0 (Nat.zero_add _) trivial
  simp only [Nat.not_lt_zero, if_false] at z
  rw [show (row2 I 44 fun j => I 44 j) = I from row2_self] at z
  exact z
theorem MC.again {tc : Nat} {I I1 I2' : I2} {J J2' : J2} {T : TV} {C D : CC} (hM : MC tc I J T C) (hw : ∀ c, c < nC C → I1 50 c = I 44 c) (hf : Sf [44, 50] [] I I1) (hM2 : MC tc I2' J2' T D) (hs : Sm I1 I2') : MC tc (row2 I2' 44 (fun j => if j < nC C then I2' 50 j else I2' 44 j)) J2' T C ∧ Mp I (row2 I2' 44 (fun j => if j < nC C then I2' 50 j else I2' 44 j)) := by
  refine ⟨hM.re2 (hM2.2.2.same (by rw [row2_ne (by omega)]) (row2_ne (by omega)) (row2_ne (by omega)) (fun p hp => by rw [row2_ne (by omega)]; exact hM2.2.2.2.2.2.2.2 p hp)) ?_ (fun o c o1 o2 hc => ?_) (fun k hk => ?_), (hf.mp (by simp) (by simp)).tr (hs.mp.tr ⟨fun o ho => row2_ne (by omega), fun k hk => by rw [row2_ne (by omega)]⟩)⟩
  · rw [row2_ne (by omega), hs.1 45 (by omega) (by omega), hf.1 45 (by omega) (by omega) (by simp)]
  · by_cases h4 : o = 44
    · subst h4
      simp only [row2_rd, reduceIte, if_pos hc]
      rw [hs.1 50 (by omega) (by omega)]
      exact hw c hc
    · rw [row2_ne h4, hs.1 o (by omega) (by omega), hf.1 o (by omega) (by omega) (by simp; omega)]
  · rw [row2_ne (by omega), hs.2 k (by omega), hf.2 k (by omega) (by simp)]
theorem MC.dn {tc : Nat} {I : I2} {J : J2} {T : TV} {C : CC} (hM : MC tc I J T C) {z : Int32} {I1 : I2} {J1 : J2} (h : MC tc I1 J1 T (sDr C z (nC C)).1) : I1 38 12 = i32 (nC C) := by rw [h.nm.1, (sDr_nm C z (nC C)).1]

theorem c_drawn7 {tc : Nat} {I : I2} {J : J2} {T : TV} {C : CC} (hM : MC tc I J T C) {z : Int32} : CT mX7_drawn 46 58 58 [.ref 38, .int z] I J RF (RP RF (fun r9 I9 J9 => r9 = sDrawn T C z ∧ MC tc I9 J9 T C ∧ Mp I I9)) := by
  obtain ⟨hn1, hn8, hm1, hm6, hC3, hC4⟩ := hM.nm
  refine CT_of okX7_drawn (Nat.le_of_ble_eq_true rfl) ?_
  show V _ _ _ _ _ _ [(0, _), (1, _)] _ _ _ _ _
  refine V_go 2 rfl ?_
  refine cVW (mt' := mX7_draws) rfl kX7_359 fX7_draws rfl rfl rfl (Nat.le_of_ble_eq_true rfl) (Nat.le_of_ble_eq_true rfl) (Nat.le_of_ble_eq_true rfl) (Nat.le_of_ble_eq_true rfl) (Nat.le_refl _) (c_draws7 hM) ?_
  intro Ir1 Jr1 h1
  obtain ⟨hJ1, hM1, hw, hf⟩ := h1
  obtain rfl : J = Jr1 := hJ1.symm
  refine V_go 1 rfl ?_
  refine cVP (mt' := mX7_listNow) rfl kX7_135 fX7_listNow rfl rfl rfl (Nat.le_of_ble_eq_true rfl) (Nat.le_of_ble_eq_true rfl) (Nat.le_of_ble_eq_true rfl) (Nat.le_of_ble_eq_true rfl) (Nat.le_refl _) (c_listNow7 hM1) ?_
  intro r2 Ir2 Jr2 h2
  obtain ⟨hv, hM2, hq2⟩ := h2
  subst hv
  refine cSI (mt' := mX7_bitsOf) rfl kX7_139 fX7_bitsOf rfl (Nat.le_of_ble_eq_true rfl) (Nat.le_of_ble_eq_true rfl) (Nat.le_refl _) (c_bitsOf7 hM1.l256) ?_
  refine V_go 2 rfl ?_
  refine cVV (mt' := mX7_bribesAgain) rfl kX7_362 fX7_bribesAgain rfl rfl rfl (Nat.le_of_ble_eq_true rfl) (Nat.le_of_ble_eq_true rfl) (Nat.le_of_ble_eq_true rfl) (Nat.le_of_ble_eq_true rfl) (Nat.le_refl _) (c_bribesAgain7 (hM.dn hM2) hn8) ?_
  refine V_go 1 rfl ?_
  refine V_iret rfl rfl rfl ?_
  obtain ⟨a1, a2⟩ := hM.again hw hf hM2 hq2
  exact RP.mk ⟨rfl, a1, a2⟩
theorem gcd_s : ∀ p, p < 21 → ∀ q, q < 21 → q ≠ 0 → Nat.gcd p q = Nat.gcd q (p % q) ∧ p % q < q ∧ Int64.ofNat p - Int64.ofNat p / Int64.ofNat q * Int64.ofNat q = Int64.ofNat (p % q) := by decide +kernel
theorem low_g : ∀ m, m < 21 → ∀ b, b < 21 → (m ≠ 0 ∧ b ≤ m → Int64.ofNat b / Int64.ofNat (Nat.gcd b m) = (i32 (low b b m m)).toInt64 ∧ (i32 m).toInt64 / Int64.ofNat (Nat.gcd b m) = (i32 (low m b m m)).toInt64 ∧ Nat.gcd b m ≠ 0 ∧ Nat.gcd b m < 21) := by decide +kernel
theorem l64_0 : ∀ q, q < 21 → (Int64.ofNat q = 0 ↔ q = 0) := by decide +kernel
theorem l64_s : ∀ q, q < 21 → Int64.ofNat q + 1 = Int64.ofNat (q + 1) ∧ Int64.ofNat q + 0 = Int64.ofNat q ∧ (i32 q).toInt64 = Int64.ofNat q := by decide +kernel

theorem c_chance7 {tc : Nat} {I : I2} {J : J2} {T : TV} {C : CC} (hM : MC tc I J T C) {z x w : Int32} : CT mX7_chance 50 58 58 [.ref 38, .int z, .int x, .int w] I J RF (RLg RF (fun r9 I9 J9 => r9 = sChance T C z x w ∧ MC tc I9 J9 T C ∧ Mp I I9)) := by
  obtain ⟨hn1, hn8, hm1, hm6, hC3, hC4⟩ := hM.nm
  refine CT_of okX7_chance (Nat.le_of_ble_eq_true rfl) ?_
  show V _ _ _ _ _ _ [(0, _), (1, _), (2, _), (3, _)] _ _ _ _ _
  refine V_go 4 rfl ?_
  refine cSI (mt' := mX7_in) rfl kX7_89 fX7_in rfl (Nat.le_of_ble_eq_true rfl) (Nat.le_of_ble_eq_true rfl) (Nat.le_refl _) (c_inI (lo := (1)) (hi := (20)) rfl (by decide +kernel) (by decide +kernel)) ?_
  refine V_if_eq rfl (fun h2 => ?_) (fun h2 => ?_)
  · skip
    refine V_go 1 rfl ?_
    refine V_lret rfl rfl rfl ?_
    exact RLg.mk ⟨(if_neg (fun z => (b2i_eq0.mp h2) z.1)).symm, hM, Mp.rf⟩
  · skip
    have hx := b2i_n0.mp h2
    refine V_go 4 rfl ?_
    refine cSI (mt' := mX7_in) rfl kX7_89 fX7_in rfl (Nat.le_of_ble_eq_true rfl) (Nat.le_of_ble_eq_true rfl) (Nat.le_refl _) (c_inI (lo := (0)) (hi := (1)) rfl (by decide +kernel) (by decide +kernel)) ?_
    refine V_if_ne rfl (fun h22 => ?_) (fun h22 => ?_)
    · skip
      have hw := w01.mp (b2i_n0.mp h22)
      have hx00 : 0 ≤ x := Int32.le_trans (by decide) hx.1
      have hxi : x = i32 x.toNatClampNeg := (xn hx00).symm
      have hx20 : x.toNatClampNeg ≤ 20 := by
        have z := hx.2
        rw [hxi] at z
        exact (i32_le (a := x.toNatClampNeg) (b := 20) (tn_lt hx00 hx.2 (by decide)) (by omega)).mp z
      have hx0 : x.toNatClampNeg ≠ 0 := fun y => by
        have z := hx.1
        rw [hxi, y] at z
        exact absurd z (by decide)
      have key : ∀ n, Hid (∀ (i : Nat) (I1 : I2) (J1 : J2), i + n = x.toNatClampNeg → (MC tc I1 J1 T C ∧ Mp I I1) → V mX7_chance none 50 58 (RLg RF (fun r9 I9 J9 => r9 = sChance T C z x w ∧ MC tc I9 J9 T C ∧ Mp I I9)) 32 [(0, .ref 38), (1, .int z), (2, .int x), (3, .int w), (4, .long (Int64.ofNat (sFit T C z (i)))), (6, .int (i32 (i)))] [] 58 I1 J1 RF) := by
        intro n
        induction n with
        | zero =>
          unfold Hid
          intro i I1 J1 hi ⟨hM1, hq1⟩
          refine V_go 2 rfl ?_
          refine V_icmp_ge rfl (fun h1 => ?_) (fun h1 => ?_)
          · skip
            obtain rfl : i = x.toNatClampNeg := hi
            have keyg : ∀ n p q, q ≤ n → p < 21 → q < 21 → Nat.gcd p q = Nat.gcd (sFit T C z (x.toNatClampNeg)) x.toNatClampNeg → V mX7_chance none 50 58 (RLg RF (fun r9 I9 J9 => r9 = sChance T C z x w ∧ MC tc I9 J9 T C ∧ Mp I I9)) 85 [(0, .ref 38), (1, .int z), (2, .int x), (3, .int w), (4, .long (Int64.ofNat (sFit T C z (x.toNatClampNeg)))), (6, .long (Int64.ofNat p)), (8, .long (Int64.ofNat q))] [] 58 I1 J1 RF := by
              intro n
              induction n with
              | zero =>
                intro p q hqn hp hq hpq
                refine V_go 3 rfl ?_
                refine V_if_eq rfl (fun h1 => ?_) (fun h1 => ?_)
                · skip
                  have hpg : p = Nat.gcd (sFit T C z (x.toNatClampNeg)) x.toNatClampNeg := by rw [← hpq, (l64_0 q (by omega)).mp ((lgc_eq _ _).mp h1), Nat.gcd_zero_right]
                  rw [hpg]
                  obtain ⟨hg2, hg3, hg4, hg5⟩ := low_g x.toNatClampNeg (by omega) (sFit T C z (x.toNatClampNeg)) (by have := sFit_le T C z x.toNatClampNeg; omega) ⟨hx0, sFit_le T C z _⟩
                  refine V_go 1 rfl ?_
                  refine V_if_ne rfl (fun h51 => ?_) (fun h51 => ?_)
                  · skip
                    have w0 : ¬ w = 0 := h51
                    refine V_go 3 rfl ?_
                    refine V_ldiv rfl (fun y => hg4 ((l64_0 _ hg5).mp y)) ?_
                    refine V_lret rfl rfl rfl ?_
                    refine RLg.mk ⟨?_, hM1, hq1⟩
                    unfold sChance sChan
                    rw [if_pos ⟨hx, hw⟩, if_neg w0, show x.toInt64 = (i32 x.toNatClampNeg).toInt64 from congrArg Int32.toInt64 hxi]
                    exact hg3
                  · skip
                    have w0 : w = 0 := h51
                    refine V_go 2 rfl ?_
                    refine V_ldiv rfl (fun y => hg4 ((l64_0 _ hg5).mp y)) ?_
                    refine V_go 1 rfl ?_
                    refine V_lret rfl rfl rfl ?_
                    refine RLg.mk ⟨?_, hM1, hq1⟩
                    unfold sChance sChan
                    rw [if_pos ⟨hx, hw⟩, if_pos w0]
                    exact hg2
                · skip
                  exact absurd ((lgc_eq _ _).mpr ((l64_0 q (by omega)).mpr (Nat.le_zero.mp hqn))) h1
              | succ n ih =>
                intro p q hqn hp hq hpq
                refine V_go 3 rfl ?_
                refine V_if_eq rfl (fun h1 => ?_) (fun h1 => ?_)
                · skip
                  have hpg : p = Nat.gcd (sFit T C z (x.toNatClampNeg)) x.toNatClampNeg := by rw [← hpq, (l64_0 q (by omega)).mp ((lgc_eq _ _).mp h1), Nat.gcd_zero_right]
                  rw [hpg]
                  obtain ⟨hg2, hg3, hg4, hg5⟩ := low_g x.toNatClampNeg (by omega) (sFit T C z (x.toNatClampNeg)) (by have := sFit_le T C z x.toNatClampNeg; omega) ⟨hx0, sFit_le T C z _⟩
                  refine V_go 1 rfl ?_
                  refine V_if_ne rfl (fun h51 => ?_) (fun h51 => ?_)
                  · skip
                    have w0 : ¬ w = 0 := h51
                    refine V_go 3 rfl ?_
                    refine V_ldiv rfl (fun y => hg4 ((l64_0 _ hg5).mp y)) ?_
                    refine V_lret rfl rfl rfl ?_
                    refine RLg.mk ⟨?_, hM1, hq1⟩
                    unfold sChance sChan
                    rw [if_pos ⟨hx, hw⟩, if_neg w0, show x.toInt64 = (i32 x.toNatClampNeg).toInt64 from congrArg Int32.toInt64 hxi]
                    exact hg3
                  · skip
                    have w0 : w = 0 := h51
                    refine V_go 2 rfl ?_
                    refine V_ldiv rfl (fun y => hg4 ((l64_0 _ hg5).mp y)) ?_
                    refine V_go 1 rfl ?_
                    refine V_lret rfl rfl rfl ?_
                    refine RLg.mk ⟨?_, hM1, hq1⟩
                    unfold sChance sChan
                    rw [if_pos ⟨hx, hw⟩, if_pos w0]
                    exact hg2
                · skip
                  have hq0 : q ≠ 0 := fun y => h1 ((lgc_eq _ _).mpr ((l64_0 q (by omega)).mpr y))
                  obtain ⟨e1, e2, e3⟩ := gcd_s p (by omega) q (by omega) hq0
                  refine V_go 2 rfl ?_
                  refine V_lrem0 rfl (fun y => hq0 ((l64_0 q (by omega)).mp y)) ?_
                  refine V_go 6 rfl ?_
                  rw [e3]
                  refine V.st (L' := [(0, .ref 38), (1, .int z), (2, .int x), (3, .int w), (4, .long (Int64.ofNat (sFit T C z (x.toNatClampNeg)))), (6, .long (Int64.ofNat q)), (8, .long (Int64.ofNat (p % q)))]) (ih q (p % q) (by omega) (by omega) (by omega) (by rw [← e1]; exact hpq)) rfl (by simp)
            refine V_go 5 rfl ?_
            rw [show x.toInt64 = Int64.ofNat x.toNatClampNeg from (congrArg Int32.toInt64 hxi).trans (l64_s _ (by omega)).2.2]
            refine V.st (L' := [(0, .ref 38), (1, .int z), (2, .int x), (3, .int w), (4, .long (Int64.ofNat (sFit T C z (x.toNatClampNeg)))), (6, .long (Int64.ofNat (sFit T C z (x.toNatClampNeg)))), (8, .long (Int64.ofNat x.toNatClampNeg))]) (keyg x.toNatClampNeg _ _ (Nat.le_refl _) (by have := sFit_le T C z x.toNatClampNeg; omega) (by omega) rfl) rfl (by simp)
          · skip
            exact absurd (by rw [hxi, show i = x.toNatClampNeg from hi]; exact Int32.le_refl _) h1
        | succ n ih =>
          unfold Hid
          intro i I1 J1 hi ⟨hM1, hq1⟩
          refine V_go 2 rfl ?_
          refine V_icmp_ge rfl (fun h1 => ?_) (fun h1 => ?_)
          · skip
            rw [hxi] at h1
            exact absurd ((i32_le (a := x.toNatClampNeg) (b := i) (by omega) (by omega)).mp h1) (by omega)
          · skip
            refine V_go 4 rfl ?_
            refine cVW (mt' := mX7_draws) rfl kX7_359 fX7_draws rfl rfl rfl (Nat.le_of_ble_eq_true rfl) (Nat.le_of_ble_eq_true rfl) (Nat.le_of_ble_eq_true rfl) (Nat.le_of_ble_eq_true rfl) (Nat.le_refl _) (c_draws7 hM1) ?_
            intro Ir2 Jr2 h2
            obtain ⟨hJ1, hM2, hw2, hf2⟩ := h2
            obtain rfl : J1 = Jr2 := hJ1.symm
            refine V_go 2 rfl ?_
            refine cVP (mt' := mX7_gone) rfl kX7_285 fX7_gone rfl rfl rfl (Nat.le_of_ble_eq_true rfl) (Nat.le_of_ble_eq_true rfl) (Nat.le_of_ble_eq_true rfl) (Nat.le_of_ble_eq_true rfl) (Nat.le_refl _) (c_gone7 hM2) ?_
            intro r3 Ir3 Jr3 h3
            obtain ⟨hv, hM3, hq3⟩ := h3
            have h38 : Ir3 38 8 = C 0 1 := by rw [hM3.f.2.1, sDr_0]
            refine V_go 2 rfl ?_
            refine V_icmp_gt rfl (fun h4 => ?_) (fun h4 => ?_)
            · skip
              rw [hv, h38] at h4
              have hle := h4
              refine V_go 4 rfl ?_
              refine cVV (mt' := mX7_bribesAgain) rfl kX7_362 fX7_bribesAgain rfl rfl rfl (Nat.le_of_ble_eq_true rfl) (Nat.le_of_ble_eq_true rfl) (Nat.le_of_ble_eq_true rfl) (Nat.le_of_ble_eq_true rfl) (Nat.le_refl _) (c_bribesAgain7 (hM1.dn hM3) hn8) ?_
              refine V_go 2 rfl ?_
              obtain ⟨a1, a2⟩ := hM1.again hw2 hf2 hM3 hq3
              refine V.st (L' := [(0, .ref 38), (1, .int z), (2, .int x), (3, .int w), (4, .long (Int64.ofNat (sFit T C z (i + 1)))), (6, .int (i32 (i + 1)))]) (ih.un (i + 1) _ _ (by omega) ⟨a1, hq1.tr a2⟩) rfl (by rw [i32_s, show (sFit T C z (i + 1)) = (sFit T C z (i)) from by rw [sFit, if_neg (Int32.not_le.mpr hle)]]; simp)
            · skip
              rw [hv, h38] at h4
              have hle := h4
              refine V_go 5 rfl ?_
              refine cVV (mt' := mX7_bribesAgain) rfl kX7_362 fX7_bribesAgain rfl rfl rfl (Nat.le_of_ble_eq_true rfl) (Nat.le_of_ble_eq_true rfl) (Nat.le_of_ble_eq_true rfl) (Nat.le_of_ble_eq_true rfl) (Nat.le_refl _) (c_bribesAgain7 (hM1.dn hM3) hn8) ?_
              refine V_go 2 rfl ?_
              obtain ⟨a1, a2⟩ := hM1.again hw2 hf2 hM3 hq3
              refine V.st (L' := [(0, .ref 38), (1, .int z), (2, .int x), (3, .int w), (4, .long (Int64.ofNat (sFit T C z (i + 1)))), (6, .int (i32 (i + 1)))]) (ih.un (i + 1) _ _ (by omega) ⟨a1, hq1.tr a2⟩) rfl (by rw [i32_s, show (sFit T C z (i + 1)) = (sFit T C z (i)) + 1 from by rw [sFit, if_pos (Int32.not_lt.mp hle)]]; simp)
      refine V_go 4 rfl ?_
      exact (key _).un 0 I J (Nat.zero_add _) ⟨hM, Mp.rf⟩
    · skip
      refine V_go 1 rfl ?_
      refine V_lret rfl rfl rfl ?_
      exact RLg.mk ⟨(if_neg (fun z => (b2i_eq0.mp h22) (w01.mpr z.2))).symm, hM, Mp.rf⟩
