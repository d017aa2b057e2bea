theorem aft_le (M : Nat → Int32) (x : Int32) : ∀ n i, aft M x n i ≤ n + i
  | 0, i => by rw [aft]; omega
  | n + 1, i => by
    have e := aft_le M x n (i + 1)
    rw [aft]
    split <;> omega
/-- what the orders are weighed by -/
def ScP (m : Nat) (f : Int32) (R Mt : Nat → Int32) (I : I2) : Prop := m ≤ 6 ∧ I 38 14 = i32 m ∧ I 38 7 = f ∧ (0 ≤ f ∧ f ≤ 999) ∧ (∀ i, i < m → I 45 (3 * i) - I 45 (3 * i + 1) = R i) ∧ ∀ t, t < 40 → I 49 (t + 1) = Mt t
def SkF (I I9 : I2) : Prop := (∀ o, o ≠ 38 → I9 o = I o) ∧ ∀ k, k ≠ 36 → k ≠ 37 → I9 38 k = I 38 k
theorem SkF.rf {I : I2} : SkF I I := ⟨fun _ _ => rfl, fun _ _ _ => rfl⟩
theorem SkF.tr {I I1 I9 : I2} (h : SkF I I1) (h' : SkF I1 I9) : SkF I I9 := ⟨fun o a => (h'.1 o a).trans (h.1 o a), fun k a b => (h'.2 k a b).trans (h.2 k a b)⟩
theorem ScP.fr {m : Nat} {f : Int32} {R Mt : Nat → Int32} {I I9 : I2} (h : ScP m f R Mt I) (q : SkF I I9) : ScP m f R Mt I9 := by
  obtain ⟨a1, a2, a3, a4, a5, a6⟩ := h
  refine ⟨a1, (q.2 14 (by omega) (by omega)).trans a2, (q.2 7 (by omega) (by omega)).trans a3, a4, fun i hi => ?_, fun t ht => ?_⟩
  · rw [q.1 45 (by omega)]; exact a5 i hi
  · rw [q.1 49 (by omega)]; exact a6 t ht
/-- the best so far, as the class has it -/
def RB (I : I2) (s : Int32 × Int32) : Prop := (I 38 36 = -1 ∧ s = (2147483647, 0)) ∨ (I 38 36 = s.2 ∧ I 38 37 = s.1 ∧ s.2 ≠ -1)
theorem us_1 : ∀ m, m < 7 → ∀ w, w < 2 ^ m → (i32 (2 ^ m - 1 - w) = i32 (2 ^ m - 1) ↔ w = 0) := by decide +kernel
theorem us_2 : ∀ m, m < 7 → ∀ w, w < 2 ^ m → ∀ i, i < m → ((i32 (2 ^ m - 1 - w) >>> (i32 i &&& 31)) &&& 1 = 0 ↔ w.testBit i = true) := by decide +kernel
theorem us_3 : ∀ m, m < 7 → ∀ w, w < 2 ^ m → ∀ i, i < m → (w.testBit i = true → i32 (2 ^ m - 1 - w) ||| ((1 : Int32) <<< (i32 i &&& 31)) = i32 (2 ^ m - 1 - (w - 2 ^ i)) ∧ w - 2 ^ i < 2 ^ m ∧ cnt (w - 2 ^ i) 6 + 1 = cnt w 6) := by decide +kernel
theorem us_4 : ∀ m, m < 7 → ∀ w, w < 2 ^ m → (cnt w 6 = 0 → w = 0) ∧ ∀ i, i < 6 → (m ≤ i → w.testBit i = false) := by decide +kernel
theorem tryF_m {g : Nat → (Int32 × Int32) → (Int32 × Int32)} {m : Nat} {s : Int32 × Int32} (h : ∀ i s, m ≤ i → i < 6 → g i s = s) : ∀ k, m + k ≤ 6 → tryF g (m + k) s = tryF g m s
  | 0, _ => rfl
  | k + 1, hk => by
    rw [← Nat.add_assoc, tryF, tryF_m h k (by omega), h _ _ (by omega) (by omega)]
theorem bnd_s {x f : Int32} {p a : Nat} (hp : p < 6) (ha : a ≤ 40) (h0 : 0 ≤ x) (h1 : x ≤ i32 (2000 * p)) (f0 : 0 ≤ f) (f9 : f ≤ 999) : 0 ≤ x + (f + i32 a) ∧ x + (f + i32 a) ≤ i32 (2000 * (p + 1)) := by
  have a1 := Int32.le_iff_toInt_le.mp h0
  have a2 := Int32.le_iff_toInt_le.mp h1
  have a3 := Int32.le_iff_toInt_le.mp f0
  have a4 := Int32.le_iff_toInt_le.mp f9
  rw [Int32.toInt_ofNat_of_lt (by omega)] at a2
  have z0 : (0 : Int32).toInt = 0 := rfl
  have z9 : (999 : Int32).toInt = 999 := rfl
  have ea : (i32 a).toInt = a := Int32.toInt_ofNat_of_lt (by omega)
  have e1 : (f + i32 a).toInt = f.toInt + a := by rw [add_i (by omega) (by omega) (by omega) (by omega), ea]
  have e2 : (x + (f + i32 a)).toInt = x.toInt + (f.toInt + a) := by rw [add_i (by omega) (by omega) (by omega) (by omega), e1]
  rw [Int32.le_iff_toInt_le, Int32.le_iff_toInt_le, e2, Int32.toInt_ofNat_of_lt (by omega)]
  omega
theorem bnd_d {x : Int32} {p i : Nat} (hp : p < 6) (hi : i < 6) (h0 : 0 ≤ x) (h1 : x < i32 (10 ^ p)) : 0 ≤ x * 10 + i32 i + 1 ∧ x * 10 + i32 i + 1 < i32 (10 ^ (p + 1)) := by
  have a1 := Int32.le_iff_toInt_le.mp h0
  have a2 := Int32.lt_iff_toInt_lt.mp h1
  have hp2 : 10 ^ p ≤ 100000 := Nat.le_trans (Nat.pow_le_pow_right (by omega) (show p ≤ 5 by omega)) (by decide)
  have hp3 : 10 ^ (p + 1) = 10 * 10 ^ p := by rw [Nat.pow_succ, Nat.mul_comm]
  rw [Int32.toInt_ofNat_of_lt (by omega)] at a2
  have z0 : (0 : Int32).toInt = 0 := rfl
  have z1 : (1 : Int32).toInt = 1 := rfl
  have ea : (i32 i).toInt = i := Int32.toInt_ofNat_of_lt (by omega)
  have e0 : (x * 10).toInt = x.toInt * 10 := by rw [Int32.toInt_mul, show (10 : Int32).toInt = 10 from rfl, Int.bmod_eq_of_le (by omega) (by omega)]
  have e1 : (x * 10 + i32 i).toInt = x.toInt * 10 + i := by rw [Int32.toInt_add, e0, ea, Int.bmod_eq_of_le (by omega) (by omega)]
  have e2 : (x * 10 + i32 i + 1).toInt = x.toInt * 10 + i + 1 := by rw [Int32.toInt_add, e1, z1, Int.bmod_eq_of_le (by omega) (by omega)]
  rw [Int32.le_iff_toInt_le, Int32.lt_iff_toInt_lt, e2, Int32.toInt_ofNat_of_lt (by omega)]
  omega
theorem big_s {x : Int32} {p : Nat} (hp : p ≤ 6) (h1 : x ≤ i32 (2000 * p)) : x < 2147483647 := by
  have a2 := Int32.le_iff_toInt_le.mp h1
  rw [Int32.toInt_ofNat_of_lt (by omega)] at a2
  rw [Int32.lt_iff_toInt_lt, show (2147483647 : Int32).toInt = 2147483647 from rfl]
  omega
theorem neg_d {x : Int32} (h0 : 0 ≤ x) : ¬ x = -1 := fun z => absurd h0 (by rw [z]; decide)
theorem RB.leaf {I : I2} {s : Int32 × Int32} {sum dg : Int32} (h : RB I s) (hs : sum < 2147483647) (hd : ¬ dg = -1) : ((I 38 36 = -1 ∨ sum < I 38 37) → RB (up2 (up2 I 38 36 dg) 38 37 sum) (tryE sum dg s)) ∧ (¬ (I 38 36 = -1 ∨ sum < I 38 37) → RB I (tryE sum dg s)) := by
  unfold tryE
  rcases h with ⟨h1, h2⟩ | ⟨h1, h2, h3⟩
  · subst h2
    rw [if_pos hs]
    exact ⟨fun _ => Or.inr ⟨rfl, rfl, hd⟩, fun z => absurd (Or.inl h1) z⟩
  · refine ⟨fun z => ?_, fun z => ?_⟩
    · have hlt : sum < s.1 := by
        rcases z with z | z
        · exact absurd (h1.symm.trans z) h3
        · rw [← h2]; exact z
      rw [if_pos hlt]
      exact Or.inr ⟨rfl, rfl, hd⟩
    · rw [if_neg (fun y => z (Or.inr (by rw [h2]; exact y)))]
      exact Or.inr ⟨h1, h2, h3⟩

theorem c_sittingFor7 {m : Nat} {f x : Int32} {R Mt : Nat → Int32} {I : I2} {J : J2} (hS : ScP m f R Mt I) : CT mX7_sittingFor 1 58 58 [.ref 38, .int x] I J RF (RI RF (f + i32 (aft Mt x 40 0)) I J) := by
  have key : ∀ n, Hid (∀ (i : Nat), i + n = 40 → aft Mt x n i = aft Mt x 40 0 → V mX7_sittingFor none 1 58 (RI RF (f + i32 (aft Mt x 40 0)) I J) 2 [(0, .ref 38), (1, .int x), (2, .int (i32 i))] [] 58 I J RF) := by
    intro n
    induction n with
    | zero =>
      unfold Hid
      intro i  hi hA
      refine V_go 2 rfl ?_
      refine V_icmp_ge rfl (fun h1 => ?_) (fun h1 => ?_)
      · skip
        refine V_go 4 rfl ?_
        refine V_iret rfl rfl rfl ?_
        exact RI.mk (by rw [hS.2.2.1, ← hA]; rfl)
      · skip
        exact absurd (by rw [show i = 40 from hi]; exact Int32.le_refl _) h1
    | succ n ih =>
      unfold Hid
      intro i  hi hA
      refine V_go 2 rfl ?_
      refine V_icmp_ge rfl (fun h1 => ?_) (fun h1 => ?_)
      · skip
        exact absurd ((i32_le (a := 40) (b := i) (by omega) (by omega)).mp h1) (by omega)
      · skip
        refine V_go 5 rfl ?_
        refine V_iald rfl rfl (Nat.le_of_ble_eq_true rfl) (by rw [← i32_s]; exact inb_i32 (by omega) (by decide)) ?_
        refine V_go 1 rfl ?_
        refine V_icmp_ge rfl (fun h2 => ?_) (fun h2 => ?_)
        · skip
          rw [← i32_s, tn_of (by omega), hS.2.2.2.2.2 i (by omega)] at h2
          refine V_go 4 rfl ?_
          refine V_iret rfl rfl rfl ?_
          exact RI.mk (by rw [hS.2.2.1, ← hA, aft, if_neg (Int32.not_lt.mpr h2)])
        · skip
          rw [← i32_s, tn_of (by omega), hS.2.2.2.2.2 i (by omega)] at h2
          refine V_go 2 rfl ?_
          refine V.st (L' := [(0, .ref 38), (1, .int x), (2, .int (i32 (i + 1)))]) (ih.un (i + 1) (by omega) (by rw [← hA, aft, if_pos (Int32.not_le.mp h2)])) rfl (by rw [i32_s]; simp)
  refine CT_of okX7_sittingFor (Nat.le_of_ble_eq_true rfl) ?_
  show V _ _ _ _ _ _ [(0, _), (1, _)] _ _ _ _ _
  refine V_go 2 rfl ?_
  exact (key 40).un 0 rfl rfl
theorem c_seeks7 {m : Nat} {f : Int32} {R Mt : Nat → Int32} : ∀ (k w : Nat) (mi sum dg : Int32) (s : Int32 × Int32) (I : I2) (J : J2), k ≤ 6 → w < 2 ^ m → cnt w 6 ≤ k → ScP m f R Mt I → RB I s → 0 ≤ sum → sum ≤ i32 (2000 * (6 - k)) → 0 ≤ dg → dg < i32 (10 ^ (6 - k)) → CT mX7_seeks (2 + k) 58 58 [.ref 38, .int (i32 (2 ^ m - 1 - w)), .int mi, .int sum, .int dg] I J RF (RVP RF (fun I9 J9 => J9 = J ∧ SkF I I9 ∧ RB I9 (tryS R Mt f k w mi sum dg s)))
  | 0, w, mi, sum, dg, s, I, J, hk, hw, hc, hS, hB, hs0, hs1, hd0, hd1 => by
    have hm6 := hS.1
    have hsum : sum < 2147483647 := big_s (p := 6 - 0) (by omega) hs1
    have hdg : ¬ dg = -1 := neg_d hd0
    obtain rfl := (us_4 m (by omega) w hw).1 (by omega)
    show CT _ _ _ _ _ _ _ _ (RVP RF (fun I9 J9 => J9 = J ∧ SkF I I9 ∧ RB I9 (tryE sum dg s)))
    rw [Nat.sub_zero]
    refine CT_of okX7_seeks (Nat.le_of_ble_eq_true rfl) ?_
    show V _ _ _ _ _ _ [(0, _), (1, _), (2, _), (3, _), (4, _)] _ _ _ _ _
    refine V_go 7 rfl ?_
    refine V_icmp_ne rfl (fun h1 => ?_) (fun h1 => ?_)
    · skip
      rw [hS.2.1, show (1 : Int32) <<< (i32 m &&& 31) - 1 = i32 (2 ^ m - 1) from evr_ok m (by omega)] at h1
      exact absurd rfl h1
    · skip
      refine V_go 3 rfl ?_
      refine V_icmp_eq rfl (fun h11 => ?_) (fun h11 => ?_)
      · skip
        refine V_go 6 rfl ?_
        refine V_vret rfl rfl rfl ?_
        have hq9 : SkF I (up2 (up2 I 38 36 dg) 38 37 sum) := ⟨fun o ho => by rw [up2_ne ho, up2_ne ho], fun k k1 k2 => by simp only [up2_rd, reduceIte, if_neg k1, if_neg k2]⟩
        exact RVP.mk ⟨rfl, hq9, (hB.leaf hsum hdg).1 (Or.inl h11)⟩
      · skip
        have hnb := h11
        refine V_go 3 rfl ?_
        refine V_icmp_ge rfl (fun h21 => ?_) (fun h21 => ?_)
        · skip
          refine V_vret rfl rfl rfl ?_
          exact RVP.mk ⟨rfl, SkF.rf, (hB.leaf hsum hdg).2 (fun z => z.elim hnb (Int32.not_lt.mpr h21))⟩
        · skip
          refine V_go 6 rfl ?_
          refine V_vret rfl rfl rfl ?_
          have hq9 : SkF I (up2 (up2 I 38 36 dg) 38 37 sum) := ⟨fun o ho => by rw [up2_ne ho, up2_ne ho], fun k k1 k2 => by simp only [up2_rd, reduceIte, if_neg k1, if_neg k2]⟩
          exact RVP.mk ⟨rfl, hq9, (hB.leaf hsum hdg).1 (Or.inr (Int32.not_le.mp h21))⟩
  | k + 1, w, mi, sum, dg, s, I, J, hk, hw, hc, hS, hB, hs0, hs1, hd0, hd1 => by
    have hm6 := hS.1
    have hsum : sum < 2147483647 := big_s (p := 6 - (k + 1)) (by omega) hs1
    have hdg : ¬ dg = -1 := neg_d hd0
    have ih5 := c_seeks7 (m := m) (f := f) (R := R) (Mt := Mt) k
    rw [show 2 + (k + 1) = 3 + k from by omega]
    by_cases h0 : w = 0
    · subst h0
      show CT _ _ _ _ _ _ _ _ (RVP RF (fun I9 J9 => J9 = J ∧ SkF I I9 ∧ RB I9 (tryS R Mt f (k + 1) 0 mi sum dg s)))
      rw [tryS, if_pos rfl, Nat.sub_zero]
      refine CT_of okX7_seeks (Nat.le_of_ble_eq_true rfl) ?_
      show V _ _ _ _ _ _ [(0, _), (1, _), (2, _), (3, _), (4, _)] _ _ _ _ _
      refine V_go 7 rfl ?_
      refine V_icmp_ne rfl (fun h1 => ?_) (fun h1 => ?_)
      · skip
        rw [hS.2.1, show (1 : Int32) <<< (i32 m &&& 31) - 1 = i32 (2 ^ m - 1) from evr_ok m (by omega)] at h1
        exact absurd rfl h1
      · skip
        refine V_go 3 rfl ?_
        refine V_icmp_eq rfl (fun h11 => ?_) (fun h11 => ?_)
        · skip
          refine V_go 6 rfl ?_
          refine V_vret rfl rfl rfl ?_
          have hq9 : SkF I (up2 (up2 I 38 36 dg) 38 37 sum) := ⟨fun o ho => by rw [up2_ne ho, up2_ne ho], fun k k1 k2 => by simp only [up2_rd, reduceIte, if_neg k1, if_neg k2]⟩
          exact RVP.mk ⟨rfl, hq9, (hB.leaf hsum hdg).1 (Or.inl h11)⟩
        · skip
          have hnb := h11
          refine V_go 3 rfl ?_
          refine V_icmp_ge rfl (fun h21 => ?_) (fun h21 => ?_)
          · skip
            refine V_vret rfl rfl rfl ?_
            exact RVP.mk ⟨rfl, SkF.rf, (hB.leaf hsum hdg).2 (fun z => z.elim hnb (Int32.not_lt.mpr h21))⟩
          · skip
            refine V_go 6 rfl ?_
            refine V_vret rfl rfl rfl ?_
            have hq9 : SkF I (up2 (up2 I 38 36 dg) 38 37 sum) := ⟨fun o ho => by rw [up2_ne ho, up2_ne ho], fun k k1 k2 => by simp only [up2_rd, reduceIte, if_neg k1, if_neg k2]⟩
            exact RVP.mk ⟨rfl, hq9, (hB.leaf hsum hdg).1 (Or.inr (Int32.not_le.mp h21))⟩
    · rw [tryS, if_neg h0]
      have key : ∀ n, Hid (∀ (i : Nat) (I1 : I2), i + n = m → (ScP m f R Mt I1 ∧ SkF I I1 ∧ RB I1 (tryF (fun i s => if w.testBit i then tryS R Mt f k (w - 2 ^ i) (mi + R i) (sum + (f + i32 (aft Mt (mi + R i) 40 0))) (dg * 10 + i32 i + 1) s else s) i s)) → V mX7_seeks none (3 + k) 58 (RVP RF (fun I9 J9 => J9 = J ∧ SkF I I9 ∧ RB I9 (tryF (fun i s => if w.testBit i then tryS R Mt f k (w - 2 ^ i) (mi + R i) (sum + (f + i32 (aft Mt (mi + R i) 40 0))) (dg * 10 + i32 i + 1) s else s) 6 s))) 43 [(0, .ref 38), (1, .int (i32 (2 ^ m - 1 - w))), (2, .int mi), (3, .int sum), (4, .int dg), (5, .int (i32 (i)))] [] 58 I1 J RF) := by
        intro n
        induction n with
        | zero =>
          unfold Hid
          intro i I1 hi ⟨hS1, hq1, hB1⟩
          refine V_go 3 rfl ?_
          refine V_icmp_ge rfl (fun h1 => ?_) (fun h1 => ?_)
          · skip
            refine V_vret rfl rfl rfl ?_
            obtain rfl : i = m := hi
            refine RVP.mk ⟨rfl, hq1, ?_⟩
            have z := tryF_m (g := (fun i s => if w.testBit i then tryS R Mt f k (w - 2 ^ i) (mi + R i) (sum + (f + i32 (aft Mt (mi + R i) 40 0))) (dg * 10 + i32 i + 1) s else s)) (m := i) (s := s) (fun j s' hj hj6 => by rw [if_neg (by rw [(us_4 i (by omega) w hw).2 j hj6 hj]; decide)]) (6 - i) (by omega)
            rw [show i + (6 - i) = 6 from by omega] at z
            rw [z]
            exact hB1
          · skip
            exact absurd (by rw [hS1.2.1, show i = m from hi]; exact Int32.le_refl _) h1
        | succ n ih =>
          unfold Hid
          intro i I1 hi ⟨hS1, hq1, hB1⟩
          have hi6 : i < 6 := by omega
          have j1 : i32 (3 * i) + 1 = i32 (3 * i + 1) := (i32_add (3 * i) 1).symm
          refine V_go 3 rfl ?_
          refine V_icmp_ge rfl (fun h1 => ?_) (fun h1 => ?_)
          · skip
            rw [hS1.2.1] at h1
            exact absurd ((i32_le (a := m) (b := i) (by omega) (by omega)).mp h1) (by omega)
          · skip
            refine V_go 5 rfl ?_
            refine V_if_ne rfl (fun h2 => ?_) (fun h2 => ?_)
            · skip
              have hb : ¬ w.testBit i = true := fun z => h2 ((us_2 m (by omega) w hw i (by omega)).mpr z)
              refine V_go 2 rfl ?_
              refine V.st (L' := [(0, .ref 38), (1, .int (i32 (2 ^ m - 1 - w))), (2, .int mi), (3, .int sum), (4, .int dg), (5, .int (i32 (i + 1)))]) (ih.un (i + 1) I1 (by omega) ⟨hS1, hq1, ?_⟩) rfl (by rw [i32_s]; simp)
              rw [tryF, if_neg hb]
              exact hB1
            · skip
              have hb := (us_2 m (by omega) w hw i (by omega)).mp h2
              obtain ⟨hu1, hu2, hu3⟩ := us_3 m (by omega) w hw i (by omega) hb
              have b1 := bnd_s (p := 6 - (k + 1)) (a := aft Mt (mi + R i) 40 0) (by omega) (aft_le Mt _ 40 0) hs0 hs1 hS.2.2.2.1.1 hS.2.2.2.1.2
              have b2 := bnd_d (p := 6 - (k + 1)) (i := i) (by omega) hi6 hd0 hd1
              have hall : mi + I1 45 (3 * i) - I1 45 (3 * i + 1) = mi + R i := by
                rw [← hS1.2.2.2.2.1 i (by omega)]
                grind
              refine V_go 6 rfl ?_
              try simp only [up2_rd, row2_rd, reduceIte, Nat.reduceEqDiff, ix30 i hi6, j1, tn_of (show 3 * i < 2147483648 by omega), tn_of (show 3 * i + 1 < 2147483648 by omega), hall]
              refine V_iald rfl rfl (Nat.le_of_ble_eq_true rfl) (inb_i32 (by omega) (by decide)) ?_
              try simp only [up2_rd, row2_rd, reduceIte, Nat.reduceEqDiff, ix30 i hi6, j1, tn_of (show 3 * i < 2147483648 by omega), tn_of (show 3 * i + 1 < 2147483648 by omega), hall]
              refine V_go 8 rfl ?_
              try simp only [up2_rd, row2_rd, reduceIte, Nat.reduceEqDiff, ix30 i hi6, j1, tn_of (show 3 * i < 2147483648 by omega), tn_of (show 3 * i + 1 < 2147483648 by omega), hall]
              refine V_iald rfl rfl (Nat.le_of_ble_eq_true rfl) (inb_i32 (by omega) (by decide)) ?_
              try simp only [up2_rd, row2_rd, reduceIte, Nat.reduceEqDiff, ix30 i hi6, j1, tn_of (show 3 * i < 2147483648 by omega), tn_of (show 3 * i + 1 < 2147483648 by omega), hall]
              refine V_go 12 rfl ?_
              try simp only [up2_rd, row2_rd, reduceIte, Nat.reduceEqDiff, ix30 i hi6, j1, tn_of (show 3 * i < 2147483648 by omega), tn_of (show 3 * i + 1 < 2147483648 by omega), hall]
              refine cVI (mt' := mX7_sittingFor) rfl kX7_327 fX7_sittingFor rfl rfl rfl (Nat.le_of_ble_eq_true rfl) (Nat.le_of_ble_eq_true rfl) (by omega) (Nat.le_of_ble_eq_true rfl) (Nat.le_refl _) (c_sittingFor7 hS1) ?_
              refine V_go 8 rfl ?_
              try simp only [up2_rd, row2_rd, reduceIte, Nat.reduceEqDiff, ix30 i hi6, j1, tn_of (show 3 * i < 2147483648 by omega), tn_of (show 3 * i + 1 < 2147483648 by omega), hall]
              refine cVW (mt' := mX7_seeks) rfl kX7_330 fX7_seeks rfl rfl rfl (Nat.le_of_ble_eq_true rfl) (Nat.le_of_ble_eq_true rfl) (by omega) (Nat.le_of_ble_eq_true rfl) (Nat.le_refl _) ((show CT mX7_seeks (2 + k) 58 58 [.ref 38, _, _, _, _] I1 J RF _ from by rw [hu1, Int32.mul_comm 10 dg]; exact ih5 _ _ _ _ _ I1 J (by omega) hu2 (by omega) hS1 hB1 b1.1 (by rw [show 6 - k = 6 - (k + 1) + 1 from by omega]; exact b1.2) b2.1 (by rw [show 6 - k = 6 - (k + 1) + 1 from by omega]; exact b2.2))) ?_
              intro Ir32 Jr32 h32
              obtain ⟨hJ1, hq2, hB2⟩ := h32
              obtain rfl : J = Jr32 := hJ1.symm
              refine V_go 2 rfl ?_
              try simp only [up2_rd, row2_rd, reduceIte, Nat.reduceEqDiff, ix30 i hi6, j1, tn_of (show 3 * i < 2147483648 by omega), tn_of (show 3 * i + 1 < 2147483648 by omega), hall]
              refine V.st (L' := [(0, .ref 38), (1, .int (i32 (2 ^ m - 1 - w))), (2, .int mi), (3, .int sum), (4, .int dg), (5, .int (i32 (i + 1)))]) (ih.un (i + 1) _ (by omega) ⟨hS1.fr hq2, hq1.tr hq2, ?_⟩) rfl (by rw [i32_s]; simp)
              rw [tryF, if_pos hb]
              exact hB2
      refine CT_of okX7_seeks (Nat.le_of_ble_eq_true rfl) ?_
      show V _ _ _ _ _ _ [(0, _), (1, _), (2, _), (3, _), (4, _)] _ _ _ _ _
      refine V_go 7 rfl ?_
      refine V_icmp_ne rfl (fun h1 => ?_) (fun h1 => ?_)
      · skip
        refine V_go 2 rfl ?_
        exact (key m).un 0 I (Nat.zero_add _) ⟨hS, SkF.rf, hB⟩
      · skip
        rw [hS.2.1, show (1 : Int32) <<< (i32 m &&& 31) - 1 = i32 (2 ^ m - 1) from evr_ok m (by omega)] at h1
        exact absurd ((us_1 m (by omega) w hw).mp h1) h0
