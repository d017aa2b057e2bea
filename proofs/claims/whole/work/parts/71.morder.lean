theorem aft_le (M : Nat → Int32) (x : Int32) : ∀ n i, aft M x n i ≤ n + i
  | 0, i => by rw [aft]; omega
  | n + 1, i => by
    have e := aft_le M x n (i + 1)
    rw [aft]
    split <;> omega
/-- what the orders are weighed by -/
def ScP (m : Nat) (f : Int32) (R Mt : Nat → Int32) (I : I2) : Prop := m ≤ 6 ∧ I 38 14 = i32 m ∧ I 38 7 = f ∧ (0 ≤ f ∧ f ≤ 999) ∧ (∀ i, i < m → I 45 (3 * i) - I 45 (3 * i + 1) = R i) ∧ ∀ t, t < 40 → I 49 (t + 1) = Mt t
def SkF (I I9 : I2) : Prop := (∀ o, o ≠ 38 → I9 o = I o) ∧ ∀ k, k ≠ 36 → k ≠ 37 → I9 38 k = I 38 k
theorem SkF.rf {I : I2} : SkF I I := ⟨fun _ _ => rfl, fun _ _ _ => rfl⟩
theorem SkF.tr {I I1 I9 : I2} (h : SkF I I1) (h' : SkF I1 I9) : SkF I I9 := ⟨fun o a => (h'.1 o a).trans (h.1 o a), fun k a b => (h'.2 k a b).trans (h.2 k a b)⟩
theorem ScP.fr {m : Nat} {f : Int32} {R Mt : Nat → Int32} {I I9 : I2} (h : ScP m f R Mt I) (q : SkF I I9) : ScP m f R Mt I9 := by
  obtain ⟨a1, a2, a3, a4, a5, a6⟩ := h
  refine ⟨a1, (q.2 14 (by omega) (by omega)).trans a2, (q.2 7 (by omega) (by omega)).trans a3, a4, fun i hi => ?_, fun t ht => ?_⟩
  · rw [q.1 45 (by omega)]; exact a5 i hi
  · rw [q.1 49 (by omega)]; exact a6 t ht
/-- the best so far, as the class has it -/
def RB (I : I2) (s : Int32 × Int32) : Prop := (I 38 36 = -1 ∧ s = (2147483647, 0)) ∨ (I 38 36 = s.2 ∧ I 38 37 = s.1 ∧ s.2 ≠ -1)
theorem us_1 : ∀ m, m < 7 → ∀ w, w < 2 ^ m → (i32 (2 ^ m - 1 - w) = i32 (2 ^ m - 1) ↔ w = 0) := by decide +kernel
theorem us_2 : ∀ m, m < 7 → ∀ w, w < 2 ^ m → ∀ i, i < m → ((i32 (2 ^ m - 1 - w) >>> (i32 i &&& 31)) &&& 1 = 0 ↔ w.testBit i = true) := by decide +kernel
theorem us_3 : ∀ m, m < 7 → ∀ w, w < 2 ^ m → ∀ i, i < m → (w.testBit i = true → i32 (2 ^ m - 1 - w) ||| ((1 : Int32) <<< (i32 i &&& 31)) = i32 (2 ^ m - 1 - (w - 2 ^ i)) ∧ w - 2 ^ i < 2 ^ m ∧ cnt (w - 2 ^ i) 6 + 1 = cnt w 6) := by decide +kernel
theorem us_4 : ∀ m, m < 7 → ∀ w, w < 2 ^ m → (cnt w 6 = 0 → w = 0) ∧ ∀ i, i < 6 → (m ≤ i → w.testBit i = false) := by decide +kernel
theorem tryF_m {g : Nat → (Int32 × Int32) → (Int32 × Int32)} {m : Nat} {s : Int32 × Int32} (h : ∀ i s, m ≤ i → i < 6 → g i s = s) : ∀ k, m + k ≤ 6 → tryF g (m + k) s = tryF g m s
  | 0, _ => rfl
  | k + 1, hk => by
    rw [← Nat.add_assoc, tryF, tryF_m h k (by omega), h _ _ (by omega) (by omega)]
theorem bnd_s {x f : Int32} {p a : Nat} (hp : p < 6) (ha : a ≤ 40) (h0 : 0 ≤ x) (h1 : x ≤ i32 (2000 * p)) (f0 : 0 ≤ f) (f9 : f ≤ 999) : 0 ≤ x + (f + i32 a) ∧ x + (f + i32 a) ≤ i32 (2000 * (p + 1)) := by
  have a1 := Int32.le_iff_toInt_le.mp h0
  have a2 := Int32.le_iff_toInt_le.mp h1
  have a3 := Int32.le_iff_toInt_le.mp f0
  have a4 := Int32.le_iff_toInt_le.mp f9
  rw [Int32.toInt_ofNat_of_lt (by omega)] at a2
  have z0 : (0 : Int32).toInt = 0 := rfl
  have z9 : (999 : Int32).toInt = 999 := rfl
  have ea : (i32 a).toInt = a := Int32.toInt_ofNat_of_lt (by omega)
  have e1 : (f + i32 a).toInt = f.toInt + a := by rw [add_i (by omega) (by omega) (by omega) (by omega), ea]
  have e2 : (x + (f + i32 a)).toInt = x.toInt + (f.toInt + a) := by rw [add_i (by omega) (by omega) (by omega) (by omega), e1]
  rw [Int32.le_iff_toInt_le, Int32.le_iff_toInt_le, e2, Int32.toInt_ofNat_of_lt (by omega)]
  omega
theorem bnd_d {x : Int32} {p i : Nat} (hp : p < 6) (hi : i < 6) (h0 : 0 ≤ x) (h1 : x < i32 (10 ^ p)) : 0 ≤ x * 10 + i32 i + 1 ∧ x * 10 + i32 i + 1 < i32 (10 ^ (p + 1)) := by
  have a1 := Int32.le_iff_toInt_le.mp h0
  have a2 := Int32.lt_iff_toInt_lt.mp h1
  have hp2 : 10 ^ p ≤ 100000 := Nat.le_trans (Nat.pow_le_pow_right (by omega) (show p ≤ 5 by omega)) (by decide)
  have hp3 : 10 ^ (p + 1) = 10 * 10 ^ p := by rw [Nat.pow_succ, Nat.mul_comm]
  rw [Int32.toInt_ofNat_of_lt (by omega)] at a2
  have z0 : (0 : Int32).toInt = 0 := rfl
  have z1 : (1 : Int32).toInt = 1 := rfl
  have ea : (i32 i).toInt = i := Int32.toInt_ofNat_of_lt (by omega)
  have e0 : (x * 10).toInt = x.toInt * 10 := by rw [Int32.toInt_mul, show (10 : Int32).toInt = 10 from rfl, Int.bmod_eq_of_le (by omega) (by omega)]
  have e1 : (x * 10 + i32 i).toInt = x.toInt * 10 + i := by rw [Int32.toInt_add, e0, ea, Int.bmod_eq_of_le (by omega) (by omega)]
  have e2 : (x * 10 + i32 i + 1).toInt = x.toInt * 10 + i + 1 := by rw [Int32.toInt_add, e1, z1, Int.bmod_eq_of_le (by omega) (by omega)]
  rw [Int32.le_iff_toInt_le, Int32.lt_iff_toInt_lt, e2, Int32.toInt_ofNat_of_lt (by omega)]
  omega
theorem big_s {x : Int32} {p : Nat} (hp : p ≤ 6) (h1 : x ≤ i32 (2000 * p)) : x < 2147483647 := by
  have a2 := Int32.le_iff_toInt_le.mp h1
  rw [Int32.toInt_ofNat_of_lt (by omega)] at a2
  rw [Int32.lt_iff_toInt_lt, show (2147483647 : Int32).toInt = 2147483647 from rfl]
  omega
theorem neg_d {x : Int32} (h0 : 0 ≤ x) : ¬ x = -1 := fun z => absurd h0 (by rw [z]; decide)
theorem RB.leaf {I : I2} {s : Int32 × Int32} {sum dg : Int32} (h : RB I s) (hs : sum < 2147483647) (hd : ¬ dg = -1) : ((I 38 36 = -1 ∨ sum < I 38 37) → RB (up2 (up2 I 38 36 dg) 38 37 sum) (tryE sum dg s)) ∧ (¬ (I 38 36 = -1 ∨ sum < I 38 37) → RB I (tryE sum dg s)) := by
  unfold tryE
  rcases h with ⟨h1, h2⟩ | ⟨h1, h2, h3⟩
  · subst h2
    rw [if_pos hs]
    exact ⟨fun _ => Or.inr ⟨rfl, rfl, hd⟩, fun z => absurd (Or.inl h1) z⟩
  · refine ⟨fun z => ?_, fun z => ?_⟩
    · have hlt : sum < s.1 := by
        rcases z with z | z
        · exact absurd (h1.symm.trans z) h3
        · rw [← h2]; exact z
      rw [if_pos hlt]
      exact Or.inr ⟨rfl, rfl, hd⟩
    · rw [if_neg (fun y => z (Or.inr (by rw [h2]; exact y)))]
      exact Or.inr ⟨h1, h2, h3⟩

theorem c_sittingFor7 {m : Nat} {f x : Int32} {R Mt : Nat → Int32} {I : I2} {J : J2} (hS : ScP m f R Mt I) : CT mX7_sittingFor 1 58 58 [.ref 38, .int x] I J RF (RI RF (f + i32 (aft Mt x 40 0)) I J) := by
  have key : ∀ n, Hid (∀ (i : Nat), i + n = 40 → aft Mt x n i = aft Mt x 40 0 → V mX7_sittingFor none 1 58 (RI RF (f + i32 (aft Mt x 40 0)) I J) 2 [(0, .ref 38), (1, .int x), (2, .int (i32 i))] [] 58 I J RF) := by
    intro n
    induction n with
    | zero =>
      unfold Hid
      intro i  hi hA
      refine V_go 2 rfl ?_
      refine V_icmp_ge rfl (fun h1 => ?_) (fun h1 => ?_)
      · skip
        refine V_go 4 rfl ?_
        refine V_iret rfl rfl rfl ?_
        exact RI.mk (by rw [hS.2.2.1, ← hA]; rfl)
      · skip
        exact absurd (by rw [show i = 40 from hi]; exact Int32.le_refl _) h1
    | succ n ih =>
      unfold Hid
      intro i  hi hA
      refine V_go 2 rfl ?_
      refine V_icmp_ge rfl (fun h1 => ?_) (fun h1 => ?_)
      · skip
        exact absurd ((i32_le (a := 40) (b := i) (by omega) (by omega)).mp h1) (by omega)
      · skip
        refine V_go 5 rfl ?_
        refine V_iald rfl rfl (Nat.le_of_ble_eq_true rfl) (by rw [← i32_s]; exact inb_i32 (by omega) (by decide)) ?_
        refine V_go 1 rfl ?_
        refine V_icmp_ge rfl (fun h2 => ?_) (fun h2 => ?_)
        · skip
          rw [← i32_s, tn_of (by omega), hS.2.2.2.2.2 i (by omega)] at h2
          refine V_go 4 rfl ?_
          refine V_iret rfl rfl rfl ?_
          exact RI.mk (by rw [hS.2.2.1, ← hA, aft, if_neg (Int32.not_lt.mpr h2)])
        · skip
          rw [← i32_s, tn_of (by omega), hS.2.2.2.2.2 i (by omega)] at h2
          refine V_go 2 rfl ?_
          refine V.st (L' := [(0, .ref 38), (1, .int x), (2, .int (i32 (i + 1)))]) (ih.un (i + 1) (by omega) (by rw [← hA, aft, if_pos (Int32.not_le.mp h2)])) rfl (by rw [i32_s]; simp)
  refine CT_of okX7_sittingFor (Nat.le_of_ble_eq_true rfl) ?_
  show V _ _ _ _ _ _ [(0, _), (1, _)] _ _ _ _ _
  refine V_go 2 rfl ?_
  exact (key 40).un 0 rfl rfl
theorem c_seeks7 {m : Nat} {f : Int32} {R Mt : Nat → Int32} : ∀ (k w : Nat) (mi sum dg : Int32) (s : Int32 × Int32) (I : I2) (J : J2), k ≤ 6 → w < 2 ^ m → cnt w 6 ≤ k → ScP m f R Mt I → RB I s → 0 ≤ sum → sum ≤ i32 (2000 * (6 - k)) → 0 ≤ dg → dg < i32 (10 ^ (6 - k)) → CT mX7_seeks (2 + k) 58 58 [.ref 38, .int (i32 (2 ^ m - 1 - w)), .int mi, .int sum, .int dg] I J RF (RVP RF (fun I9 J9 => J9 = J ∧ SkF I I9 ∧ RB I9 (tryS R Mt f k w mi sum dg s)))
  | 0, w, mi, sum, dg, s, I, J, hk, hw, hc, hS, hB, hs0, hs1, hd0, hd1 => by
    have hm6 := hS.1
    have hsum : sum < 2147483647 := big_s (p := 6 - 0) (by omega) hs1
    have hdg : ¬ dg = -1 := neg_d hd0
    obtain rfl := (us_4 m (by omega) w hw).1 (by omega)
    show CT _ _ _ _ _ _ _ _ (RVP RF (fun I9 J9 => J9 = J ∧ SkF I I9 ∧ RB I9 (tryE sum dg s)))
    rw [Nat.sub_zero]
    refine CT_of okX7_seeks (Nat.le_of_ble_eq_true rfl) ?_
    show V _ _ _ _ _ _ [(0, _), (1, _), (2, _), (3, _), (4, _)] _ _ _ _ _
    refine V_go 7 rfl ?_
    refine V_icmp_ne rfl (fun h1 => ?_) (fun h1 => ?_)
    · skip
      rw [hS.2.1, show (1 : Int32) <<< (i32 m &&& 31) - 1 = i32 (2 ^ m - 1) from evr_ok m (by omega)] at h1
      exact absurd rfl h1
    · skip
      refine V_go 3 rfl ?_
      refine V_icmp_eq rfl (fun h11 => ?_) (fun h11 => ?_)
      · skip
        refine V_go 6 rfl ?_
        refine V_vret rfl rfl rfl ?_
        have hq9 : SkF I (up2 (up2 I 38 36 dg) 38 37 sum) := ⟨fun o ho => by rw [up2_ne ho, up2_ne ho], fun k k1 k2 => by simp only [up2_rd, reduceIte, if_neg k1, if_neg k2]⟩
        exact RVP.mk ⟨rfl, hq9, (hB.leaf hsum hdg).1 (Or.inl h11)⟩
      · skip
        have hnb := h11
        refine V_go 3 rfl ?_
        refine V_icmp_ge rfl (fun h21 => ?_) (fun h21 => ?_)
        · skip
          refine V_vret rfl rfl rfl ?_
          exact RVP.mk ⟨rfl, SkF.rf, (hB.leaf hsum hdg).2 (fun z => z.elim hnb (Int32.not_lt.mpr h21))⟩
        · skip
          refine V_go 6 rfl ?_
          refine V_vret rfl rfl rfl ?_
          have hq9 : SkF I (up2 (up2 I 38 36 dg) 38 37 sum) := ⟨fun o ho => by rw [up2_ne ho, up2_ne ho], fun k k1 k2 => by simp only [up2_rd, reduceIte, if_neg k1, if_neg k2]⟩
          exact RVP.mk ⟨rfl, hq9, (hB.leaf hsum hdg).1 (Or.inr (Int32.not_le.mp h21))⟩
  | k + 1, w, mi, sum, dg, s, I, J, hk, hw, hc, hS, hB, hs0, hs1, hd0, hd1 => by
    have hm6 := hS.1
    have hsum : sum < 2147483647 := big_s (p := 6 - (k + 1)) (by omega) hs1
    have hdg : ¬ dg = -1 := neg_d hd0
    have ih5 := c_seeks7 (m := m) (f := f) (R := R) (Mt := Mt) k
    rw [show 2 + (k + 1) = 3 + k from by omega]
    by_cases h0 : w = 0
    · subst h0
      show CT _ _ _ _ _ _ _ _ (RVP RF (fun I9 J9 => J9 = J ∧ SkF I I9 ∧ RB I9 (tryS R Mt f (k + 1) 0 mi sum dg s)))
      rw [tryS, if_pos rfl, Nat.sub_zero]
      refine CT_of okX7_seeks (Nat.le_of_ble_eq_true rfl) ?_
      show V _ _ _ _ _ _ [(0, _), (1, _), (2, _), (3, _), (4, _)] _ _ _ _ _
      refine V_go 7 rfl ?_
      refine V_icmp_ne rfl (fun h1 => ?_) (fun h1 => ?_)
      · skip
        rw [hS.2.1, show (1 : Int32) <<< (i32 m &&& 31) - 1 = i32 (2 ^ m - 1) from evr_ok m (by omega)] at h1
        exact absurd rfl h1
      · skip
        refine V_go 3 rfl ?_
        refine V_icmp_eq rfl (fun h11 => ?_) (fun h11 => ?_)
        · skip
          refine V_go 6 rfl ?_
          refine V_vret rfl rfl rfl ?_
          have hq9 : SkF I (up2 (up2 I 38 36 dg) 38 37 sum) := ⟨fun o ho => by rw [up2_ne ho, up2_ne ho], fun k k1 k2 => by simp only [up2_rd, reduceIte, if_neg k1, if_neg k2]⟩
          exact RVP.mk ⟨rfl, hq9, (hB.leaf hsum hdg).1 (Or.inl h11)⟩
        · skip
          have hnb := h11
          refine V_go 3 rfl ?_
          refine V_icmp_ge rfl (fun h21 => ?_) (fun h21 => ?_)
          · skip
            refine V_vret rfl rfl rfl ?_
            exact RVP.mk ⟨rfl, SkF.rf, (hB.leaf hsum hdg).2 (fun z => z.elim hnb (Int32.not_lt.mpr h21))⟩
          · skip
            refine V_go 6 rfl ?_
            refine V_vret rfl rfl rfl ?_
            have hq9 : SkF I (up2 (up2 I 38 36 dg) 38 37 sum) := ⟨fun o ho => by rw [up2_ne ho, up2_ne ho], fun k k1 k2 => by simp only [up2_rd, reduceIte, if_neg k1, if_neg k2]⟩
            exact RVP.mk ⟨rfl, hq9, (hB.leaf hsum hdg).1 (Or.inr (Int32.not_le.mp h21))⟩
    · rw [tryS, if_neg h0]
      have key : ∀ n, Hid (∀ (i : Nat) (I1 : I2), i + n = m → (ScP m f R Mt I1 ∧ SkF I I1 ∧ RB I1 (tryF (fun i s => if w.testBit i then tryS R Mt f k (w - 2 ^ i) (mi + R i) (sum + (f + i32 (aft Mt (mi + R i) 40 0))) (dg * 10 + i32 i + 1) s else s) i s)) → V mX7_seeks none (3 + k) 58 (RVP RF (fun I9 J9 => J9 = J ∧ SkF I I9 ∧ RB I9 (tryF (fun i s => if w.testBit i then tryS R Mt f k (w - 2 ^ i) (mi + R i) (sum + (f + i32 (aft Mt (mi + R i) 40 0))) (dg * 10 + i32 i + 1) s else s) 6 s))) 43 [(0, .ref 38), (1, .int (i32 (2 ^ m - 1 - w))), (2, .int mi), (3, .int sum), (4, .int dg), (5, .int (i32 (i)))] [] 58 I1 J RF) := by
        intro n
        induction n with
        | zero =>
          unfold Hid
          intro i I1 hi ⟨hS1, hq1, hB1⟩
          refine V_go 3 rfl ?_
          refine V_icmp_ge rfl (fun h1 => ?_) (fun h1 => ?_)
          · skip
            refine V_vret rfl rfl rfl ?_
            obtain rfl : i = m := hi
            refine RVP.mk ⟨rfl, hq1, ?_⟩
            have z := tryF_m (g := (fun i s => if w.testBit i then tryS R Mt f k (w - 2 ^ i) (mi + R i) (sum + (f + i32 (aft Mt (mi + R i) 40 0))) (dg * 10 + i32 i + 1) s else s)) (m := i) (s := s) (fun j s' hj hj6 => by rw [if_neg (by rw [(us_4 i (by omega) w hw).2 j hj6 hj]; decide)]) (6 - i) (by omega)
            rw [show i + (6 - i) = 6 from by omega] at z
            rw [z]
            exact hB1
          · skip
            exact absurd (by rw [hS1.2.1, show i = m from hi]; exact Int32.le_refl _) h1
        | succ n ih =>
          unfold Hid
          intro i I1 hi ⟨hS1, hq1, hB1⟩
          have hi6 : i < 6 := by omega
          have j1 : i32 (3 * i) + 1 = i32 (3 * i + 1) := (i32_add (3 * i) 1).symm
          refine V_go 3 rfl ?_
          refine V_icmp_ge rfl (fun h1 => ?_) (fun h1 => ?_)
          · skip
            rw [hS1.2.1] at h1
            exact absurd ((i32_le (a := m) (b := i) (by omega) (by omega)).mp h1) (by omega)
          · skip
            refine V_go 5 rfl ?_
            refine V_if_ne rfl (fun h2 => ?_) (fun h2 => ?_)
            · skip
              have hb : ¬ w.testBit i = true := fun z => h2 ((us_2 m (by omega) w hw i (by omega)).mpr z)
              refine V_go 2 rfl ?_
              refine V.st (L' := [(0, .ref 38), (1, .int (i32 (2 ^ m - 1 - w))), (2, .int mi), (3, .int sum), (4, .int dg), (5, .int (i32 (i + 1)))]) (ih.un (i + 1) I1 (by omega) ⟨hS1, hq1, ?_⟩) rfl (by rw [i32_s]; simp)
              rw [tryF, if_neg hb]
              exact hB1
            · skip
              have hb := (us_2 m (by omega) w hw i (by omega)).mp h2
              obtain ⟨hu1, hu2, hu3⟩ := us_3 m (by omega) w hw i (by omega) hb
              have b1 := bnd_s (p := 6 - (k + 1)) (a := aft Mt (mi + R i) 40 0) (by omega) (aft_le Mt _ 40 0) hs0 hs1 hS.2.2.2.1.1 hS.2.2.2.1.2
              have b2 := bnd_d (p := 6 - (k + 1)) (i := i) (by omega) hi6 hd0 hd1
              have hall : mi + I1 45 (3 * i) - I1 45 (3 * i + 1) = mi + R i := by
                rw [← hS1.2.2.2.2.1 i (by omega)]
                grind
              refine V_go 6 rfl ?_
              try simp only [up2_rd, row2_rd, reduceIte, Nat.reduceEqDiff, ix30 i hi6, j1, tn_of (show 3 * i < 2147483648 by omega), tn_of (show 3 * i + 1 < 2147483648 by omega), hall]
              refine V_iald rfl rfl (Nat.le_of_ble_eq_true rfl) (inb_i32 (by omega) (by decide)) ?_
              try simp only [up2_rd, row2_rd, reduceIte, Nat.reduceEqDiff, ix30 i hi6, j1, tn_of (show 3 * i < 2147483648 by omega), tn_of (show 3 * i + 1 < 2147483648 by omega), hall]
              refine V_go 8 rfl ?_
              try simp only [up2_rd, row2_rd, reduceIte, Nat.reduceEqDiff, ix30 i hi6, j1, tn_of (show 3 * i < 2147483648 by omega), tn_of (show 3 * i + 1 < 2147483648 by omega), hall]
              refine V_iald rfl rfl (Nat.le_of_ble_eq_true rfl) (inb_i32 (by omega) (by decide)) ?_
              try simp only [up2_rd, row2_rd, reduceIte, Nat.reduceEqDiff, ix30 i hi6, j1, tn_of (show 3 * i < 2147483648 by omega), tn_of (show 3 * i + 1 < 2147483648 by omega), hall]
              refine V_go 12 rfl ?_
              try simp only [up2_rd, row2_rd, reduceIte, Nat.reduceEqDiff, ix30 i hi6, j1, tn_of (show 3 * i < 2147483648 by omega), tn_of (show 3 * i + 1 < 2147483648 by omega), hall]
              refine cVI (mt' := mX7_sittingFor) rfl kX7_327 fX7_sittingFor rfl rfl rfl (Nat.le_of_ble_eq_true rfl) (Nat.le_of_ble_eq_true rfl) (by omega) (Nat.le_of_ble_eq_true rfl) (Nat.le_refl _) (c_sittingFor7 hS1) ?_
              refine V_go 8 rfl ?_
              try simp only [up2_rd, row2_rd, reduceIte, Nat.reduceEqDiff, ix30 i hi6, j1, tn_of (show 3 * i < 2147483648 by omega), tn_of (show 3 * i + 1 < 2147483648 by omega), hall]
              refine cVW (mt' := mX7_seeks) rfl kX7_330 fX7_seeks rfl rfl rfl (Nat.le_of_ble_eq_true rfl) (Nat.le_of_ble_eq_true rfl) (by omega) (Nat.le_of_ble_eq_true rfl) (Nat.le_refl _) ((show CT mX7_seeks (2 + k) 58 58 [.ref 38, _, _, _, _] I1 J RF _ from by rw [hu1, Int32.mul_comm 10 dg]; exact ih5 _ _ _ _ _ I1 J (by omega) hu2 (by omega) hS1 hB1 b1.1 (by rw [show 6 - k = 6 - (k + 1) + 1 from by omega]; exact b1.2) b2.1 (by rw [show 6 - k = 6 - (k + 1) + 1 from by omega]; exact b2.2))) ?_
              intro Ir32 Jr32 h32
              obtain ⟨hJ1, hq2, hB2⟩ := h32
              obtain rfl : J = Jr32 := hJ1.symm
              refine V_go 2 rfl ?_
              try simp only [up2_rd, row2_rd, reduceIte, Nat.reduceEqDiff, ix30 i hi6, j1, tn_of (show 3 * i < 2147483648 by omega), tn_of (show 3 * i + 1 < 2147483648 by omega), hall]
              refine V.st (L' := [(0, .ref 38), (1, .int (i32 (2 ^ m - 1 - w))), (2, .int mi), (3, .int sum), (4, .int dg), (5, .int (i32 (i + 1)))]) (ih.un (i + 1) _ (by omega) ⟨hS1.fr hq2, hq1.tr hq2, ?_⟩) rfl (by rw [i32_s]; simp)
              rw [tryF, if_pos hb]
              exact hB2
      refine CT_of okX7_seeks (Nat.le_of_ble_eq_true rfl) ?_
      show V _ _ _ _ _ _ [(0, _), (1, _), (2, _), (3, _), (4, _)] _ _ _ _ _
      refine V_go 7 rfl ?_
      refine V_icmp_ne rfl (fun h1 => ?_) (fun h1 => ?_)
      · skip
        refine V_go 2 rfl ?_
        exact (key m).un 0 I (Nat.zero_add _) ⟨hS, SkF.rf, hB⟩
      · skip
        rw [hS.2.1, show (1 : Int32) <<< (i32 m &&& 31) - 1 = i32 (2 ^ m - 1) from evr_ok m (by omega)] at h1
        exact absurd ((us_1 m (by omega) w hw).mp h1) h0
theorem Cr.sit {tc : Nat} {I : I2} {J : J2} {T : TV} {C : CC} (hM : MC tc I J T C) {v : Int32} (v0 : 0 ≤ v) (v1 : v ≤ 1100) : MC tc (up2 I 38 7 v) J T (up2 C 0 0 v) := by
  obtain ⟨a1, ⟨r0, r1, r2, r3, r4, r5, r6⟩, a3⟩ := hM
  have en : nC (up2 C 0 0 v) = nC C := rfl
  have em : mC (up2 C 0 0 v) = mC C := rfl
  have eg (g j : Nat) (hg : g ≠ 0) : up2 C 0 0 v g j = C g j := by rw [up2_ne hg]
  refine ⟨by rw [cMd_7, en, em]; exact a1.up, ⟨⟨v0, v1⟩, r1, r2, r3, r4, fun c hc => ?_, fun i hi => ?_⟩, a3.same rfl rfl rfl a3.2.2.2.2.2⟩
  · rw [eg 1 c (by omega), eg 2 c (by omega), eg 3 c (by omega)]; exact r5 c hc
  · rw [eg 4 i (by omega), eg 5 i (by omega), eg 6 i (by omega)]; exact r6 i hi
theorem MC.r49 {tc : Nat} {I : I2} {J : J2} {T : TV} {C : CC} (hM : MC tc I J T C) {o k : Nat} {v : Int32} (ho : 48 ≤ o) : MC tc (up2 I o k v) J T C := hM.re (hM.2.2.same (by rw [up2_ne (by omega)]) (up2_ne (by omega)) (up2_ne (by omega)) (fun p hp => by rw [up2_ne (by omega)]; exact hM.2.2.2.2.2.2.2 p hp)) (fun j _ => by rw [up2_ne (by omega)]) (fun a a1 a2 => up2_ne (by omega)) (fun j hj => by rw [up2_ne (by omega)])
theorem s41 {x : Int32} {i : Nat} (h0 : 0 ≤ x) (h1 : x ≤ 999) (hi : i ≤ 41) : 0 ≤ x + i32 i ∧ x + i32 i ≤ 1100 := by
  have a1 := Int32.le_iff_toInt_le.mp h0
  have a2 := Int32.le_iff_toInt_le.mp h1
  have z0 : (0 : Int32).toInt = 0 := rfl
  have z9 : (999 : Int32).toInt = 999 := rfl
  have e : (i32 i).toInt = i := Int32.toInt_ofNat_of_lt (by omega)
  rw [Int32.le_iff_toInt_le, Int32.le_iff_toInt_le, add_i (by omega) (by omega) (by omega) (by omega), e, show (1100 : Int32).toInt = 1100 from rfl]
  omega
def usd (C : CC) : Nat → Nat
  | 0 => 0
  | i + 1 => if C 6 i = -1 then usd C i else usd C i + 2 ^ i
theorem usd_lt (C : CC) : ∀ i, usd C i < 2 ^ i
  | 0 => by simp [usd]
  | i + 1 => by
    have h := usd_lt C i
    rw [usd, Nat.pow_succ]
    split <;> omega
theorem usd_w {tc : Nat} {C : CC} (h : Cr tc C) : ∀ i, i ≤ mC C → usd C i + sWait C i = 2 ^ i - 1
  | 0, _ => rfl
  | i + 1, hi => by
    have e := usd_w h i (by omega)
    have hp := Nat.one_le_two_pow (n := i)
    have hit := h.2.2.2.2.2.2 i (by omega)
    have hR : (0 < sRest C i) ↔ C 6 i = -1 := by
      unfold sRest
      rw [if_pos (show i < mC C by omega), hit.2.2]
      have a1 := Int32.le_iff_toInt_le.mp hit.1.1
      have a2 := Int32.le_iff_toInt_le.mp hit.1.2
      have a3 := Int32.le_iff_toInt_le.mp hit.2.1.1
      have a4 := Int32.le_iff_toInt_le.mp hit.2.1.2
      have z0 : (0 : Int32).toInt = 0 := rfl
      have z1 : (1 : Int32).toInt = 1 := rfl
      have z9 : (999 : Int32).toInt = 999 := rfl
      rw [Int32.lt_iff_toInt_lt, Int32.lt_iff_toInt_lt, sub_i (by omega) (by omega) (by omega) (by omega)]
      omega
    rw [usd, sWait, Nat.pow_succ]
    by_cases h6 : C 6 i = -1
    · rw [if_pos h6, if_pos (hR.mpr h6)]; omega
    · rw [if_neg h6, if_neg (fun z => h6 (hR.mp z))]; omega
theorem sWait_6 {C : CC} : ∀ k, sWait C (mC C + k) = sWait C (mC C)
  | 0 => rfl
  | k + 1 => by
    rw [← Nat.add_assoc, sWait, sWait_6 k, if_neg]
    unfold sRest
    rw [if_neg (by omega)]
    decide
theorem tb6z : ∀ w, w < 64 → (∀ j, j < 6 → w.testBit j = false) → w = 0 := by decide +kernel
theorem tb6 : ∀ w, w < 64 → w ≠ 0 → ∃ j, j < 6 ∧ w.testBit j = true := by
  intro w hw h0
  exact Classical.byContradiction (fun z => h0 (tb6z w hw (fun j hj => bof (fun y => z ⟨j, hj, y⟩))))
theorem tryE_lt {sum dg : Int32} {s : Int32 × Int32} (h : sum < 2147483647) : (tryE sum dg s).1 < 2147483647 := by
  unfold tryE
  split
  · exact h
  · rename_i h1
    exact Int32.lt_of_le_of_lt (Int32.not_lt.mp h1) h
theorem tryS_lt {R Mt : Nat → Int32} {f : Int32} (f0 : 0 ≤ f ∧ f ≤ 999) : ∀ (k w : Nat) (mi sum dg : Int32) (s : Int32 × Int32), k ≤ 6 → w < 64 → 0 ≤ sum → sum ≤ i32 (2000 * (6 - k)) → (tryS R Mt f k w mi sum dg s).1 < 2147483647
  | 0, w, mi, sum, dg, s, hk, hw, h0, h1 => tryE_lt (big_s (p := 6 - 0) (by omega) h1)
  | k + 1, w, mi, sum, dg, s, hk, hw, h0, h1 => by
    rw [tryS]
    split
    · exact tryE_lt (big_s (p := 6 - (k + 1)) (by omega) h1)
    · rename_i hw0
      obtain ⟨j, hj, hb⟩ := tb6 w hw hw0
      have key : ∀ i, i ≤ 6 → j < i → (tryF (fun i s => if w.testBit i then tryS R Mt f k (w - 2 ^ i) (mi + R i) (sum + (f + i32 (aft Mt (mi + R i) 40 0))) (dg * 10 + i32 i + 1) s else s) i s).1 < 2147483647 := by
        intro i
        induction i with
        | zero => intro _ h; exact absurd h (Nat.not_lt_zero _)
        | succ i ih =>
          intro hi hji
          rw [tryF]
          split
          · have b1 := bnd_s (p := 6 - (k + 1)) (a := aft Mt (mi + R i) 40 0) (by omega) (aft_le Mt _ 40 0) h0 h1 f0.1 f0.2
            exact tryS_lt f0 k _ _ _ _ _ (by omega) (Nat.lt_of_le_of_lt (Nat.sub_le _ _) hw) b1.1 (by rw [show 6 - k = 6 - (k + 1) + 1 from by omega]; exact b1.2)
          · rename_i hnb
            by_cases hji2 : j = i
            · exact absurd (hji2 ▸ hb) hnb
            · exact ih (by omega) (by omega)
      exact key 6 (by omega) hj
theorem cnt6 : ∀ m, m < 7 → ∀ w, w < 2 ^ m → cnt w 6 ≤ 6 := by decide +kernel
theorem or6 : ∀ i, i < 6 → ∀ m, m < 2 ^ i → i32 m ||| ((1 : Int32) <<< (i32 i &&& 31)) = i32 (m + 2 ^ i) ∧ i32 m ||| ((0 : Int32) <<< (i32 i &&& 31)) = i32 m := by decide +kernel

theorem c_order7 {tc : Nat} {I : I2} {J : J2} {T : TV} {C : CC} (hM : MC tc I J T C) {w : Int32} (hs : C 0 0 ≤ 999) : CT mX7_order 48 58 58 [.ref 38, .int w] I J RF (RP RF (fun r9 I9 J9 => r9 = sOrder T C w ∧ MC tc I9 J9 T C ∧ Mp I I9)) := by
  obtain ⟨hn1, hn8, hm1, hm6, hC3, hC4⟩ := hM.nm
  have k68 : (w = 0 ∨ w = 1) → ∀ (I1 : I2) (J1 : J2), MC tc I1 J1 T (up2 C 0 0 (C 0 0 + i32 40)) → Sf [49] [7] I I1 → (∀ t, t ≤ 40 → I1 49 t = sMt T C t) → V mX7_order none 48 58 (RP RF (fun r9 I9 J9 => r9 = sOrder T C w ∧ MC tc I9 J9 T C ∧ Mp I I9)) 68 [(0, .ref 38), (1, .int w), (2, .int (C 0 0)), (3, .int (i32 (40)))] [] 58 I1 J1 RF := by
    intro hw I1 J1 hM1 hq1 hmt
    have hM5 : MC tc (up2 I1 38 7 (C 0 0)) J1 T C := by
      have z := Cr.sit hM1 (v := C 0 0) hM.2.1.1.1 (Int32.le_trans hs (by decide))
      rw [up2_up2, up2_self] at z
      exact z
    have vm : I1 38 14 = i32 (mC C) := hM5.nm.2.2.1
    have key2 : ∀ n, Hid (∀ (i : Nat), i + n = mC C → True → V mX7_order none 48 58 (RP RF (fun r9 I9 J9 => r9 = sOrder T C w ∧ MC tc I9 J9 T C ∧ Mp I I9)) 78 [(0, .ref 38), (1, .int w), (2, .int (C 0 0)), (3, .int (i32 (usd C (i)))), (4, .int (i32 (i)))] [] 58 (up2 I1 38 7 (C 0 0)) J1 RF) := by
      intro n
      induction n with
      | zero =>
        unfold Hid
        intro i  hi _
        refine V_go 3 rfl ?_
        try simp only [up2_rd, row2_rd, reduceIte, Nat.reduceEqDiff]
        refine V_icmp_ge rfl (fun h1 => ?_) (fun h1 => ?_)
        · skip
          obtain rfl : i = mC C := hi
          have hwl : sWait C 6 = sWait C (mC C) := by
            have z := sWait_6 (C := C) (6 - mC C)
            rw [show mC C + (6 - mC C) = 6 from by omega] at z
            exact z
          have hus : usd C (mC C) = 2 ^ mC C - 1 - sWait C 6 := by
            have z := usd_w hM.2.1 (mC C) (Nat.le_refl _)
            omega
          have hwlt : sWait C 6 < 2 ^ mC C := by rw [hwl]; exact sWait_lt C _
          have hsc : ScP (mC C) (C 0 0) (sRest C) (fun t => sMt T C (t + 1)) (up2 (up2 (up2 I1 38 7 (C 0 0)) 38 36 (-1)) 38 37 0) := by
            refine ⟨hm6, vm, rfl, ⟨hM.2.1.1.1, hs⟩, fun j hj => ?_, fun t ht => hmt (t + 1) (by omega)⟩
            obtain ⟨v1, v2, v3⟩ := hM5.it (i := j) hj
            show (up2 I1 38 7 (C 0 0)) 45 (3 * j) - (up2 I1 38 7 (C 0 0)) 45 (3 * j + 1) = _
            rw [v1, v2]
            unfold sRest
            rw [if_pos hj]
          have hsk := c_seeks7 (m := mC C) 6 (sWait C 6) 0 0 0 (2147483647, 0) (up2 (up2 (up2 I1 38 7 (C 0 0)) 38 36 (-1)) 38 37 0) J1 (by omega) hwlt (cnt6 _ (by omega) _ hwlt) hsc (Or.inl ⟨rfl, rfl⟩) (by decide) (by decide) (by decide) (by decide)
          rw [← hus] at hsk
          have hfin : (sOrd T C).1 < 2147483647 := tryS_lt hsc.2.2.2.1 6 (sWait C 6) 0 0 0 (2147483647, 0) (by omega) (Nat.lt_of_lt_of_le (sWait_lt C 6) (by decide)) (by decide) (by decide)
          refine V_go 11 rfl ?_
          try simp only [up2_rd, row2_rd, reduceIte, Nat.reduceEqDiff]
          refine cVW (mt' := mX7_seeks) rfl kX7_330 fX7_seeks rfl rfl rfl (Nat.le_of_ble_eq_true rfl) (Nat.le_of_ble_eq_true rfl) (Nat.le_of_ble_eq_true rfl) (Nat.le_of_ble_eq_true rfl) (Nat.le_refl _) ((show CT mX7_seeks 8 58 58 _ _ J1 RF _ from hsk)) ?_
          intro Ir51 Jr51 h51
          obtain ⟨hJ1, hq6, hB6⟩ := h51
          obtain rfl : J1 = Jr51 := hJ1.symm
          obtain ⟨hb36, hb37⟩ : Ir51 38 36 = (sOrd T C).2 ∧ Ir51 38 37 = (sOrd T C).1 := by
            rcases hB6 with ⟨-, z⟩ | ⟨z1, z2, -⟩
            · exfalso
              have y := hfin
              rw [show sOrd T C = (2147483647, 0) from z] at y
              exact absurd y (by decide)
            · exact ⟨z1, z2⟩
          have hM6 : MC tc Ir51 J1 T C := by
            refine hM5.re (hM5.2.2.same ?_ (hq6.1 39 (by omega)) (hq6.1 40 (by omega)) (fun p hp => ?_)) (fun j _ => by rw [hq6.1 45 (by omega)]; rfl) (fun o o1 o2 => by rw [hq6.1 o (by omega), up2_ne (by omega), up2_ne (by omega)]) (fun k hk => by rw [hq6.2 k (by omega) (by omega), up2_rd, if_pos rfl, if_neg (by omega), up2_rd, if_pos rfl, if_neg (by omega)])
            · rw [hq6.2 3 (by omega) (by omega)]; rfl
            · rw [hq6.1 47 (by omega)]; exact hM5.2.2.2.2.2.2.2 p hp
          have hmp : Mp I Ir51 := by
            refine ((hq1.tr (Sf.fld (v := C 0 0) (k := 7) (Or.inl (by simp)))).mp (by simp) (by simp)).tr (((Mp.fld (k := 36) (v := -1) (by omega) (by omega)).tr (Mp.fld (k := 37) (v := 0) (by omega) (by omega))).tr ⟨fun o ho => hq6.1 o (by omega), fun k hk => hq6.2 k (by omega) (by omega)⟩)
          refine V_go 1 rfl ?_
          try simp only [up2_rd, row2_rd, reduceIte, Nat.reduceEqDiff]
          refine V_if_ne rfl (fun h52 => ?_) (fun h52 => ?_)
          · skip
            refine V_go 2 rfl ?_
            try simp only [up2_rd, row2_rd, reduceIte, Nat.reduceEqDiff]
            refine V_iret rfl rfl rfl ?_
            refine RP.mk ⟨?_, hM6, hmp⟩
            unfold sOrder
            rw [if_pos hw]
            first
              | (rw [if_pos (by assumption)]; exact hb36)
              | (rw [if_neg (by assumption)]; exact hb37)
          · skip
            refine V_go 3 rfl ?_
            try simp only [up2_rd, row2_rd, reduceIte, Nat.reduceEqDiff]
            refine V_iret rfl rfl rfl ?_
            refine RP.mk ⟨?_, hM6, hmp⟩
            unfold sOrder
            rw [if_pos hw]
            first
              | (rw [if_pos (by assumption)]; exact hb36)
              | (rw [if_neg (by assumption)]; exact hb37)
        · skip
          exact absurd (by rw [vm, show i = mC C from hi]; exact Int32.le_refl _) h1
      | succ n ih =>
        unfold Hid
        intro i  hi _
        have hi6 : i < 6 := by omega
        have v3 : I1 45 (3 * i + 2) = C 6 i := (hM5.it (i := i) (by omega)).2.2
        have j2 : i32 (3 * i) + 2 = i32 (3 * i + 2) := (i32_add (3 * i) 2).symm
        refine V_go 3 rfl ?_
        try simp only [up2_rd, row2_rd, reduceIte, Nat.reduceEqDiff, ix30 i hi6, j2, tn_of (show 3 * i + 2 < 2147483648 by omega), v3]
        refine V_icmp_ge rfl (fun h1 => ?_) (fun h1 => ?_)
        · skip
          rw [vm] at h1
          exact absurd ((i32_le (a := mC C) (b := i) (by omega) (by omega)).mp h1) (by omega)
        · skip
          refine V_go 8 rfl ?_
          try simp only [up2_rd, row2_rd, reduceIte, Nat.reduceEqDiff, ix30 i hi6, j2, tn_of (show 3 * i + 2 < 2147483648 by omega), v3]
          refine V_iald rfl rfl (Nat.le_of_ble_eq_true rfl) (inb_i32 (by omega) (by decide)) ?_
          try simp only [up2_rd, row2_rd, reduceIte, Nat.reduceEqDiff, ix30 i hi6, j2, tn_of (show 3 * i + 2 < 2147483648 by omega), v3]
          refine V_go 1 rfl ?_
          try simp only [up2_rd, row2_rd, reduceIte, Nat.reduceEqDiff, ix30 i hi6, j2, tn_of (show 3 * i + 2 < 2147483648 by omega), v3]
          refine V_icmp_ne rfl (fun h2 => ?_) (fun h2 => ?_)
          · skip
            refine V_go 7 rfl ?_
            refine V.st (L' := [(0, .ref 38), (1, .int w), (2, .int (C 0 0)), (3, .int (i32 (usd C (i + 1)))), (4, .int (i32 (i + 1)))]) (ih.un (i + 1) (by omega) trivial) rfl ?_
            rw [i32_s, usd, if_neg h2, ← (or6 i hi6 _ (usd_lt C i)).1]
            simp
          · skip
            refine V_go 8 rfl ?_
            refine V.st (L' := [(0, .ref 38), (1, .int w), (2, .int (C 0 0)), (3, .int (i32 (usd C (i + 1)))), (4, .int (i32 (i + 1)))]) (ih.un (i + 1) (by omega) trivial) rfl ?_
            rw [i32_s, usd, if_pos h2, (or6 i hi6 _ (usd_lt C i)).2]
            simp
    refine V_go 7 rfl ?_
    exact (key2 _).un 0 (Nat.zero_add _) trivial
  have key1 : (w = 0 ∨ w = 1) → ∀ n, Hid (∀ (i : Nat) (I1 : I2) (J1 : J2), i + n = 40 → (MC tc I1 J1 T (up2 C 0 0 (C 0 0 + i32 i)) ∧ Sf [49] [7] I I1 ∧ (∀ t, t ≤ i → I1 49 t = sMt T C t) ∧ I1 38 7 = C 0 0 + i32 i) → V mX7_order none 48 58 (RP RF (fun r9 I9 J9 => r9 = sOrder T C w ∧ MC tc I9 J9 T C ∧ Mp I I9)) 27 [(0, .ref 38), (1, .int w), (2, .int (C 0 0)), (3, .int (i32 (i)))] [] 58 I1 J1 RF) := by
    intro hw n
    induction n with
    | zero =>
      unfold Hid
      intro i I1 J1 hi ⟨hM1, hq1, hmt, h38⟩
      refine V_go 2 rfl ?_
      refine V_icmp_ge rfl (fun h1 => ?_) (fun h1 => ?_)
      · skip
        obtain rfl : i = 40 := hi
        exact k68 hw I1 J1 hM1 hq1 hmt
      · skip
        exact absurd (by rw [show i = 40 from hi]; exact Int32.le_refl _) h1
    | succ n ih =>
      unfold Hid
      intro i I1 J1 hi ⟨hM1, hq1, hmt, h38⟩
      have hmi := hmt i (Nat.le_refl _)
      refine V_go 2 rfl ?_
      try simp only [up2_rd, row2_rd, reduceIte, Nat.reduceEqDiff, ← i32_s, tn_of (show i < 2147483648 by omega), tn_of (show i + 1 < 2147483648 by omega), hmi]
      refine V_icmp_ge rfl (fun h1 => ?_) (fun h1 => ?_)
      · skip
        exact absurd ((i32_le (a := 40) (b := i) (by omega) (by omega)).mp h1) (by omega)
      · skip
        refine V_go 8 rfl ?_
        try simp only [up2_rd, row2_rd, reduceIte, Nat.reduceEqDiff, ← i32_s, tn_of (show i < 2147483648 by omega), tn_of (show i + 1 < 2147483648 by omega), hmi]
        refine V_iald rfl rfl (Nat.le_of_ble_eq_true rfl) (inb_i32 (by omega) (by decide)) ?_
        try simp only [up2_rd, row2_rd, reduceIte, Nat.reduceEqDiff, ← i32_s, tn_of (show i < 2147483648 by omega), tn_of (show i + 1 < 2147483648 by omega), hmi]
        refine V_go 1 rfl ?_
        try simp only [up2_rd, row2_rd, reduceIte, Nat.reduceEqDiff, ← i32_s, tn_of (show i < 2147483648 by omega), tn_of (show i + 1 < 2147483648 by omega), hmi]
        refine cVP (mt' := mX7_leftNow) rfl kX7_290 fX7_leftNow rfl rfl rfl (Nat.le_of_ble_eq_true rfl) (Nat.le_of_ble_eq_true rfl) (Nat.le_of_ble_eq_true rfl) (Nat.le_of_ble_eq_true rfl) (Nat.le_refl _) (c_leftNow7 hM1) ?_
        intro r2 Ir2 Jr2 h2
        obtain ⟨hv, hM2, hq2⟩ := h2
        subst hv
        refine V_go 1 rfl ?_
        try simp only [up2_rd, row2_rd, reduceIte, Nat.reduceEqDiff, ← i32_s, tn_of (show i < 2147483648 by omega), tn_of (show i + 1 < 2147483648 by omega), hmi]
        refine V_iast rfl rfl (Nat.le_of_ble_eq_true rfl) (inb_i32 (by omega) (by decide)) ?_
        refine V_go 8 rfl ?_
        try simp only [up2_rd, row2_rd, reduceIte, Nat.reduceEqDiff, ← i32_s, tn_of (show i < 2147483648 by omega), tn_of (show i + 1 < 2147483648 by omega), hmi]
        refine V.st (I' := up2 (up2 Ir2 49 (i + 1) (sMt T C (i + 1))) 38 7 (C 0 0 + i32 (i + 1))) (L' := [(0, .ref 38), (1, .int w), (2, .int (C 0 0)), (3, .int (i32 (i + 1)))]) (ih.un (i + 1) _ _ (by omega) ⟨?_, ?_, fun t ht => ?_, rfl⟩) ?_ (by rw [i32_s]; simp)
        · have z := Cr.sit (hM2.r49 (o := 49) (k := i + 1) (v := sMt T C (i + 1)) (by omega)) (v := C 0 0 + i32 (i + 1)) (s41 hM.2.1.1.1 hs (by omega)).1 (s41 hM.2.1.1.1 hs (by omega)).2
          rw [up2_up2] at z
          exact z
        · exact ((hq1.tr hq2.sf).tr (Sf.row (by simp) (by omega))).tr (Sf.fld (Or.inl (by simp)))
        · rw [up2_ne (by omega)]
          simp only [up2_rd, reduceIte]
          by_cases h9 : t = i + 1
          · rw [if_pos h9, h9]
          · rw [if_neg h9, hq2.1 49 (by omega) (by omega)]; exact hmt t (by omega)
        · have e7 : Ir2 38 7 = C 0 0 + i32 i := (hq2.2 7 (by omega)).trans h38
          simp only [e7, Int32.add_assoc, ← i32_s]
          rfl
  refine CT_of okX7_order (Nat.le_of_ble_eq_true rfl) ?_
  show V _ _ _ _ _ _ [(0, _), (1, _)] _ _ _ _ _
  refine V_go 4 rfl ?_
  refine cSI (mt' := mX7_in) rfl kX7_89 fX7_in rfl (Nat.le_of_ble_eq_true rfl) (Nat.le_of_ble_eq_true rfl) (Nat.le_refl _) (c_inI (lo := (0)) (hi := (1)) rfl (by decide +kernel) (by decide +kernel)) ?_
  refine V_if_ne rfl (fun h2 => ?_) (fun h2 => ?_)
  · skip
    have hw := w01.mp (b2i_n0.mp h2)
    refine V_go 7 rfl ?_
    refine V_iast rfl rfl (Nat.le_of_ble_eq_true rfl) (inb_i32 (k := 0) (by omega) (by decide)) ?_
    refine V_go 2 rfl ?_
    refine V.st (I' := up2 I 49 0 0) (L' := [(0, .ref 38), (1, .int w), (2, .int (C 0 0)), (3, .int (i32 (0)))]) ((key1 hw 40).un 0 (up2 I 49 0 0) J rfl ⟨?_, Sf.row (by simp) (by omega), fun t ht => ?_, ?_⟩) rfl ?_
    · rw [show C 0 0 + i32 0 = C 0 0 from Int32.add_zero _, up2_self]
      exact hM.r49 (by omega)
    · rw [show t = 0 from by omega]; rfl
    · exact hM.f.1.trans (Int32.add_zero _).symm
    · rw [hM.f.1]
      simp [show i32 0 = 0 from rfl]
  · skip
    refine V_go 1 rfl ?_
    refine V_iret rfl rfl rfl ?_
    exact RP.mk ⟨(if_neg (fun z => (b2i_eq0.mp h2) (w01.mpr z))).symm, hM, Mp.rf⟩
