def cpI (f : Nat → Int32) (a b lo hi : Nat) : Nat → Int32 := fun p => if b + lo ≤ p ∧ p < b + hi then f (a + (p - b)) else f p
theorem cpI_0 (f : Nat → Int32) (a b lo : Nat) : cpI f a b lo lo = f := by
  funext p
  unfold cpI
  rw [if_neg (by omega)]
theorem cpI_all (f : Nat → Int32) (a b n : Nat) : cpI f a b 0 n = va_cpy f f a b n := by
  funext p
  unfold cpI va_cpy
  rfl
theorem cpI_up {f : Nat → Int32} {a b q hi : Nat} (h : q < hi) (hab : a < b) : upd (cpI f a b (q + 1) hi) (b + q) (cpI f a b (q + 1) hi (a + q)) = cpI f a b q hi := by
  funext p
  simp only [upd, cpI]
  by_cases hp : p = b + q
  · subst hp
    rw [if_pos rfl, if_neg (by omega), if_pos (by omega), show b + q - b = q by omega]
  · rw [if_neg hp]
    by_cases h2 : b + q ≤ p ∧ p < b + hi
    · rw [if_pos h2, if_pos (by omega)]
    · rw [if_neg h2, if_neg (by omega)]
theorem cpI_dn {f : Nat → Int32} {a b q : Nat} (h : ¬ (b ≤ a + q ∧ a + q < b + q)) : upd (cpI f a b 0 q) (b + q) (cpI f a b 0 q (a + q)) = cpI f a b 0 (q + 1) := by
  funext p
  simp only [upd, cpI]
  by_cases hp : p = b + q
  · subst hp
    rw [if_pos rfl, if_neg (by omega), if_pos (by omega), show b + q - b = q by omega]
  · rw [if_neg hp]
    by_cases h2 : b + 0 ≤ p ∧ p < b + q
    · rw [if_pos h2, if_pos (by omega)]
    · rw [if_neg h2, if_neg (by omega)]
def mCo (I X : I2) (s x o y m : Int32) : I2 := if (0 ≤ s ∧ s < 4) ∧ 0 ≤ o ∧ o < 4 then (if X 35 s.toNatClampNeg = -1 ∨ X 35 o.toNatClampNeg = -1 then I else if X 35 s.toNatClampNeg = X 35 o.toNatClampNeg then (if hasIts X s x m ∧ hasIts X o y m then row2 I 57 (va_cpy (I 57) (I 57) (40 * s.toNatClampNeg + x.toNatClampNeg) (40 * o.toNatClampNeg + y.toNatClampNeg) m.toNatClampNeg) else I) else I) else I
theorem its_n {x z m : Int32} (hx : 0 ≤ x) (hz : 0 ≤ z ∧ z ≤ 40) (hm : 0 ≤ m) (h4 : m ≤ 40) (h : x ≤ z - m) : x.toNatClampNeg + m.toNatClampNeg ≤ z.toNatClampNeg ∧ z.toNatClampNeg ≤ 40 := by
  have a1 := ti_n hx
  have a2 := ti_n hz.1
  have a3 := ti_n hm
  have a4 := Int32.le_iff_toInt_le.mp h
  have a5 := Int32.le_iff_toInt_le.mp h4
  have a6 := Int32.le_iff_toInt_le.mp hz.2
  rw [show (40 : Int32).toInt = 40 from rfl] at a5 a6
  rw [sub_i (by omega) (by omega) (by omega) (by omega)] at a4
  omega
theorem its_40 {x z m : Int32} (hx : 0 ≤ x) (hz : 0 ≤ z ∧ z ≤ 40) (hm : 0 ≤ m) (h : x ≤ z - m) : m ≤ 40 := by
  have a1 := ti_n hx
  have a2 := ti_n hz.1
  have a3 := ti_n hm
  have a4 := Int32.le_iff_toInt_le.mp h
  have a6 := Int32.le_iff_toInt_le.mp hz.2
  have a7 := Int32.toInt_lt m
  rw [show (40 : Int32).toInt = 40 from rfl] at a6
  rw [Int32.toInt_sub, Int.bmod_eq_of_le (by omega) (by omega)] at a4
  refine Int32.le_iff_toInt_le.mpr ?_
  rw [show (40 : Int32).toInt = 40 from rfl]
  omega
theorem s40q {x y : Int32} {q : Nat} (p0 : 0 ≤ x) (p4 : x < 4) (hy : 0 ≤ y) (h : y.toNatClampNeg + q < 40) : inb (40 * x + y + i32 q) 160 ∧ (40 * x + y + i32 q).toNatClampNeg = 40 * x.toNatClampNeg + y.toNatClampNeg + q := by
  have e : 40 * x + y + i32 q = 40 * x + i32 (y.toNatClampNeg + q) := by rw [i32_add, xn hy, Int32.add_assoc]
  rw [e, Nat.add_assoc]
  exact s40k p0 p4 h
theorem SR.co {I X : I2} {s x o y m : Int32} (h : SR I X) : SR (mCo I X s x o y m) (coM X s x o y m) := by
  unfold mCo coM
  split
  · rename_i hso
    split
    · exact h
    · rename_i hp
      split
      · rename_i he
        split
        · rename_i hi
          have hs4 := tn4 hso.1
          have ho4 := tn4 hso.2
          obtain ⟨h1, h2⟩ := h
          have k1 := its_n hi.1.1 (h1 _ hs4) hi.1.2.1 hi.1.2.2.1 hi.1.2.2.2
          have k2 := its_n hi.2.1 (h1 _ ho4) hi.2.2.1 hi.2.2.2.1 hi.2.2.2.2
          have hss := (h2 _ hs4).2 (fun z => hp (Or.inl z))
          clear hi hso
          generalize s.toNatClampNeg = t at *
          generalize o.toNatClampNeg = u at *
          generalize x.toNatClampNeg = a at *
          generalize y.toNatClampNeg = b at *
          generalize m.toNatClampNeg = M at *
          refine ⟨fun w hw => by simp only [row2_rd, Nat.reduceEqDiff, reduceIte]; exact h1 w hw, fun w hw => ?_⟩
          obtain ⟨c1, c2⟩ := h2 w hw
          simp only [row2_rd, Nat.reduceEqDiff, reduceIte]
          refine ⟨c1, fun z => ⟨(c2 z).1, (c2 z).2.1, fun i hi => ?_⟩⟩
          have hw40 := sz40 (h1 w hw)
          unfold va_cpy
          by_cases hr : 40 * u + b ≤ 40 * w + i ∧ 40 * w + i < 40 * u + b + M
          · rw [if_pos hr, if_pos hr]
            have hwu : w = u := by omega
            subst hwu
            rw [show 40 * t + a + (40 * w + i - (40 * w + b)) = 40 * t + (a + i - b) by omega]
            exact hss.2.2 _ (by omega)
          · rw [if_neg hr, if_neg hr]
            exact (c2 z).2.2 i hi
        · exact h
      · exact h
  · exact h
theorem mCo_fr {I X : I2} {s x o y m : Int32} : ∀ a, a < 54 ∨ 57 < a → mCo I X s x o y m a = I a := by
  intro a ha
  unfold mCo
  split
  · split
    · rfl
    · split
      · split
        · funext j; simp only [row2_rd]; rw [if_neg (by omega)]
        · rfl
      · rfl
  · rfl

theorem c_copy7 {s x o y m : Int32} {I X : I2} {J : J2} (hS : SR I X) : CT mX7_copy 3 58 58 [.ref 38, .int s, .int x, .int o, .int y, .int m] I J RF (RI RF (coR X s x o y m) (mCo I X s x o y m) J) := by
  have k116 : ∀ u : Int32, (0 ≤ s ∧ s < 4) → (0 ≤ o ∧ o < 4) → ¬ X 35 s.toNatClampNeg = -1 → ¬ X 35 o.toNatClampNeg = -1 → X 35 s.toNatClampNeg = X 35 o.toNatClampNeg → hasIts X s x m → hasIts X o y m → (¬ u = 0 ↔ s = o ∧ x < y) → V mX7_copy none 3 58 (RI RF (coR X s x o y m) (mCo I X s x o y m) J) 116 [(0, .ref 38), (1, .int s), (2, .int x), (3, .int o), (4, .int y), (5, .int m)] [.int u] 58 I J RF := by
    rintro u ⟨p0, p4⟩ ⟨g0, g4⟩ hs1 ho1 heq hi1 hi2 hul
    have hm0 := hi1.2.1
    obtain ⟨hw1, hw2⟩ := its_n hi1.1 (hS.1 _ (tn4 ⟨p0, p4⟩)) hm0 hi1.2.2.1 hi1.2.2.2
    obtain ⟨hw3, hw4⟩ := its_n hi2.1 (hS.1 _ (tn4 ⟨g0, g4⟩)) hm0 hi2.2.2.1 hi2.2.2.2
    have hup : ¬ u = 0 → 40 * s.toNatClampNeg + x.toNatClampNeg < 40 * o.toNatClampNeg + y.toNatClampNeg := fun z => by
      obtain ⟨z1, z2⟩ := hul.mp z
      rw [z1]
      have a1 := ti_n hi1.1
      have a2 := ti_n hi2.1
      have a3 := Int32.lt_iff_toInt_lt.mp z2
      omega
    have hdn : u = 0 → ∀ q, q < m.toNatClampNeg → ¬ (40 * o.toNatClampNeg + y.toNatClampNeg ≤ 40 * s.toNatClampNeg + x.toNatClampNeg + q ∧ 40 * s.toNatClampNeg + x.toNatClampNeg + q < 40 * o.toNatClampNeg + y.toNatClampNeg + q) := fun z q hq => by
      by_cases hso : s = o
      · have z2 : ¬ x < y := fun w => hul.mpr ⟨hso, w⟩ z
        rw [hso]
        have a1 := ti_n hi1.1
        have a2 := ti_n hi2.1
        have a3 : ¬ x.toInt < y.toInt := fun w => z2 (Int32.lt_iff_toInt_lt.mpr w)
        omega
      · have z3 : ¬ s.toNatClampNeg = o.toNatClampNeg := fun w => hso (by rw [← xn p0, ← xn g0, w])
        omega
    have key : ∀ n, Hid (∀ (i : Nat) (lo hj : Nat), i + n = m.toNatClampNeg → ((u = 0 ∧ lo = 0 ∧ hj = i) ∨ (¬ u = 0 ∧ lo = m.toNatClampNeg - i ∧ hj = m.toNatClampNeg)) → V mX7_copy none 3 58 (RI RF (coR X s x o y m) (mCo I X s x o y m) J) 121 [(0, .ref 38), (1, .int s), (2, .int x), (3, .int o), (4, .int y), (5, .int m), (6, .int u), (7, .int (i32 (i)))] [] 58 (row2 I 57 (cpI (I 57) (40 * s.toNatClampNeg + x.toNatClampNeg) (40 * o.toNatClampNeg + y.toNatClampNeg) lo hj)) J RF) := by
      intro n
      induction n with
      | zero =>
        unfold Hid
        intro i lo hj hi hlo
        obtain rfl : i = m.toNatClampNeg := hi
        have ez : cpI (I 57) (40 * s.toNatClampNeg + x.toNatClampNeg) (40 * o.toNatClampNeg + y.toNatClampNeg) lo hj = va_cpy (I 57) (I 57) (40 * s.toNatClampNeg + x.toNatClampNeg) (40 * o.toNatClampNeg + y.toNatClampNeg) m.toNatClampNeg := by
          rw [← cpI_all]
          rcases hlo with ⟨-, rfl, rfl⟩ | ⟨-, rfl, rfl⟩
          · rfl
          · rw [Nat.sub_self]
        rw [ez]
        refine V_go 2 rfl ?_
        refine V_icmp_ge rfl (fun h1 => ?_) (fun h1 => ?_)
        · skip
          refine V_go 1 rfl ?_
          refine V_iret rfl rfl rfl ?_
          refine RI.mk2 ?_ ?_
          · unfold coR
            rw [if_pos ⟨⟨p0, p4⟩, g0, g4⟩, if_neg (fun z => z.elim hs1 ho1), if_pos heq, if_pos ⟨hi1, hi2⟩]
          · unfold mCo
            rw [if_pos ⟨⟨p0, p4⟩, g0, g4⟩, if_neg (fun z => z.elim hs1 ho1), if_pos heq, if_pos ⟨hi1, hi2⟩]
        · skip
          exact absurd (by rw [xn hm0]; exact Int32.le_refl _) h1
      | succ n ih =>
        unfold Hid
        intro i lo hj hi hlo
        refine V_go 2 rfl ?_
        refine V_icmp_ge rfl (fun h1 => ?_) (fun h1 => ?_)
        · skip
          exfalso
          rw [← xn hm0] at h1
          exact lp_more (by omega) (by omega) h1
        · skip
          refine V_go 1 rfl ?_
          refine V_if_eq rfl (fun h2 => ?_) (fun h2 => ?_)
          · skip
            have hu0 : u = 0 := h2
            have hq : x.toNatClampNeg + i < 40 ∧ y.toNatClampNeg + i < 40 := by omega
            obtain ⟨qs, es⟩ := s40q p0 p4 hi1.1 hq.1
            obtain ⟨qo, eo⟩ := s40q g0 g4 hi2.1 hq.2
            have hlh : lo = 0 ∧ i = hj := by rcases hlo with ⟨-, z1, z2⟩ | ⟨z, -, -⟩; exact ⟨z1, z2.symm⟩; exact absurd hu0 z
            obtain ⟨rfl, rfl⟩ := hlh
            refine V_go 20 rfl ?_
            try simp only [up2_rd, row2_rd, reduceIte, Nat.reduceEqDiff]
            refine V_iald rfl rfl (Nat.le_of_ble_eq_true rfl) (qs) ?_
            try simp only [up2_rd, row2_rd, reduceIte, Nat.reduceEqDiff]
            refine V_iast rfl rfl (Nat.le_of_ble_eq_true rfl) (qo) ?_
            refine V_go 2 rfl ?_
            try simp only [up2_rd, row2_rd, reduceIte, Nat.reduceEqDiff]
            refine V.st (L' := [(0, .ref 38), (1, .int s), (2, .int x), (3, .int o), (4, .int y), (5, .int m), (6, .int u), (7, .int (i32 (i + 1)))]) (ih.un (i + 1) (0) (i + 1) (by omega) (Or.inl ⟨hu0, rfl, rfl⟩)) ?_ ?_
            · rw [eo, es, up2_row2, cpI_dn (hdn hu0 i (by omega))]
            · rw [i32_s]; simp
          · skip
            have hu : ¬ u = 0 := h2
            have hq : x.toNatClampNeg + (m.toNatClampNeg - (i + 1)) < 40 ∧ y.toNatClampNeg + (m.toNatClampNeg - (i + 1)) < 40 := by omega
            obtain ⟨qs, es⟩ := s40q p0 p4 hi1.1 hq.1
            obtain ⟨qo, eo⟩ := s40q g0 g4 hi2.1 hq.2
            have eat : m - 1 - i32 i = i32 (m.toNatClampNeg - (i + 1)) := by rw [← xn hm0, show (1 : Int32) = i32 1 from rfl, i32_sub (by omega), i32_sub (by omega)]; congr 1; rw [xn hm0]; omega
            have hlh : lo = (m.toNatClampNeg - (i + 1)) + 1 ∧ hj = m.toNatClampNeg := by rcases hlo with ⟨z, -, -⟩ | ⟨-, z1, z2⟩; exact absurd z hu; exact ⟨by omega, z2⟩
            obtain ⟨rfl, rfl⟩ := hlh
            refine V_go 7 rfl ?_
            rw [eat]
            refine V_go 18 rfl ?_
            try simp only [up2_rd, row2_rd, reduceIte, Nat.reduceEqDiff]
            refine V_iald rfl rfl (Nat.le_of_ble_eq_true rfl) (qs) ?_
            try simp only [up2_rd, row2_rd, reduceIte, Nat.reduceEqDiff]
            refine V_iast rfl rfl (Nat.le_of_ble_eq_true rfl) (qo) ?_
            refine V_go 2 rfl ?_
            try simp only [up2_rd, row2_rd, reduceIte, Nat.reduceEqDiff]
            refine V.st (L' := [(0, .ref 38), (1, .int s), (2, .int x), (3, .int o), (4, .int y), (5, .int m), (6, .int u), (7, .int (i32 (i + 1)))]) (ih.un (i + 1) ((m.toNatClampNeg - (i + 1))) (m.toNatClampNeg) (by omega) (Or.inr ⟨hu, rfl, rfl⟩)) ?_ ?_
            · rw [eo, es, up2_row2, cpI_up (by omega) (hup hu)]
            · rw [i32_s]; simp
    refine V_go 3 rfl ?_
    have e := (key m.toNatClampNeg).un 0 (if u = 0 then 0 else m.toNatClampNeg) (if u = 0 then 0 else m.toNatClampNeg) (Nat.zero_add _) (by
      by_cases hu : u = 0
      · rw [if_pos hu]; exact Or.inl ⟨hu, rfl, rfl⟩
      · rw [if_neg hu]; exact Or.inr ⟨hu, rfl, rfl⟩)
    rw [cpI_0, row2_self] at e
    exact e
  refine CT_of okX7_copy (Nat.le_of_ble_eq_true rfl) ?_
  show V _ _ _ _ _ _ [(0, _), (1, _), (2, _), (3, _), (4, _), (5, _)] _ _ _ _ _
  refine V_go 1 rfl ?_
  refine cSI (mt' := mX7_isSheet) rfl kX7_348 fX7_isSheet rfl (Nat.le_of_ble_eq_true rfl) (Nat.le_of_ble_eq_true rfl) (Nat.le_refl _) (c_isSheet7) ?_
  refine V_if_eq rfl (fun h2 => ?_) (fun h2 => ?_)
  · skip
    refine V_go 1 rfl ?_
    refine V_iret rfl rfl rfl ?_
    refine RI.mk2 ?_ ?_
    · unfold coR
      rw [if_neg (fun z => b2i_eq0.mp h2 (lt4le3.mp z.1))]
    · unfold mCo
      rw [if_neg (fun z => b2i_eq0.mp h2 (lt4le3.mp z.1))]
  · skip
    obtain ⟨p0, p4⟩ := lt4le3.mpr (b2i_n0.mp h2)
    obtain ⟨q1, q2, q3⟩ := idx40 (lt4le3.mp ⟨p0, p4⟩)
    obtain ⟨hsz, e54, eso⟩ := hS.at ⟨p0, p4⟩
    refine V_go 1 rfl ?_
    refine cSI (mt' := mX7_isSheet) rfl kX7_348 fX7_isSheet rfl (Nat.le_of_ble_eq_true rfl) (Nat.le_of_ble_eq_true rfl) (Nat.le_refl _) (c_isSheet7) ?_
    refine V_if_ne rfl (fun h12 => ?_) (fun h12 => ?_)
    · skip
      obtain ⟨g0, g4⟩ := lt4le3.mpr (b2i_n0.mp h12)
      obtain ⟨r1, r2, r3⟩ := idx40 (lt4le3.mp ⟨g0, g4⟩)
      obtain ⟨hsz2, f54, fso⟩ := hS.at ⟨g0, g4⟩
      refine V_go 3 rfl ?_
      refine V_zald rfl rfl (Nat.le_of_ble_eq_true rfl) (q1) ?_
      refine V_if_eq rfl (fun h31 => ?_) (fun h31 => ?_)
      · skip
        refine V_go 1 rfl ?_
        refine V_iret rfl rfl rfl ?_
        refine RI.mk2 ?_ ?_
        · unfold coR
          rw [if_pos ⟨⟨p0, p4⟩, g0, g4⟩, if_pos (Or.inl (b54_0 e54 h31))]
        · unfold mCo
          rw [if_pos ⟨⟨p0, p4⟩, g0, g4⟩, if_pos (Or.inl (b54_0 e54 h31))]
      · skip
        have hs1 := b54_1 e54 h31
        obtain ⟨e55, e56, -⟩ := eso hs1
        refine V_go 3 rfl ?_
        refine V_zald rfl rfl (Nat.le_of_ble_eq_true rfl) (r1) ?_
        refine V_if_ne rfl (fun h41 => ?_) (fun h41 => ?_)
        · skip
          have ho1 := b54_1 f54 h41
          obtain ⟨f55, f56, -⟩ := fso ho1
          refine V_go 3 rfl ?_
          refine V_iald rfl rfl (Nat.le_of_ble_eq_true rfl) (q1) ?_
          refine V_go 3 rfl ?_
          refine V_iald rfl rfl (Nat.le_of_ble_eq_true rfl) (r1) ?_
          refine V_icmp_eq rfl (fun h51 => ?_) (fun h51 => ?_)
          · skip
            have heq : X 35 s.toNatClampNeg = X 35 o.toNatClampNeg := by rw [← e55, ← f55]; exact h51
            refine V_go 1 rfl ?_
            refine V_if_lt rfl (fun h61 => ?_) (fun h61 => ?_)
            · skip
              have hno : ¬ (hasIts X s x m ∧ hasIts X o y m) := fun z => absurd z.1.2.1 (Int32.not_le.mpr h61)
              refine V_go 1 rfl ?_
              refine V_iret rfl rfl rfl ?_
              refine RI.mk2 ?_ ?_
              · unfold coR
                rw [if_pos ⟨⟨p0, p4⟩, g0, g4⟩, if_neg (fun z => z.elim hs1 ho1), if_pos heq, if_neg hno]
              · unfold mCo
                rw [if_pos ⟨⟨p0, p4⟩, g0, g4⟩, if_neg (fun z => z.elim hs1 ho1), if_pos heq, if_neg hno]
            · skip
              have hm0 : 0 ≤ m := Int32.not_lt.mp h61
              refine V_go 1 rfl ?_
              refine V_if_lt rfl (fun h71 => ?_) (fun h71 => ?_)
              · skip
                have hno : ¬ (hasIts X s x m ∧ hasIts X o y m) := fun z => absurd z.1.1 (Int32.not_le.mpr h71)
                refine V_go 1 rfl ?_
                refine V_iret rfl rfl rfl ?_
                refine RI.mk2 ?_ ?_
                · unfold coR
                  rw [if_pos ⟨⟨p0, p4⟩, g0, g4⟩, if_neg (fun z => z.elim hs1 ho1), if_pos heq, if_neg hno]
                · unfold mCo
                  rw [if_pos ⟨⟨p0, p4⟩, g0, g4⟩, if_neg (fun z => z.elim hs1 ho1), if_pos heq, if_neg hno]
              · skip
                have hx0 : 0 ≤ x := Int32.not_lt.mp h71
                refine V_go 1 rfl ?_
                refine V_if_lt rfl (fun h76 => ?_) (fun h76 => ?_)
                · skip
                  have hno : ¬ (hasIts X s x m ∧ hasIts X o y m) := fun z => absurd z.2.1 (Int32.not_le.mpr h76)
                  refine V_go 1 rfl ?_
                  refine V_iret rfl rfl rfl ?_
                  refine RI.mk2 ?_ ?_
                  · unfold coR
                    rw [if_pos ⟨⟨p0, p4⟩, g0, g4⟩, if_neg (fun z => z.elim hs1 ho1), if_pos heq, if_neg hno]
                  · unfold mCo
                    rw [if_pos ⟨⟨p0, p4⟩, g0, g4⟩, if_neg (fun z => z.elim hs1 ho1), if_pos heq, if_neg hno]
                · skip
                  have hy0 : 0 ≤ y := Int32.not_lt.mp h76
                  refine V_go 4 rfl ?_
                  refine V_iald rfl rfl (Nat.le_of_ble_eq_true rfl) (q1) ?_
                  refine V_go 2 rfl ?_
                  refine V_icmp_gt rfl (fun h81 => ?_) (fun h81 => ?_)
                  · skip
                    have hno : ¬ (hasIts X s x m ∧ hasIts X o y m) := fun z => Int32.not_le.mpr h81 (by rw [e56]; exact z.1.2.2.2)
                    refine V_go 1 rfl ?_
                    refine V_iret rfl rfl rfl ?_
                    refine RI.mk2 ?_ ?_
                    · unfold coR
                      rw [if_pos ⟨⟨p0, p4⟩, g0, g4⟩, if_neg (fun z => z.elim hs1 ho1), if_pos heq, if_neg hno]
                    · unfold mCo
                      rw [if_pos ⟨⟨p0, p4⟩, g0, g4⟩, if_neg (fun z => z.elim hs1 ho1), if_pos heq, if_neg hno]
                  · skip
                    have b1 : x ≤ X 36 s.toNatClampNeg - m := by rw [← e56]; exact Int32.not_lt.mp h81
                    refine V_go 4 rfl ?_
                    refine V_iald rfl rfl (Nat.le_of_ble_eq_true rfl) (r1) ?_
                    refine V_go 2 rfl ?_
                    refine V_icmp_le rfl (fun h91 => ?_) (fun h91 => ?_)
                    · skip
                      have b2 : y ≤ X 36 o.toNatClampNeg - m := by rw [← f56]; exact h91
                      have m40 := its_40 hx0 hsz hm0 b1
                      have kk := fun u => k116 u ⟨p0, p4⟩ ⟨g0, g4⟩ hs1 ho1 heq ⟨hx0, hm0, m40, b1⟩ ⟨hy0, hm0, m40, b2⟩
                      refine V_go 2 rfl ?_
                      refine V_icmp_ne rfl (fun h101 => ?_) (fun h101 => ?_)
                      · skip
                        refine V_go 1 rfl ?_
                        refine kk _ ?_
                        first
                          | exact ⟨fun _ => ⟨(show s = o by assumption), (show x < y from Int32.not_le.mp (by assumption))⟩, fun _ => by decide⟩
                          | exact ⟨fun z => absurd rfl z, fun z => absurd z.1 (show ¬ s = o by assumption)⟩
                          | exact ⟨fun z => absurd rfl z, fun z => absurd z.2 (Int32.not_lt.mpr (show y ≤ x by assumption))⟩
                      · skip
                        refine V_go 2 rfl ?_
                        refine V_icmp_ge rfl (fun h102 => ?_) (fun h102 => ?_)
                        · skip
                          refine V_go 1 rfl ?_
                          refine kk _ ?_
                          first
                            | exact ⟨fun _ => ⟨(show s = o by assumption), (show x < y from Int32.not_le.mp (by assumption))⟩, fun _ => by decide⟩
                            | exact ⟨fun z => absurd rfl z, fun z => absurd z.1 (show ¬ s = o by assumption)⟩
                            | exact ⟨fun z => absurd rfl z, fun z => absurd z.2 (Int32.not_lt.mpr (show y ≤ x by assumption))⟩
                        · skip
                          refine V_go 2 rfl ?_
                          refine kk _ ?_
                          first
                            | exact ⟨fun _ => ⟨(show s = o by assumption), (show x < y from Int32.not_le.mp (by assumption))⟩, fun _ => by decide⟩
                            | exact ⟨fun z => absurd rfl z, fun z => absurd z.1 (show ¬ s = o by assumption)⟩
                            | exact ⟨fun z => absurd rfl z, fun z => absurd z.2 (Int32.not_lt.mpr (show y ≤ x by assumption))⟩
                    · skip
                      have hno : ¬ (hasIts X s x m ∧ hasIts X o y m) := fun z => h91 (by rw [f56]; exact z.2.2.2.2)
                      refine V_go 1 rfl ?_
                      refine V_iret rfl rfl rfl ?_
                      refine RI.mk2 ?_ ?_
                      · unfold coR
                        rw [if_pos ⟨⟨p0, p4⟩, g0, g4⟩, if_neg (fun z => z.elim hs1 ho1), if_pos heq, if_neg hno]
                      · unfold mCo
                        rw [if_pos ⟨⟨p0, p4⟩, g0, g4⟩, if_neg (fun z => z.elim hs1 ho1), if_pos heq, if_neg hno]
          · skip
            refine V_go 1 rfl ?_
            refine V_iret rfl rfl rfl ?_
            refine RI.mk2 ?_ ?_
            · unfold coR
              rw [if_pos ⟨⟨p0, p4⟩, g0, g4⟩, if_neg (fun z => z.elim hs1 ho1), if_neg (fun z => h51 (by rw [e55, f55]; exact z))]
            · unfold mCo
              rw [if_pos ⟨⟨p0, p4⟩, g0, g4⟩, if_neg (fun z => z.elim hs1 ho1), if_neg (fun z => h51 (by rw [e55, f55]; exact z))]
        · skip
          refine V_go 1 rfl ?_
          refine V_iret rfl rfl rfl ?_
          refine RI.mk2 ?_ ?_
          · unfold coR
            rw [if_pos ⟨⟨p0, p4⟩, g0, g4⟩, if_pos (Or.inr (b54_0 f54 h41))]
          · unfold mCo
            rw [if_pos ⟨⟨p0, p4⟩, g0, g4⟩, if_pos (Or.inr (b54_0 f54 h41))]
    · skip
      refine V_go 1 rfl ?_
      refine V_iret rfl rfl rfl ?_
      refine RI.mk2 ?_ ?_
      · unfold coR
        rw [if_neg (fun z => b2i_eq0.mp h12 (lt4le3.mp z.2))]
      · unfold mCo
        rw [if_neg (fun z => b2i_eq0.mp h12 (lt4le3.mp z.2))]
