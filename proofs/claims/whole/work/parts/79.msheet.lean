theorem s40mm {x y : Int32} (p0 : 0 ≤ x) (p4 : x < 4) (hy : 0 ≤ y) (hy2 : y < 40) : inb (40 * x + y) 160 ∧ (40 * x + y).toNatClampNeg = 40 * x.toNatClampNeg + y.toNatClampNeg := by
  rw [Int32.mul_comm]
  exact ⟨s40i p0 p4 hy hy2, (s40 p0 p4 hy (Int32.lt_trans hy2 (by decide))).1⟩
theorem s40k {x : Int32} {i : Nat} (p0 : 0 ≤ x) (p4 : x < 4) (hi : i < 40) : inb (40 * x + i32 i) 160 ∧ (40 * x + i32 i).toNatClampNeg = 40 * x.toNatClampNeg + i := by
  have h := s40mm p0 p4 (i32_nn i (by omega)) (show i32 i < 40 from (i32_lt (a := i) (b := 40) (by omega) (by omega)).mpr hi)
  rw [tn_of (by omega)] at h
  exact h
/-- the sheets of the model stand for those of X -/
def SR (I X : I2) : Prop := ShOk X ∧ ∀ s, s < 4 → I 54 s = b2i (¬ X 35 s = -1) ∧ (¬ X 35 s = -1 → I 55 s = X 35 s ∧ I 56 s = X 36 s ∧ ∀ i, i < (X 36 s).toNatClampNeg → I 57 (40 * s + i) = X 37 (40 * s + i))
theorem SR.fr {I I9 X X9 : I2} (h : SR I X) (e : ∀ o, 54 ≤ o → o ≤ 57 → I9 o = I o) (e9 : ∀ o, 35 ≤ o → o ≤ 37 → X9 o = X o) : SR I9 X9 := by
  obtain ⟨h1, h2⟩ := h
  refine ⟨fun a ha => by rw [e9 36 (by omega) (by omega)]; exact h1 a ha, fun s hs => ?_⟩
  rw [e 54 (by omega) (by omega), e 55 (by omega) (by omega), e 56 (by omega) (by omega), e 57 (by omega) (by omega), e9 35 (by omega) (by omega), e9 36 (by omega) (by omega), e9 37 (by omega) (by omega)]
  exact h2 s hs
theorem tn4 {s : Int32} (h : 0 ≤ s ∧ s < 4) : s.toNatClampNeg < 4 := by
  rcases w03m (lt4le3.mp h) with rfl | rfl | rfl | rfl <;> decide
theorem sz40 {x : Int32} (h : 0 ≤ x ∧ x ≤ 40) : x.toNatClampNeg ≤ 40 := n40 h.1 h.2
def mSh (I : I2) (s k n : Int32) : I2 := if 0 ≤ s ∧ s < 4 then (if k = -1 then up2 (up2 (up2 I 54 s.toNatClampNeg 0) 55 s.toNatClampNeg k) 56 s.toNatClampNeg n else if (0 ≤ k ∧ k ≤ 2) ∧ n ≤ 40 then (if n < 0 then I else row2 (up2 (up2 (up2 I 54 s.toNatClampNeg 1) 55 s.toNatClampNeg k) 56 s.toNatClampNeg n) 57 (sZero (I 57) (40 * s.toNatClampNeg) n.toNatClampNeg)) else I) else I
theorem SR.sheet {I X : I2} {s k n : Int32} (h : SR I X) : SR (mSh I s k n) (shM X s k n) := by
  unfold mSh shM
  by_cases hs : 0 ≤ s ∧ s < 4
  · rw [if_pos hs, if_pos hs]
    have h4 := tn4 hs
    generalize s.toNatClampNeg = t at *
    obtain ⟨h1, h2⟩ := h
    by_cases hk : k = -1
    · rw [if_pos hk, if_pos hk]
      refine ⟨fun a ha => ?_, fun a ha => ?_⟩
      · unfold fLay
        simp only [row2_rd, up2_rd, reduceIte, Nat.reduceEqDiff]
        split
        · decide
        · exact h1 a ha
      · have h3 := h2 a ha
        unfold fLay
        rw [sZero_0]
        simp only [row2_rd, up2_rd, reduceIte, Nat.reduceEqDiff]
        by_cases he : a = t
        · rw [if_pos he, if_pos he]
          exact ⟨rfl, fun z => absurd rfl z⟩
        · rw [if_neg he, if_neg he, if_neg he, if_neg he, if_neg he]
          exact h3
    · rw [if_neg hk, if_neg hk]
      by_cases hn : (0 ≤ k ∧ k ≤ 2) ∧ n ≤ 40
      · rw [if_pos hn, if_pos hn]
        by_cases h0 : n < 0
        · rw [if_pos h0, if_pos h0]; exact ⟨h1, h2⟩
        · rw [if_neg h0, if_neg h0]
          have n0 := Int32.not_lt.mp h0
          have hn4 := n40 n0 hn.2
          have hx := xn n0
          refine ⟨fun a ha => ?_, fun a ha => ?_⟩
          · unfold fLay
            simp only [row2_rd, up2_rd, reduceIte, Nat.reduceEqDiff]
            split
            · rw [hx]; exact ⟨n0, hn.2⟩
            · exact h1 a ha
          · have h3 := h2 a ha
            have h5 := sz40 (h1 a ha)
            unfold fLay
            simp only [row2_rd, up2_rd, reduceIte, Nat.reduceEqDiff]
            by_cases he : a = t
            · rw [if_pos he, if_pos he, if_pos he, if_pos he, if_pos he, hx]
              refine ⟨(b2i_1 hk).symm, fun _ => ⟨rfl, rfl, fun i hi => ?_⟩⟩
              unfold sZero
              rw [if_pos (by omega), if_pos (by omega)]
            · rw [if_neg he, if_neg he, if_neg he, if_neg he, if_neg he]
              refine ⟨h3.1, fun z => ⟨(h3.2 z).1, (h3.2 z).2.1, fun i hi => ?_⟩⟩
              unfold sZero
              rw [if_neg (by omega), if_neg (by omega)]
              exact (h3.2 z).2.2 i hi
      · rw [if_neg hn, if_neg hn]; exact ⟨h1, h2⟩
  · rw [if_neg hs, if_neg hs]; exact h
theorem mSh_fr {I : I2} {s k n : Int32} : ∀ o, o < 54 ∨ 57 < o → mSh I s k n o = I o := by
  intro o ho
  unfold mSh
  split
  · split
    · rw [up2_ne (by omega), up2_ne (by omega), up2_ne (by omega)]
    · split
      · split
        · rfl
        · unfold row2
          first
            | rw [if_neg (by omega), up2_ne (by omega), up2_ne (by omega), up2_ne (by omega)]
            | (funext j; simp only [row2_rd]; rw [if_neg (by omega), up2_ne (by omega), up2_ne (by omega), up2_ne (by omega)])
            | (funext j; rw [if_neg (by omega), up2_ne (by omega), up2_ne (by omega), up2_ne (by omega)])
      · rfl
  · rfl

theorem k_n1 {k : Int32} (h : ¬ k < 0) : ¬ k = -1 := fun z => h (by rw [z]; decide)
theorem k_lt {k : Int32} (h : k < 0) (h1 : -1 ≤ k) : k = -1 := by grind
theorem c_sheet7 {s k mm : Int32} {I : I2} {J : J2} : CT mX7_sheet 3 58 58 [.ref 38, .int s, .int k, .int mm] I J RF (RI RF (shR s k mm) (mSh I s k mm) J) := by
  have k45 : (0 ≤ s ∧ s < 4) → (¬ k = -1 → (0 ≤ k ∧ k ≤ 2) ∧ 0 ≤ mm ∧ mm ≤ 40) → (k = -1 ∨ 0 ≤ k) → V mX7_sheet none 3 58 (RI RF (shR s k mm) (mSh I s k mm) J) 45 [(0, .ref 38), (1, .int s), (2, .int k), (3, .int mm)] [] 58 I J RF := by
    rintro ⟨p0, p4⟩ hkk hk3
    obtain ⟨q1, q2, q3⟩ := idx40 (lt4le3.mp ⟨p0, p4⟩)
    refine V_go 4 rfl ?_
    refine V_if_lt rfl (fun h1 => ?_) (fun h1 => ?_)
    · skip
      have hk1 : k = -1 := hk3.resolve_right (fun z => absurd h1 (Int32.not_lt.mpr z))
      refine V_go 1 rfl ?_
      refine V_zast rfl rfl (Nat.le_of_ble_eq_true rfl) (q1) (by first | exact Or.inl rfl | exact Or.inr rfl | assumption) ?_
      refine V_go 4 rfl ?_
      refine V_iast rfl rfl (Nat.le_of_ble_eq_true rfl) (q1) ?_
      refine V_go 4 rfl ?_
      refine V_iast rfl rfl (Nat.le_of_ble_eq_true rfl) (q1) ?_
      refine V_go 4 rfl ?_
      refine V_icmp_ge rfl (fun h31 => ?_) (fun h31 => ?_)
      · skip
        refine V_go 1 rfl ?_
        refine V_iret rfl rfl rfl ?_
        refine RI.mk2 ?_ ?_
        · unfold shR
          rw [if_pos ⟨p0, p4⟩, if_pos hk1]
        · unfold mSh
          rw [if_pos ⟨p0, p4⟩, if_pos hk1]
      · skip
        refine V_go 1 rfl ?_
        refine V_if_lt rfl (fun h32 => ?_) (fun h32 => ?_)
        · skip
          refine V_go 1 rfl ?_
          refine V_iret rfl rfl rfl ?_
          refine RI.mk2 ?_ ?_
          · unfold shR
            rw [if_pos ⟨p0, p4⟩, if_pos hk1]
          · unfold mSh
            rw [if_pos ⟨p0, p4⟩, if_pos hk1]
        · skip
          exact absurd (by rw [hk1]; decide) h32
    · skip
      have hk0 : 0 ≤ k := Int32.not_lt.mp h1
      have hk1 : ¬ k = -1 := fun z => absurd hk0 (by rw [z]; decide)
      obtain ⟨⟨-, hk2⟩, n0, hn40⟩ := hkk hk1
      have hN := n40 n0 hn40
      have key : ∀ n, Hid (∀ (i : Nat), i + n = mm.toNatClampNeg → True → V mX7_sheet none 3 58 (RI RF (shR s k mm) (mSh I s k mm) J) 77 [(0, .ref 38), (1, .int s), (2, .int k), (3, .int mm), (4, .int (i32 (i)))] [] 58 (row2 (up2 (up2 (up2 I 54 s.toNatClampNeg 1) 55 s.toNatClampNeg k) 56 s.toNatClampNeg mm) 57 (sZero (I 57) (40 * s.toNatClampNeg) i)) J RF) := by
        intro n
        induction n with
        | zero =>
          unfold Hid
          intro i  hi _
          refine V_go 2 rfl ?_
          refine V_icmp_ge rfl (fun h1 => ?_) (fun h1 => ?_)
          · skip
            obtain rfl : i = mm.toNatClampNeg := hi
            refine V_go 1 rfl ?_
            refine V_iret rfl rfl rfl ?_
            refine RI.mk2 ?_ ?_
            · unfold shR
              rw [if_pos ⟨p0, p4⟩, if_neg hk1, if_pos ⟨⟨hk0, hk2⟩, hn40⟩, if_neg (Int32.not_lt.mpr n0)]
            · unfold mSh
              rw [if_pos ⟨p0, p4⟩, if_neg hk1, if_pos ⟨⟨hk0, hk2⟩, hn40⟩, if_neg (Int32.not_lt.mpr n0)]
          · skip
            exfalso
            rw [← xn n0] at h1
            exact h1 (lp_stop hi)
        | succ n ih =>
          unfold Hid
          intro i  hi _
          have qi : i < 40 := by omega
          obtain ⟨q40, e40⟩ := s40k p0 p4 qi
          refine V_go 2 rfl ?_
          refine V_icmp_ge rfl (fun h1 => ?_) (fun h1 => ?_)
          · skip
            exfalso
            rw [← xn n0] at h1
            exact lp_more (by omega) (by omega) h1
          · skip
            refine V_go 1 rfl ?_
            refine V_if_lt rfl (fun h2 => ?_) (fun h2 => ?_)
            · skip
              exact absurd h2 (Int32.not_lt.mpr hk0)
            · skip
              refine V_go 8 rfl ?_
              refine V_iast rfl rfl (Nat.le_of_ble_eq_true rfl) (q40) ?_
              refine V_go 2 rfl ?_
              refine V.st (L' := [(0, .ref 38), (1, .int s), (2, .int k), (3, .int mm), (4, .int (i32 (i + 1)))]) (ih.un (i + 1) (by omega) trivial) ?_ ?_
              · rw [e40, up2_row2, sZero_s]
              · rw [i32_s]; simp
      refine V_go 2 rfl ?_
      refine V_zast rfl rfl (Nat.le_of_ble_eq_true rfl) (q1) (by first | exact Or.inl rfl | exact Or.inr rfl | assumption) ?_
      refine V_go 4 rfl ?_
      refine V_iast rfl rfl (Nat.le_of_ble_eq_true rfl) (q1) ?_
      refine V_go 4 rfl ?_
      refine V_iast rfl rfl (Nat.le_of_ble_eq_true rfl) (q1) ?_
      refine V_go 2 rfl ?_
      have e := (key mm.toNatClampNeg).un 0 (Nat.zero_add _) trivial
      rw [sZero_0, show I 57 = (up2 (up2 (up2 I 54 s.toNatClampNeg 1) 55 s.toNatClampNeg k) 56 s.toNatClampNeg mm) 57 from by rw [up2_ne (by omega), up2_ne (by omega), up2_ne (by omega)], row2_self] at e
      exact e
  refine CT_of okX7_sheet (Nat.le_of_ble_eq_true rfl) ?_
  show V _ _ _ _ _ _ [(0, _), (1, _), (2, _), (3, _)] _ _ _ _ _
  refine V_go 1 rfl ?_
  refine cSI (mt' := mX7_isSheet) rfl kX7_348 fX7_isSheet rfl (Nat.le_of_ble_eq_true rfl) (Nat.le_of_ble_eq_true rfl) (Nat.le_refl _) (c_isSheet7) ?_
  refine V_if_eq rfl (fun h2 => ?_) (fun h2 => ?_)
  · skip
    refine V_go 1 rfl ?_
    refine V_iret rfl rfl rfl ?_
    first
      | (exfalso; exact absurd (show k < 0 by assumption) (show ¬ k < 0 by assumption))
      | (refine RI.mk2 ?_ ?_
         · unfold shR
           first
             | (rw [if_neg (fun z => b2i_eq0.mp (show b2i (0 ≤ s ∧ s ≤ 3) = 0 by assumption) (lt4le3.mp z))]; done)
             | (by_cases hs : 0 ≤ s ∧ s < 4
                · rw [if_pos hs, if_neg (fun z => b2i_eq0.mp (show b2i (-1 ≤ k ∧ k ≤ 2) = 0 by assumption) (by rw [z]; decide)), if_neg (fun z => b2i_eq0.mp (show b2i (-1 ≤ k ∧ k ≤ 2) = 0 by assumption) ⟨Int32.le_trans (by decide) z.1.1, z.1.2⟩)]
                · rw [if_neg hs])
             | (rw [if_pos (lt4le3.mpr (b2i_n0.mp (show ¬ b2i (0 ≤ s ∧ s ≤ 3) = 0 by assumption))), if_neg (k_n1 (show ¬ k < 0 by assumption)), if_neg (fun z => (show ¬ mm ≤ 40 by assumption) z.2)]; done)
             | (rw [if_pos (lt4le3.mpr (b2i_n0.mp (show ¬ b2i (0 ≤ s ∧ s ≤ 3) = 0 by assumption))), if_neg (k_n1 (show ¬ k < 0 by assumption)), if_pos ⟨⟨Int32.not_lt.mp (show ¬ k < 0 by assumption), (b2i_n0.mp (show ¬ b2i (-1 ≤ k ∧ k ≤ 2) = 0 by assumption)).2⟩, (show mm ≤ 40 by assumption)⟩, if_pos (Int32.not_le.mp (show ¬ 0 ≤ mm by assumption))]; done)
         · unfold mSh
           first
             | (rw [if_neg (fun z => b2i_eq0.mp (show b2i (0 ≤ s ∧ s ≤ 3) = 0 by assumption) (lt4le3.mp z))]; done)
             | (by_cases hs : 0 ≤ s ∧ s < 4
                · rw [if_pos hs, if_neg (fun z => b2i_eq0.mp (show b2i (-1 ≤ k ∧ k ≤ 2) = 0 by assumption) (by rw [z]; decide)), if_neg (fun z => b2i_eq0.mp (show b2i (-1 ≤ k ∧ k ≤ 2) = 0 by assumption) ⟨Int32.le_trans (by decide) z.1.1, z.1.2⟩)]
                · rw [if_neg hs])
             | (rw [if_pos (lt4le3.mpr (b2i_n0.mp (show ¬ b2i (0 ≤ s ∧ s ≤ 3) = 0 by assumption))), if_neg (k_n1 (show ¬ k < 0 by assumption)), if_neg (fun z => (show ¬ mm ≤ 40 by assumption) z.2)]; done)
             | (rw [if_pos (lt4le3.mpr (b2i_n0.mp (show ¬ b2i (0 ≤ s ∧ s ≤ 3) = 0 by assumption))), if_neg (k_n1 (show ¬ k < 0 by assumption)), if_pos ⟨⟨Int32.not_lt.mp (show ¬ k < 0 by assumption), (b2i_n0.mp (show ¬ b2i (-1 ≤ k ∧ k ≤ 2) = 0 by assumption)).2⟩, (show mm ≤ 40 by assumption)⟩, if_pos (Int32.not_le.mp (show ¬ 0 ≤ mm by assumption))]; done))
  · skip
    refine V_go 4 rfl ?_
    refine cSI (mt' := mX7_in) rfl kX7_89 fX7_in rfl (Nat.le_of_ble_eq_true rfl) (Nat.le_of_ble_eq_true rfl) (Nat.le_refl _) (c_inI (lo := (-1)) (hi := (2)) rfl (by decide +kernel) (by decide +kernel)) ?_
    refine V_if_eq rfl (fun h4 => ?_) (fun h4 => ?_)
    · skip
      refine V_go 1 rfl ?_
      refine V_iret rfl rfl rfl ?_
      first
        | (exfalso; exact absurd (show k < 0 by assumption) (show ¬ k < 0 by assumption))
        | (refine RI.mk2 ?_ ?_
           · unfold shR
             first
               | (rw [if_neg (fun z => b2i_eq0.mp (show b2i (0 ≤ s ∧ s ≤ 3) = 0 by assumption) (lt4le3.mp z))]; done)
               | (by_cases hs : 0 ≤ s ∧ s < 4
                  · rw [if_pos hs, if_neg (fun z => b2i_eq0.mp (show b2i (-1 ≤ k ∧ k ≤ 2) = 0 by assumption) (by rw [z]; decide)), if_neg (fun z => b2i_eq0.mp (show b2i (-1 ≤ k ∧ k ≤ 2) = 0 by assumption) ⟨Int32.le_trans (by decide) z.1.1, z.1.2⟩)]
                  · rw [if_neg hs])
               | (rw [if_pos (lt4le3.mpr (b2i_n0.mp (show ¬ b2i (0 ≤ s ∧ s ≤ 3) = 0 by assumption))), if_neg (k_n1 (show ¬ k < 0 by assumption)), if_neg (fun z => (show ¬ mm ≤ 40 by assumption) z.2)]; done)
               | (rw [if_pos (lt4le3.mpr (b2i_n0.mp (show ¬ b2i (0 ≤ s ∧ s ≤ 3) = 0 by assumption))), if_neg (k_n1 (show ¬ k < 0 by assumption)), if_pos ⟨⟨Int32.not_lt.mp (show ¬ k < 0 by assumption), (b2i_n0.mp (show ¬ b2i (-1 ≤ k ∧ k ≤ 2) = 0 by assumption)).2⟩, (show mm ≤ 40 by assumption)⟩, if_pos (Int32.not_le.mp (show ¬ 0 ≤ mm by assumption))]; done)
           · unfold mSh
             first
               | (rw [if_neg (fun z => b2i_eq0.mp (show b2i (0 ≤ s ∧ s ≤ 3) = 0 by assumption) (lt4le3.mp z))]; done)
               | (by_cases hs : 0 ≤ s ∧ s < 4
                  · rw [if_pos hs, if_neg (fun z => b2i_eq0.mp (show b2i (-1 ≤ k ∧ k ≤ 2) = 0 by assumption) (by rw [z]; decide)), if_neg (fun z => b2i_eq0.mp (show b2i (-1 ≤ k ∧ k ≤ 2) = 0 by assumption) ⟨Int32.le_trans (by decide) z.1.1, z.1.2⟩)]
                  · rw [if_neg hs])
               | (rw [if_pos (lt4le3.mpr (b2i_n0.mp (show ¬ b2i (0 ≤ s ∧ s ≤ 3) = 0 by assumption))), if_neg (k_n1 (show ¬ k < 0 by assumption)), if_neg (fun z => (show ¬ mm ≤ 40 by assumption) z.2)]; done)
               | (rw [if_pos (lt4le3.mpr (b2i_n0.mp (show ¬ b2i (0 ≤ s ∧ s ≤ 3) = 0 by assumption))), if_neg (k_n1 (show ¬ k < 0 by assumption)), if_pos ⟨⟨Int32.not_lt.mp (show ¬ k < 0 by assumption), (b2i_n0.mp (show ¬ b2i (-1 ≤ k ∧ k ≤ 2) = 0 by assumption)).2⟩, (show mm ≤ 40 by assumption)⟩, if_pos (Int32.not_le.mp (show ¬ 0 ≤ mm by assumption))]; done))
    · skip
      refine V_go 1 rfl ?_
      refine V_if_lt rfl (fun h5 => ?_) (fun h5 => ?_)
      · skip
        refine V_go 1 rfl ?_
        refine V_if_lt rfl (fun h6 => ?_) (fun h6 => ?_)
        · skip
          first
            | exact k45 (lt4le3.mpr (b2i_n0.mp (by assumption))) (fun z => absurd (k_lt (show k < 0 by assumption) (b2i_n0.mp (show ¬ b2i (-1 ≤ k ∧ k ≤ 2) = 0 by assumption)).1) z) (Or.inl (k_lt (show k < 0 by assumption) (b2i_n0.mp (show ¬ b2i (-1 ≤ k ∧ k ≤ 2) = 0 by assumption)).1))
            | exact absurd (show k < 0 by assumption) (show ¬ k < 0 by assumption)
            | exact k45 (lt4le3.mpr (b2i_n0.mp (by assumption))) (fun _ => ⟨⟨Int32.not_lt.mp (show ¬ k < 0 by assumption), (b2i_n0.mp (show ¬ b2i (-1 ≤ k ∧ k ≤ 2) = 0 by assumption)).2⟩, (show 0 ≤ mm by assumption), (show mm ≤ 40 by assumption)⟩) (Or.inr (Int32.not_lt.mp (show ¬ k < 0 by assumption)))
        · skip
          refine V_go 1 rfl ?_
          refine V_if_ge rfl (fun h7 => ?_) (fun h7 => ?_)
          · skip
            first
              | exact k45 (lt4le3.mpr (b2i_n0.mp (by assumption))) (fun z => absurd (k_lt (show k < 0 by assumption) (b2i_n0.mp (show ¬ b2i (-1 ≤ k ∧ k ≤ 2) = 0 by assumption)).1) z) (Or.inl (k_lt (show k < 0 by assumption) (b2i_n0.mp (show ¬ b2i (-1 ≤ k ∧ k ≤ 2) = 0 by assumption)).1))
              | exact absurd (show k < 0 by assumption) (show ¬ k < 0 by assumption)
              | exact k45 (lt4le3.mpr (b2i_n0.mp (by assumption))) (fun _ => ⟨⟨Int32.not_lt.mp (show ¬ k < 0 by assumption), (b2i_n0.mp (show ¬ b2i (-1 ≤ k ∧ k ≤ 2) = 0 by assumption)).2⟩, (show 0 ≤ mm by assumption), (show mm ≤ 40 by assumption)⟩) (Or.inr (Int32.not_lt.mp (show ¬ k < 0 by assumption)))
          · skip
            refine V_go 1 rfl ?_
            refine V_iret rfl rfl rfl ?_
            first
              | (exfalso; exact absurd (show k < 0 by assumption) (show ¬ k < 0 by assumption))
              | (refine RI.mk2 ?_ ?_
                 · unfold shR
                   first
                     | (rw [if_neg (fun z => b2i_eq0.mp (show b2i (0 ≤ s ∧ s ≤ 3) = 0 by assumption) (lt4le3.mp z))]; done)
                     | (by_cases hs : 0 ≤ s ∧ s < 4
                        · rw [if_pos hs, if_neg (fun z => b2i_eq0.mp (show b2i (-1 ≤ k ∧ k ≤ 2) = 0 by assumption) (by rw [z]; decide)), if_neg (fun z => b2i_eq0.mp (show b2i (-1 ≤ k ∧ k ≤ 2) = 0 by assumption) ⟨Int32.le_trans (by decide) z.1.1, z.1.2⟩)]
                        · rw [if_neg hs])
                     | (rw [if_pos (lt4le3.mpr (b2i_n0.mp (show ¬ b2i (0 ≤ s ∧ s ≤ 3) = 0 by assumption))), if_neg (k_n1 (show ¬ k < 0 by assumption)), if_neg (fun z => (show ¬ mm ≤ 40 by assumption) z.2)]; done)
                     | (rw [if_pos (lt4le3.mpr (b2i_n0.mp (show ¬ b2i (0 ≤ s ∧ s ≤ 3) = 0 by assumption))), if_neg (k_n1 (show ¬ k < 0 by assumption)), if_pos ⟨⟨Int32.not_lt.mp (show ¬ k < 0 by assumption), (b2i_n0.mp (show ¬ b2i (-1 ≤ k ∧ k ≤ 2) = 0 by assumption)).2⟩, (show mm ≤ 40 by assumption)⟩, if_pos (Int32.not_le.mp (show ¬ 0 ≤ mm by assumption))]; done)
                 · unfold mSh
                   first
                     | (rw [if_neg (fun z => b2i_eq0.mp (show b2i (0 ≤ s ∧ s ≤ 3) = 0 by assumption) (lt4le3.mp z))]; done)
                     | (by_cases hs : 0 ≤ s ∧ s < 4
                        · rw [if_pos hs, if_neg (fun z => b2i_eq0.mp (show b2i (-1 ≤ k ∧ k ≤ 2) = 0 by assumption) (by rw [z]; decide)), if_neg (fun z => b2i_eq0.mp (show b2i (-1 ≤ k ∧ k ≤ 2) = 0 by assumption) ⟨Int32.le_trans (by decide) z.1.1, z.1.2⟩)]
                        · rw [if_neg hs])
                     | (rw [if_pos (lt4le3.mpr (b2i_n0.mp (show ¬ b2i (0 ≤ s ∧ s ≤ 3) = 0 by assumption))), if_neg (k_n1 (show ¬ k < 0 by assumption)), if_neg (fun z => (show ¬ mm ≤ 40 by assumption) z.2)]; done)
                     | (rw [if_pos (lt4le3.mpr (b2i_n0.mp (show ¬ b2i (0 ≤ s ∧ s ≤ 3) = 0 by assumption))), if_neg (k_n1 (show ¬ k < 0 by assumption)), if_pos ⟨⟨Int32.not_lt.mp (show ¬ k < 0 by assumption), (b2i_n0.mp (show ¬ b2i (-1 ≤ k ∧ k ≤ 2) = 0 by assumption)).2⟩, (show mm ≤ 40 by assumption)⟩, if_pos (Int32.not_le.mp (show ¬ 0 ≤ mm by assumption))]; done))
      · skip
        refine V_go 2 rfl ?_
        refine V_icmp_le rfl (fun h8 => ?_) (fun h8 => ?_)
        · skip
          refine V_go 1 rfl ?_
          refine V_if_lt rfl (fun h9 => ?_) (fun h9 => ?_)
          · skip
            first
              | exact k45 (lt4le3.mpr (b2i_n0.mp (by assumption))) (fun z => absurd (k_lt (show k < 0 by assumption) (b2i_n0.mp (show ¬ b2i (-1 ≤ k ∧ k ≤ 2) = 0 by assumption)).1) z) (Or.inl (k_lt (show k < 0 by assumption) (b2i_n0.mp (show ¬ b2i (-1 ≤ k ∧ k ≤ 2) = 0 by assumption)).1))
              | exact absurd (show k < 0 by assumption) (show ¬ k < 0 by assumption)
              | exact k45 (lt4le3.mpr (b2i_n0.mp (by assumption))) (fun _ => ⟨⟨Int32.not_lt.mp (show ¬ k < 0 by assumption), (b2i_n0.mp (show ¬ b2i (-1 ≤ k ∧ k ≤ 2) = 0 by assumption)).2⟩, (show 0 ≤ mm by assumption), (show mm ≤ 40 by assumption)⟩) (Or.inr (Int32.not_lt.mp (show ¬ k < 0 by assumption)))
          · skip
            refine V_go 1 rfl ?_
            refine V_if_ge rfl (fun h10 => ?_) (fun h10 => ?_)
            · skip
              first
                | exact k45 (lt4le3.mpr (b2i_n0.mp (by assumption))) (fun z => absurd (k_lt (show k < 0 by assumption) (b2i_n0.mp (show ¬ b2i (-1 ≤ k ∧ k ≤ 2) = 0 by assumption)).1) z) (Or.inl (k_lt (show k < 0 by assumption) (b2i_n0.mp (show ¬ b2i (-1 ≤ k ∧ k ≤ 2) = 0 by assumption)).1))
                | exact absurd (show k < 0 by assumption) (show ¬ k < 0 by assumption)
                | exact k45 (lt4le3.mpr (b2i_n0.mp (by assumption))) (fun _ => ⟨⟨Int32.not_lt.mp (show ¬ k < 0 by assumption), (b2i_n0.mp (show ¬ b2i (-1 ≤ k ∧ k ≤ 2) = 0 by assumption)).2⟩, (show 0 ≤ mm by assumption), (show mm ≤ 40 by assumption)⟩) (Or.inr (Int32.not_lt.mp (show ¬ k < 0 by assumption)))
            · skip
              refine V_go 1 rfl ?_
              refine V_iret rfl rfl rfl ?_
              first
                | (exfalso; exact absurd (show k < 0 by assumption) (show ¬ k < 0 by assumption))
                | (refine RI.mk2 ?_ ?_
                   · unfold shR
                     first
                       | (rw [if_neg (fun z => b2i_eq0.mp (show b2i (0 ≤ s ∧ s ≤ 3) = 0 by assumption) (lt4le3.mp z))]; done)
                       | (by_cases hs : 0 ≤ s ∧ s < 4
                          · rw [if_pos hs, if_neg (fun z => b2i_eq0.mp (show b2i (-1 ≤ k ∧ k ≤ 2) = 0 by assumption) (by rw [z]; decide)), if_neg (fun z => b2i_eq0.mp (show b2i (-1 ≤ k ∧ k ≤ 2) = 0 by assumption) ⟨Int32.le_trans (by decide) z.1.1, z.1.2⟩)]
                          · rw [if_neg hs])
                       | (rw [if_pos (lt4le3.mpr (b2i_n0.mp (show ¬ b2i (0 ≤ s ∧ s ≤ 3) = 0 by assumption))), if_neg (k_n1 (show ¬ k < 0 by assumption)), if_neg (fun z => (show ¬ mm ≤ 40 by assumption) z.2)]; done)
                       | (rw [if_pos (lt4le3.mpr (b2i_n0.mp (show ¬ b2i (0 ≤ s ∧ s ≤ 3) = 0 by assumption))), if_neg (k_n1 (show ¬ k < 0 by assumption)), if_pos ⟨⟨Int32.not_lt.mp (show ¬ k < 0 by assumption), (b2i_n0.mp (show ¬ b2i (-1 ≤ k ∧ k ≤ 2) = 0 by assumption)).2⟩, (show mm ≤ 40 by assumption)⟩, if_pos (Int32.not_le.mp (show ¬ 0 ≤ mm by assumption))]; done)
                   · unfold mSh
                     first
                       | (rw [if_neg (fun z => b2i_eq0.mp (show b2i (0 ≤ s ∧ s ≤ 3) = 0 by assumption) (lt4le3.mp z))]; done)
                       | (by_cases hs : 0 ≤ s ∧ s < 4
                          · rw [if_pos hs, if_neg (fun z => b2i_eq0.mp (show b2i (-1 ≤ k ∧ k ≤ 2) = 0 by assumption) (by rw [z]; decide)), if_neg (fun z => b2i_eq0.mp (show b2i (-1 ≤ k ∧ k ≤ 2) = 0 by assumption) ⟨Int32.le_trans (by decide) z.1.1, z.1.2⟩)]
                          · rw [if_neg hs])
                       | (rw [if_pos (lt4le3.mpr (b2i_n0.mp (show ¬ b2i (0 ≤ s ∧ s ≤ 3) = 0 by assumption))), if_neg (k_n1 (show ¬ k < 0 by assumption)), if_neg (fun z => (show ¬ mm ≤ 40 by assumption) z.2)]; done)
                       | (rw [if_pos (lt4le3.mpr (b2i_n0.mp (show ¬ b2i (0 ≤ s ∧ s ≤ 3) = 0 by assumption))), if_neg (k_n1 (show ¬ k < 0 by assumption)), if_pos ⟨⟨Int32.not_lt.mp (show ¬ k < 0 by assumption), (b2i_n0.mp (show ¬ b2i (-1 ≤ k ∧ k ≤ 2) = 0 by assumption)).2⟩, (show mm ≤ 40 by assumption)⟩, if_pos (Int32.not_le.mp (show ¬ 0 ≤ mm by assumption))]; done))
        · skip
          refine V_go 1 rfl ?_
          refine V_iret rfl rfl rfl ?_
          first
            | (exfalso; exact absurd (show k < 0 by assumption) (show ¬ k < 0 by assumption))
            | (refine RI.mk2 ?_ ?_
               · unfold shR
                 first
                   | (rw [if_neg (fun z => b2i_eq0.mp (show b2i (0 ≤ s ∧ s ≤ 3) = 0 by assumption) (lt4le3.mp z))]; done)
                   | (by_cases hs : 0 ≤ s ∧ s < 4
                      · rw [if_pos hs, if_neg (fun z => b2i_eq0.mp (show b2i (-1 ≤ k ∧ k ≤ 2) = 0 by assumption) (by rw [z]; decide)), if_neg (fun z => b2i_eq0.mp (show b2i (-1 ≤ k ∧ k ≤ 2) = 0 by assumption) ⟨Int32.le_trans (by decide) z.1.1, z.1.2⟩)]
                      · rw [if_neg hs])
                   | (rw [if_pos (lt4le3.mpr (b2i_n0.mp (show ¬ b2i (0 ≤ s ∧ s ≤ 3) = 0 by assumption))), if_neg (k_n1 (show ¬ k < 0 by assumption)), if_neg (fun z => (show ¬ mm ≤ 40 by assumption) z.2)]; done)
                   | (rw [if_pos (lt4le3.mpr (b2i_n0.mp (show ¬ b2i (0 ≤ s ∧ s ≤ 3) = 0 by assumption))), if_neg (k_n1 (show ¬ k < 0 by assumption)), if_pos ⟨⟨Int32.not_lt.mp (show ¬ k < 0 by assumption), (b2i_n0.mp (show ¬ b2i (-1 ≤ k ∧ k ≤ 2) = 0 by assumption)).2⟩, (show mm ≤ 40 by assumption)⟩, if_pos (Int32.not_le.mp (show ¬ 0 ≤ mm by assumption))]; done)
               · unfold mSh
                 first
                   | (rw [if_neg (fun z => b2i_eq0.mp (show b2i (0 ≤ s ∧ s ≤ 3) = 0 by assumption) (lt4le3.mp z))]; done)
                   | (by_cases hs : 0 ≤ s ∧ s < 4
                      · rw [if_pos hs, if_neg (fun z => b2i_eq0.mp (show b2i (-1 ≤ k ∧ k ≤ 2) = 0 by assumption) (by rw [z]; decide)), if_neg (fun z => b2i_eq0.mp (show b2i (-1 ≤ k ∧ k ≤ 2) = 0 by assumption) ⟨Int32.le_trans (by decide) z.1.1, z.1.2⟩)]
                      · rw [if_neg hs])
                   | (rw [if_pos (lt4le3.mpr (b2i_n0.mp (show ¬ b2i (0 ≤ s ∧ s ≤ 3) = 0 by assumption))), if_neg (k_n1 (show ¬ k < 0 by assumption)), if_neg (fun z => (show ¬ mm ≤ 40 by assumption) z.2)]; done)
                   | (rw [if_pos (lt4le3.mpr (b2i_n0.mp (show ¬ b2i (0 ≤ s ∧ s ≤ 3) = 0 by assumption))), if_neg (k_n1 (show ¬ k < 0 by assumption)), if_pos ⟨⟨Int32.not_lt.mp (show ¬ k < 0 by assumption), (b2i_n0.mp (show ¬ b2i (-1 ≤ k ∧ k ≤ 2) = 0 by assumption)).2⟩, (show mm ≤ 40 by assumption)⟩, if_pos (Int32.not_le.mp (show ¬ 0 ≤ mm by assumption))]; done))
