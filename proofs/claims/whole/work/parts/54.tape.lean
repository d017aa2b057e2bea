theorem c_lev {n : Nat} {b : Nat → Int32} : ∀ k op, k + op = 5 → CRd mX3_readOne (9 + 7 * k) (pLv b n k).1 op n b ∧ CRd mX3_readNot (13 + 7 * k) (pLv b n k).2 op n b
  | 0, op, h => by
    have h1 : CRd mX3_readOne 9 (pOne b n (5 - op) pNone pNone) op n b := c_readOne (dO := 0) (dE := 0) (by omega) (by omega) (by omega) (by omega) (pNone_good n) (pNone_good n) (fun z => absurd z (by omega)) (fun z => absurd z (by omega))
    rw [show 5 - op = 0 from by omega] at h1
    have g1 := (pLv_good b n 0).1
    have h2 : CRd mX3_readTerm 10 (pTerm b n (pOne b n 0 pNone pNone)) op n b := c_readTerm (by omega) (by omega) g1 h1
    have h3 : CRd mX3_readSum 11 (pSum b n (pOne b n 0 pNone pNone)) op n b := c_readSum (by omega) (by omega) (pTerm_good g1) h2
    have h4 : CRd mX3_readComparison 12 (pCmp b n (pOne b n 0 pNone pNone)) op n b := c_readComparison (by omega) (by omega) (pSum_good g1) h3
    have h5 := c_readNot (d := 13) (d9 := 12) (d8 := 0) (n' := pNone) (by omega) (by omega) (by omega) (by omega) (pCmp_good g1) (pNone_good n) h4 (fun z => absurd z (by omega))
    rw [show 5 - op = 0 from by omega] at h5
    exact ⟨h1, h5⟩
  | k + 1, op, h => by
    obtain ⟨i1, i2⟩ := c_lev (n := n) (b := b) k (op + 1) (by omega)
    obtain ⟨g1, g2⟩ := pLv_good b n k
    have ha : CRd mX3_readAnd (14 + 7 * k) (pAnd b n (pLv b n k).2) (op + 1) n b := c_readAnd (by omega) (by omega) g2 i2
    have ho : CRd mX3_readOr (15 + 7 * k) (pOr b n (pLv b n k).2) (op + 1) n b := c_readOr (by omega) (by omega) (pAnd_good g2) ha
    have h1 := c_readOne (d := 9 + 7 * (k + 1)) (dO := 15 + 7 * k) (dE := 9 + 7 * k) (by omega) (by omega) (by omega) (by omega) (pOr_good g2) g1 (fun _ => ho) (fun _ => i1)
    rw [show 5 - op = k + 1 from by omega] at h1
    have g3 := (pLv_good b n (k + 1)).1
    have h2 : CRd mX3_readTerm (10 + 7 * (k + 1)) (pTerm b n (pLv b n (k + 1)).1) op n b := c_readTerm (by omega) (by omega) g3 h1
    have h3 : CRd mX3_readSum (11 + 7 * (k + 1)) (pSum b n (pLv b n (k + 1)).1) op n b := c_readSum (by omega) (by omega) (pTerm_good g3) h2
    have h4 : CRd mX3_readComparison (12 + 7 * (k + 1)) (pCmp b n (pLv b n (k + 1)).1) op n b := c_readComparison (by omega) (by omega) (pSum_good g3) h3
    have h5 := c_readNot (d := 13 + 7 * (k + 1)) (d9 := 12 + 7 * (k + 1)) (d8 := 13 + 7 * k) (by omega) (by omega) (by omega) (by omega) (pCmp_good g3) g2 h4 (fun _ => i2)
    rw [show 5 - op = k + 1 from by omega] at h5
    exact ⟨h1, h5⟩
theorem c_all {n : Nat} {b : Nat → Int32} : CRd mX3_readOr 50 (pAll b n 5) 0 n b := by
  obtain ⟨i1, i2⟩ := c_lev (n := n) (b := b) 5 0 rfl
  have g2 := (pLv_good b n 5).2
  have ha : CRd mX3_readAnd 49 (pAnd b n (pLv b n 5).2) 0 n b := c_readAnd (by omega) (by omega) g2 i2
  exact c_readOr (by omega) (by omega) (pAnd_good g2) ha
theorem pPart_good (b : Nat → Int32) (n : Nat) (key : Int32) : pFn n (fun s => if s.1 = 0 then pNone s else pPart b n key s) := by
  intro s h
  dsimp only
  split
  · exact pNone_good n s h
  · rename_i h0
    obtain ⟨n1, n2, n3⟩ := nxt_ok (b := b) h
    have n4 := n3 h0
    unfold pPart
    split
    · obtain ⟨g1, g2, g3⟩ := pAll_good b n 5 _ n1
      split
      · rename_i hc
        obtain ⟨m1, m2, m3⟩ := nxt_ok (b := b) g1
        have g4 := g3 hc.1
        refine ⟨m1, ?_, fun _ => ?_⟩
        · show s.2.1 ≤ (nxt b n (pAll b n 5 (nxt b n s)).2.1).2.1
          omega
        · show (pAll b n 5 (nxt b n s)).2.2.1.length + s.2.1 ≤ (nxt b n (pAll b n 5 (nxt b n s)).2.1).2.1
          omega
      · refine ⟨g1, ?_, fun q => by cases q⟩
        show s.2.1 ≤ (pAll b n 5 (nxt b n s)).2.1.2.1
        omega
    · exact pNone_good n s h
theorem pPart_g {b : Nat → Int32} {n : Nat} {key : Int32} {s : PT} (hk : key ≠ 0) (h : pOk n s) : pGood n s.2.1 (pPart b n key s) := by
  have e := pPart_good b n key s h
  dsimp only at e
  split at e
  · rename_i h0
    unfold pPart
    rw [if_neg (fun z => hk (by rw [← z, h0]))]
    exact e
  · exact e
/-- so many parts of a text read, while all stands well -/
def pRd (b : Nat → Int32) (n : Nat) : Nat → PR
  | 0 => (true, tkn b n 0, [], fun _ => 0)
  | k + 1 => if (pRd b n k).1 = true then ((pPart b n (262 + i32 k) (pRd b n k).2.1).1, (pPart b n (262 + i32 k) (pRd b n k).2.1).2.1, (pRd b n k).2.2.1 ++ (pPart b n (262 + i32 k) (pRd b n k).2.1).2.2.1, (pPart b n (262 + i32 k) (pRd b n k).2.1).2.2.2) else pRd b n k
theorem pRd_s {b : Nat → Int32} {n k : Nat} (h : (pRd b n k).1 = true) : pRd b n (k + 1) = ((pPart b n (262 + i32 k) (pRd b n k).2.1).1, (pPart b n (262 + i32 k) (pRd b n k).2.1).2.1, (pRd b n k).2.2.1 ++ (pPart b n (262 + i32 k) (pRd b n k).2.1).2.2.1, (pPart b n (262 + i32 k) (pRd b n k).2.1).2.2.2) := by rw [pRd, if_pos h]
theorem pRd_x {b : Nat → Int32} {n k : Nat} (h : ¬ (pRd b n k).1 = true) : ∀ j, pRd b n (k + j) = pRd b n k
  | 0 => rfl
  | j + 1 => by
    have e := pRd_x h j
    rw [← Nat.add_assoc, pRd, e, if_neg h]
theorem key_0 : ∀ k, k < 3 → (262 : Int32) + i32 k ≠ 0 := by decide +kernel
theorem pRd_good (b : Nat → Int32) (n : Nat) : ∀ k, k ≤ 3 → pGood n 0 (pRd b n k)
  | 0, _ => ⟨(tkn_ok b (Nat.zero_le n)).1, Nat.zero_le _, fun _ => Nat.zero_le _⟩
  | k + 1, hk => by
    have h := pRd_good b n k (by omega)
    rw [pRd]
    split
    · rename_i hw
      obtain ⟨g1, g2, g3⟩ := pPart_g (b := b) (key_0 k (by omega)) h.1
      have h4 := h.2.2 hw
      refine ⟨g1, Nat.zero_le _, fun q => ?_⟩
      have g4 := g3 q
      show ((pRd b n k).2.2.1 ++ (pPart b n (262 + i32 k) (pRd b n k).2.1).2.2.1).length + 0 ≤ (pPart b n (262 + i32 k) (pRd b n k).2.1).2.1.2.1
      rw [List.length_append]
      omega
    · exact h
def pOkT (b : Nat → Int32) (n : Nat) : Prop := (pRd b n 3).1 = true ∧ (pRd b n 3).2.1.1 = 0
/-- while the parts of a text are read -/
def LpI (t n : Nat) (b : Nat → Int32) (I I1 : I2) (i : Nat) (w : Int32) : Prop :=
  w = b2i ((pRd b n i).1 = true) ∧ RT I1 n (pRd b n i).2.1 ∧ ((∀ o, o ≠ 1 → o ≠ 2 → o ≠ 3 → o ≠ 5 → I1 o = I o) ∧ (∀ j, j ≠ 1 → I1 1 j = I 1 j) ∧ (∀ j, j < 160 * t → I1 2 j = I 2 j) ∧ ∀ j, j < 3 * t → I1 3 j = I 3 j) ∧
  ∃ u, u ≤ 160 ∧ I1 1 1 = i32 u ∧ ((pRd b n i).1 = true → u = (pRd b n i).2.2.1.length ∧ (∀ j, j < (pRd b n i).2.2.1.length → I1 2 (160 * t + j) = (pRd b n i).2.2.1.getD j 0) ∧ ∀ k, k < i → I1 3 (3 * t + k) = i32 (pRd b n (k + 1)).2.2.1.length)
theorem LpI.step {t n : Nat} {b : Nat → Int32} {I I1 I3 : I2} {J : J2} {i : Nat} {w x : Int32} (h : LpI t n b I I1 i w) (hw : (pRd b n i).1 = true) (hq : RdP t (pRd b n i).2.2.1.length n I1 J (pPart b n (262 + i32 i) (pRd b n i).2.1) x I3 J) : LpI t n b I (up2 I3 3 (3 * t + i) (I3 1 1)) (i + 1) x := by
  obtain ⟨a1, a2, ⟨a3, a4, a5, a6⟩, u, a7, a8, a9⟩ := h
  obtain ⟨b1, b2, b3, ⟨b4, b5, b6, b7⟩, u9, c1, c2, c3, c4⟩ := hq
  obtain ⟨d1, d2, d3⟩ := a9 hw
  have e := pRd_s hw
  refine ⟨by rw [e]; exact b2, ?_, ⟨fun o o1 o2 o3 o5 => ?_, fun j hj => ?_, fun j hj => ?_, fun j hj => ?_⟩, u9, c2, ?_, fun hr => ?_⟩
  · rw [e]; exact b3
  · rw [up2_ne o3, b4 o o1 o2 o5]; exact a3 o o1 o2 o3 o5
  · rw [up2_ne (by omega), b5 j hj]; exact a4 j hj
  · rw [up2_ne (by omega), b6 j (by omega)]; exact a5 j hj
  · simp only [up2_rd, reduceIte]
    rw [if_neg (by omega), b4 3 (by omega) (by omega) (by omega)]
    exact a6 j hj
  · rw [up2_ne (by omega)]; exact c3
  · rw [e] at hr
    obtain ⟨f1, f2⟩ := c4 hr
    rw [e]
    dsimp only
    refine ⟨by rw [f1, List.length_append], fun j hj => ?_, fun k hk => ?_⟩
    · rw [List.length_append] at hj
      rw [up2_ne (by omega)]
      by_cases hl : j < (pRd b n i).2.2.1.length
      · rw [b6 _ (by omega), d2 j hl, List.getD_eq_getElem?_getD, List.getD_eq_getElem?_getD, List.getElem?_append_left hl]
      · have g := f2 (j - (pRd b n i).2.2.1.length) (by omega)
        rw [show 160 * t + (pRd b n i).2.2.1.length + (j - (pRd b n i).2.2.1.length) = 160 * t + j from by omega] at g
        rw [g, List.getD_eq_getElem?_getD, List.getD_eq_getElem?_getD, List.getElem?_append_right (by omega)]
    · simp only [up2_rd, reduceIte]
      by_cases hki : k = i
      · rw [if_pos (by omega), c3, f1, hki, e, List.length_append]
      · rw [if_neg (by omega), b4 3 (by omega) (by omega) (by omega)]
        exact d3 k (by omega)
/-- what a text leaves -/
def TxP (t n : Nat) (b : Nat → Int32) (I : I2) (r : Int32) (I9 : I2) : Prop :=
  I9 5 2 = 0 ∧ ((∀ o, o ≠ 1 → o ≠ 2 → o ≠ 3 → o ≠ 5 → I9 o = I o) ∧ (∀ j, j < 160 * t → I9 2 j = I 2 j) ∧ ∀ j, j < 3 * t → I9 3 j = I 3 j) ∧
  ((pOkT b n ∧ r = i32 t ∧ I9 1 0 = i32 (t + 1) ∧ (pRd b n 3).2.2.1.length ≤ 160 ∧ (∀ j, j < (pRd b n 3).2.2.1.length → I9 2 (160 * t + j) = (pRd b n 3).2.2.1.getD j 0) ∧ ∀ k, k < 3 → I9 3 (3 * t + k) = i32 (pRd b n (k + 1)).2.2.1.length) ∨
  (¬ pOkT b n ∧ r = -100 - i32 (pRd b n 3).2.1.2.1 ∧ I9 1 0 = i32 t))

theorem c_readTape {t n : Nat} {I : I2} {J : J2} (e2 : I 5 2 = i32 n) (hn : n ≤ 160) (e0 : I 1 0 = i32 t) (ht : t < 6) : CT mX3_readTape 51 58 58 [.ref 5] I J RF (RP RF (fun r I9 J9 => J9 = J ∧ TxP t n (I 6) I r I9)) := by
  have k78 : ∀ (i : Nat) (w : Int32) (I1 : I2), LpI t n (I 6) I I1 3 w → V mX3_readTape none 51 58 (RP RF (fun r I9 J9 => J9 = J ∧ TxP t n (I 6) I r I9)) 78 [(0, .ref 5), (1, .int w), (2, .int (i32 i))] [] 58 I1 J RF := by
    intro i w I1 hl
    refine V_go 4 rfl ?_
    try simp only [up2_rd, row2_rd, reduceIte, Nat.reduceEqDiff]
    refine V_if_eq rfl (fun h1 => ?_) (fun h1 => ?_)
    · skip
      refine V_go 4 rfl ?_
      refine V_iret rfl rfl rfl ?_
      refine RP.mk ⟨rfl, ?_, ⟨fun o o1 o2 o3 o5 => ?_, fun j hj => ?_, fun j hj => ?_⟩, Or.inr ⟨fun z => absurd (b2i_1 z.1) (by rw [← hl.1, h1]; decide), ?_, ?_⟩⟩
      · simp only [up2_rd, reduceIte]
      · rw [up2_ne o5]; exact hl.2.2.1.1 o o1 o2 o3 o5
      · rw [up2_ne (by omega)]; exact hl.2.2.1.2.2.1 j hj
      · rw [up2_ne (by omega)]; exact hl.2.2.1.2.2.2 j hj
      · rw [← hl.2.1.2.2.2.1]; rfl
      · rw [up2_ne (by omega)]; exact (hl.2.2.1.2.1 0 (by omega)).trans e0
    · skip
      refine V_go 2 rfl ?_
      try simp only [up2_rd, row2_rd, reduceIte, Nat.reduceEqDiff]
      refine V_if_ne rfl (fun h2 => ?_) (fun h2 => ?_)
      · skip
        rw [hl.2.1.2.2.1] at h2
        refine V_go 4 rfl ?_
        refine V_iret rfl rfl rfl ?_
        refine RP.mk ⟨rfl, ?_, ⟨fun o o1 o2 o3 o5 => ?_, fun j hj => ?_, fun j hj => ?_⟩, Or.inr ⟨fun z => h2 z.2, ?_, ?_⟩⟩
        · simp only [up2_rd, reduceIte]
        · rw [up2_ne o5]; exact hl.2.2.1.1 o o1 o2 o3 o5
        · rw [up2_ne (by omega)]; exact hl.2.2.1.2.2.1 j hj
        · rw [up2_ne (by omega)]; exact hl.2.2.1.2.2.2 j hj
        · rw [← hl.2.1.2.2.2.1]; rfl
        · rw [up2_ne (by omega)]; exact (hl.2.2.1.2.1 0 (by omega)).trans e0
      · skip
        rw [hl.2.1.2.2.1] at h2
        have hok : pOkT (I 6) n := ⟨b2i_eq1.mp ((b2i_or _).resolve_left (by rw [← hl.1]; assumption)), h2⟩
        refine V_go 2 rfl ?_
        try simp only [up2_rd, row2_rd, reduceIte, Nat.reduceEqDiff]
        refine cVI (mt' := mX5_keep) rfl kX3_48 fX5_keep rfl rfl rfl (Nat.le_of_ble_eq_true rfl) (Nat.le_of_ble_eq_true rfl) (Nat.le_of_ble_eq_true rfl) (Nat.le_of_ble_eq_true rfl) (Nat.le_refl _) (c_keep) ?_
        refine V_go 1 rfl ?_
        try simp only [up2_rd, row2_rd, reduceIte, Nat.reduceEqDiff]
        refine V_iret rfl rfl rfl ?_
        obtain ⟨u, hu1, hu2, hu3⟩ := hl.2.2.2
        obtain ⟨k1, k2, k3⟩ := hu3 hok.1
        refine RP.mk ⟨rfl, ?_, ⟨fun o o1 o2 o3 o5 => ?_, fun j hj => ?_, fun j hj => ?_⟩, Or.inl ⟨hok, ?_, ?_, by omega, fun j hj => ?_, fun k hk => ?_⟩⟩
        · simp only [up2_rd, reduceIte, Nat.reduceEqDiff]
        · rw [up2_ne o1, up2_ne o5]; exact hl.2.2.1.1 o o1 o2 o3 o5
        · rw [up2_ne (by omega), up2_ne (by omega)]; exact hl.2.2.1.2.2.1 j hj
        · rw [up2_ne (by omega), up2_ne (by omega)]; exact hl.2.2.1.2.2.2 j hj
        · first
            | exact (hl.2.2.1.2.1 0 (by omega)).trans e0
            | (simp only [up2_rd, Nat.reduceEqDiff, reduceIte]; exact (hl.2.2.1.2.1 0 (by omega)).trans e0)
        · simp only [up2_rd, reduceIte, Nat.reduceEqDiff]; rw [hl.2.2.1.2.1 0 (by omega), e0, i32_s]
        · rw [up2_ne (by omega), up2_ne (by omega)]; exact k2 j hj
        · rw [up2_ne (by omega), up2_ne (by omega)]; exact k3 k hk
  have key : ∀ m, Hid (∀ (i : Nat) (w : Int32) (I1 : I2), i + m = 3 → LpI t n (I 6) I I1 i w → V mX3_readTape none 51 58 (RP RF (fun r I9 J9 => J9 = J ∧ TxP t n (I 6) I r I9)) 20 [(0, .ref 5), (1, .int w), (2, .int (i32 i))] [] 58 I1 J RF) := by
    intro m
    induction m with
    | zero =>
      unfold Hid
      intro i w I1 hi0 hl
      refine V_go 2 rfl ?_
      try simp only [up2_rd, row2_rd, reduceIte, Nat.reduceEqDiff]
      refine V_icmp_ge rfl (fun h1 => ?_) (fun h1 => ?_)
      · skip
        obtain rfl : i = 3 := hi0
        exact k78 _ _ _ hl
      · skip
        exact absurd (by rw [show i = 3 from hi0]; exact Int32.le_refl _) h1
    | succ m ih =>
      unfold Hid
      intro i w I1 hi0 hl
      refine V_go 2 rfl ?_
      try simp only [up2_rd, row2_rd, reduceIte, Nat.reduceEqDiff]
      refine V_icmp_ge rfl (fun h1 => ?_) (fun h1 => ?_)
      · skip
        exact absurd ((i32_le (a := 3) (b := i) (by omega) (by omega)).mp h1) (by omega)
      · skip
        refine V_go 1 rfl ?_
        try simp only [up2_rd, row2_rd, reduceIte, Nat.reduceEqDiff]
        refine V_if_eq rfl (fun h2 => ?_) (fun h2 => ?_)
        · skip
          have hx := pRd_x (b := I 6) (n := n) (k := i) (fun z => absurd (b2i_1 z) (by rw [← hl.1, h2]; decide)) (3 - i)
          rw [show i + (3 - i) = 3 from by omega] at hx
          refine k78 _ _ _ ?_
          obtain ⟨l1, l2, l3, u, l4, l5, l6⟩ := hl
          exact ⟨by rw [hx]; exact l1, by rw [hx]; exact l2, l3, u, l4, l5, fun z => absurd (b2i_1 (p := (pRd (I 6) n i).1 = true) (by rw [← hx]; exact z)) (by rw [← l1, h2]; decide)⟩
        · skip
          have hw1 : (pRd (I 6) n i).1 = true := b2i_eq1.mp ((b2i_or _).resolve_left (by rw [← hl.1]; exact h2))
          have hg := pRd_good (I 6) n i (by omega)
          have hg4 := hg.2.2 hw1
          have k63 : ∀ (x : Int32) (I3 : I2), RdP t (pRd (I 6) n i).2.2.1.length n I1 J (pPart (I 6) n (262 + i32 i) (pRd (I 6) n i).2.1) x I3 J → V mX3_readTape none 51 58 (RP RF (fun r I9 J9 => J9 = J ∧ TxP t n (I 6) I r I9)) 63 [(0, .ref 5), (1, .int w), (2, .int (i32 i))] [.int x] 58 I3 J RF := by
            intro x I3 hq
            refine V_go 4 rfl ?_
            try simp only [up2_rd, row2_rd, reduceIte, Nat.reduceEqDiff]
            refine cVV (mt' := mX5_endPart) rfl kX3_41 fX5_endPart rfl rfl rfl (Nat.le_of_ble_eq_true rfl) (Nat.le_of_ble_eq_true rfl) (Nat.le_of_ble_eq_true rfl) (Nat.le_of_ble_eq_true rfl) (Nat.le_refl _) (c_endPart (t := t) (k := i) ((hq.2.2.2.1.2.1 0 (by omega)).trans ((hl.2.2.1.2.1 0 (by omega)).trans e0)) ht (by omega)) ?_
            refine V_go 2 rfl ?_
            try simp only [up2_rd, row2_rd, reduceIte, Nat.reduceEqDiff]
            refine V.st (I' := _) (L' := [(0, .ref 5), (1, .int x), (2, .int (i32 (i + 1)))]) (ih.un (i + 1) x _ (by omega) (hl.step hw1 hq)) rfl (by rw [i32_s]; simp)
          refine V_go 4 rfl ?_
          try simp only [up2_rd, row2_rd, reduceIte, Nat.reduceEqDiff]
          refine cVP (mt' := mX3_passed) rfl kX3_34 fX3_passed rfl rfl rfl (Nat.le_of_ble_eq_true rfl) (Nat.le_of_ble_eq_true rfl) (Nat.le_of_ble_eq_true rfl) (Nat.le_of_ble_eq_true rfl) (Nat.le_refl _) (c_passed (b := I 6) hl.2.1 hg.1 (hl.2.2.1.1 6 (by omega) (by omega) (by omega) (by omega))) ?_
          intro r31 Ir31 Jr31 h31
          obtain ⟨hJ1, hp⟩ := h31
          obtain rfl : J = Jr31 := hJ1.symm
          rcases hp with ⟨hkey, hw, hT2, q2⟩ | ⟨hkey, hw, hI⟩
          · subst hw
            have hn2 := nxt_ok (b := I 6) hg.1
            have k0 : (pRd (I 6) n i).2.1.1 ≠ 0 := fun z => key_0 i (by omega) (by rw [← hkey, z])
            obtain ⟨u, hu1, hu2, hu3⟩ := hl.2.2.2
            obtain ⟨v1, v2, v3⟩ := hu3 hw1
            have hs2 : RS t (pRd (I 6) n i).2.2.1.length n Ir31 (nxt (I 6) n (pRd (I 6) n i).2.1) := ⟨hT2, hn2.1, by rw [q2.1 1 (by omega)]; exact (hl.2.2.1.2.1 0 (by omega)).trans e0, ht, by rw [q2.1 1 (by omega), hu2, v1], by omega⟩
            have hb2 : Ir31 6 = I 6 := (q2.1 6 (by omega)).trans (hl.2.2.1.1 6 (by omega) (by omega) (by omega) (by omega))
            have hn3 := hn2.2.1
            have hgo := pAll_good (I 6) n 5 _ hn2.1
            refine V_if_eq rfl (fun z => absurd z (by decide)) (fun _ => ?_)
            refine V_go 2 rfl ?_
            try simp only [up2_rd, row2_rd, reduceIte, Nat.reduceEqDiff]
            refine cVP (mt' := mX3_readOr) rfl kX3_38 fX3_readOr rfl rfl rfl (Nat.le_of_ble_eq_true rfl) (Nat.le_of_ble_eq_true rfl) (Nat.le_of_ble_eq_true rfl) (Nat.le_of_ble_eq_true rfl) (Nat.le_refl _) (c_all _ _ _ _ _ hs2 hb2 (by omega)) ?_
            intro r41 Ir41 Jr41 h41
            have hq3 := h41
            obtain rfl : J = Jr41 := hq3.1.symm
            refine V_if_eq rfl (fun h42 => ?_) (fun h42 => ?_)
            · skip
              have hE : (pPart (I 6) n (262 + i32 i) (pRd (I 6) n i).2.1) = (false, (pAll (I 6) n 5 (nxt (I 6) n (pRd (I 6) n i).2.1)).2.1, [], fun _ => 0) := by unfold pPart; rw [if_pos hkey, if_neg (fun z => absurd (b2i_1 z.1) (by rw [← hq3.2.1, h42]; decide))]
              refine V_go 1 rfl ?_
              refine k63 0 _ ?_
              rw [hE]
              exact (hq3.pre q2).fail
            · skip
              refine V_go 2 rfl ?_
              try simp only [up2_rd, row2_rd, reduceIte, Nat.reduceEqDiff]
              refine cVP (mt' := mX3_passed) rfl kX3_34 fX3_passed rfl rfl rfl (Nat.le_of_ble_eq_true rfl) (Nat.le_of_ble_eq_true rfl) (Nat.le_of_ble_eq_true rfl) (Nat.le_of_ble_eq_true rfl) (Nat.le_refl _) (c_passed hq3.2.2.1 hgo.1 (hq3.b6 hb2)) ?_
              intro r43 Ir43 Jr43 h43
              obtain ⟨hJ1, hp⟩ := h43
              obtain rfl : J = Jr43 := hJ1.symm
              have ho1 : (pAll (I 6) n 5 (nxt (I 6) n (pRd (I 6) n i).2.1)).1 = true := b2i_eq1.mp ((b2i_or _).resolve_left (by rw [← hq3.2.1]; assumption))
              rcases hp with ⟨h59, hw, hT3, q3⟩ | ⟨h59, hw, hI⟩
              · subst hw
                have hE : (pPart (I 6) n (262 + i32 i) (pRd (I 6) n i).2.1) = (true, nxt (I 6) n (pAll (I 6) n 5 (nxt (I 6) n (pRd (I 6) n i).2.1)).2.1, (pAll (I 6) n 5 (nxt (I 6) n (pRd (I 6) n i).2.1)).2.2) := by unfold pPart; rw [if_pos hkey, if_pos ⟨ho1, h59⟩]
                refine V_if_eq rfl (fun z => absurd z (by decide)) (fun _ => ?_)
                refine V_go 2 rfl ?_
                refine k63 1 _ ?_
                rw [hE]
                exact (hq3.pre q2).post ho1 q3 hT3
              · subst hw
                have hE : (pPart (I 6) n (262 + i32 i) (pRd (I 6) n i).2.1) = (false, (pAll (I 6) n 5 (nxt (I 6) n (pRd (I 6) n i).2.1)).2.1, [], fun _ => 0) := by unfold pPart; rw [if_pos hkey, if_neg (fun z => h59 z.2)]
                refine V_if_eq rfl (fun _ => ?_) (fun z => absurd rfl z)
                refine V_go 1 rfl ?_
                refine k63 0 _ ?_
                rw [hE, hI]
                exact (hq3.pre q2).fail
          · subst hw
            obtain rfl : I1 = Ir31 := hI.symm
            have hE : (pPart (I 6) n (262 + i32 i) (pRd (I 6) n i).2.1) = pNone (pRd (I 6) n i).2.1 := by unfold pPart; rw [if_neg hkey]
            refine V_if_eq rfl (fun _ => ?_) (fun z => absurd rfl z)
            refine V_go 1 rfl ?_
            refine k63 0 _ ?_
            rw [hE]
            exact ⟨rfl, (b2i_0 Bool.false_ne_true).symm, hl.2.1, RFr.rf, _, Nat.le_refl _, by have := hg.1.1; have := hl.2.1.2.1; omega, (by obtain ⟨u, hu1, hu2, hu3⟩ := hl.2.2.2; rw [hu2, (hu3 hw1).1]), fun q => by cases q⟩
  refine CT_of okX3_readTape (Nat.le_of_ble_eq_true rfl) ?_
  show V _ _ _ _ _ _ [(0, _)] _ _ _ _ _
  refine V_go 2 rfl ?_
  try simp only [up2_rd, row2_rd, reduceIte, Nat.reduceEqDiff]
  refine cVV (mt' := mX5_begin) rfl kX3_25 fX5_begin rfl rfl rfl (Nat.le_of_ble_eq_true rfl) (Nat.le_of_ble_eq_true rfl) (Nat.le_of_ble_eq_true rfl) (Nat.le_of_ble_eq_true rfl) (Nat.le_refl _) (c_begin) ?_
  refine V_go 4 rfl ?_
  try simp only [up2_rd, row2_rd, reduceIte, Nat.reduceEqDiff]
  refine cVW (mt' := mX3_passToken) rfl kX3_31 fX3_passToken rfl rfl rfl (Nat.le_of_ble_eq_true rfl) (Nat.le_of_ble_eq_true rfl) (Nat.le_of_ble_eq_true rfl) (Nat.le_of_ble_eq_true rfl) (Nat.le_refl _) (c_passToken (I := up2 (up2 I 1 1 0) 5 3 0) (n := n) (p0 := 0) e2 hn rfl (Nat.zero_le _)) ?_
  intro Ir2 Jr2 h2
  obtain ⟨hJ1, hT2, q2⟩ := h2
  obtain rfl : J = Jr2 := hJ1.symm
  have hl0 : LpI t n (I 6) I Ir2 0 1 := by
    refine ⟨rfl, hT2, ⟨fun o o1 o2 o3 o5 => ?_, fun j hj => ?_, fun j hj => ?_, fun j hj => ?_⟩, 0, by omega, ?_, fun _ => ⟨rfl, fun j hj => absurd hj (Nat.not_lt_zero _), fun k hk => absurd hk (Nat.not_lt_zero _)⟩⟩
    · rw [q2.1 o o5, up2_ne o5, up2_ne o1]
    · rw [q2.1 1 (by omega)]; simp only [up2_rd, reduceIte, Nat.reduceEqDiff, if_neg hj]
    · rw [q2.1 2 (by omega)]; rfl
    · rw [q2.1 3 (by omega)]; rfl
    · rw [q2.1 1 (by omega)]; rfl
  refine V_go 4 rfl ?_
  try simp only [up2_rd, row2_rd, reduceIte, Nat.reduceEqDiff]
  exact (key 3).un 0 1 _ (Nat.zero_add _) hl0
