theorem aft_congr {M M' : Nat → Int32} (h : ∀ t, t < 40 → M t = M' t) (x : Int32) : ∀ n i, i + n = 40 → aft M x n i = aft M' x n i
  | 0, _, _ => rfl
  | n + 1, i, hi => by
    rw [aft, aft, h i (by omega), aft_congr h x n (i + 1) (by omega)]
theorem tryF_congr {g g' : Nat → (Int32 × Int32) → (Int32 × Int32)} : ∀ n s, (∀ i s, i < n → g i s = g' i s) → tryF g n s = tryF g' n s
  | 0, _, _ => rfl
  | n + 1, s, h => by
    rw [tryF, tryF, tryF_congr n s (fun i s hi => h i s (by omega)), h n _ (by omega)]
theorem tryS_congr {R R' M M' : Nat → Int32} (hR : ∀ i, i < 6 → R i = R' i) (hM : ∀ t, t < 40 → M t = M' t) {f : Int32} : ∀ k w mi sum dg s, tryS R M f k w mi sum dg s = tryS R' M' f k w mi sum dg s
  | 0, _, _, _, _, _ => rfl
  | k + 1, w, mi, sum, dg, s => by
    rw [tryS, tryS]
    split
    · rfl
    · refine tryF_congr 6 s (fun i s hi => ?_)
      rw [hR i hi, aft_congr hM _ 40 0 rfl, tryS_congr hR hM k]
def sRest (C : CC) (i : Nat) : Int32 := if i < mC C then C 4 i - C 5 i else 0
def sWait (C : CC) : Nat → Nat
  | 0 => 0
  | i + 1 => if 0 < sRest C i then sWait C i + 2 ^ i else sWait C i
def sMt (T : TV) (C : CC) : Nat → Int32
  | 0 => 0
  | t + 1 => sMt T C t + sLeft T (up2 C 0 0 (C 0 0 + i32 t))
def sOrd (T : TV) (C : CC) : Int32 × Int32 := tryS (sRest C) (fun t => sMt T C (t + 1)) (C 0 0) 6 (sWait C 6) 0 0 0 (2147483647, 0)
theorem sWait_lt (C : CC) : ∀ i, sWait C i < 2 ^ i
  | 0 => by simp [sWait]
  | i + 1 => by
    have h := sWait_lt C i
    rw [sWait, Nat.pow_succ]
    split <;> omega
def restF (C : CC) (g : Nat → Int32) (i : Nat) : Nat → Int32 := fun j => if j < i then sRest C j else g j
theorem restF_s (C : CC) (g : Nat → Int32) (i : Nat) (v : Int32) (hv : v = sRest C i) : upd (restF C g i) i v = restF C g (i + 1) := by
  funext j
  simp only [upd, restF]
  grind
theorem restF_0 (C : CC) (g : Nat → Int32) : restF C g 0 = g := by
  funext j
  simp [restF]
theorem rest_eq {I : I2} {i : Nat} (hi0 : 0 ≤ I 15 9) (hi6 : I 15 9 ≤ 6) (hi : i < 6) : (if 0 ≤ i32 i ∧ i32 i < I 15 9 ∧ i32 i < 6 then I 20 i else -1) - (if 0 ≤ i32 i ∧ i32 i < I 15 9 ∧ i32 i < 6 then I 21 i else -1) = sRest (cOf I 15) i := by
  obtain ⟨h1, h2⟩ := mC_i hi0 hi6
  unfold sRest
  by_cases h : i < mC (cOf I 15)
  · rw [if_pos h, if_pos (by rw [h1]; grind [i32_ti]), if_pos (by rw [h1]; grind [i32_ti])]
    rfl
  · rw [if_neg h, if_neg (by rw [h1]; grind [i32_ti]), if_neg (by rw [h1]; grind [i32_ti])]
    rfl
theorem orbit6 : ∀ i, i < 6 → ∀ w, w < 2 ^ i → i32 w ||| (1 : Int32) <<< (i32 i &&& 31) = i32 (w + 2 ^ i) := by decide +kernel
/-- what the weighing may change -/
def FrW (I I1 : I2) : Prop := ∀ a, a ≠ 4 → a ≠ 31 → a ≠ 32 → a ≠ 33 → (a < 15 ∨ 23 ≤ a) → I1 a = I a
theorem Cok.frW {I I1 : I2} {T : TV} (h : Cok I 15 T) (q : FrW I I1) (e : Cq0 (cOf I1 15) (cOf I 15)) : Cok I1 15 T := by
  obtain ⟨ho, ⟨h1, h2, h3⟩, h4⟩ := h
  have e1 : I1 1 = I 1 := q 1 (by omega) (by omega) (by omega) (by omega) (by omega)
  have e2 : I1 2 = I 2 := q 2 (by omega) (by omega) (by omega) (by omega) (by omega)
  have e3 : I1 3 = I 3 := q 3 (by omega) (by omega) (by omega) (by omega) (by omega)
  have f2 : I1 15 4 = I 15 4 := e 2 (by omega)
  have f3 : I1 15 5 = I 15 5 := e 3 (by omega)
  have f4 : I1 15 9 = I 15 9 := e 4 (by omega)
  refine ⟨ho, ⟨?_, ?_, ?_⟩, ?_⟩
  · rw [e1]; exact h1
  · rw [e1]; exact h2
  · rw [e1, e2, e3]; exact h3
  · rw [f2, f3, f4, e1]; exact h4
theorem c_weigh {I : I2} {J : J2} {T : TV} (hC : Cok I 15 T) : CT mX2_weigh 11 58 58 [.ref 31, .ref 15] I J RF (RVP RF (fun I9 J9 => J9 = J ∧ I9 31 4 = (sOrd T (cOf I 15)).1 ∧ I9 31 3 = (sOrd T (cOf I 15)).2 ∧ FrW I I9)) := by
  have ho := hC.1
  obtain ⟨-, hT, hr0, hr1, hn0, hn8, hi0, hi6⟩ := id hC
  refine CT_of okX2_weigh (Nat.le_of_ble_eq_true rfl) ?_
  show V _ _ _ _ _ _ [(0, _), (1, _)] _ _ _ _ _
  have key2 : ∀ n, Hid (∀ (i : Nat) (I1 : I2), i + n = 40 → (cOf I1 15 = up2 (cOf I 15) 0 0 (cOf I 15 0 0 + i32 i) ∧ (∀ t, t < i → I1 33 t = sMt T (cOf I 15) (t + 1)) ∧ (∀ t, t < 6 → I1 32 t = sRest (cOf I 15) t) ∧ I1 31 2 = cOf I 15 0 0 ∧ FrW I I1) → V mX2_weigh none 11 58 (RVP RF (fun I9 J9 => J9 = J ∧ I9 31 4 = (sOrd T (cOf I 15)).1 ∧ I9 31 3 = (sOrd T (cOf I 15)).2 ∧ FrW I I9)) 64 [(0, .ref 31), (1, .ref 15), (2, .int (i32 (sWait (cOf I 15) 6))), (3, .int (sMt T (cOf I 15) i)), (4, .int (i32 i))] [] 58 I1 J RF) := by
    intro n
    induction n with
    | zero =>
      unfold Hid
      intro i I1 hi ⟨hc, hmt, hre, hfs, hf⟩
      refine V_go 4 rfl ?_
      refine V_icmp_ge rfl (fun h1 => ?_) (fun h1 => ?_)
      · skip
        refine V_go 12 rfl ?_
        have h9 : i = 40 := hi
        subst h9
        have he : tryS (I1 32) (I1 33) (I1 31 2) 6 (sWait (cOf I 15) 6) 0 0 0 (2147483647, 0) = sOrd T (cOf I 15) := by
          rw [hfs]
          exact tryS_congr hre hmt 6 _ _ _ _ _
        rw [show up2 (up2 I1 31 3 0) 31 4 2147483647 = memO I1 (2147483647, 0) from rfl]
        refine cVV (mt' := mX2_tryAll) rfl kX2_47 fX2_tryAll rfl rfl rfl (Nat.le_of_ble_eq_true rfl) (Nat.le_of_ble_eq_true rfl) (Nat.le_of_ble_eq_true rfl) (Nat.le_of_ble_eq_true rfl) (Nat.le_refl _) (c_tryAll (I := I1) 6 (2147483647, 0) (sWait (cOf I 15) 6) 0 0 0 0 rfl (sWait_lt _ 6)) ?_
        refine V_vret rfl rfl rfl ?_
        refine RVP.mk ⟨rfl, ?_, ?_, ?_⟩
        · rw [(memO_rd _ _).1, he]
        · rw [(memO_rd _ _).2.1, he]
        · intro a b1 b2 b3 b4 b5
          rw [memO_row _ _ _ b2]
          exact hf a b1 b2 b3 b4 b5
      · skip
        exfalso
        have h9 : i = 40 := hi
        rw [h9] at h1
        exact h1 (by decide)
    | succ n ih =>
      unfold Hid
      intro i I1 hi ⟨hc, hmt, hre, hfs, hf⟩
      have hC1 : Cok I1 15 T := hC.frW hf (by intro j hj; rw [hc, up2_rd]; simp [hj])
      refine V_go 4 rfl ?_
      refine V_icmp_ge rfl (fun h1 => ?_) (fun h1 => ?_)
      · skip
        exfalso
        exact lp_more (i := i) (N := 40) (by omega) (by omega) h1
      · skip
        refine V_go 2 rfl ?_
        refine cVP (mt' := mX0_minutesLeft) rfl kX2_34 fX0_minutesLeft rfl rfl rfl (Nat.le_of_ble_eq_true rfl) (Nat.le_of_ble_eq_true rfl) (Nat.le_of_ble_eq_true rfl) (Nat.le_of_ble_eq_true rfl) (Nat.le_refl _) (c_minutesLeft_15 hC1) ?_
        intro r2 Ir2 Jr2 h2
        obtain ⟨hv, rfl, hq2⟩ := h2
        rw [hc] at hv
        have e15 : cOf (up2 Ir2 33 (i32 i).toNatClampNeg (sMt T (cOf I 15) i + r2)) 15 = cOf I1 15 := by
          rw [← cOf_sq ho hq2]
          funext a b
          simp only [cOf, up2_rd]
          simp
        have IQ15 : up2 Ir2 33 (i32 i).toNatClampNeg (sMt T (cOf I 15) i + r2) 15 2 = cOf I 15 0 0 + i32 i := by
          rw [up2_ne (by omega)]
          have := congrFun (congrFun (cOf_sq ho hq2) 0) 0
          rw [hc] at this
          simpa [cOf, up2_rd] using this
        refine V_go 6 rfl ?_
        refine V_iast rfl rfl (Nat.le_of_ble_eq_true rfl) (inb_ofN (by decide) (by grind [i32_ti]) (by grind [i32_ti])) ?_
        refine V_go 8 rfl ?_
        refine V.st (I' := _) (L' := [(0, .ref 31), (1, .ref 15), (2, .int (i32 (sWait (cOf I 15) 6))), (3, .int (sMt T (cOf I 15) (i + 1))), (4, .int (i32 (i + 1)))]) (ih.un (i + 1) _ (by omega) ⟨?_, ?_, ?_, ?_, ?_⟩) rfl ?_
        · rw [cOf_fld (o := 15) (f := 2) (by omega), e15, IQ15, hc]
          funext a b
          simp only [up2_rd, fldJ, i32_s, reduceIte, Int32.add_assoc]
          grind
        · intro t ht
          rw [up2_ne (by omega), up2_rd, tn_of (show i < 2147483648 by omega)]
          simp only [reduceIte]
          split
          · rename_i ht2; subst ht2; rw [hv]; rfl
          · rw [hq2 33 (by omega) (by omega)]; exact hmt t (by omega)
        · intro t ht
          rw [up2_ne (by omega), up2_ne (by omega), hq2 32 (by omega) (by omega)]; exact hre t ht
        · rw [up2_ne (by omega), up2_ne (by omega), hq2 31 (by omega) (by omega)]; exact hfs
        · intro a b1 b2 b3 b4 b5
          rw [up2_ne (by omega), up2_ne (by omega), hq2 a (by omega) (by omega)]; exact hf a b1 b2 b3 b4 b5
        · rw [i32_s, show sMt T (cOf I 15) (i + 1) = sMt T (cOf I 15) i + r2 from by rw [sMt, hv]]
          simp
  have k51 : V mX2_weigh none 11 58 (RVP RF (fun I9 J9 => J9 = J ∧ I9 31 4 = (sOrd T (cOf I 15)).1 ∧ I9 31 3 = (sOrd T (cOf I 15)).2 ∧ FrW I I9)) 51 [(0, .ref 31), (1, .ref 15), (2, .int (i32 (sWait (cOf I 15) 6))), (3, .int (i32 6))] [] 58 (row2 I 32 (restF (cOf I 15) (I 32) 6)) J RF := by
    refine V_go 8 rfl ?_
    refine V.st (L' := [(0, .ref 31), (1, .ref 15), (2, .int (i32 (sWait (cOf I 15) 6))), (3, .int 0), (4, .int 0)]) ((key2 40).un 0 _ rfl ⟨?_, ?_, ?_, ?_, ?_⟩) rfl (by simp)
    · funext a b
      simp only [cOf, up2_rd, row2_rd]
      simp
      grind
    · intro t ht; exact absurd ht (by omega)
    · intro t ht
      rw [up2_ne (by omega), row2_eq]
      simp [restF, ht]
    · simp only [up2_rd, row2_rd, cOf]
      simp
    · intro a b1 b2 b3 b4 b5
      rw [up2_ne b2, row2_ne b3]
  have key1 : ∀ n, Hid (∀ (i : Nat), i + n = 6 → True → V mX2_weigh none 11 58 (RVP RF (fun I9 J9 => J9 = J ∧ I9 31 4 = (sOrd T (cOf I 15)).1 ∧ I9 31 3 = (sOrd T (cOf I 15)).2 ∧ FrW I I9)) 4 [(0, .ref 31), (1, .ref 15), (2, .int (i32 (sWait (cOf I 15) i))), (3, .int (i32 i))] [] 58 (row2 I 32 (restF (cOf I 15) (I 32) i)) J RF) := by
    intro n
    induction n with
    | zero =>
      unfold Hid
      intro i  hi _
      refine V_go 4 rfl ?_
      refine V_icmp_ge rfl (fun h1 => ?_) (fun h1 => ?_)
      · skip
        have h9 : i = 6 := hi
        subst h9
        exact k51
      · skip
        exfalso
        have h9 : i = 6 := hi
        rw [h9] at h1
        exact h1 (by decide)
    | succ n ih =>
      unfold Hid
      intro i  hi _
      refine V_go 4 rfl ?_
      refine V_icmp_ge rfl (fun h1 => ?_) (fun h1 => ?_)
      · skip
        exfalso
        exact lp_more (i := i) (N := 6) (by omega) (by omega) h1
      · skip
        refine V_go 5 rfl ?_
        refine cVI (mt' := mX0_takesOf) rfl kX2_20 fX0_takesOf rfl rfl rfl (Nat.le_of_ble_eq_true rfl) (Nat.le_of_ble_eq_true rfl) (Nat.le_of_ble_eq_true rfl) (Nat.le_of_ble_eq_true rfl) (Nat.le_refl _) (c_takesOf ho) ?_
        refine V_go 2 rfl ?_
        refine cVI (mt' := mX0_soFarOf) rfl kX2_24 fX0_soFarOf rfl rfl rfl (Nat.le_of_ble_eq_true rfl) (Nat.le_of_ble_eq_true rfl) (Nat.le_of_ble_eq_true rfl) (Nat.le_of_ble_eq_true rfl) (Nat.le_refl _) (c_soFarOf ho) ?_
        refine V_go 1 rfl ?_
        simp only [row2_rd, reduceIte, Nat.reduceEqDiff, Nat.reduceAdd, tn_of (show i < 2147483648 by omega)]
        refine V_iast rfl rfl (Nat.le_of_ble_eq_true rfl) (inb_ofN (by decide) (by grind [i32_ti]) (by grind [i32_ti])) ?_
        have hre := rest_eq hi0 hi6 (show i < 6 by omega)
        have hm0 : up2 (row2 I 32 (restF (cOf I 15) (I 32) i)) 32 (i32 i).toNatClampNeg ((if 0 ≤ i32 i ∧ i32 i < I 15 9 ∧ i32 i < 6 then I 20 i else -1) - (if 0 ≤ i32 i ∧ i32 i < I 15 9 ∧ i32 i < 6 then I 21 i else -1)) = row2 I 32 (restF (cOf I 15) (I 32) (i + 1)) := by
          rw [tn_of (by omega), up2_row2, restF_s _ _ _ _ hre]
        refine V_go 3 rfl ?_
        refine V_iald rfl rfl (Nat.le_of_ble_eq_true rfl) (inb_ofN (by decide) (by grind [i32_ti]) (by grind [i32_ti])) ?_
        simp only [up2_rd, row2_rd, reduceIte, Nat.reduceEqDiff]
        refine V_if_le rfl (fun h4 => ?_) (fun h4 => ?_)
        · skip
          refine V_go 2 rfl ?_
          have hm := hm0
          refine V.st (L' := [(0, .ref 31), (1, .ref 15), (2, .int (i32 (sWait (cOf I 15) (i + 1)))), (3, .int (i32 (i + 1)))]) (ih.un (i + 1) (by omega) trivial) hm ?_
          rw [i32_s, show sWait (cOf I 15) (i + 1) = sWait (cOf I 15) i from by rw [sWait, if_neg (by rw [← hre]; grind)]]
          simp
        · skip
          refine V_go 8 rfl ?_
          have hm := hm0
          refine V.st (L' := [(0, .ref 31), (1, .ref 15), (2, .int (i32 (sWait (cOf I 15) (i + 1)))), (3, .int (i32 (i + 1)))]) (ih.un (i + 1) (by omega) trivial) hm ?_
          rw [i32_s, show sWait (cOf I 15) (i + 1) = sWait (cOf I 15) i + 2 ^ i from by rw [sWait, if_pos (by rw [← hre]; grind)], ← orbit6 i (by omega) _ (sWait_lt _ i)]
          simp

  refine V_go 4 rfl ?_
  have e := (key1 6).un 0 rfl trivial
  rw [restF_0, row2_self] at e
  exact e
