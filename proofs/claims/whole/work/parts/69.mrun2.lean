theorem MC.re {tc : Nat} {I I9 : I2} {J J9 : J2} {T : TV} {C : CC} (h : MC tc I J T C) (hE : EvM tc I9 J9 T) (h5 : ∀ j, j < 18 → I9 45 j = I 45 j) (h2 : ∀ o, 42 ≤ o → o ≤ 44 → I9 o = I o) (hf : ∀ k, k < 15 → I9 38 k = I 38 k) : MC tc I9 J9 T C := by
  have hm6 := h.nm.2.2.2.1
  refine ⟨⟨fun j hj => ?_, fun g j h1 h3 hj => ?_, fun g j h1 h3 hj => ?_⟩, h.2.1, hE⟩
  · rw [← h.1.1 j hj]
    match j, hj with
    | 0, _ => exact hf 7 (by omega)
    | 1, _ => exact hf 8 (by omega)
    | 2, _ => exact hf 4 (by omega)
    | 3, _ => exact hf 12 (by omega)
    | 4, _ => exact hf 14 (by omega)
  · rw [← h.1.2.1 g j h1 h3 hj]
    match g, h1, h3 with
    | 1, _, _ => exact congrFun (h2 42 (by omega) (by omega)) j
    | 2, _, _ => exact congrFun (h2 43 (by omega) (by omega)) j
    | 3, _, _ => exact congrFun (h2 44 (by omega) (by omega)) j
  · rw [← h.1.2.2 g j h1 h3 hj]
    match g, h1, h3 with
    | 4, _, _ => exact h5 _ (by omega)
    | 5, _, _ => exact h5 _ (by omega)
    | 6, _, _ => exact h5 _ (by omega)
theorem Sf.mp {I I9 : I2} {os ks : List Nat} (h : Sf os ks I I9) (ho : ∀ o ∈ os, 42 ≤ o ∧ o ≤ 50) (hk : ∀ k ∈ ks, k ≠ 6 ∧ ¬ (46 ≤ k ∧ k ≤ 50)) : Mp I I9 := ⟨fun o a => h.1 o (by omega) (by omega) (fun z => by have := ho o z; omega), fun k a => h.2 k (by omega) (fun z => by have := hk k z; omega)⟩
theorem sRn_00 (T : TV) (C : CC) : ∀ i, (sRn T C i).1 0 0 = C 0 0 + i32 i
  | 0 => by
    show C 0 0 = C 0 0 + 0
    rw [Int32.add_zero]
  | i + 1 => by
    show (sHold T (sRn T C i).1).1 0 0 = _
    rw [show (sHold T (sRn T C i).1).1 0 0 = (sRn T C i).1 0 0 + 1 from rfl, sRn_00 T C i, i32_s, Int32.add_assoc]
theorem s40m {x : Int32} {i : Nat} (h0 : 0 ≤ x) (h1 : x ≤ 999) (hi : i ≤ 40) : x + i32 i ≤ 1090 := by
  have a1 := Int32.le_iff_toInt_le.mp h0
  have a2 := Int32.le_iff_toInt_le.mp h1
  have z0 : (0 : Int32).toInt = 0 := rfl
  have z9 : (999 : Int32).toInt = 999 := rfl
  have e : (i32 i).toInt = i := Int32.toInt_ofNat_of_lt (by omega)
  rw [Int32.le_iff_toInt_le, add_i (by omega) (by omega) (by omega) (by omega), e, show (1090 : Int32).toInt = 1090 from rfl]
  omega
theorem it10 {C : CC} {w : Int32} (h : isIt C (w - 10)) (h4 : C 0 4 ≤ 6) : 10 ≤ w ∧ w ≤ 15 := by
  have e : w = (w - 10) + 10 := (Int32.sub_add_cancel w 10).symm
  have a1 := Int32.le_iff_toInt_le.mp h.1
  have a2 := Int32.lt_iff_toInt_lt.mp h.2
  have a3 := Int32.le_iff_toInt_le.mp h4
  have z0 : (0 : Int32).toInt = 0 := rfl
  have z6 : (6 : Int32).toInt = 6 := rfl
  have z1 : (10 : Int32).toInt = 10 := rfl
  have z5 : (15 : Int32).toInt = 15 := rfl
  have e2 : w.toInt = (w - 10).toInt + 10 := by
    have z := congrArg Int32.toInt e
    rw [add_i (by omega) (by omega) (by omega) (by omega), z1] at z
    exact z
  rw [Int32.le_iff_toInt_le, Int32.le_iff_toInt_le]
  omega

theorem MC.doneM {tc : Nat} {I : I2} {J : J2} {T : TV} {C C0 : CC} (hM : MC tc I J T C) (h : nC C = nC C0 ∧ mC C = mC C0) : CT mX7_doneMany 1 58 58 [.ref 38] I J RF (RI RF (sCntD C (mC C0)) I J) := by
  rw [← h.2]
  exact c_doneMany7 hM
theorem c_run7 {tc : Nat} {I : I2} {J : J2} {T : TV} {C : CC} (hM : MC tc I J T C) {x w : Int32} (hs : C 0 0 ≤ 999) : CT mX7_run 49 58 58 [.ref 38, .int x, .int w] I J RF (RP RF (fun r9 I9 J9 => r9 = sRun T C x w ∧ MC tc I9 J9 T C ∧ Mp I I9)) := by
  have k50 : (0 ≤ x ∧ x ≤ 40) → (w = 0 ∨ w = 1 ∨ isIt C (w - 10)) → V mX7_run none 49 58 (RP RF (fun r9 I9 J9 => r9 = sRun T C x w ∧ MC tc I9 J9 T C ∧ Mp I I9)) 50 [(0, .ref 38), (1, .int x), (2, .int w)] [] 58 I J RF := by
    intro hx hw
    have hx4 : x.toNatClampNeg ≤ 40 := by
      have z := hx.2
      rw [← xn hx.1] at z
      exact (i32_le (a := x.toNatClampNeg) (b := 40) (tn_lt hx.1 hx.2 (by decide)) (by omega)).mp z
    have key : ∀ n, Hid (∀ (i : Nat) (I1 : I2) (J1 : J2), i + n = x.toNatClampNeg → (MC tc I1 J1 T ((sRn T C (i)).1) ∧ I1 38 32 = (sRn T C i).2 ∧ Sf [45] [7, 32] (up2 (up2 (row2 I 48 (fun j => if j < 18 then I 45 j else I 48 j)) 38 34 (I 38 7)) 38 32 0) I1) → V mX7_run none 49 58 (RP RF (fun r9 I9 J9 => r9 = sRun T C x w ∧ MC tc I9 J9 T C ∧ Mp I I9)) 56 [(0, .ref 38), (1, .int x), (2, .int w), (3, .int (i32 (i)))] [] 58 I1 J1 RF) := by
      intro n
      induction n with
      | zero =>
        unfold Hid
        intro i I1 J1 hi ⟨hM1, h32, hsf⟩
        have hxi : x = i32 x.toNatClampNeg := (xn hx.1).symm
        refine V_go 2 rfl ?_
        refine V_icmp_ge rfl (fun h1 => ?_) (fun h1 => ?_)
        · skip
          have hN : x.toNatClampNeg = i := hi.symm
          have k108 : ∀ v : Int32, v = sRun T C x w → V mX7_run none 49 58 (RP RF (fun r9 I9 J9 => r9 = sRun T C x w ∧ MC tc I9 J9 T C ∧ Mp I I9)) 108 [(0, .ref 38), (1, .int x), (2, .int w), (3, .int (i32 i))] [.int v] 58 I1 J1 RF := by
            intro v hv
            refine V_go 2 rfl ?_
            refine cVV (mt' := mX7_laysBack) rfl kX7_312 fX7_laysBack rfl rfl rfl (Nat.le_of_ble_eq_true rfl) (Nat.le_of_ble_eq_true rfl) (Nat.le_of_ble_eq_true rfl) (Nat.le_of_ble_eq_true rfl) (Nat.le_refl _) c_laysBack ?_
            refine V_go 1 rfl ?_
            refine V_iret rfl rfl rfl ?_
            have h48 : I1 48 = row2 I 48 (fun j => if j < 18 then I 45 j else I 48 j) 48 := hsf.1 48 (by omega) (by omega) (by simp)
            have h34 : I1 38 34 = I 38 7 := hsf.2 34 (by omega) (by simp)
            refine RP.mk ⟨hv, hM.re (hM1.2.2.same rfl rfl rfl hM1.2.2.2.2.2.2.2) (fun j hj => ?_) (fun o o1 o2 => ?_) (fun k hk => ?_), ?_⟩
            · simp only [up2_rd, row2_rd, reduceIte, Nat.reduceEqDiff, if_pos hj, h48]
            · rw [up2_ne (by omega), row2_ne (by omega), hsf.1 o (by omega) (by omega) (by simp; omega), up2_ne (by omega), up2_ne (by omega), row2_ne (by omega)]
            · simp only [up2_rd, row2_rd, reduceIte, Nat.reduceEqDiff]
              by_cases hk7 : k = 7
              · rw [if_pos hk7, h34, hk7]
              · rw [if_neg hk7, hsf.2 k (by omega) (by simp; omega)]
                simp only [up2_rd, row2_rd, reduceIte, Nat.reduceEqDiff]
                rw [if_neg (by omega), if_neg (by omega)]
            · refine Mp.tr (I1 := I1) ?_ ⟨fun o ho => by rw [up2_ne (by omega), row2_ne (by omega)], fun k hk => by simp only [up2_rd, row2_rd, reduceIte, Nat.reduceEqDiff]; rw [if_neg (by omega)]⟩
              refine Mp.tr (I1 := (up2 (up2 (row2 I 48 (fun j => if j < 18 then I 45 j else I 48 j)) 38 34 (I 38 7)) 38 32 0)) ⟨fun o ho => by rw [up2_ne (by omega), up2_ne (by omega), row2_ne (by omega)], fun k hk => ?_⟩ (hsf.mp (by simp) (by simp))
              simp only [up2_rd, row2_rd, reduceIte, Nat.reduceEqDiff]
              rw [if_neg (by omega), if_neg (by omega)]
          refine V_go 1 rfl ?_
          refine V_if_ne rfl (fun h31 => ?_) (fun h31 => ?_)
          · skip
            have w0 : ¬ w = 0 := h31
            refine V_go 2 rfl ?_
            refine V_icmp_ne rfl (fun h51 => ?_) (fun h51 => ?_)
            · skip
              have w1 : ¬ w = 1 := h51
              have hI := (hw.resolve_left w0).resolve_left w1
              obtain ⟨c, hc, hc6, e1, e2⟩ := hM.isI hI
              have hix : 3 * (w - 10) + 2 = i32 (3 * c + 2) := by rw [e1]; exact ix32 c hc6
              refine V_go 9 rfl ?_
              refine V_iald rfl rfl (Nat.le_of_ble_eq_true rfl) (by rw [hix]; exact inb_i32 (by omega) (by decide)) ?_
              refine k108 _ ?_
              rw [hix, tn_of (by omega)]
              unfold sRun
              rw [if_pos ⟨hx, hw⟩, if_pos hI, hN, e2]
              obtain ⟨-, m2⟩ := sRn_nm T C i
              exact (hM1.it (i := c) (by rw [m2]; exact hc)).2.2
            · skip
              have w1 : w = 1 := h51
              refine V_go 3 rfl ?_
              refine k108 _ ?_
              unfold sRun
              rw [if_pos ⟨hx, hw⟩, if_neg (fun z => absurd z.1 (by rw [w1]; decide)), if_neg w0, hN]
              exact h32
          · skip
            have w0 : w = 0 := h31
            refine V_go 1 rfl ?_
            refine cVI (mt' := mX7_doneMany) rfl kX7_309 fX7_doneMany rfl rfl rfl (Nat.le_of_ble_eq_true rfl) (Nat.le_of_ble_eq_true rfl) (Nat.le_of_ble_eq_true rfl) (Nat.le_of_ble_eq_true rfl) (Nat.le_refl _) ((hM1.doneM (sRn_nm T C i))) ?_
            refine V_go 1 rfl ?_
            refine k108 _ ?_
            unfold sRun
            rw [if_pos ⟨hx, hw⟩, if_neg (fun z => absurd z.1 (by rw [w0]; decide)), if_pos w0, hN]
        · skip
          exact absurd (by rw [hxi, show i = x.toNatClampNeg from hi]; exact Int32.le_refl _) h1
      | succ n ih =>
        unfold Hid
        intro i I1 J1 hi ⟨hM1, h32, hsf⟩
        have hxi : x = i32 x.toNatClampNeg := (xn hx.1).symm
        refine V_go 2 rfl ?_
        refine V_icmp_ge rfl (fun h1 => ?_) (fun h1 => ?_)
        · skip
          rw [hxi] at h1
          exact absurd ((i32_le (a := x.toNatClampNeg) (b := i) (by omega) (by omega)).mp h1) (by omega)
        · skip
          refine V_go 1 rfl ?_
          refine cVP (mt' := mX7_sits) rfl kX7_296 fX7_sits rfl rfl rfl (Nat.le_of_ble_eq_true rfl) (Nat.le_of_ble_eq_true rfl) (Nat.le_of_ble_eq_true rfl) (Nat.le_of_ble_eq_true rfl) (Nat.le_refl _) (c_sits7 hM1 (by rw [sRn_00]; exact s40m hM.2.1.1.1 hs (by omega))) ?_
          intro r2 Ir2 Jr2 h2
          obtain ⟨-, hM2, hl2, hf2⟩ := h2
          refine V_go 3 rfl ?_
          refine V.st (L' := [(0, .ref 38), (1, .int x), (2, .int w), (3, .int (i32 (i + 1)))]) (ih.un (i + 1) _ _ (by omega) ⟨hM2, ?_, hsf.tr hf2⟩) rfl (by rw [i32_s]; simp)
          rw [hl2, h32]
          rfl
    refine V_go 1 rfl ?_
    refine cVV (mt' := mX7_laysAside) rfl kX7_306 fX7_laysAside rfl rfl rfl (Nat.le_of_ble_eq_true rfl) (Nat.le_of_ble_eq_true rfl) (Nat.le_of_ble_eq_true rfl) (Nat.le_of_ble_eq_true rfl) (Nat.le_refl _) (c_laysAside) ?_
    refine V_go 2 rfl ?_
    exact (key _).un 0 (up2 (up2 (row2 I 48 (fun j => if j < 18 then I 45 j else I 48 j)) 38 34 (I 38 7)) 38 32 0) J (Nat.zero_add _) ⟨hM.re (hM.2.2.same rfl rfl rfl hM.2.2.2.2.2.2.2) (fun j hj => rfl) (fun o o1 o2 => by rw [up2_ne (by omega), up2_ne (by omega), row2_ne (by omega)]) (fun k hk => by simp only [up2_rd, row2_rd, reduceIte, Nat.reduceEqDiff]; rw [if_neg (by omega), if_neg (by omega)]), rfl, Sf.rf⟩
  refine CT_of okX7_run (Nat.le_of_ble_eq_true rfl) ?_
  show V _ _ _ _ _ _ [(0, _), (1, _), (2, _)] _ _ _ _ _
  refine V_go 4 rfl ?_
  refine cSI (mt' := mX7_in) rfl kX7_89 fX7_in rfl (Nat.le_of_ble_eq_true rfl) (Nat.le_of_ble_eq_true rfl) (Nat.le_refl _) (c_inI (lo := (0)) (hi := (40)) rfl (by decide +kernel) (by decide +kernel)) ?_
  refine V_if_eq rfl (fun h2 => ?_) (fun h2 => ?_)
  · skip
    refine V_go 1 rfl ?_
    refine V_iret rfl rfl rfl ?_
    exact RP.mk ⟨(if_neg (fun z => (b2i_eq0.mp h2) z.1)).symm, hM, Mp.rf⟩
  · skip
    have hx := b2i_n0.mp h2
    refine V_go 4 rfl ?_
    refine cSI (mt' := mX7_in) rfl kX7_89 fX7_in rfl (Nat.le_of_ble_eq_true rfl) (Nat.le_of_ble_eq_true rfl) (Nat.le_refl _) (c_inI (lo := (0)) (hi := (1)) rfl (by decide +kernel) (by decide +kernel)) ?_
    refine V_if_ne rfl (fun h22 => ?_) (fun h22 => ?_)
    · skip
      have hw := w01.mp (b2i_n0.mp h22)
      exact k50 hx (hw.elim Or.inl (fun z => Or.inr (Or.inl z)))
    · skip
      have hn01 : ¬ (w = 0 ∨ w = 1) := fun z => (b2i_eq0.mp h22) (w01.mpr z)
      refine V_go 4 rfl ?_
      refine cSI (mt' := mX7_in) rfl kX7_89 fX7_in rfl (Nat.le_of_ble_eq_true rfl) (Nat.le_of_ble_eq_true rfl) (Nat.le_refl _) (c_inI (lo := (10)) (hi := (15)) rfl (by decide +kernel) (by decide +kernel)) ?_
      refine V_if_eq rfl (fun h32 => ?_) (fun h32 => ?_)
      · skip
        refine V_go 1 rfl ?_
        refine V_iret rfl rfl rfl ?_
        exact RP.mk ⟨(if_neg (fun z => z.2.elim (fun y => hn01 (Or.inl y)) (fun y => y.elim (fun y => hn01 (Or.inr y)) (fun y => (b2i_eq0.mp h32) (it10 y hM.2.1.2.2.2.2.1.2))))).symm, hM, Mp.rf⟩
      · skip
        refine V_go 4 rfl ?_
        refine cVI (mt' := mX7_isItem) rfl kX7_128 fX7_isItem rfl rfl rfl (Nat.le_of_ble_eq_true rfl) (Nat.le_of_ble_eq_true rfl) (Nat.le_of_ble_eq_true rfl) (Nat.le_of_ble_eq_true rfl) (Nat.le_refl _) (c_isItem7 hM) ?_
        refine V_if_ne rfl (fun h34 => ?_) (fun h34 => ?_)
        · skip
          exact k50 hx (Or.inr (Or.inr (b2i_n0.mp h34)))
        · skip
          refine V_go 1 rfl ?_
          refine V_iret rfl rfl rfl ?_
          exact RP.mk ⟨(if_neg (fun z => z.2.elim (fun y => hn01 (Or.inl y)) (fun y => y.elim (fun y => hn01 (Or.inr y)) (fun y => (b2i_eq0.mp h34) y)))).symm, hM, Mp.rf⟩
