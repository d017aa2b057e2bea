theorem cMd_r {I : I2} {g c : Nat} {v : Int32} (h1 : 1 ≤ g) (h3 : g ≤ 3) : cMd (up2 I (41 + g) c v) = up2 (cMd I) g c v := by
  funext a j
  have b (o k : Nat) (ho : o ≠ 41 + g) : up2 I (41 + g) c v o k = I o k := by rw [up2_ne ho]
  match a with
  | 0 => simp only [cMd, b 38 _ (by omega), up2_rd]; rw [if_neg (by omega)]
  | 1 =>
    by_cases h : g = 1
    · subst h; rfl
    · simp only [cMd, b 42 _ (by omega), up2_rd]; rw [if_neg (by omega)]
  | 2 =>
    by_cases h : g = 2
    · subst h; rfl
    · simp only [cMd, b 43 _ (by omega), up2_rd]; rw [if_neg (by omega)]
  | 3 =>
    by_cases h : g = 3
    · subst h; rfl
    · simp only [cMd, b 44 _ (by omega), up2_rd]; rw [if_neg (by omega)]
  | 4 => simp only [cMd, b 45 _ (by omega), up2_rd]; rw [if_neg (by omega)]
  | 5 => simp only [cMd, b 45 _ (by omega), up2_rd]; rw [if_neg (by omega)]
  | 6 => simp only [cMd, b 45 _ (by omega), up2_rd]; rw [if_neg (by omega)]
  | a + 7 => simp only [cMd, up2_rd]; rw [if_neg (by omega)]
def gMx (g : Nat) : Int32 := if g = 1 then 5 else if g = 2 then 9 else 99
/-- one cell of a citizen's becomes another -/
theorem MC.row {tc : Nat} {I : I2} {J : J2} {T : TV} {C : CC} (hM : MC tc I J T C) {g c : Nat} {v : Int32} (h1 : 1 ≤ g) (h3 : g ≤ 3) (v0 : 0 ≤ v) (v1 : v ≤ gMx g) : MC tc (up2 I (41 + g) c v) J T (up2 C g c v) := by
  obtain ⟨a1, ⟨r0, r1, r2, r3, r4, r5, r6⟩, a3⟩ := hM
  have e0 (j : Nat) : up2 C g c v 0 j = C 0 j := by rw [up2_ne (by omega)]
  have en : nC (up2 C g c v) = nC C := by unfold nC; rw [e0]
  have em : mC (up2 C g c v) = mC C := by unfold mC; rw [e0]
  refine ⟨by rw [cMd_r h1 h3, en, em]; exact a1.up, ⟨?_, ?_, ?_, ?_, ?_, fun a ha => ?_, fun i hi => ?_⟩, a3.same (by rw [up2_ne (by omega)]) (up2_ne (by omega)) (up2_ne (by omega)) (fun p hp => by rw [up2_ne (by omega)]; exact a3.2.2.2.2.2 p hp)⟩
  · rw [e0]; exact r0
  · rw [e0]; exact r1
  · rw [e0]; exact r2
  · rw [e0]; exact r3
  · rw [e0]; exact r4
  · rw [en] at ha
    obtain ⟨b1, b2, b3⟩ := r5 a ha
    unfold gMx at v1
    simp only [up2_rd]
    match g, h1, h3 with
    | 1, _, _ =>
      refine ⟨?_, b2, b3⟩
      by_cases hac : a = c
      · rw [if_pos rfl, if_pos hac]; exact ⟨v0, v1⟩
      · rw [if_pos rfl, if_neg hac]; exact b1
    | 2, _, _ =>
      refine ⟨b1, ?_, b3⟩
      by_cases hac : a = c
      · rw [if_pos rfl, if_pos hac]; exact ⟨v0, v1⟩
      · rw [if_pos rfl, if_neg hac]; exact b2
    | 3, _, _ =>
      refine ⟨b1, b2, ?_⟩
      by_cases hac : a = c
      · rw [if_pos rfl, if_pos hac]; exact ⟨v0, v1⟩
      · rw [if_pos rfl, if_neg hac]; exact b3
  · rw [em] at hi
    have z (k : Nat) (hk : 4 ≤ k) : up2 C g c v k i = C k i := by rw [up2_ne (by omega)]
    rw [z 4 (by omega), z 5 (by omega), z 6 (by omega)]
    exact r6 i hi
theorem Mp.row {I : I2} {o k : Nat} {v : Int32} (h : 42 ≤ o ∧ o ≤ 50) : Mp I (up2 I o k v) := ⟨fun a ha => up2_ne (by omega), fun j hj => by rw [up2_ne (by omega)]⟩
theorem up_back {C : CC} {g c : Nat} {v : Int32} : up2 (up2 C g c v) g c (C g c) = C := by rw [up2_up2, up2_self]
/-- once done, it stays -/
theorem hold_done {T : TV} {C : CC} {it : Nat} (h : ¬ C 6 it = -1) : (sHold T C).1 6 it = C 6 it := by
  have e : ∀ i, (sHoldN C (sLeft T C) i).1 6 it = C 6 it := by
    intro i
    induction i with
    | zero => rfl
    | succ i ih =>
      rw [sHoldN]
      show (sGoOn _ i _).1 6 it = _
      generalize (sHoldN C (sLeft T C) i).1 = D at *
      generalize (sHoldN C (sLeft T C) i).2 = l1 at *
      by_cases h1 : D 6 i = -1
      · have hne : it ≠ i := fun z => h (by rw [← ih, z]; exact h1)
        by_cases h2 : D 4 i ≤ D 5 i + sMi D i l1
        · rw [sGoOn_a h1 h2]
          simp only [up2_rd, reduceIte, Nat.reduceEqDiff, if_neg hne]
          exact ih
        · rw [sGoOn_b h1 h2]
          simp only [up2_rd, reduceIte, Nat.reduceEqDiff]
          exact ih
      · rw [sGoOn_c h1]; exact ih
  unfold sHold
  dsimp only
  rw [up2_ne (by omega)]
  exact e _
theorem sRn_sh {T : TV} {C : CC} : ∀ k, (sRn T C (k + 1)).1 = (sRn T (sHold T C).1 k).1
  | 0 => rfl
  | k + 1 => by
    show (sHold T (sRn T C (k + 1)).1).1 = (sHold T (sRn T (sHold T C).1 k).1).1
    rw [sRn_sh k]
theorem sRn_done {T : TV} {C : CC} {it : Nat} (h : ¬ C 6 it = -1) : ∀ k, (sRn T C k).1 6 it = C 6 it
  | 0 => rfl
  | k + 1 => by
    have e := sRn_done (T := T) h k
    show (sHold T (sRn T C k).1).1 6 it = _
    rw [hold_done (by rw [e]; exact h), e]
theorem sRn_dw {T : TV} {it : Nat} : ∀ (k : Nat) (C : CC), (sRn T C k).1 6 it = sDW T it k C 6 it
  | 0, _ => rfl
  | k + 1, C => by
    rw [sDW]
    by_cases h : C 6 it = -1
    · rw [if_pos h, sRn_sh, sRn_dw k]
    · rw [if_neg h]
      exact sRn_done h (k + 1)
theorem sRun_at {T : TV} {C : CC} {x : Int32} (h : isIt C x) : sRun T C 40 (10 + x) = sDW T x.toNatClampNeg 40 C 6 x.toNatClampNeg := by
  have e : 10 + x - 10 = x := by rw [Int32.add_comm, Int32.add_sub_cancel]
  unfold sRun
  rw [e, if_pos ⟨by decide, Or.inr (Or.inr h)⟩, if_pos h]
  exact sRn_dw 40 C

theorem c_doneAt7 {tc : Nat} {I : I2} {J : J2} {T : TV} {C : CC} (hM : MC tc I J T C) {x : Int32} (hs : C 0 0 ≤ 999) (hx : isIt C x) : CT mX7_doneAt 50 58 58 [.ref 38, .int x] I J RF (RP RF (fun r9 I9 J9 => r9 = sDW T x.toNatClampNeg 40 C 6 x.toNatClampNeg ∧ MC tc I9 J9 T C ∧ Mp I I9)) := by
  refine CT_of okX7_doneAt (Nat.le_of_ble_eq_true rfl) ?_
  show V _ _ _ _ _ _ [(0, _), (1, _)] _ _ _ _ _
  refine V_go 5 rfl ?_
  refine cVP (mt' := mX7_run) rfl kX7_315 fX7_run rfl rfl rfl (Nat.le_of_ble_eq_true rfl) (Nat.le_of_ble_eq_true rfl) (Nat.le_of_ble_eq_true rfl) (Nat.le_of_ble_eq_true rfl) (Nat.le_refl _) (c_run7 hM hs) ?_
  intro r1 Ir1 Jr1 h1
  obtain ⟨hv, hM2, hq2⟩ := h1
  refine V_iret rfl rfl rfl ?_
  exact RP.mk ⟨hv.trans (sRun_at hx), hM2, hq2⟩
theorem c_sit7 {tc : Nat} {I : I2} {J : J2} {T : TV} {C : CC} (hM : MC tc I J T C) (hs : C 0 0 ≤ 999) : CT mX7_sit 49 58 58 [.ref 38] I J RF (RP RF (fun r9 I9 J9 => r9 = (sSit T C).2 ∧ MC tc I9 J9 T (sSit T C).1 ∧ Mp I I9)) := by
  refine CT_of okX7_sit (Nat.le_of_ble_eq_true rfl) ?_
  show V _ _ _ _ _ _ [(0, _)] _ _ _ _ _
  refine V_go 3 rfl ?_
  refine V_icmp_ne rfl (fun h1 => ?_) (fun h1 => ?_)
  · skip
    have hlt : C 0 0 < 999 := Int32.lt_of_le_of_ne hs (fun z => h1 (hM.f.1.trans z))
    refine V_go 1 rfl ?_
    refine cVP (mt' := mX7_sits) rfl kX7_296 fX7_sits rfl rfl rfl (Nat.le_of_ble_eq_true rfl) (Nat.le_of_ble_eq_true rfl) (Nat.le_of_ble_eq_true rfl) (Nat.le_of_ble_eq_true rfl) (Nat.le_refl _) (c_sits7 hM (Int32.le_trans hs (by decide))) ?_
    intro r11 Ir11 Jr11 h11
    obtain ⟨hv, hM2, -, hf2⟩ := h11
    refine V_iret rfl rfl rfl ?_
    exact RP.mk ⟨by unfold sSit; rw [if_pos hlt, hv, sHold_mC], by unfold sSit; rw [if_pos hlt]; exact hM2, hf2.mp (by simp) (by simp)⟩
  · skip
    refine V_go 2 rfl ?_
    refine V_iret rfl rfl rfl ?_
    have e9 : C 0 0 = 999 := hM.f.1.symm.trans h1
    have hn : ¬ C 0 0 < 999 := by rw [e9]; decide
    exact RP.mk ⟨by unfold sSit; rw [if_neg hn], by unfold sSit; rw [if_neg hn]; exact hM, Mp.rf⟩
theorem c_soonest7 {tc : Nat} {I : I2} {J : J2} {T : TV} {C : CC} (hM : MC tc I J T C) {x w : Int32} (hs : C 0 0 ≤ 999) : CT mX7_soonest 51 58 58 [.ref 38, .int x, .int w] I J RF (RP RF (fun r9 I9 J9 => r9 = sSoon T C x w ∧ MC tc I9 J9 T C ∧ Mp I I9)) := by
  obtain ⟨hn1, hn8, hm1, hm6, hC3, hC4⟩ := hM.nm
  have k21 : isIt C x → (w = 0 ∨ w = 1) → V mX7_soonest none 51 58 (RP RF (fun r9 I9 J9 => r9 = sSoon T C x w ∧ MC tc I9 J9 T C ∧ Mp I I9)) 21 [(0, .ref 38), (1, .int x), (2, .int w)] [] 58 I J RF := by
    intro hx hw
    have key : ∀ n, Hid (∀ (i : Nat) (I1 : I2) (J1 : J2), i + n = nC C → (MC tc I1 J1 T C ∧ Mp I I1) → V mX7_soonest none 51 58 (RP RF (fun r9 I9 J9 => r9 = sSoon T C x w ∧ MC tc I9 J9 T C ∧ Mp I I9)) 33 [(0, .ref 38), (1, .int x), (2, .int w), (3, .int (sSoo T C x.toNatClampNeg (i)).1), (4, .int (sSoo T C x.toNatClampNeg (i)).2), (5, .int (i32 (i)))] [] 58 I1 J1 RF) := by
      intro n
      induction n with
      | zero =>
        unfold Hid
        intro i I1 J1 hi ⟨hM1, hq1⟩
        have hn2 : I1 38 12 = i32 (nC C) := hM1.nm.1
        refine V_go 3 rfl ?_
        refine V_icmp_ge rfl (fun h1 => ?_) (fun h1 => ?_)
        · skip
          refine V_go 1 rfl ?_
          refine V_if_ne rfl (fun h2 => ?_) (fun h2 => ?_)
          · skip
            refine V_go 1 rfl ?_
            refine V_iret rfl rfl rfl ?_
            refine RP.mk ⟨?_, hM1, hq1⟩
            unfold sSoon
            rw [if_pos ⟨hx, hw⟩, show nC C = i from hi.symm]
            first
              | (rw [if_pos (by assumption)]; done)
              | (rw [if_neg (by assumption)]; done)
          · skip
            refine V_go 2 rfl ?_
            refine V_iret rfl rfl rfl ?_
            refine RP.mk ⟨?_, hM1, hq1⟩
            unfold sSoon
            rw [if_pos ⟨hx, hw⟩, show nC C = i from hi.symm]
            first
              | (rw [if_pos (by assumption)]; done)
              | (rw [if_neg (by assumption)]; done)
        · skip
          exact absurd (by rw [hn2, ← show i = nC C from hi]; exact Int32.le_refl _) h1
      | succ n ih =>
        unfold Hid
        intro i I1 J1 hi ⟨hM1, hq1⟩
        have hn2 : I1 38 12 = i32 (nC C) := hM1.nm.1
        have hb : I1 44 i = C 3 i := (hM1.ci (c := i) (by omega)).2.2
        refine V_go 3 rfl ?_
        try simp only [up2_rd, row2_rd, reduceIte, Nat.reduceEqDiff, tn_of (show i < 2147483648 by omega), hb]
        refine V_icmp_ge rfl (fun h1 => ?_) (fun h1 => ?_)
        · skip
          exact absurd ((i32_le (a := nC C) (b := i) (by omega) (by omega)).mp (by rw [← hn2]; exact h1)) (by omega)
        · skip
          refine V_go 3 rfl ?_
          try simp only [up2_rd, row2_rd, reduceIte, Nat.reduceEqDiff, tn_of (show i < 2147483648 by omega), hb]
          refine V_iald rfl rfl (Nat.le_of_ble_eq_true rfl) (inb_i32 (by omega) (by decide)) ?_
          try simp only [up2_rd, row2_rd, reduceIte, Nat.reduceEqDiff, tn_of (show i < 2147483648 by omega), hb]
          refine V_go 5 rfl ?_
          try simp only [up2_rd, row2_rd, reduceIte, Nat.reduceEqDiff, tn_of (show i < 2147483648 by omega), hb]
          refine V_iast rfl rfl (Nat.le_of_ble_eq_true rfl) (inb_i32 (by omega) (by decide)) ?_
          have hMa : MC tc (up2 I1 44 i 99) J1 T (up2 C 3 i 99) := hM1.row (g := 3) (by omega) (by omega) (by decide) (by decide)
          refine V_go 2 rfl ?_
          try simp only [up2_rd, row2_rd, reduceIte, Nat.reduceEqDiff, tn_of (show i < 2147483648 by omega), hb]
          refine cVP (mt' := mX7_doneAt) rfl kX7_318 fX7_doneAt rfl rfl rfl (Nat.le_of_ble_eq_true rfl) (Nat.le_of_ble_eq_true rfl) (Nat.le_of_ble_eq_true rfl) (Nat.le_of_ble_eq_true rfl) (Nat.le_refl _) (c_doneAt7 hMa hs hx) ?_
          intro r41 Ir41 Jr41 h41
          obtain ⟨hv, hM2, hq2⟩ := h41
          subst hv
          have hM3 : MC tc (up2 Ir41 44 i (C 3 i)) Jr41 T C := by
            have z := hM2.row (g := 3) (c := i) (v := C 3 i) (by omega) (by omega) (hM.2.1.2.2.2.2.2.1 i (by omega)).2.2.1 (hM.2.1.2.2.2.2.2.1 i (by omega)).2.2.2
            rw [up_back] at z
            exact z
          have hq3 : Mp I (up2 Ir41 44 i (C 3 i)) := (hq1.tr ((Mp.row (by omega)).tr hq2)).tr (Mp.row (by omega))
          refine V_go 5 rfl ?_
          try simp only [up2_rd, row2_rd, reduceIte, Nat.reduceEqDiff, tn_of (show i < 2147483648 by omega), hb]
          refine V_iast rfl rfl (Nat.le_of_ble_eq_true rfl) (inb_i32 (by omega) (by decide)) ?_
          refine V_go 2 rfl ?_
          try simp only [up2_rd, row2_rd, reduceIte, Nat.reduceEqDiff, tn_of (show i < 2147483648 by omega), hb]
          refine V_icmp_eq rfl (fun h42 => ?_) (fun h42 => ?_)
          · skip
            refine V_go 2 rfl ?_
            refine V.st (L' := [(0, .ref 38), (1, .int x), (2, .int w), (3, .int (sSoo T C x.toNatClampNeg (i + 1)).1), (4, .int (sSoo T C x.toNatClampNeg (i + 1)).2), (5, .int (i32 (i + 1)))]) (ih.un (i + 1) _ _ (by omega) ⟨hM3, hq3⟩) rfl ?_
            rw [i32_s, sSoo_a T C h42]
            simp
          · skip
            have hv1 := h42
            refine V_go 2 rfl ?_
            refine V_icmp_eq rfl (fun h61 => ?_) (fun h61 => ?_)
            · skip
              refine V_go 6 rfl ?_
              refine V.st (L' := [(0, .ref 38), (1, .int x), (2, .int w), (3, .int (sSoo T C x.toNatClampNeg (i + 1)).1), (4, .int (sSoo T C x.toNatClampNeg (i + 1)).2), (5, .int (i32 (i + 1)))]) (ih.un (i + 1) _ _ (by omega) ⟨hM3, hq3⟩) rfl ?_
              rw [i32_s, sSoo_b T C hv1 (Or.inl h61)]
              simp
            · skip
              have hv2 := h61
              refine V_go 2 rfl ?_
              refine V_icmp_ge rfl (fun h71 => ?_) (fun h71 => ?_)
              · skip
                refine V_go 2 rfl ?_
                refine V.st (L' := [(0, .ref 38), (1, .int x), (2, .int w), (3, .int (sSoo T C x.toNatClampNeg (i + 1)).1), (4, .int (sSoo T C x.toNatClampNeg (i + 1)).2), (5, .int (i32 (i + 1)))]) (ih.un (i + 1) _ _ (by omega) ⟨hM3, hq3⟩) rfl ?_
                rw [i32_s, sSoo_c T C hv2 (Int32.not_lt.mpr h71)]
                simp
              · skip
                refine V_go 6 rfl ?_
                refine V.st (L' := [(0, .ref 38), (1, .int x), (2, .int w), (3, .int (sSoo T C x.toNatClampNeg (i + 1)).1), (4, .int (sSoo T C x.toNatClampNeg (i + 1)).2), (5, .int (i32 (i + 1)))]) (ih.un (i + 1) _ _ (by omega) ⟨hM3, hq3⟩) rfl ?_
                rw [i32_s, sSoo_b T C hv1 (Or.inr (Int32.not_le.mp h71))]
                simp
    refine V_go 4 rfl ?_
    refine cVP (mt' := mX7_doneAt) rfl kX7_318 fX7_doneAt rfl rfl rfl (Nat.le_of_ble_eq_true rfl) (Nat.le_of_ble_eq_true rfl) (Nat.le_of_ble_eq_true rfl) (Nat.le_of_ble_eq_true rfl) (Nat.le_refl _) (c_doneAt7 hM hs hx) ?_
    intro r61 Ir61 Jr61 h61
    obtain ⟨hv, hM2, hq2⟩ := h61
    subst hv
    refine V_go 3 rfl ?_
    exact (key _).un 0 _ _ (Nat.zero_add _) ⟨hM2, hq2⟩
  refine CT_of okX7_soonest (Nat.le_of_ble_eq_true rfl) ?_
  show V _ _ _ _ _ _ [(0, _), (1, _), (2, _)] _ _ _ _ _
  refine V_go 2 rfl ?_
  refine cVI (mt' := mX7_isItem) rfl kX7_128 fX7_isItem rfl rfl rfl (Nat.le_of_ble_eq_true rfl) (Nat.le_of_ble_eq_true rfl) (Nat.le_of_ble_eq_true rfl) (Nat.le_of_ble_eq_true rfl) (Nat.le_refl _) (c_isItem7 hM) ?_
  refine V_if_eq rfl (fun h2 => ?_) (fun h2 => ?_)
  · skip
    refine V_go 1 rfl ?_
    refine V_iret rfl rfl rfl ?_
    exact RP.mk ⟨(if_neg (fun z => (b2i_eq0.mp h2) z.1)).symm, hM, Mp.rf⟩
  · skip
    have hx := b2i_n0.mp h2
    refine V_go 4 rfl ?_
    refine cSI (mt' := mX7_in) rfl kX7_89 fX7_in rfl (Nat.le_of_ble_eq_true rfl) (Nat.le_of_ble_eq_true rfl) (Nat.le_refl _) (c_inI (lo := (0)) (hi := (1)) rfl (by decide +kernel) (by decide +kernel)) ?_
    refine V_if_ne rfl (fun h22 => ?_) (fun h22 => ?_)
    · skip
      exact k21 hx (w01.mp (b2i_n0.mp h22))
    · skip
      refine V_go 1 rfl ?_
      refine V_iret rfl rfl rfl ?_
      exact RP.mk ⟨(if_neg (fun z => (b2i_eq0.mp h22) (w01.mpr z.2))).symm, hM, Mp.rf⟩
theorem sBri_ls {T : TV} {C : CC} {c : Nat} {y : Int32} {n : Nat} (hn : n ≤ 8) (hc : c < n) : cnt (sLs T (up2 C 3 c y) n) c = cnt (sLs T C n) c := by
  rw [sLs_cnt hn (by omega), sLs_cnt hn (by omega)]
  have h : Cq c 0 (up2 C 3 c y) C := ⟨fun j _ => by rw [up2_ne (by omega)], fun g j _ _ hj => by
    simp only [up2_rd]
    split
    · rw [if_neg (by omega)]
    · rfl, fun g j h1 h2 hj => absurd hj (Nat.not_lt_zero _)⟩
  rw [h.sLs c (Nat.le_refl _)]
theorem b99 : ∀ i, i < 100 → 0 ≤ i32 i ∧ i32 i ≤ gMx 3 := by decide +kernel

theorem c_bribe7 {tc : Nat} {I : I2} {J : J2} {T : TV} {C : CC} (hM : MC tc I J T C) {x : Int32} : CT mX7_bribe 46 58 58 [.ref 38, .int x] I J RF (RP RF (fun r9 I9 J9 => r9 = sBribe T C x ∧ MC tc I9 J9 T C ∧ Mp I I9)) := by
  obtain ⟨hn1, hn8, hm1, hm6, hC3, hC4⟩ := hM.nm
  refine CT_of okX7_bribe (Nat.le_of_ble_eq_true rfl) ?_
  show V _ _ _ _ _ _ [(0, _), (1, _)] _ _ _ _ _
  refine V_go 2 rfl ?_
  refine cVI (mt' := mX7_isOne) rfl kX7_98 fX7_isOne rfl rfl rfl (Nat.le_of_ble_eq_true rfl) (Nat.le_of_ble_eq_true rfl) (Nat.le_of_ble_eq_true rfl) (Nat.le_of_ble_eq_true rfl) (Nat.le_refl _) (c_isOne7 hM) ?_
  refine V_if_ne rfl (fun h2 => ?_) (fun h2 => ?_)
  · skip
    have hx := b2i_n0.mp h2
    obtain ⟨c, hc, hc8, e1, e2⟩ := hM.isC hx
    subst e1
    have r3 := (hM.2.1.2.2.2.2.2.1 c hc).2.2
    have hSB : sBribe T C (i32 c) = sBri T C c 100 0 := by unfold sBribe; rw [if_pos hx, e2]
    have key : ∀ n, Hid (∀ (i : Nat) (y fd : Int32) (I1 : I2) (J1 : J2), i + n = 100 → (MC tc I1 J1 T (up2 C 3 c y) ∧ Mp I I1 ∧ (0 ≤ y ∧ y ≤ gMx 3) ∧ ((fd = -1 ∧ sBri T C c n i = sBribe T C (i32 c)) ∨ (fd ≠ -1 ∧ fd = sBribe T C (i32 c)))) → V mX7_bribe none 46 58 (RP RF (fun r9 I9 J9 => r9 = sBribe T C (i32 c) ∧ MC tc I9 J9 T C ∧ Mp I I9)) 23 [(0, .ref 38), (1, .int (i32 c)), (2, .int (C 3 c)), (3, .int fd), (4, .int (i32 (i)))] [] 58 I1 J1 RF) := by
      intro n
      induction n with
      | zero =>
        unfold Hid
        intro i y fd I1 J1 hi ⟨hM1, hq1, hy, hfd⟩
        refine V_go 2 rfl ?_
        refine V_icmp_ge rfl (fun h1 => ?_) (fun h1 => ?_)
        · skip
          refine V_go 4 rfl ?_
          refine V_iast rfl rfl (Nat.le_of_ble_eq_true rfl) (inb_i32 (by omega) (by decide)) ?_
          refine V_go 1 rfl ?_
          refine V_iret rfl rfl rfl ?_
          rw [tn_of (by omega)]
          have hM3 : MC tc (up2 I1 44 c (C 3 c)) J1 T C := by
            have z := hM1.row (g := 3) (c := c) (v := C 3 c) (by omega) (by omega) r3.1 r3.2
            rw [up2_up2, up2_self] at z
            exact z
          exact RP.mk ⟨(hfd.elim (fun z => z.1.trans z.2) (fun z => z.2)), hM3, hq1.tr (Mp.row (by omega))⟩
        · skip
          exact absurd (by rw [show i = 100 from hi]; exact Int32.le_refl _) h1
      | succ n ih =>
        unfold Hid
        intro i y fd I1 J1 hi ⟨hM1, hq1, hy, hfd⟩
        refine V_go 2 rfl ?_
        refine V_icmp_ge rfl (fun h1 => ?_) (fun h1 => ?_)
        · skip
          exact absurd ((i32_le (a := 100) (b := i) (by omega) (by omega)).mp h1) (by omega)
        · skip
          refine V_go 2 rfl ?_
          refine V_icmp_ne rfl (fun h2 => ?_) (fun h2 => ?_)
          · skip
            refine V_go 4 rfl ?_
            refine V_iast rfl rfl (Nat.le_of_ble_eq_true rfl) (inb_i32 (by omega) (by decide)) ?_
            refine V_go 1 rfl ?_
            refine V_iret rfl rfl rfl ?_
            rw [tn_of (by omega)]
            have hM3 : MC tc (up2 I1 44 c (C 3 c)) J1 T C := by
              have z := hM1.row (g := 3) (c := c) (v := C 3 c) (by omega) (by omega) r3.1 r3.2
              rw [up2_up2, up2_self] at z
              exact z
            exact RP.mk ⟨(hfd.elim (fun z => absurd z.1 h2) (fun z => z.2)), hM3, hq1.tr (Mp.row (by omega))⟩
          · skip
            have hR := (hfd.resolve_right (fun z => z.1 h2)).2
            refine V_go 4 rfl ?_
            refine V_iast rfl rfl (Nat.le_of_ble_eq_true rfl) (inb_i32 (by omega) (by decide)) ?_
            rw [tn_of (by omega)]
            have hMa : MC tc (up2 I1 44 c (i32 i)) J1 T (up2 C 3 c (i32 i)) := by
              have z := hM1.row (g := 3) (c := c) (v := i32 i) (by omega) (by omega) (b99 i (by omega)).1 (b99 i (by omega)).2
              rw [up2_up2] at z
              exact z
            refine V_go 1 rfl ?_
            refine cVP (mt' := mX7_listNow) rfl kX7_135 fX7_listNow rfl rfl rfl (Nat.le_of_ble_eq_true rfl) (Nat.le_of_ble_eq_true rfl) (Nat.le_of_ble_eq_true rfl) (Nat.le_of_ble_eq_true rfl) (Nat.le_refl _) (c_listNow7 hMa) ?_
            intro r41 Ir41 Jr41 h41
            obtain ⟨hv, hM2, hq2⟩ := h41
            subst hv
            have hq3 := (hq1.tr (Mp.row (o := 44) (k := c) (v := i32 i) (by omega))).tr hq2.mp
            have hbit := bit_ok (sLst T (up2 C 3 c (i32 i))) hMa.l256 c hc8
            have enC : nC (up2 C 3 c (i32 i)) = nC C := by unfold nC; rw [up2_ne (by omega)]
            have hsb : (if (sLst T (up2 C 3 c (i32 i))).testBit c then (1 : Int32) else 0) = sRd T (up2 C 3 c (i32 i)) c (cnt (sLst T C) c) := by
              have z := sLs_bit (T := T) (C := up2 C 3 c (i32 i)) (n := nC C) (i := c) hn8 hc
              rw [sBri_ls hn8 hc] at z
              unfold sLst
              rw [enC]
              exact z
            refine V_go 5 rfl ?_
            refine V_icmp_ne rfl (fun h42 => ?_) (fun h42 => ?_)
            · skip
              rw [hbit, hsb] at h42
              refine V_go 4 rfl ?_
              refine V.st (L' := [(0, .ref 38), (1, .int (i32 c)), (2, .int (C 3 c)), (3, .int (-1)), (4, .int (i32 (i + 1)))]) (ih.un (i + 1) (i32 i) (-1) _ _ (by omega) ⟨hM2, hq3, (b99 i (by omega)), Or.inl ⟨rfl, ?_⟩⟩) rfl (by rw [i32_s]; simp)
              rw [← hR, sBri, if_pos ((sRd_01 T _ c _).resolve_right h42)]
            · skip
              rw [hbit, hsb] at h42
              refine V_go 5 rfl ?_
              refine V.st (L' := [(0, .ref 38), (1, .int (i32 c)), (2, .int (C 3 c)), (3, .int (i32 i)), (4, .int (i32 (i + 1)))]) (ih.un (i + 1) (i32 i) (i32 i) _ _ (by omega) ⟨hM2, hq3, (b99 i (by omega)), Or.inr ⟨i32_n1 (by omega), ?_⟩⟩) rfl (by rw [i32_s]; simp)
              rw [← hR, sBri, if_neg (by rw [h42]; decide)]
    refine V_go 3 rfl ?_
    refine V_iald rfl rfl (Nat.le_of_ble_eq_true rfl) (inb_i32 (by omega) (by decide)) ?_
    refine V_go 5 rfl ?_
    rw [tn_of (by omega), (hM.ci hc).2.2]
    have z := (key 100).un 0 (C 3 c) (-1) I J rfl ⟨by rw [up2_self]; exact hM, Mp.rf, r3, Or.inl ⟨rfl, hSB.symm⟩⟩
    exact z
  · skip
    refine V_go 1 rfl ?_
    refine V_iret rfl rfl rfl ?_
    exact RP.mk ⟨(if_neg (b2i_eq0.mp h2)).symm, hM, Mp.rf⟩
