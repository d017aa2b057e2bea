def cpT (f g : Nat → Int32) (a k : Nat) : Nat → Int32 := fun p => if a ≤ p ∧ p < a + k then f (p - a) else g p
theorem cpT_0 (f g : Nat → Int32) (a : Nat) : cpT f g a 0 = g := by
  funext p
  unfold cpT
  rw [if_neg (by omega)]
theorem cpT_s (f g : Nat → Int32) (a k : Nat) : upd (cpT f g a k) (a + k) (f k) = cpT f g a (k + 1) := by
  funext p
  simp only [upd, cpT]
  by_cases hp : p = a + k
  · subst hp
    rw [if_pos rfl, if_pos (by omega), show a + k - a = k by omega]
  · rw [if_neg hp]
    by_cases h2 : a ≤ p ∧ p < a + k
    · rw [if_pos h2, if_pos (by omega)]
    · rw [if_neg h2, if_neg (by omega)]
theorem cMd_x {I I9 : I2} (h2 : ∀ o, 42 ≤ o → o ≤ 45 → I9 o = I o) (hf : ∀ k, k = 4 ∨ k = 7 ∨ k = 8 ∨ k = 12 ∨ k = 14 → I9 38 k = I 38 k) : cMd I9 = cMd I := by
  funext g j
  simp only [cMd, hf 7 (by omega), hf 8 (by omega), hf 4 (by omega), hf 12 (by omega), hf 14 (by omega), h2 42 (by omega) (by omega), h2 43 (by omega) (by omega), h2 44 (by omega) (by omega), h2 45 (by omega) (by omega)]
theorem Cr.add {tc : Nat} {C : CC} (h : Cr tc C) (ht : tc < 6) : Cr (tc + 1) C := by
  obtain ⟨r0, r1, r2, r3, r4, r5, r6⟩ := h
  exact ⟨r0, r1, ⟨r2.1, Int32.lt_trans r2.2 ((i32_lt (by omega) (by omega)).mpr (by omega))⟩, r3, r4, r5, r6⟩
/-- all but the texts, what the model works with and the number of bytes fed -/
def Mt (I I9 : I2) : Prop := (∀ o, o < 38 ∨ o = 41 ∨ 51 ≤ o → I9 o = I o) ∧ ∀ k, 46 ≤ k ∧ k ≤ 50 → I9 38 k = I 38 k
def TxM7 (tc n : Nat) (I : I2) (T : TV) (C : CC) (r : Int32) (I9 : I2) (J9 : J2) : Prop := Mt I I9 ∧ ((tc = 6 ∧ r = -4 ∧ I9 38 6 = I 38 6 ∧ MC tc I9 J9 T C) ∨ (tc < 6 ∧ I9 38 6 = 0 ∧ ((pOkT (I 41) n ∧ r = i32 tc ∧ MC (tc + 1) I9 J9 (tAdd T tc (I 41) n) C) ∨ (¬ pOkT (I 41) n ∧ r = -100 - i32 (pRd (I 41) n 3).2.1.2.1 ∧ MC tc I9 J9 T C))))

theorem c_text7 {tc : Nat} {I : I2} {J : J2} {T : TV} {C : CC} (hM : MC tc I J T C) {n9 : Nat} (e6 : I 38 6 = i32 n9) (hn : n9 ≤ 160) (hby : ∀ i, i < n9 → 0 ≤ I 41 i ∧ I 41 i ≤ 255) : CT mX7_text 43 58 58 [.ref 38] I J RF (RP RF (TxM7 tc n9 I T C)) := by
  have e3 : I 38 3 = i32 tc := hM.2.2.1
  have htc : tc ≤ 6 := hM.2.2.2.2.1
  have k49 : tc < 6 → V mX7_text none 43 58 (RP RF (TxM7 tc n9 I T C)) 49 [(0, .ref 38), (1, .int (i32 n9))] [] 58 (row2 I 39 (cpT (I 41) (I 39) (160 * tc) n9)) J RF := by
    intro ht6
    refine V_go 6 rfl ?_
    try simp only [up2_rd, row2_rd, reduceIte, Nat.reduceEqDiff]
    refine V_iast rfl rfl (Nat.le_of_ble_eq_true rfl) ((by rw [e3]; exact inb_i32 (by omega) (by decide))) ?_
    refine V_go 3 rfl ?_
    try simp only [up2_rd, row2_rd, reduceIte, Nat.reduceEqDiff]
    rw [e3, e6, tn_of (by omega)]
    have hx : ∀ o, o ≠ 38 → o ≠ 39 → o ≠ 40 → (up2 (up2 (row2 I 39 (cpT (I 41) (I 39) (160 * tc) n9)) 40 tc (i32 n9)) 38 6 0) o = I o := fun o h1 h2 h3 => by
      rw [up2_ne h1, up2_ne h3]
      funext j
      simp only [row2_rd]
      rw [if_neg h2]
    have hx39 : ∀ j, j < 160 * tc → (up2 (up2 (row2 I 39 (cpT (I 41) (I 39) (160 * tc) n9)) 40 tc (i32 n9)) 38 6 0) 39 j = I 39 j := fun j hj => by
      simp only [up2_rd, row2_rd, reduceIte, Nat.reduceEqDiff]
      unfold cpT
      rw [if_neg (by omega)]
    have hx40 : ∀ j, j < tc → (up2 (up2 (row2 I 39 (cpT (I 41) (I 39) (160 * tc) n9)) 40 tc (i32 n9)) 38 6 0) 40 j = I 40 j := fun j hj => by
      simp only [up2_rd, row2_rd, reduceIte, Nat.reduceEqDiff]
      rw [if_neg (by omega)]
    have hx38 : ∀ k, k ≠ 6 → (up2 (up2 (row2 I 39 (cpT (I 41) (I 39) (160 * tc) n9)) 40 tc (i32 n9)) 38 6 0) 38 k = I 38 k := fun k hk => by
      simp only [up2_rd, row2_rd, reduceIte, Nat.reduceEqDiff]
      rw [if_neg hk]
    have hx6 : (up2 (up2 (row2 I 39 (cpT (I 41) (I 39) (160 * tc) n9)) 40 tc (i32 n9)) 38 6 0) 38 6 = 0 := rfl
    have hsz : (up2 (up2 (row2 I 39 (cpT (I 41) (I 39) (160 * tc) n9)) 40 tc (i32 n9)) 38 6 0) 40 tc = i32 n9 := by simp only [up2_rd, row2_rd, reduceIte, Nat.reduceEqDiff]
    have hb2 : ∀ i, i < n9 → (up2 (up2 (row2 I 39 (cpT (I 41) (I 39) (160 * tc) n9)) 40 tc (i32 n9)) 38 6 0) 39 (160 * tc + i) = I 41 i := fun i hi => by
      simp only [up2_rd, row2_rd, reduceIte, Nat.reduceEqDiff]
      unfold cpT
      rw [if_pos (by omega), show 160 * tc + i - 160 * tc = i by omega]
    generalize (up2 (up2 (row2 I 39 (cpT (I 41) (I 39) (160 * tc) n9)) 40 tc (i32 n9)) 38 6 0) = I2x at *
    have hby2 : ∀ i, i < n9 → 0 ≤ (fun i => I2x 39 (160 * tc + i)) i ∧ (fun i => I2x 39 (160 * tc + i)) i ≤ 255 := fun i hi => by
      show 0 ≤ I2x 39 (160 * tc + i) ∧ I2x 39 (160 * tc + i) ≤ 255
      rw [hb2 i hi]
      exact hby i hi
    refine V_go 4 rfl ?_
    try simp only [up2_rd, row2_rd, reduceIte, Nat.reduceEqDiff]
    rw [hx38 3 (by omega), e3]
    refine cVP (mt' := mX7_read) rfl kX7_261 fX7_read rfl rfl rfl (Nat.le_of_ble_eq_true rfl) (Nat.le_of_ble_eq_true rfl) (Nat.le_of_ble_eq_true rfl) (Nat.le_of_ble_eq_true rfl) (Nat.le_refl _) (c_read (t := tc) (n := n9) (w := 0) (b := fun i => I2x 39 (160 * tc + i)) ht6 hn (by omega) hsz (fun _ => rfl) hby2) ?_
    intro r51 Ir51 Jr51 h51
    obtain ⟨hfr, hok, hbad⟩ := h51
    have r39 : Ir51 39 = I2x 39 := (hfr.1 39 (by omega)).1
    have r40 : Ir51 40 = I2x 40 := (hfr.1 40 (by omega)).1
    have r47 : Ir51 47 = I 47 := (hfr.1 47 (by omega)).1.trans (hx 47 (by omega) (by omega) (by omega))
    have rj : Jr51 46 = J 46 := (hfr.1 46 (by omega)).2
    have hlo1 : ∀ j, j < 160 * tc → Ir51 39 j = I 39 j := fun j hj => by rw [r39]; exact hx39 j hj
    have hlo2 : ∀ j, j < tc → Ir51 40 j = I 40 j := fun j hj => by rw [r40]; exact hx40 j hj
    have r3 : Ir51 38 3 = i32 tc := (hfr.2 3 (by omega)).trans ((hx38 3 (by omega)).trans e3)
    have rf : ∀ k, k < 21 ∨ 29 < k → k ≠ 6 → Ir51 38 k = I 38 k := fun k hk h6 => (hfr.2 k hk).trans (hx38 k h6)
    have ro : ∀ o, o ≠ 38 → o ≠ 39 → o ≠ 40 → Ir51 o = I o := fun o h1 h2 h3 => (hfr.1 o h1).1.trans (hx o h1 h2 h3)
    have r6 : Ir51 38 6 = 0 := (hfr.2 6 (by omega)).trans hx6
    have rb : ∀ i, i < n9 → Ir51 39 (160 * tc + i) = I 41 i := fun i hi => by rw [r39]; exact hb2 i hi
    have rs : Ir51 40 tc = i32 n9 := by rw [r40]; exact hsz
    refine V_go 1 rfl ?_
    try simp only [up2_rd, row2_rd, reduceIte, Nat.reduceEqDiff]
    have hbc : ∀ i, i < n9 → (fun i => I2x 39 (160 * tc + i)) i = I 41 i := hb2
    refine V_go 2 rfl ?_
    try simp only [up2_rd, row2_rd, reduceIte, Nat.reduceEqDiff]
    refine V_if_eq rfl (fun h71 => ?_) (fun h71 => ?_)
    · skip
      have hyes : pOkT (I 41) n9 := Classical.byContradiction (fun z => absurd ((hbad (fun y => z ((pOkT_c hbc).mp y))).1.symm.trans h71) (by decide))
      refine V_go 10 rfl ?_
      try simp only [up2_rd, row2_rd, reduceIte, Nat.reduceEqDiff]
      refine V_iret rfl rfl rfl ?_
      refine RP.mk ⟨⟨fun o ho => by rw [up2_ne (by omega)]; exact ro o (by omega) (by omega) (by omega), fun k hk => by
        simp only [up2_rd, reduceIte]
        rw [if_neg (by omega)]
        exact rf k (by omega) (by omega)⟩, Or.inr ⟨ht6, by simp only [up2_rd, reduceIte, Nat.reduceEqDiff]; exact r6, Or.inl ⟨hyes, ?_, ?_⟩⟩⟩
      · rw [r3]; exact Int32.add_sub_cancel _ _
      · refine ⟨?_, hM.2.1.add ht6, hM.2.2.add ht6 ?_ (fun j hj => by rw [up2_ne (by omega)]; exact hlo1 j hj) (fun j hj => by rw [up2_ne (by omega)]; exact hlo2 j hj) (by rw [up2_ne (by omega)]; exact r47) rj hn (by rw [up2_ne (by omega)]; exact rs) (fun i hi => by rw [up2_ne (by omega)]; exact rb i hi) hby hyes⟩
        · rw [cMd_x (I := I) (fun o h1 h2 => by rw [up2_ne (by omega)]; exact ro o (by omega) (by omega) (by omega)) (fun k hk => by
            simp only [up2_rd, reduceIte]
            rw [if_neg (by omega)]
            exact rf k (by omega) (by omega))]
          exact hM.1
        · simp only [up2_rd, reduceIte]
          rw [r3, i32_s]
    · skip
      have hno : ¬ pOkT (I 41) n9 := fun z => h71 (hok ((pOkT_c hbc).mpr z)).1
      have h29 := (hbad (fun z => hno ((pOkT_c hbc).mp z))).2
      refine V_go 4 rfl ?_
      try simp only [up2_rd, row2_rd, reduceIte, Nat.reduceEqDiff]
      refine V_iret rfl rfl rfl ?_
      refine RP.mk ⟨⟨fun o ho => ro o (by omega) (by omega) (by omega), fun k hk => rf k (by omega) (by omega)⟩, Or.inr ⟨ht6, r6, Or.inr ⟨hno, ?_, ?_⟩⟩⟩
      · rw [h29, pRd_c hbc]
      · refine ⟨?_, hM.2.1, hM.2.2.low (r3.trans e3.symm) hlo1 hlo2 r47 rj⟩
        rw [cMd_x (fun o h1 h2 => ro o (by omega) (by omega) (by omega)) (fun k hk => rf k (by omega) (by omega))]
        exact hM.1
  refine CT_of okX7_text (Nat.le_of_ble_eq_true rfl) ?_
  show V _ _ _ _ _ _ [(0, _)] _ _ _ _ _
  refine V_go 3 rfl ?_
  refine V_icmp_ne rfl (fun h1 => ?_) (fun h1 => ?_)
  · skip
    have ht6 : tc < 6 := Classical.byContradiction (fun z => h1 (e3.trans (by rw [show tc = 6 by omega]; rfl)))
    have k49 := k49 ht6
    have key : ∀ n, Hid (∀ (i : Nat), i + n = n9 → True → V mX7_text none 43 58 (RP RF (TxM7 tc n9 I T C)) 14 [(0, .ref 38), (1, .int (i32 (i)))] [] 58 (row2 I 39 (cpT (I 41) (I 39) (160 * tc) i)) J RF) := by
      intro n
      induction n with
      | zero =>
        unfold Hid
        intro i  hi _
        rw [Nat.add_zero] at hi
        refine V_go 3 rfl ?_
        try simp only [up2_rd, row2_rd, reduceIte, Nat.reduceEqDiff]
        refine V_icmp_ge rfl (fun h1 => ?_) (fun h1 => ?_)
        · skip
          obtain rfl : n9 = i := hi.symm
          exact k49
        · skip
          exact absurd (by rw [hi, e6]; exact Int32.le_refl _) h1
      | succ n ih =>
        unfold Hid
        intro i  hi _
        have e160 : 160 * i32 tc + i32 i = i32 (160 * tc + i) := by rw [i32_add]; congr 1; exact (Int32.ofNat_mul 160 tc).symm
        have qo : inb (i32 (160 * tc + i)) 960 := inb_i32 (by omega) (by decide)
        have qi : inb (i32 i) 160 := inb_i32 (by omega) (by decide)
        have eo : (i32 (160 * tc + i)).toNatClampNeg = 160 * tc + i := tn_of (by omega)
        have ei : (i32 i).toNatClampNeg = i := tn_of (by omega)
        refine V_go 3 rfl ?_
        try simp only [up2_rd, row2_rd, reduceIte, Nat.reduceEqDiff]
        refine V_icmp_ge rfl (fun h1 => ?_) (fun h1 => ?_)
        · skip
          exfalso
          rw [e6] at h1
          exact lp_more (by omega) (by omega) h1
        · skip
          refine V_go 8 rfl ?_
          try simp only [up2_rd, row2_rd, reduceIte, Nat.reduceEqDiff]
          rw [e3, e160]
          refine V_go 3 rfl ?_
          try simp only [up2_rd, row2_rd, reduceIte, Nat.reduceEqDiff]
          refine V_iald rfl rfl (Nat.le_of_ble_eq_true rfl) (qi) ?_
          try simp only [up2_rd, row2_rd, reduceIte, Nat.reduceEqDiff]
          refine V_iast rfl rfl (Nat.le_of_ble_eq_true rfl) (qo) ?_
          refine V_go 2 rfl ?_
          try simp only [up2_rd, row2_rd, reduceIte, Nat.reduceEqDiff]
          refine V.st (L' := [(0, .ref 38), (1, .int (i32 (i + 1)))]) (ih.un (i + 1) (by omega) trivial) ?_ ?_
          · rw [eo, ei, up2_row2, cpT_s]
          · rw [i32_s]; simp
    refine V_go 2 rfl ?_
    have e := (key n9).un 0 (Nat.zero_add _) trivial
    rw [cpT_0, row2_self] at e
    exact e
  · skip
    have ht : tc = 6 := (i32_inj (by omega) (by omega)).mp (e3.symm.trans h1)
    refine V_go 1 rfl ?_
    refine V_iret rfl rfl rfl ?_
    exact RP.mk ⟨⟨fun _ _ => rfl, fun _ _ => rfl⟩, Or.inl ⟨ht, rfl, rfl, hM⟩⟩
