abbrev ItI (a b d : Int32) : Prop := (1 ≤ a ∧ a ≤ 999) ∧ (0 ≤ b ∧ b ≤ a) ∧ (d = -1 ↔ b < a)
theorem sub_i {a b : Int32} (h1 : -100000 ≤ a.toInt) (h2 : a.toInt ≤ 100000) (h3 : -100000 ≤ b.toInt) (h4 : b.toInt ≤ 100000) : (a - b).toInt = a.toInt - b.toInt := by rw [Int32.toInt_sub, Int.bmod_eq_of_le (by omega) (by omega)]
theorem add_i {a b : Int32} (h1 : -100000 ≤ a.toInt) (h2 : a.toInt ≤ 100000) (h3 : -100000 ≤ b.toInt) (h4 : b.toInt ≤ 100000) : (a + b).toInt = a.toInt + b.toInt := by rw [Int32.toInt_add, Int.bmod_eq_of_le (by omega) (by omega)]
theorem go_1 {a b l : Int32} (h : (1 ≤ a ∧ a ≤ 999) ∧ (0 ≤ b ∧ b ≤ a)) (hl : 0 ≤ l ∧ l ≤ 600) : (a ≤ b + (if a - b < l then a - b else l) ↔ (if a - b < l then a - b else l) = a - b) ∧ (0 ≤ b + (if a - b < l then a - b else l) ∧ b + (if a - b < l then a - b else l) ≤ a) ∧ (0 ≤ l - (if a - b < l then a - b else l) ∧ l - (if a - b < l then a - b else l) ≤ 600) := by
  obtain ⟨⟨h1, h2⟩, h3, h4⟩ := h
  obtain ⟨h5, h6⟩ := hl
  have i1 := Int32.le_iff_toInt_le.mp h1
  have i2 := Int32.le_iff_toInt_le.mp h2
  have i3 := Int32.le_iff_toInt_le.mp h3
  have i4 := Int32.le_iff_toInt_le.mp h4
  have i5 := Int32.le_iff_toInt_le.mp h5
  have i6 := Int32.le_iff_toInt_le.mp h6
  have z0 : (0 : Int32).toInt = 0 := rfl
  have z1 : (1 : Int32).toInt = 1 := rfl
  have z9 : (999 : Int32).toInt = 999 := rfl
  have z6 : (600 : Int32).toInt = 600 := rfl
  have e1 : (a - b).toInt = a.toInt - b.toInt := sub_i (by omega) (by omega) (by omega) (by omega)
  have e2 : (b + (a - b)).toInt = b.toInt + (a.toInt - b.toInt) := by rw [add_i (by omega) (by omega) (by omega) (by omega), e1]
  have e3 : (l - (a - b)).toInt = l.toInt - (a.toInt - b.toInt) := by rw [sub_i (by omega) (by omega) (by omega) (by omega), e1]
  have e4 : (b + l).toInt = b.toInt + l.toInt := add_i (by omega) (by omega) (by omega) (by omega)
  have e5 : (l - l).toInt = l.toInt - l.toInt := sub_i (by omega) (by omega) (by omega) (by omega)
  by_cases h7 : a - b < l
  · rw [if_pos h7]
    have i7 := Int32.lt_iff_toInt_lt.mp h7
    simp only [Int32.le_iff_toInt_le, e2, e3, z0, z6]
    exact ⟨⟨fun _ => trivial, fun _ => by omega⟩, by omega, by omega⟩
  · rw [if_neg h7]
    have i7 : ¬ (a - b).toInt < l.toInt := fun z => h7 (Int32.lt_iff_toInt_lt.mpr z)
    simp only [Int32.le_iff_toInt_le, ← Int32.toInt_inj, e1, e4, e5, z0, z6]
    omega
theorem go_2 {a b s : Int32} (h1 : (1 ≤ a ∧ a ≤ 999)) (h2 : 0 ≤ b ∧ b ≤ a) (h3 : a ≤ b) (hs : 0 ≤ s) : ItI a b s := ⟨h1, h2, by grind⟩
theorem go_3 {a b : Int32} (h1 : (1 ≤ a ∧ a ≤ 999)) (h2 : 0 ≤ b ∧ b ≤ a) (h3 : ¬ a ≤ b) : ItI a b (-1) := ⟨h1, h2, by grind⟩
/-- items not reached yet are as they were; others stand well -/
theorem hN_unt {C : CC} {l : Int32} : ∀ (i g j : Nat), (i ≤ j ∨ g < 5 ∨ 6 < g) → (sHoldN C l i).1 g j = C g j
  | 0, _, _, _ => rfl
  | i + 1, g, j, h => by
    have e := hN_unt (C := C) (l := l) i g j (by omega)
    rw [sHoldN]
    show (sGoOn _ i _).1 g j = _
    generalize hD : (sHoldN C l i).1 = D at *
    generalize (sHoldN C l i).2 = l1 at *
    by_cases h1 : D 6 i = -1
    · by_cases h2 : D 4 i ≤ D 5 i + sMi D i l1
      · rw [sGoOn_a h1 h2]
        simp only [up2_rd]
        split
        · rw [if_neg (by omega)]
          split
          · omega
          · exact e
        · split
          · rw [if_neg (by omega)]; exact e
          · exact e
      · rw [sGoOn_b h1 h2]
        simp only [up2_rd]
        split
        · rw [if_neg (by omega)]; exact e
        · exact e
    · rw [sGoOn_c h1]; exact e
theorem hN_ok {C : CC} {l : Int32} (hl : 0 ≤ l ∧ l ≤ 600) (hs : 0 ≤ C 0 0) : ∀ i, (∀ j, j < i → ItI (C 4 j) (C 5 j) (C 6 j)) → (0 ≤ (sHoldN C l i).2 ∧ (sHoldN C l i).2 ≤ 600) ∧ ∀ j, j < i → ItI ((sHoldN C l i).1 4 j) ((sHoldN C l i).1 5 j) ((sHoldN C l i).1 6 j)
  | 0, _ => ⟨hl, fun j hj => absurd hj (Nat.not_lt_zero _)⟩
  | i + 1, h => by
    obtain ⟨a1, a2⟩ := hN_ok hl hs i (fun j hj => h j (by omega))
    have hit := h i (by omega)
    rw [← hN_unt (C := C) (l := l) i 4 i (Or.inl (Nat.le_refl _)), ← hN_unt (C := C) (l := l) i 5 i (Or.inl (Nat.le_refl _)), ← hN_unt (C := C) (l := l) i 6 i (Or.inl (Nat.le_refl _))] at hit
    have hs' : 0 ≤ (sHoldN C l i).1 0 0 := by rw [hN_unt i 0 0 (by omega)]; exact hs
    rw [sHoldN]
    dsimp only
    generalize (sHoldN C l i).1 = D at *
    generalize (sHoldN C l i).2 = l1 at *
    by_cases h1 : D 6 i = -1
    · obtain ⟨g1, g2, g3⟩ := go_1 ⟨hit.1, hit.2.1⟩ a1
      by_cases h2 : D 4 i ≤ D 5 i + sMi D i l1
      · rw [sGoOn_a h1 h2]
        refine ⟨g3, fun j hj => ?_⟩
        by_cases hji : j = i
        · rw [hji]
          simp only [up2_rd, reduceIte, Nat.reduceEqDiff]
          exact go_2 hit.1 g2 h2 hs'
        · simp only [up2_rd, reduceIte, Nat.reduceEqDiff, if_neg hji]
          exact a2 j (by omega)
      · rw [sGoOn_b h1 h2]
        refine ⟨g3, fun j hj => ?_⟩
        by_cases hji : j = i
        · rw [hji]
          simp only [up2_rd, reduceIte, Nat.reduceEqDiff]
          rw [h1]
          exact go_3 hit.1 g2 h2
        · simp only [up2_rd, reduceIte, Nat.reduceEqDiff, if_neg hji]
          exact a2 j (by omega)
    · rw [sGoOn_c h1]
      refine ⟨by rw [Int32.sub_zero]; exact a1, fun j hj => ?_⟩
      by_cases hji : j = i
      · rw [hji]; exact hit
      · exact a2 j (by omega)
theorem cntD_congr {C C' : CC} : ∀ i, (∀ j, j < i → C 6 j = C' 6 j) → sCntD C i = sCntD C' i
  | 0, _ => rfl
  | i + 1, h => by
    rw [sCntD, sCntD, cntD_congr i (fun j hj => h j (by omega)), h i (by omega)]
theorem cMd_45 {I : I2} {i r : Nat} {v : Int32} (hr : r < 3) : cMd (up2 I 45 (3 * i + r) v) = up2 (cMd I) (4 + r) i v := by
  funext g j
  have a (o k : Nat) (ho : o ≠ 45) : up2 I 45 (3 * i + r) v o k = I o k := by rw [up2_ne ho]
  match g with
  | 0 => simp only [cMd, a _ _ (by omega : (38 : Nat) ≠ 45), up2_rd]; rw [if_neg (by omega)]
  | 1 => simp only [cMd, a _ _ (by omega : (42 : Nat) ≠ 45), up2_rd]; rw [if_neg (by omega)]
  | 2 => simp only [cMd, a _ _ (by omega : (43 : Nat) ≠ 45), up2_rd]; rw [if_neg (by omega)]
  | 3 => simp only [cMd, a _ _ (by omega : (44 : Nat) ≠ 45), up2_rd]; rw [if_neg (by omega)]
  | 4 =>
    simp only [cMd, up2_rd, reduceIte]
    by_cases h : r = 0
    · subst h
      by_cases hj : j = i
      · rw [if_pos (by omega), if_pos (by omega), if_pos hj]
      · rw [if_neg (by omega), if_pos (by omega), if_neg hj]
    · rw [if_neg (by omega), if_neg (by omega)]
  | 5 =>
    simp only [cMd, up2_rd, reduceIte]
    by_cases h : r = 1
    · subst h
      by_cases hj : j = i
      · rw [if_pos (by omega), if_pos (by omega), if_pos hj]
      · rw [if_neg (by omega), if_pos (by omega), if_neg hj]
    · rw [if_neg (by omega), if_neg (by omega)]
  | 6 =>
    simp only [cMd, up2_rd, reduceIte]
    by_cases h : r = 2
    · subst h
      by_cases hj : j = i
      · rw [if_pos (by omega), if_pos (by omega), if_pos hj]
      · rw [if_neg (by omega), if_pos (by omega), if_neg hj]
    · rw [if_neg (by omega), if_neg (by omega)]
  | g + 7 =>
    simp only [cMd, up2_rd]
    rw [if_neg (by omega)]
theorem cMd_7 {I : I2} {v : Int32} : cMd (up2 I 38 7 v) = up2 (cMd I) 0 0 v := by
  funext g j
  match g with
  | 0 =>
    match j with
    | 0 => rfl
    | 1 => rfl
    | 2 => rfl
    | 3 => rfl
    | 4 => rfl
    | j + 5 => rfl
  | 1 => rfl
  | 2 => rfl
  | 3 => rfl
  | 4 => rfl
  | 5 => rfl
  | 6 => rfl
  | g + 7 => rfl
theorem cMd_f {I : I2} {k : Nat} {v : Int32} (hk : 15 ≤ k) : cMd (up2 I 38 k v) = cMd I := by
  have a (j : Nat) (hj : j < 15) : up2 I 38 k v 38 j = I 38 j := by
    simp only [up2_rd, reduceIte]
    rw [if_neg (by omega)]
  have b (o : Nat) (ho : o ≠ 38) : up2 I 38 k v o = I o := up2_ne ho
  funext g j
  simp only [cMd, a 7 (by omega), a 8 (by omega), a 4 (by omega), a 12 (by omega), a 14 (by omega), b 42 (by omega), b 43 (by omega), b 44 (by omega), b 45 (by omega)]
/-- all but these rows and cells, and what it works with -/
def Sf (os ks : List Nat) (I I9 : I2) : Prop := (∀ o, o ≠ 38 → o ≠ 47 → o ∉ os → I9 o = I o) ∧ ∀ k, k < 15 ∨ 29 < k → k ∉ ks → I9 38 k = I 38 k
theorem Sf.rf {os ks : List Nat} {I : I2} : Sf os ks I I := ⟨fun _ _ _ _ => rfl, fun _ _ _ => rfl⟩
theorem Sf.tr {os ks : List Nat} {I I1 I9 : I2} (h : Sf os ks I I1) (h' : Sf os ks I1 I9) : Sf os ks I I9 := ⟨fun o a b c => (h'.1 o a b c).trans (h.1 o a b c), fun k hk c => (h'.2 k hk c).trans (h.2 k hk c)⟩
theorem Sm.sf {os ks : List Nat} {I I9 : I2} (h : Sm I I9) : Sf os ks I I9 := ⟨fun o a b _ => h.1 o a b, fun k hk _ => h.2 k hk⟩
theorem Sf.row {os ks : List Nat} {I : I2} {o k : Nat} {v : Int32} (h : o ∈ os) (h2 : o ≠ 38) : Sf os ks I (up2 I o k v) := ⟨fun a _ _ c => up2_ne (fun z => c (z ▸ h)), fun j _ _ => by rw [up2_ne (Ne.symm h2)]⟩
theorem Sf.fld {os ks : List Nat} {I : I2} {k : Nat} {v : Int32} (h : k ∈ ks ∨ 15 ≤ k ∧ k ≤ 29) : Sf os ks I (up2 I 38 k v) := ⟨fun a a1 _ _ => up2_ne a1, fun j hj c => by
  simp only [up2_rd, reduceIte]
  rw [if_neg]
  intro z
  rcases h with h | h
  · exact c (z ▸ h)
  · omega⟩
theorem ix32 : ∀ i, i < 6 → 3 * i32 i + 2 = i32 (3 * i + 2) := by decide +kernel
theorem ix31 : ∀ i, i < 6 → 3 * i32 i + 1 = i32 (3 * i + 1) := by decide +kernel
theorem ix30 : ∀ i, i < 6 → 3 * i32 i = i32 (3 * i) := by decide +kernel
theorem s00 {x : Int32} (h0 : 0 ≤ x) (h1 : x ≤ 1090) : 0 ≤ x + 1 ∧ x + 1 ≤ 1100 := by grind
/-- what a sitting leaves stands well -/
theorem Cr.hold {tc : Nat} {T : TV} {C : CC} (h : Cr tc C) (hl : 0 ≤ sLeft T C ∧ sLeft T C ≤ 600) (hs : C 0 0 ≤ 1090) : Cr tc (sHold T C).1 := by
  obtain ⟨r0, r1, r2, r3, r4, r5, r6⟩ := h
  have e0 (j : Nat) (hj : j ≠ 0) : (sHold T C).1 0 j = C 0 j := sHold_0 T C j hj
  have eg (g j : Nat) (h1 : 1 ≤ g) (h2 : g < 5) : (sHold T C).1 g j = C g j := by
    unfold sHold
    simp only [up2_rd]
    rw [if_neg (by omega)]
    exact hN_unt _ g j (by omega)
  have e6 (g j : Nat) (h1 : 1 ≤ g) : (sHold T C).1 g j = (sHoldN C (sLeft T C) (mC C)).1 g j := by
    unfold sHold
    simp only [up2_rd]
    rw [if_neg (by omega)]
  obtain ⟨-, k2⟩ := hN_ok hl r0.1 (mC C) r6
  refine ⟨?_, by rw [e0 1 (by omega)]; exact r1, by rw [e0 2 (by omega)]; exact r2, by rw [e0 3 (by omega)]; exact r3, by rw [e0 4 (by omega)]; exact r4, fun c hc => ?_, fun i hi => ?_⟩
  · rw [show (sHold T C).1 0 0 = C 0 0 + 1 from rfl]
    exact s00 r0.1 hs
  · rw [sHold_nC] at hc
    rw [eg 1 c (by omega) (by omega), eg 2 c (by omega) (by omega), eg 3 c (by omega) (by omega)]
    exact r5 c hc
  · rw [sHold_mC] at hi
    rw [e6 4 i (by omega), e6 5 i (by omega), e6 6 i (by omega)]
    exact k2 i hi

