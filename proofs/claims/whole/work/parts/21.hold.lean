/-- council o may have changed, and the evaluator's stack; nothing else -/
def Fr (o : Nat) (I I1 : I2) : Prop := ∀ a, a ≠ 4 → (a < o ∨ o + 8 ≤ a) → I1 a = I a
theorem Fr.rf {o : Nat} {I : I2} : Fr o I I := fun _ _ _ => rfl
theorem Fr.tr {o : Nat} {I I1 I2' : I2} (h1 : Fr o I I1) (h2 : Fr o I1 I2') : Fr o I I2' := fun a h3 h4 => (h2 a h3 h4).trans (h1 a h3 h4)
theorem Sq.fr {o : Nat} {I I1 : I2} (h : Sq o I I1) : Fr o I I1 := fun a h1 h2 => h a h1 (by omega)
theorem Fr.up {o a k : Nat} {I : I2} {v : Int32} (h : o ≤ a ∧ a < o + 8) : Fr o I (up2 I a k v) := fun b h1 h2 => up2_ne (by omega)
theorem Cok.fr {I I1 : I2} {o : Nat} {T : TV} (h : Cok I o T) (q : Fr o I I1) (e : cOf I1 o 0 = cOf I o 0) : Cok I1 o T := by
  obtain ⟨ho, ⟨h1, h2, h3⟩, h4⟩ := h
  have e1 : I1 1 = I 1 := q 1 (by omega) (by rcases ho with rfl | rfl | rfl <;> omega)
  have e2 : I1 2 = I 2 := q 2 (by omega) (by rcases ho with rfl | rfl | rfl <;> omega)
  have e3 : I1 3 = I 3 := q 3 (by omega) (by rcases ho with rfl | rfl | rfl <;> omega)
  have f2 : I1 o 4 = I o 4 := congrFun e 2
  have f3 : I1 o 5 = I o 5 := congrFun e 3
  have f4 : I1 o 9 = I o 9 := congrFun e 4
  refine ⟨ho, ⟨?_, ?_, ?_⟩, ?_⟩
  · rw [e1]; exact h1
  · rw [e1]; exact h2
  · rw [e1, e2, e3]; exact h3
  · rw [f2, f3, f4, e1]; exact h4
theorem cOf_row {I : I2} {o a g i : Nat} {v : Int32} (ha : a = o + g + 1) (hg : 1 ≤ g ∧ g ≤ 6) : cOf (up2 I a i v) o = up2 (cOf I o) g i v := by
  have : g = 1 ∨ g = 2 ∨ g = 3 ∨ g = 4 ∨ g = 5 ∨ g = 6 := by omega
  funext x y
  have n0 : o ≠ a := by omega
  rcases this with rfl | rfl | rfl | rfl | rfl | rfl <;> subst ha <;>
    (match x with
     | 0 => simp [cOf, up2, n0]
     | 1 => simp [cOf, up2]
     | 2 => simp [cOf, up2]
     | 3 => simp [cOf, up2]
     | 4 => simp [cOf, up2]
     | 5 => simp [cOf, up2]
     | 6 => simp [cOf, up2]
     | x + 7 => simp [cOf, up2])
def fldJ (f : Nat) : Nat := if f = 2 then 0 else if f = 3 then 1 else if f = 4 then 2 else if f = 5 then 3 else 4
theorem cOf_fld {I : I2} {o f : Nat} {v : Int32} (hf : f = 2 ∨ f = 3 ∨ f = 4 ∨ f = 5 ∨ f = 9) : cOf (up2 I o f v) o = up2 (cOf I o) 0 (fldJ f) v := by
  funext x y
  rcases hf with rfl | rfl | rfl | rfl | rfl <;>
    (match x with
     | 0 => (match y with
       | 0 => simp [cOf, up2, fldJ]
       | 1 => simp [cOf, up2, fldJ]
       | 2 => simp [cOf, up2, fldJ]
       | 3 => simp [cOf, up2, fldJ]
       | 4 => simp [cOf, up2, fldJ]
       | y + 5 => simp [cOf, up2, fldJ])
     | 1 => simp [cOf, up2]
     | 2 => simp [cOf, up2]
     | 3 => simp [cOf, up2]
     | 4 => simp [cOf, up2]
     | 5 => simp [cOf, up2]
     | 6 => simp [cOf, up2]
     | x + 7 => simp [cOf, up2])
def sMi (C : CC) (i : Nat) (left : Int32) : Int32 := if C 4 i - C 5 i < left then C 4 i - C 5 i else left
def sGoOn (C : CC) (i : Nat) (left : Int32) : CC × Int32 :=
  if C 6 i = -1 then
    (if C 4 i ≤ C 5 i + sMi C i left then (up2 (up2 C 5 i (C 5 i + sMi C i left)) 6 i (C 0 0), sMi C i left)
    else (up2 C 5 i (C 5 i + sMi C i left), sMi C i left))
  else (C, 0)
def sHoldN (C : CC) (l0 : Int32) : Nat → CC × Int32
  | 0 => (C, l0)
  | i + 1 => ((sGoOn (sHoldN C l0 i).1 i (sHoldN C l0 i).2).1, (sHoldN C l0 i).2 - (sGoOn (sHoldN C l0 i).1 i (sHoldN C l0 i).2).2)
/-- a sitting: the council behind it, the minutes left over -/
def sHold (T : TV) (C : CC) : CC × Int32 := (up2 (sHoldN C (sLeft T C) (mC C)).1 0 0 (C 0 0 + 1), (sHoldN C (sLeft T C) (mC C)).2)
def sDW (T : TV) (it : Nat) : Nat → CC → CC
  | 0, C => C
  | k + 1, C => if C 6 it = -1 then sDW T it k (sHold T C).1 else C
def sCntD (C : CC) : Nat → Int32
  | 0 => 0
  | i + 1 => sCntD C i + (if C 6 i = -1 then 0 else 1)
theorem sGoOn_a {C : CC} {i : Nat} {l : Int32} (h : C 6 i = -1) (h2 : C 4 i ≤ C 5 i + sMi C i l) : sGoOn C i l = (up2 (up2 C 5 i (C 5 i + sMi C i l)) 6 i (C 0 0), sMi C i l) := by
  unfold sGoOn
  rw [if_pos h, if_pos h2]
theorem sGoOn_b {C : CC} {i : Nat} {l : Int32} (h : C 6 i = -1) (h2 : ¬ C 4 i ≤ C 5 i + sMi C i l) : sGoOn C i l = (up2 C 5 i (C 5 i + sMi C i l), sMi C i l) := by
  unfold sGoOn
  rw [if_pos h, if_neg h2]
theorem sGoOn_c {C : CC} {i : Nat} {l : Int32} (h : ¬ C 6 i = -1) : sGoOn C i l = (C, 0) := by
  unfold sGoOn
  rw [if_neg h]
theorem sGoOn_0 (C : CC) (i : Nat) (l : Int32) : (sGoOn C i l).1 0 = C 0 := by
  by_cases h : C 6 i = -1
  · by_cases h2 : C 4 i ≤ C 5 i + sMi C i l
    · rw [sGoOn_a h h2]
      simp only
      rw [up2_ne (by omega), up2_ne (by omega)]
    · rw [sGoOn_b h h2]
      simp only
      rw [up2_ne (by omega)]
  · rw [sGoOn_c h]
theorem sHoldN_0 (C : CC) (l : Int32) : ∀ i, (sHoldN C l i).1 0 = C 0
  | 0 => rfl
  | i + 1 => by rw [sHoldN, sGoOn_0, sHoldN_0 C l i]
theorem mC_i {I : I2} {o : Nat} (h0 : 0 ≤ I o 9) (h8 : I o 9 ≤ 6) : I o 9 = i32 (mC (cOf I o)) ∧ mC (cOf I o) ≤ 6 := by
  have h1 : mC (cOf I o) = (I o 9).toNatClampNeg := rfl
  have h2 := tcn (I o 9) h0
  exact ⟨by rw [h1]; exact (Int32.ofNat_toNatClampNeg _ h0).symm, by rw [h1]; grind⟩
theorem mC_lt {I : I2} {o c : Nat} (h0 : 0 ≤ I o 9) (h8 : I o 9 ≤ 6) (hc : c < mC (cOf I o)) : c < 6 ∧ i32 c < I o 9 ∧ 0 ≤ i32 c ∧ i32 c < 6 ∧ (i32 c).toNatClampNeg = c := by
  obtain ⟨h1, h2⟩ := mC_i h0 h8
  rw [h1]
  exact ⟨by omega, by grind [i32_ti], by grind [i32_ti], by grind [i32_ti], tn_of (by omega)⟩
theorem c_goOnWith_7 {i : Nat} {left : Int32} {I : I2} {J : J2} {T : TV} (hC : Cok I 7 T) (hi : i < mC (cOf I 7)) : CT mX0_goOnWith 2 58 58 [.ref 7, .int (i32 i), .int left] I J RF (RP RF (fun r I1 J1 => r = (sGoOn (cOf I 7) i left).2 ∧ cOf I1 7 = (sGoOn (cOf I 7) i left).1 ∧ J1 = J ∧ Fr 7 I I1)) := by
  have ho := hC.1
  obtain ⟨-, hT, hr0, hr1, hn0, hn8, hi0, hi6⟩ := id hC
  obtain ⟨hc6, hcn, hc0, hcx, hct⟩ := mC_lt hi0 hi6 hi
  refine CT_of okX0_goOnWith (Nat.le_of_ble_eq_true rfl) ?_
  show V _ _ _ _ _ _ [(0, _), (1, _), (2, _)] _ _ _ _ _
  refine V_go 2 rfl ?_
  try simp only [up2_rd, row2_rd, reduceIte, Nat.reduceEqDiff, hct]
  refine cVI (mt' := mX0_hasItem) rfl kX0_65 fX0_hasItem rfl rfl rfl (Nat.le_of_ble_eq_true rfl) (Nat.le_of_ble_eq_true rfl) (Nat.le_of_ble_eq_true rfl) (Nat.le_of_ble_eq_true rfl) (Nat.le_refl _) (c_hasItem ho) ?_
  refine V_if_eq rfl (fun h2 => ?_) (fun h2 => ?_)
  · skip
    exfalso
    grind [b2i]
  · skip
    refine V_go 3 rfl ?_
    try simp only [up2_rd, row2_rd, reduceIte, Nat.reduceEqDiff, hct]
    refine V_iald rfl rfl (Nat.le_of_ble_eq_true rfl) (inb_ofN (by decide) hc0 hcx) ?_
    try simp only [up2_rd, row2_rd, reduceIte, Nat.reduceEqDiff, hct]
    refine V_go 1 rfl ?_
    try simp only [up2_rd, row2_rd, reduceIte, Nat.reduceEqDiff, hct]
    refine V_icmp_eq rfl (fun h3 => ?_) (fun h3 => ?_)
    · skip
      refine V_go 4 rfl ?_
      try simp only [up2_rd, row2_rd, reduceIte, Nat.reduceEqDiff, hct]
      refine V_iald rfl rfl (Nat.le_of_ble_eq_true rfl) (inb_ofN (by decide) hc0 hcx) ?_
      try simp only [up2_rd, row2_rd, reduceIte, Nat.reduceEqDiff, hct]
      refine V_go 3 rfl ?_
      try simp only [up2_rd, row2_rd, reduceIte, Nat.reduceEqDiff, hct]
      refine V_iald rfl rfl (Nat.le_of_ble_eq_true rfl) (inb_ofN (by decide) hc0 hcx) ?_
      try simp only [up2_rd, row2_rd, reduceIte, Nat.reduceEqDiff, hct]
      refine V_go 1 rfl ?_
      try simp only [up2_rd, row2_rd, reduceIte, Nat.reduceEqDiff, hct]
      refine V_mmin (wl1 := 666) (wst := 385) (wi1 := 119) (wc1 := 386) rfl (by decide +kernel) (by decide +kernel) (by decide +kernel) (by decide +kernel) (Nat.le_of_ble_eq_true rfl) (Nat.le_of_ble_eq_true rfl) ?_
      try simp only [up2_rd, row2_rd, reduceIte, Nat.reduceEqDiff, hct]
      refine V_go 5 rfl ?_
      try simp only [up2_rd, row2_rd, reduceIte, Nat.reduceEqDiff, hct]
      refine V_iald rfl rfl (Nat.le_of_ble_eq_true rfl) (inb_ofN (by decide) hc0 hcx) ?_
      try simp only [up2_rd, row2_rd, reduceIte, Nat.reduceEqDiff, hct]
      refine V_go 2 rfl ?_
      try simp only [up2_rd, row2_rd, reduceIte, Nat.reduceEqDiff, hct]
      refine V_iast rfl rfl (Nat.le_of_ble_eq_true rfl) (inb_ofN (by decide) hc0 hcx) ?_
      refine V_go 3 rfl ?_
      try simp only [up2_rd, row2_rd, reduceIte, Nat.reduceEqDiff, hct]
      refine V_iald rfl rfl (Nat.le_of_ble_eq_true rfl) (inb_ofN (by decide) hc0 hcx) ?_
      try simp only [up2_rd, row2_rd, reduceIte, Nat.reduceEqDiff, hct]
      refine V_go 3 rfl ?_
      try simp only [up2_rd, row2_rd, reduceIte, Nat.reduceEqDiff, hct]
      refine V_iald rfl rfl (Nat.le_of_ble_eq_true rfl) (inb_ofN (by decide) hc0 hcx) ?_
      try simp only [up2_rd, row2_rd, reduceIte, Nat.reduceEqDiff, hct]
      refine V_icmp_lt rfl (fun h4 => ?_) (fun h4 => ?_)
      · skip
        refine V_go 1 rfl ?_
        try simp only [up2_rd, row2_rd, reduceIte, Nat.reduceEqDiff, hct]
        refine V_iret rfl rfl rfl ?_
        first
          | (have e := sGoOn_a (C := cOf I 7) (i := i) (l := left) h3 (Int32.not_lt.mp h4)
             refine RP.mk ⟨?_, ?_, rfl, (Fr.up (by omega)).tr (Fr.up (by omega))⟩
             · rw [e]; rfl
             · rw [e, cOf_row (o := 7) (g := 6) rfl (by omega), cOf_row (o := 7) (g := 5) rfl (by omega)]; rfl)
          | (have e := sGoOn_b (C := cOf I 7) (i := i) (l := left) h3 (Int32.not_le.mpr h4)
             refine RP.mk ⟨?_, ?_, rfl, Fr.up (by omega)⟩
             · rw [e]; rfl
             · rw [e, cOf_row (o := 7) (g := 5) rfl (by omega)]; rfl)
          | (have e := sGoOn_c (C := cOf I 7) (i := i) (l := left) h3
             refine RP.mk ⟨?_, ?_, rfl, Fr.rf⟩
             · rw [e]
             · rw [e])
      · skip
        refine V_go 5 rfl ?_
        try simp only [up2_rd, row2_rd, reduceIte, Nat.reduceEqDiff, hct]
        refine V_iast rfl rfl (Nat.le_of_ble_eq_true rfl) (inb_ofN (by decide) hc0 hcx) ?_
        refine V_go 1 rfl ?_
        try simp only [up2_rd, row2_rd, reduceIte, Nat.reduceEqDiff, hct]
        refine V_iret rfl rfl rfl ?_
        first
          | (have e := sGoOn_a (C := cOf I 7) (i := i) (l := left) h3 (Int32.not_lt.mp h4)
             refine RP.mk ⟨?_, ?_, rfl, (Fr.up (by omega)).tr (Fr.up (by omega))⟩
             · rw [e]; rfl
             · rw [e, cOf_row (o := 7) (g := 6) rfl (by omega), cOf_row (o := 7) (g := 5) rfl (by omega)]; rfl)
          | (have e := sGoOn_b (C := cOf I 7) (i := i) (l := left) h3 (Int32.not_le.mpr h4)
             refine RP.mk ⟨?_, ?_, rfl, Fr.up (by omega)⟩
             · rw [e]; rfl
             · rw [e, cOf_row (o := 7) (g := 5) rfl (by omega)]; rfl)
          | (have e := sGoOn_c (C := cOf I 7) (i := i) (l := left) h3
             refine RP.mk ⟨?_, ?_, rfl, Fr.rf⟩
             · rw [e]
             · rw [e])
    · skip
      refine V_go 1 rfl ?_
      try simp only [up2_rd, row2_rd, reduceIte, Nat.reduceEqDiff, hct]
      refine V_iret rfl rfl rfl ?_
      first
        | (have e := sGoOn_a (C := cOf I 7) (i := i) (l := left) h3 (Int32.not_lt.mp h4)
           refine RP.mk ⟨?_, ?_, rfl, (Fr.up (by omega)).tr (Fr.up (by omega))⟩
           · rw [e]; rfl
           · rw [e, cOf_row (o := 7) (g := 6) rfl (by omega), cOf_row (o := 7) (g := 5) rfl (by omega)]; rfl)
        | (have e := sGoOn_b (C := cOf I 7) (i := i) (l := left) h3 (Int32.not_le.mpr h4)
           refine RP.mk ⟨?_, ?_, rfl, Fr.up (by omega)⟩
           · rw [e]; rfl
           · rw [e, cOf_row (o := 7) (g := 5) rfl (by omega)]; rfl)
        | (have e := sGoOn_c (C := cOf I 7) (i := i) (l := left) h3
           refine RP.mk ⟨?_, ?_, rfl, Fr.rf⟩
           · rw [e]
           · rw [e])
theorem c_goOnWith_15 {i : Nat} {left : Int32} {I : I2} {J : J2} {T : TV} (hC : Cok I 15 T) (hi : i < mC (cOf I 15)) : CT mX0_goOnWith 2 58 58 [.ref 15, .int (i32 i), .int left] I J RF (RP RF (fun r I1 J1 => r = (sGoOn (cOf I 15) i left).2 ∧ cOf I1 15 = (sGoOn (cOf I 15) i left).1 ∧ J1 = J ∧ Fr 15 I I1)) := by
  have ho := hC.1
  obtain ⟨-, hT, hr0, hr1, hn0, hn8, hi0, hi6⟩ := id hC
  obtain ⟨hc6, hcn, hc0, hcx, hct⟩ := mC_lt hi0 hi6 hi
  refine CT_of okX0_goOnWith (Nat.le_of_ble_eq_true rfl) ?_
  show V _ _ _ _ _ _ [(0, _), (1, _), (2, _)] _ _ _ _ _
  refine V_go 2 rfl ?_
  try simp only [up2_rd, row2_rd, reduceIte, Nat.reduceEqDiff, hct]
  refine cVI (mt' := mX0_hasItem) rfl kX0_65 fX0_hasItem rfl rfl rfl (Nat.le_of_ble_eq_true rfl) (Nat.le_of_ble_eq_true rfl) (Nat.le_of_ble_eq_true rfl) (Nat.le_of_ble_eq_true rfl) (Nat.le_refl _) (c_hasItem ho) ?_
  refine V_if_eq rfl (fun h2 => ?_) (fun h2 => ?_)
  · skip
    exfalso
    grind [b2i]
  · skip
    refine V_go 3 rfl ?_
    try simp only [up2_rd, row2_rd, reduceIte, Nat.reduceEqDiff, hct]
    refine V_iald rfl rfl (Nat.le_of_ble_eq_true rfl) (inb_ofN (by decide) hc0 hcx) ?_
    try simp only [up2_rd, row2_rd, reduceIte, Nat.reduceEqDiff, hct]
    refine V_go 1 rfl ?_
    try simp only [up2_rd, row2_rd, reduceIte, Nat.reduceEqDiff, hct]
    refine V_icmp_eq rfl (fun h3 => ?_) (fun h3 => ?_)
    · skip
      refine V_go 4 rfl ?_
      try simp only [up2_rd, row2_rd, reduceIte, Nat.reduceEqDiff, hct]
      refine V_iald rfl rfl (Nat.le_of_ble_eq_true rfl) (inb_ofN (by decide) hc0 hcx) ?_
      try simp only [up2_rd, row2_rd, reduceIte, Nat.reduceEqDiff, hct]
      refine V_go 3 rfl ?_
      try simp only [up2_rd, row2_rd, reduceIte, Nat.reduceEqDiff, hct]
      refine V_iald rfl rfl (Nat.le_of_ble_eq_true rfl) (inb_ofN (by decide) hc0 hcx) ?_
      try simp only [up2_rd, row2_rd, reduceIte, Nat.reduceEqDiff, hct]
      refine V_go 1 rfl ?_
      try simp only [up2_rd, row2_rd, reduceIte, Nat.reduceEqDiff, hct]
      refine V_mmin (wl1 := 666) (wst := 385) (wi1 := 119) (wc1 := 386) rfl (by decide +kernel) (by decide +kernel) (by decide +kernel) (by decide +kernel) (Nat.le_of_ble_eq_true rfl) (Nat.le_of_ble_eq_true rfl) ?_
      try simp only [up2_rd, row2_rd, reduceIte, Nat.reduceEqDiff, hct]
      refine V_go 5 rfl ?_
      try simp only [up2_rd, row2_rd, reduceIte, Nat.reduceEqDiff, hct]
      refine V_iald rfl rfl (Nat.le_of_ble_eq_true rfl) (inb_ofN (by decide) hc0 hcx) ?_
      try simp only [up2_rd, row2_rd, reduceIte, Nat.reduceEqDiff, hct]
      refine V_go 2 rfl ?_
      try simp only [up2_rd, row2_rd, reduceIte, Nat.reduceEqDiff, hct]
      refine V_iast rfl rfl (Nat.le_of_ble_eq_true rfl) (inb_ofN (by decide) hc0 hcx) ?_
      refine V_go 3 rfl ?_
      try simp only [up2_rd, row2_rd, reduceIte, Nat.reduceEqDiff, hct]
      refine V_iald rfl rfl (Nat.le_of_ble_eq_true rfl) (inb_ofN (by decide) hc0 hcx) ?_
      try simp only [up2_rd, row2_rd, reduceIte, Nat.reduceEqDiff, hct]
      refine V_go 3 rfl ?_
      try simp only [up2_rd, row2_rd, reduceIte, Nat.reduceEqDiff, hct]
      refine V_iald rfl rfl (Nat.le_of_ble_eq_true rfl) (inb_ofN (by decide) hc0 hcx) ?_
      try simp only [up2_rd, row2_rd, reduceIte, Nat.reduceEqDiff, hct]
      refine V_icmp_lt rfl (fun h4 => ?_) (fun h4 => ?_)
      · skip
        refine V_go 1 rfl ?_
        try simp only [up2_rd, row2_rd, reduceIte, Nat.reduceEqDiff, hct]
        refine V_iret rfl rfl rfl ?_
        first
          | (have e := sGoOn_a (C := cOf I 15) (i := i) (l := left) h3 (Int32.not_lt.mp h4)
             refine RP.mk ⟨?_, ?_, rfl, (Fr.up (by omega)).tr (Fr.up (by omega))⟩
             · rw [e]; rfl
             · rw [e, cOf_row (o := 15) (g := 6) rfl (by omega), cOf_row (o := 15) (g := 5) rfl (by omega)]; rfl)
          | (have e := sGoOn_b (C := cOf I 15) (i := i) (l := left) h3 (Int32.not_le.mpr h4)
             refine RP.mk ⟨?_, ?_, rfl, Fr.up (by omega)⟩
             · rw [e]; rfl
             · rw [e, cOf_row (o := 15) (g := 5) rfl (by omega)]; rfl)
          | (have e := sGoOn_c (C := cOf I 15) (i := i) (l := left) h3
             refine RP.mk ⟨?_, ?_, rfl, Fr.rf⟩
             · rw [e]
             · rw [e])
      · skip
        refine V_go 5 rfl ?_
        try simp only [up2_rd, row2_rd, reduceIte, Nat.reduceEqDiff, hct]
        refine V_iast rfl rfl (Nat.le_of_ble_eq_true rfl) (inb_ofN (by decide) hc0 hcx) ?_
        refine V_go 1 rfl ?_
        try simp only [up2_rd, row2_rd, reduceIte, Nat.reduceEqDiff, hct]
        refine V_iret rfl rfl rfl ?_
        first
          | (have e := sGoOn_a (C := cOf I 15) (i := i) (l := left) h3 (Int32.not_lt.mp h4)
             refine RP.mk ⟨?_, ?_, rfl, (Fr.up (by omega)).tr (Fr.up (by omega))⟩
             · rw [e]; rfl
             · rw [e, cOf_row (o := 15) (g := 6) rfl (by omega), cOf_row (o := 15) (g := 5) rfl (by omega)]; rfl)
          | (have e := sGoOn_b (C := cOf I 15) (i := i) (l := left) h3 (Int32.not_le.mpr h4)
             refine RP.mk ⟨?_, ?_, rfl, Fr.up (by omega)⟩
             · rw [e]; rfl
             · rw [e, cOf_row (o := 15) (g := 5) rfl (by omega)]; rfl)
          | (have e := sGoOn_c (C := cOf I 15) (i := i) (l := left) h3
             refine RP.mk ⟨?_, ?_, rfl, Fr.rf⟩
             · rw [e]
             · rw [e])
    · skip
      refine V_go 1 rfl ?_
      try simp only [up2_rd, row2_rd, reduceIte, Nat.reduceEqDiff, hct]
      refine V_iret rfl rfl rfl ?_
      first
        | (have e := sGoOn_a (C := cOf I 15) (i := i) (l := left) h3 (Int32.not_lt.mp h4)
           refine RP.mk ⟨?_, ?_, rfl, (Fr.up (by omega)).tr (Fr.up (by omega))⟩
           · rw [e]; rfl
           · rw [e, cOf_row (o := 15) (g := 6) rfl (by omega), cOf_row (o := 15) (g := 5) rfl (by omega)]; rfl)
        | (have e := sGoOn_b (C := cOf I 15) (i := i) (l := left) h3 (Int32.not_le.mpr h4)
           refine RP.mk ⟨?_, ?_, rfl, Fr.up (by omega)⟩
           · rw [e]; rfl
           · rw [e, cOf_row (o := 15) (g := 5) rfl (by omega)]; rfl)
        | (have e := sGoOn_c (C := cOf I 15) (i := i) (l := left) h3
           refine RP.mk ⟨?_, ?_, rfl, Fr.rf⟩
           · rw [e]
           · rw [e])
theorem c_goOnWith_23 {i : Nat} {left : Int32} {I : I2} {J : J2} {T : TV} (hC : Cok I 23 T) (hi : i < mC (cOf I 23)) : CT mX0_goOnWith 2 58 58 [.ref 23, .int (i32 i), .int left] I J RF (RP RF (fun r I1 J1 => r = (sGoOn (cOf I 23) i left).2 ∧ cOf I1 23 = (sGoOn (cOf I 23) i left).1 ∧ J1 = J ∧ Fr 23 I I1)) := by
  have ho := hC.1
  obtain ⟨-, hT, hr0, hr1, hn0, hn8, hi0, hi6⟩ := id hC
  obtain ⟨hc6, hcn, hc0, hcx, hct⟩ := mC_lt hi0 hi6 hi
  refine CT_of okX0_goOnWith (Nat.le_of_ble_eq_true rfl) ?_
  show V _ _ _ _ _ _ [(0, _), (1, _), (2, _)] _ _ _ _ _
  refine V_go 2 rfl ?_
  try simp only [up2_rd, row2_rd, reduceIte, Nat.reduceEqDiff, hct]
  refine cVI (mt' := mX0_hasItem) rfl kX0_65 fX0_hasItem rfl rfl rfl (Nat.le_of_ble_eq_true rfl) (Nat.le_of_ble_eq_true rfl) (Nat.le_of_ble_eq_true rfl) (Nat.le_of_ble_eq_true rfl) (Nat.le_refl _) (c_hasItem ho) ?_
  refine V_if_eq rfl (fun h2 => ?_) (fun h2 => ?_)
  · skip
    exfalso
    grind [b2i]
  · skip
    refine V_go 3 rfl ?_
    try simp only [up2_rd, row2_rd, reduceIte, Nat.reduceEqDiff, hct]
    refine V_iald rfl rfl (Nat.le_of_ble_eq_true rfl) (inb_ofN (by decide) hc0 hcx) ?_
    try simp only [up2_rd, row2_rd, reduceIte, Nat.reduceEqDiff, hct]
    refine V_go 1 rfl ?_
    try simp only [up2_rd, row2_rd, reduceIte, Nat.reduceEqDiff, hct]
    refine V_icmp_eq rfl (fun h3 => ?_) (fun h3 => ?_)
    · skip
      refine V_go 4 rfl ?_
      try simp only [up2_rd, row2_rd, reduceIte, Nat.reduceEqDiff, hct]
      refine V_iald rfl rfl (Nat.le_of_ble_eq_true rfl) (inb_ofN (by decide) hc0 hcx) ?_
      try simp only [up2_rd, row2_rd, reduceIte, Nat.reduceEqDiff, hct]
      refine V_go 3 rfl ?_
      try simp only [up2_rd, row2_rd, reduceIte, Nat.reduceEqDiff, hct]
      refine V_iald rfl rfl (Nat.le_of_ble_eq_true rfl) (inb_ofN (by decide) hc0 hcx) ?_
      try simp only [up2_rd, row2_rd, reduceIte, Nat.reduceEqDiff, hct]
      refine V_go 1 rfl ?_
      try simp only [up2_rd, row2_rd, reduceIte, Nat.reduceEqDiff, hct]
      refine V_mmin (wl1 := 666) (wst := 385) (wi1 := 119) (wc1 := 386) rfl (by decide +kernel) (by decide +kernel) (by decide +kernel) (by decide +kernel) (Nat.le_of_ble_eq_true rfl) (Nat.le_of_ble_eq_true rfl) ?_
      try simp only [up2_rd, row2_rd, reduceIte, Nat.reduceEqDiff, hct]
      refine V_go 5 rfl ?_
      try simp only [up2_rd, row2_rd, reduceIte, Nat.reduceEqDiff, hct]
      refine V_iald rfl rfl (Nat.le_of_ble_eq_true rfl) (inb_ofN (by decide) hc0 hcx) ?_
      try simp only [up2_rd, row2_rd, reduceIte, Nat.reduceEqDiff, hct]
      refine V_go 2 rfl ?_
      try simp only [up2_rd, row2_rd, reduceIte, Nat.reduceEqDiff, hct]
      refine V_iast rfl rfl (Nat.le_of_ble_eq_true rfl) (inb_ofN (by decide) hc0 hcx) ?_
      refine V_go 3 rfl ?_
      try simp only [up2_rd, row2_rd, reduceIte, Nat.reduceEqDiff, hct]
      refine V_iald rfl rfl (Nat.le_of_ble_eq_true rfl) (inb_ofN (by decide) hc0 hcx) ?_
      try simp only [up2_rd, row2_rd, reduceIte, Nat.reduceEqDiff, hct]
      refine V_go 3 rfl ?_
      try simp only [up2_rd, row2_rd, reduceIte, Nat.reduceEqDiff, hct]
      refine V_iald rfl rfl (Nat.le_of_ble_eq_true rfl) (inb_ofN (by decide) hc0 hcx) ?_
      try simp only [up2_rd, row2_rd, reduceIte, Nat.reduceEqDiff, hct]
      refine V_icmp_lt rfl (fun h4 => ?_) (fun h4 => ?_)
      · skip
        refine V_go 1 rfl ?_
        try simp only [up2_rd, row2_rd, reduceIte, Nat.reduceEqDiff, hct]
        refine V_iret rfl rfl rfl ?_
        first
          | (have e := sGoOn_a (C := cOf I 23) (i := i) (l := left) h3 (Int32.not_lt.mp h4)
             refine RP.mk ⟨?_, ?_, rfl, (Fr.up (by omega)).tr (Fr.up (by omega))⟩
             · rw [e]; rfl
             · rw [e, cOf_row (o := 23) (g := 6) rfl (by omega), cOf_row (o := 23) (g := 5) rfl (by omega)]; rfl)
          | (have e := sGoOn_b (C := cOf I 23) (i := i) (l := left) h3 (Int32.not_le.mpr h4)
             refine RP.mk ⟨?_, ?_, rfl, Fr.up (by omega)⟩
             · rw [e]; rfl
             · rw [e, cOf_row (o := 23) (g := 5) rfl (by omega)]; rfl)
          | (have e := sGoOn_c (C := cOf I 23) (i := i) (l := left) h3
             refine RP.mk ⟨?_, ?_, rfl, Fr.rf⟩
             · rw [e]
             · rw [e])
      · skip
        refine V_go 5 rfl ?_
        try simp only [up2_rd, row2_rd, reduceIte, Nat.reduceEqDiff, hct]
        refine V_iast rfl rfl (Nat.le_of_ble_eq_true rfl) (inb_ofN (by decide) hc0 hcx) ?_
        refine V_go 1 rfl ?_
        try simp only [up2_rd, row2_rd, reduceIte, Nat.reduceEqDiff, hct]
        refine V_iret rfl rfl rfl ?_
        first
          | (have e := sGoOn_a (C := cOf I 23) (i := i) (l := left) h3 (Int32.not_lt.mp h4)
             refine RP.mk ⟨?_, ?_, rfl, (Fr.up (by omega)).tr (Fr.up (by omega))⟩
             · rw [e]; rfl
             · rw [e, cOf_row (o := 23) (g := 6) rfl (by omega), cOf_row (o := 23) (g := 5) rfl (by omega)]; rfl)
          | (have e := sGoOn_b (C := cOf I 23) (i := i) (l := left) h3 (Int32.not_le.mpr h4)
             refine RP.mk ⟨?_, ?_, rfl, Fr.up (by omega)⟩
             · rw [e]; rfl
             · rw [e, cOf_row (o := 23) (g := 5) rfl (by omega)]; rfl)
          | (have e := sGoOn_c (C := cOf I 23) (i := i) (l := left) h3
             refine RP.mk ⟨?_, ?_, rfl, Fr.rf⟩
             · rw [e]
             · rw [e])
    · skip
      refine V_go 1 rfl ?_
      try simp only [up2_rd, row2_rd, reduceIte, Nat.reduceEqDiff, hct]
      refine V_iret rfl rfl rfl ?_
      first
        | (have e := sGoOn_a (C := cOf I 23) (i := i) (l := left) h3 (Int32.not_lt.mp h4)
           refine RP.mk ⟨?_, ?_, rfl, (Fr.up (by omega)).tr (Fr.up (by omega))⟩
           · rw [e]; rfl
           · rw [e, cOf_row (o := 23) (g := 6) rfl (by omega), cOf_row (o := 23) (g := 5) rfl (by omega)]; rfl)
        | (have e := sGoOn_b (C := cOf I 23) (i := i) (l := left) h3 (Int32.not_le.mpr h4)
           refine RP.mk ⟨?_, ?_, rfl, Fr.up (by omega)⟩
           · rw [e]; rfl
           · rw [e, cOf_row (o := 23) (g := 5) rfl (by omega)]; rfl)
        | (have e := sGoOn_c (C := cOf I 23) (i := i) (l := left) h3
           refine RP.mk ⟨?_, ?_, rfl, Fr.rf⟩
           · rw [e]
           · rw [e])
theorem c_goOnWith {o : Nat} {i : Nat} {left : Int32} {I : I2} {J : J2} {T : TV} (hC : Cok I o T) (hi : i < mC (cOf I o)) : CT mX0_goOnWith 2 58 58 [.ref o, .int (i32 i), .int left] I J RF (RP RF (fun r I1 J1 => r = (sGoOn (cOf I o) i left).2 ∧ cOf I1 o = (sGoOn (cOf I o) i left).1 ∧ J1 = J ∧ Fr o I I1)) := by
  rcases hC.1 with rfl | rfl | rfl
  · exact c_goOnWith_7 hC hi
  · exact c_goOnWith_15 hC hi
  · exact c_goOnWith_23 hC hi
