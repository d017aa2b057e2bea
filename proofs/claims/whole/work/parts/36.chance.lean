theorem rem_ok : ∀ a, a < 21 → ∀ b, b < 21 → 0 < b → i32 a - i32 a / i32 b * i32 b = i32 (a % b) ∧ i32 a / i32 b = i32 (a / b) ∧ ¬ i32 b = 0 := by decide +kernel
def low (a b m : Nat) : Nat → Nat
  | 0 => a
  | d + 1 => if d = 0 then a else if b % (d + 1) = 0 ∧ m % (d + 1) = 0 then a / (d + 1) else low a b m d
theorem i32_p (d : Nat) : i32 (d + 1) + -1 = i32 d := by rw [i32_s, Int32.add_assoc]; simp
theorem i32_z {n : Nat} (h : n < 1000) : i32 n = 0 ↔ n = 0 := by grind [i32_ti]

theorem c_inLowestTerms {a b m : Nat} {I : I2} {J : J2} (ha : a < 21) (hb : b < 21) (hm : m < 21) : CT mX6_inLowestTerms 1 58 58 [.int (i32 a), .int (i32 b), .int (i32 m)] I J RF (RI RF (i32 (low a b m m)) I J) := by
  refine CT_of okX6_inLowestTerms (Nat.le_of_ble_eq_true rfl) ?_
  show V _ _ _ _ _ _ [(0, _), (1, _), (2, _)] _ _ _ _ _
  have key : ∀ d, d < 21 → V mX6_inLowestTerms none 1 58 (RI RF (i32 (low a b m d)) I J) 2 [(0, .int (i32 a)), (1, .int (i32 b)), (2, .int (i32 m)), (3, .int (i32 d))] [] 58 I J RF := by
    intro d
    induction d with
    | zero =>
      intro hd
      refine V_go 2 rfl ?_
      refine V_icmp_le rfl (fun h1 => ?_) (fun h1 => ?_)
      · skip
        refine V_go 1 rfl ?_
        refine V_iret rfl rfl rfl ?_
        exact RI.mk rfl
      · skip
        exact absurd (show (0 : Int32) ≤ 1 from by decide) h1
    | succ d ih =>
      intro hd
      refine V_go 2 rfl ?_
      refine V_icmp_le rfl (fun h1 => ?_) (fun h1 => ?_)
      · skip
        refine V_go 1 rfl ?_
        refine V_iret rfl rfl rfl ?_
        refine RI.mk ?_
        rw [low, if_pos (by grind [i32_ti])]
      · skip
        refine V_go 2 rfl ?_
        have hd0 : ¬ d = 0 := by grind [i32_ti]
        refine V_irem0 rfl ((rem_ok b hb (d + 1) hd (by omega)).2.2) ?_
        rw [(rem_ok b hb (d + 1) hd (by omega)).1]
        refine V_if_ne rfl (fun h2 => ?_) (fun h2 => ?_)
        · skip
          refine V_go 2 rfl ?_
          rw [low, if_neg hd0, if_neg (fun h => by first | exact absurd ((i32_z (Nat.lt_of_le_of_lt (Nat.mod_le _ _) (by omega))).mpr h.1) (by assumption) | exact absurd ((i32_z (Nat.lt_of_le_of_lt (Nat.mod_le _ _) (by omega))).mpr h.2) (by assumption))]
          refine V.st (I' := I) (L' := [(0, .int (i32 a)), (1, .int (i32 b)), (2, .int (i32 m)), (3, .int (i32 d))]) (ih (by omega)) rfl ?_
          rw [i32_p]
          exact fun _ h => h
        · skip
          refine V_go 2 rfl ?_
          refine V_irem0 rfl ((rem_ok m hm (d + 1) hd (by omega)).2.2) ?_
          rw [(rem_ok m hm (d + 1) hd (by omega)).1]
          refine V_if_ne rfl (fun h3 => ?_) (fun h3 => ?_)
          · skip
            refine V_go 2 rfl ?_
            rw [low, if_neg hd0, if_neg (fun h => by first | exact absurd ((i32_z (Nat.lt_of_le_of_lt (Nat.mod_le _ _) (by omega))).mpr h.1) (by assumption) | exact absurd ((i32_z (Nat.lt_of_le_of_lt (Nat.mod_le _ _) (by omega))).mpr h.2) (by assumption))]
            refine V.st (I' := I) (L' := [(0, .int (i32 a)), (1, .int (i32 b)), (2, .int (i32 m)), (3, .int (i32 d))]) (ih (by omega)) rfl ?_
            rw [i32_p]
            exact fun _ h => h
          · skip
            refine V_go 2 rfl ?_
            refine V_idiv rfl ((rem_ok a ha (d + 1) hd (by omega)).2.2) ?_
            rw [(rem_ok a ha (d + 1) hd (by omega)).2.1]
            refine V_iret rfl rfl rfl ?_
            refine RI.mk ?_
            rw [low, if_neg hd0, if_pos ⟨(i32_z (Nat.lt_of_le_of_lt (Nat.mod_le _ _) (by omega))).mp (by assumption), (i32_z (Nat.lt_of_le_of_lt (Nat.mod_le _ _) (by omega))).mp (by assumption)⟩]
  refine V_go 2 rfl ?_
  exact key m hm
theorem c_inLowestTermsX {x y z : Int32} {a b m : Nat} {I : I2} {J : J2} (e1 : i32 a = x) (e2 : i32 b = y) (e3 : i32 m = z) (ha : a < 21) (hb : b < 21) (hm : m < 21) : CT mX6_inLowestTerms 1 58 58 [.int x, .int y, .int z] I J RF (RI RF (i32 (low a b m m)) I J) := by
  subst e1 e2 e3
  exact c_inLowestTerms ha hb hm
def sFit (T : TV) (C : CC) (z : Int32) : Nat → Nat
  | 0 => 0
  | i + 1 => if sGo T (sDr C (z + i32 i) (nC C)).1 ≤ C 0 1 then sFit T C z i + 1 else sFit T C z i
theorem sFit_le (T : TV) (C : CC) (z : Int32) : ∀ i, sFit T C z i ≤ i
  | 0 => Nat.le_refl _
  | i + 1 => by
    have h := sFit_le T C z i
    rw [sFit]
    split <;> omega
def sChan (T : TV) (C : CC) (z : Int32) (m : Nat) (w : Int32) : Nat := low (if w = 0 then sFit T C z m else m) (sFit T C z m) m m
def sChance (T : TV) (C : CC) (z x w : Int32) : Int64 := if (1 ≤ x ∧ x ≤ 20) ∧ (w = 0 ∨ w = 1) then (i32 (sChan T C z x.toNatClampNeg w)).toInt64 else -4611686018427387904
def DrI (I I1 : I2) (T : TV) (D : CC) : Prop := Th I I1 T D ∧ D 0 = cOf I 7 0 ∧ ∀ z, (sDr D z (nC (cOf I 7))).1 = (sDr (cOf I 7) z (nC (cOf I 7))).1
theorem DrI.nx {I I1 I9 : I2} {T : TV} {D : CC} {z : Int32} (h : DrI I I1 T D) (e : cOf I9 15 = (sDr (cOf I1 15) z (nC (cOf I1 15))).1) (q : Fr 15 I1 I9) : DrI I I9 T (sDr (cOf I 7) z (nC (cOf I 7))).1 := by
  obtain ⟨h1, h2, h3⟩ := h
  have h4 := h1.draw e q
  rw [show nC D = nC (cOf I 7) from by unfold nC; rw [h2], h3] at h4
  exact ⟨h4, sDr_0 _ _ _, fun z' => sDr_2 _ _ _ _⟩
theorem DrI.sq {I I1 I9 : I2} {T : TV} {D : CC} (h : DrI I I1 T D) (q : Sq 15 I1 I9) : DrI I I9 T D := ⟨h.1.sq q, h.2⟩
theorem DrI.len {I I1 : I2} {T : TV} {D : CC} (h : DrI I I1 T D) : I1 15 3 = cOf I 7 0 1 := (h.1.1.1 1 (by omega)).trans (congrFun h.2.1 1)

theorem c_chance {z x w : Int32} {I : I2} {J : J2} {T : TV} (hC : Cok I 7 T) : CT mX6_chance 9 58 58 [.ref 0, .int z, .int x, .int w] I J RF (RLg RF (fun r I1 J1 => r = sChance T (cOf I 7) z x w ∧ J1 = J ∧ Scr I I1)) := by
  obtain ⟨hN8, hM6⟩ := nC8 hC
  obtain ⟨hev, hp, hp1⟩ := evr hC
  have k24 : ((1 ≤ x ∧ x ≤ 20) ∧ (w = 0 ∨ w = 1)) → V mX6_chance none 9 58 (RLg RF (fun r I1 J1 => r = sChance T (cOf I 7) z x w ∧ J1 = J ∧ Scr I I1)) 24 [(0, .ref 0), (1, .int z), (2, .int x), (3, .int w)] [] 58 I J RF := by
    intro pw
    have px0 : 0 ≤ x := by grind
    have px := xn px0
    have p20 : x.toNatClampNeg < 21 := by have := tcn x px0; grind
    have key : ∀ n, Hid (∀ (i : Nat) (I1 : I2) (D : CC), i + n = x.toNatClampNeg → DrI I I1 T D → V mX6_chance none 9 58 (RLg RF (fun r I1 J1 => r = sChance T (cOf I 7) z x w ∧ J1 = J ∧ Scr I I1)) 41 [(0, .ref 0), (1, .int z), (2, .int x), (3, .int w), (4, .int (i32 (sFit T (cOf I 7) z (i)))), (5, .int (i32 (i)))] [] 58 I1 J RF) := by
      intro n
      induction n with
      | zero =>
        unfold Hid
        intro i I1 D hi hs
        refine V_go 2 rfl ?_
        refine V_icmp_ge rfl (fun h1 => ?_) (fun h1 => ?_)
        · skip
          refine V_go 1 rfl ?_
          refine V_if_ne rfl (fun h2 => ?_) (fun h2 => ?_)
          · skip
            refine V_go 3 rfl ?_
            refine cSI (mt' := mX6_inLowestTerms) rfl kX6_249 fX6_inLowestTerms rfl (Nat.le_of_ble_eq_true rfl) (Nat.le_of_ble_eq_true rfl) (Nat.le_refl _) (c_inLowestTermsX (a := x.toNatClampNeg) (b := sFit T (cOf I 7) z x.toNatClampNeg) (m := x.toNatClampNeg) px (by rw [show i = x.toNatClampNeg from hi]) px (by omega) (by have := sFit_le T (cOf I 7) z x.toNatClampNeg; omega) (by omega)) ?_
            refine V_go 1 rfl ?_
            refine V_lret rfl rfl rfl ?_
            refine RLg.mk ⟨?_, rfl, hs.1.2.2⟩
            unfold sChance sChan
            rw [if_pos pw, if_neg (by assumption)]
          · skip
            refine V_go 4 rfl ?_
            refine cSI (mt' := mX6_inLowestTerms) rfl kX6_249 fX6_inLowestTerms rfl (Nat.le_of_ble_eq_true rfl) (Nat.le_of_ble_eq_true rfl) (Nat.le_refl _) (c_inLowestTermsX (a := sFit T (cOf I 7) z x.toNatClampNeg) (b := sFit T (cOf I 7) z x.toNatClampNeg) (m := x.toNatClampNeg) (by rw [show i = x.toNatClampNeg from hi]) (by rw [show i = x.toNatClampNeg from hi]) px (by have := sFit_le T (cOf I 7) z x.toNatClampNeg; omega) (by have := sFit_le T (cOf I 7) z x.toNatClampNeg; omega) (by omega)) ?_
            refine V_go 1 rfl ?_
            refine V_lret rfl rfl rfl ?_
            refine RLg.mk ⟨?_, rfl, hs.1.2.2⟩
            unfold sChance sChan
            rw [if_pos pw, if_pos (by assumption)]
        · skip
          exfalso
          exact h1 (by rw [← px, show i = x.toNatClampNeg from hi]; exact Int32.le_refl _)
      | succ n ih =>
        unfold Hid
        intro i I1 D hi hs
        refine V_go 2 rfl ?_
        refine V_icmp_ge rfl (fun h1 => ?_) (fun h1 => ?_)
        · skip
          exfalso
          rw [← px] at h1
          exact lp_more (by omega) (by omega) h1
        · skip
          refine V_go 5 rfl ?_
          refine cVW (mt' := mX0_drawBribes) rfl kX6_243 fX0_drawBribes rfl rfl rfl (Nat.le_of_ble_eq_true rfl) (Nat.le_of_ble_eq_true rfl) (Nat.le_of_ble_eq_true rfl) (Nat.le_of_ble_eq_true rfl) (Nat.le_refl _) (c_drawBribes hs.1.2.1) ?_
          intro Ir2 Jr2 h2
          obtain ⟨hd, rfl, hq2⟩ := h2
          have hs2 := hs.nx hd hq2
          refine V_go 2 rfl ?_
          refine cVP (mt' := mX0_spentByList) rfl kX6_220 fX0_spentByList rfl rfl rfl (Nat.le_of_ble_eq_true rfl) (Nat.le_of_ble_eq_true rfl) (Nat.le_of_ble_eq_true rfl) (Nat.le_of_ble_eq_true rfl) (Nat.le_refl _) (c_spentByList hs2.1.2.1) ?_
          intro r3 Ir3 Jr3 h3
          obtain ⟨hv, rfl, hq3⟩ := h3
          rw [hs2.1.go] at hv
          subst hv
          have hs3 := hs2.sq hq3
          refine V_go 3 rfl ?_
          refine V_icmp_gt rfl (fun h4 => ?_) (fun h4 => ?_)
          · skip
            rw [hs3.len] at h4
            refine V_go 2 rfl ?_
            refine V.st (I' := Ir3) (L' := [(0, .ref 0), (1, .int z), (2, .int x), (3, .int w), (4, .int (i32 (sFit T (cOf I 7) z (i + 1)))), (5, .int (i32 (i + 1)))]) (ih.un (i + 1) Ir3 _ (by omega) hs3) rfl ?_
            rw [i32_s, sFit, if_neg (by grind)]
            simp [i32_s]
          · skip
            rw [hs3.len] at h4
            refine V_go 3 rfl ?_
            refine V.st (I' := Ir3) (L' := [(0, .ref 0), (1, .int z), (2, .int x), (3, .int w), (4, .int (i32 (sFit T (cOf I 7) z (i + 1)))), (5, .int (i32 (i + 1)))]) (ih.un (i + 1) Ir3 _ (by omega) hs3) rfl ?_
            rw [i32_s, sFit, if_pos (by grind)]
            simp [i32_s]
    refine V_go 4 rfl ?_
    refine cVW (mt' := mX0_become) rfl kX6_173 fX0_become rfl rfl rfl (Nat.le_of_ble_eq_true rfl) (Nat.le_of_ble_eq_true rfl) (Nat.le_of_ble_eq_true rfl) (Nat.le_of_ble_eq_true rfl) (Nat.le_refl _) (c_become_15_7) ?_
    intro Ir1 Jr1 h1
    obtain ⟨rfl, hc, hq⟩ := h1
    have ht := Th.bec hC Scr.rf hq hc
    refine V_go 4 rfl ?_
    exact (key _).un 0 _ _ (Nat.zero_add _) ⟨ht, rfl, fun _ => rfl⟩
  refine CT_of okX6_chance (Nat.le_of_ble_eq_true rfl) ?_
  show V _ _ _ _ _ _ [(0, _), (1, _), (2, _), (3, _)] _ _ _ _ _
  refine V_go 2 rfl ?_
  refine V_icmp_lt rfl (fun h1 => ?_) (fun h1 => ?_)
  · skip
    refine V_go 1 rfl ?_
    refine V_lret rfl rfl rfl ?_
    refine RLg.mk ⟨?_, rfl, Scr.rf⟩
    unfold sChance
    refine (if_neg ?_).symm
    rintro ⟨⟨k1, k2⟩, k3⟩
    first
      | grind
      | (rcases k3 with h | h <;> contradiction)
  · skip
    refine V_go 2 rfl ?_
    refine V_icmp_gt rfl (fun h2 => ?_) (fun h2 => ?_)
    · skip
      refine V_go 1 rfl ?_
      refine V_lret rfl rfl rfl ?_
      refine RLg.mk ⟨?_, rfl, Scr.rf⟩
      unfold sChance
      refine (if_neg ?_).symm
      rintro ⟨⟨k1, k2⟩, k3⟩
      first
        | grind
        | (rcases k3 with h | h <;> contradiction)
    · skip
      refine V_go 1 rfl ?_
      refine V_if_eq rfl (fun h3 => ?_) (fun h3 => ?_)
      · skip
        exact k24 ⟨by grind, by first | exact Or.inl (by assumption) | exact Or.inr (by assumption)⟩
      · skip
        refine V_go 2 rfl ?_
        refine V_icmp_eq rfl (fun h4 => ?_) (fun h4 => ?_)
        · skip
          exact k24 ⟨by grind, by first | exact Or.inl (by assumption) | exact Or.inr (by assumption)⟩
        · skip
          refine V_go 1 rfl ?_
          refine V_lret rfl rfl rfl ?_
          refine RLg.mk ⟨?_, rfl, Scr.rf⟩
          unfold sChance
          refine (if_neg ?_).symm
          rintro ⟨⟨k1, k2⟩, k3⟩
          first
            | grind
            | (rcases k3 with h | h <;> contradiction)
