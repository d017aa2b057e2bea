def sSit (T : TV) (C : CC) : CC × Int32 := if C 0 0 < 999 then ((sHold T C).1, sCntD (sHold T C).1 (mC (sHold T C).1) - sCntD C (mC C)) else (C, -3)
theorem c_sit  {I : I2} {J : J2} {T : TV} (hC : Cok I 7 T) : CT mX6_sit 9 58 58 [.ref 0] I J RF (RP RF (fun r I1 J1 => r = (sSit T (cOf I 7)).2 ∧ J1 = J ∧ cOf I1 7 = (sSit T (cOf I 7)).1 ∧ Fr 7 I I1)) := by
  obtain ⟨hN8, hM6⟩ := nC8 hC
  obtain ⟨hev, hp, hp1⟩ := evr hC
  
  refine CT_of okX6_sit (Nat.le_of_ble_eq_true rfl) ?_
  show V _ _ _ _ _ _ [(0, _)] _ _ _ _ _
  refine V_go 4 rfl ?_
  refine V_icmp_lt rfl (fun h1 => ?_) (fun h1 => ?_)
  · skip
    refine V_go 2 rfl ?_
    refine cVI (mt' := mX0_itemsDone) rfl kX6_167 fX0_itemsDone rfl rfl rfl (Nat.le_of_ble_eq_true rfl) (Nat.le_of_ble_eq_true rfl) (Nat.le_of_ble_eq_true rfl) (Nat.le_of_ble_eq_true rfl) (Nat.le_refl _) (c_itemsDone hC) ?_
    refine V_go 3 rfl ?_
    refine cVP (mt' := mX0_hold) rfl kX6_170 fX0_hold rfl rfl rfl (Nat.le_of_ble_eq_true rfl) (Nat.le_of_ble_eq_true rfl) (Nat.le_of_ble_eq_true rfl) (Nat.le_of_ble_eq_true rfl) (Nat.le_refl _) (c_hold hC) ?_
    intro r3 Ir3 Jr3 h3
    obtain ⟨hv, hc2, rfl, hq⟩ := h3
    refine V_go 3 rfl ?_
    refine cVI (mt' := mX0_itemsDone) rfl kX6_167 fX0_itemsDone rfl rfl rfl (Nat.le_of_ble_eq_true rfl) (Nat.le_of_ble_eq_true rfl) (Nat.le_of_ble_eq_true rfl) (Nat.le_of_ble_eq_true rfl) (Nat.le_refl _) (c_itemsDone (hC.frq hq (fun j hj => by rw [hc2]; exact sHold_0 _ _ _ hj))) ?_
    refine V_go 2 rfl ?_
    refine V_iret rfl rfl rfl ?_
    exact RP.mk ⟨by unfold sSit; rw [if_pos (show cOf I 7 0 0 < 999 from by assumption), hc2], rfl, by unfold sSit; rw [if_pos (show cOf I 7 0 0 < 999 from by assumption), hc2], hq⟩
  · skip
    refine V_go 1 rfl ?_
    refine V_iret rfl rfl rfl ?_
    exact RP.mk ⟨by unfold sSit; rw [if_neg (show ¬ cOf I 7 0 0 < 999 from by assumption)], rfl, by unfold sSit; rw [if_neg (show ¬ cOf I 7 0 0 < 999 from by assumption)], Fr.rf⟩
theorem sRn_0 (T : TV) (C : CC) (j : Nat) (hj : j ≠ 0) : ∀ i, (sRn T C i).1 0 j = C 0 j
  | 0 => rfl
  | i + 1 => by
    simp only [sRn]
    rw [sHold_0 _ _ _ hj, sRn_0 T C j hj i]
theorem sRn_nm (T : TV) (C : CC) (i : Nat) : nC (sRn T C i).1 = nC C ∧ mC (sRn T C i).1 = mC C := by
  unfold nC mC
  rw [sRn_0 T C 3 (by omega), sRn_0 T C 4 (by omega)]
  exact ⟨rfl, rfl⟩
def sRun (T : TV) (C : CC) (x w : Int32) : Int32 := if (0 ≤ x ∧ x ≤ 40) ∧ (w = 0 ∨ w = 1 ∨ isIt C (w - 10)) then (if isIt C (w - 10) then (sRn T C x.toNatClampNeg).1 6 (w - 10).toNatClampNeg else if w = 0 then sCntD (sRn T C x.toNatClampNeg).1 (mC C) else (sRn T C x.toNatClampNeg).2) else -2
/-- the frame, the thought council in line with C -/
def Th (I I1 : I2) (T : TV) (C : CC) : Prop := Cq 8 6 (cOf I1 15) C ∧ Cok I1 15 T ∧ Scr I I1
theorem Th.nm {I I1 : I2} {T : TV} {C : CC} (h : Th I I1 T C) : nC (cOf I1 15) = nC C ∧ mC (cOf I1 15) = mC C ∧ nC C ≤ 8 ∧ mC C ≤ 6 := ⟨h.1.nC, h.1.mC, h.1.nC ▸ (nC8 h.2.1).1, h.1.mC ▸ (nC8 h.2.1).2⟩
theorem Th.n8 {I I1 : I2} {T : TV} {C : CC} (h : Th I I1 T C) : nC (cOf I1 15) ≤ 8 ∧ mC (cOf I1 15) ≤ 6 := nC8 h.2.1
theorem Th.bec {I I0 I1 : I2} {T : TV} (h : Cok I 7 T) (s : Scr I0 I) (q : Fr 15 I I1) (e : Cq 8 6 (cOf I1 15) (cOf I 7)) : Th I0 I1 T (cOf I 7) := ⟨e, h.bec q e, s.tr q.scr15⟩
theorem Th.hold {I I1 I9 : I2} {T : TV} {C : CC} (h : Th I I1 T C) (hc : cOf I9 15 = (sHold T (cOf I1 15)).1) (q : Fr 15 I1 I9) : Th I I9 T (sHold T C).1 := by
  refine ⟨?_, h.2.1.frq q (fun j hj => by rw [hc]; exact sHold_0 _ _ _ hj), h.2.2.tr q.scr15⟩
  rw [hc]
  exact (h.1.hold h.n8.1 h.n8.2).1
theorem Th.hold2 {I I1 : I2} {T : TV} {C : CC} (h : Th I I1 T C) : (sHold T (cOf I1 15)).2 = (sHold T C).2 := (h.1.hold h.n8.1 h.n8.2).2
theorem run_f {w : Int32} (h0 : ¬ w = 0) (h1 : ¬ w = 1) {C : CC} (h2 : b2i (isIt C (w - 10)) = 0) : ¬ (w = 0 ∨ w = 1 ∨ isIt C (w - 10)) := by
  intro h
  rcases h with h | h | h
  · exact h0 h
  · exact h1 h
  · exact absurd (b2i_1 h) (by rw [h2]; decide)

theorem c_doneAtX {x : Int32} {o : Nat} {I : I2} {J : J2} {T : TV} (hC : Cok I o T) (hx : 0 ≤ x ∧ x < I o 9 ∧ x < 6) : CT mX0_doneAt 2 58 58 [.ref o, .int x] I J RF (RI RF (I (o + 7) x.toNatClampNeg) I J) := by
  have h := c_doneAt (x := x) (I := I) (J := J) hC.1
  rwa [if_pos hx] at h
theorem c_run {x w : Int32} {I : I2} {J : J2} {T : TV} (hC : Cok I 7 T) : CT mX6_run 9 58 58 [.ref 0, .int x, .int w] I J RF (RP RF (fun r I1 J1 => r = sRun T (cOf I 7) x w ∧ J1 = J ∧ Scr I I1)) := by
  obtain ⟨hN8, hM6⟩ := nC8 hC
  obtain ⟨hev, hp, hp1⟩ := evr hC
  refine CT_of okX6_run (Nat.le_of_ble_eq_true rfl) ?_
  show V _ _ _ _ _ _ [(0, _), (1, _), (2, _)] _ _ _ _ _
  have k38 : (0 ≤ x ∧ x ≤ 40) → (w = 0 ∨ w = 1 ∨ isIt (cOf I 7) (w - 10)) → V mX6_run none 9 58 (RP RF (fun r I1 J1 => r = sRun T (cOf I 7) x w ∧ J1 = J ∧ Scr I I1)) 38 [(0, .ref 0), (1, .int x), (2, .int w), (3, .int (b2i (0 ≤ w - 10 ∧ w - 10 < I 7 9 ∧ w - 10 < 6)))] [] 58 I J RF := by
    intro p0 pw
    have px := xn p0.1
    have p40 : x.toNatClampNeg ≤ 40 := by have := tcn x p0.1; grind
    have key : ∀ n, Hid (∀ (i : Nat) (I1 : I2), i + n = x.toNatClampNeg → Th I I1 T (sRn T (cOf I 7) i).1 → V mX6_run none 9 58 (RP RF (fun r I1 J1 => r = sRun T (cOf I 7) x w ∧ J1 = J ∧ Scr I I1)) 55 [(0, .ref 0), (1, .int x), (2, .int w), (3, .int (b2i (0 ≤ w - 10 ∧ w - 10 < I 7 9 ∧ w - 10 < 6))), (4, .int (sRn T (cOf I 7) (i)).2), (5, .int (i32 (i)))] [] 58 I1 J RF) := by
        intro n
        induction n with
        | zero =>
          unfold Hid
          intro i I1 hi hs
          obtain ⟨hN, hM, hn8, hm6⟩ := hs.nm
          obtain ⟨rn, rm⟩ := sRn_nm T (cOf I 7) i
          refine V_go 2 rfl ?_
          refine V_icmp_ge rfl (fun h1 => ?_) (fun h1 => ?_)
          · skip
            refine V_go 1 rfl ?_
            refine V_if_eq rfl (fun h2 => ?_) (fun h2 => ?_)
            · skip
              have hit : ¬ isIt (cOf I 7) (w - 10) := fun h => absurd (b2i_1 ((isIt_ok hC _).mpr h)) (by rw [h2]; decide)
              refine V_go 1 rfl ?_
              refine V_if_ne rfl (fun h3 => ?_) (fun h3 => ?_)
              · skip
                refine V_go 1 rfl ?_
                refine V_iret rfl rfl rfl ?_
                refine RP.mk ⟨?_, rfl, hs.2.2⟩
                unfold sRun
                rw [if_pos ⟨p0, pw⟩, if_neg hit, show x.toNatClampNeg = i from hi.symm]
                first
                  | (rw [if_pos (by assumption), hs.1.cntD _ hs.n8.2, hM, rm]; done)
                  | rw [if_neg (by assumption)]
              · skip
                refine V_go 2 rfl ?_
                refine cVI (mt' := mX0_itemsDone) rfl kX6_167 fX0_itemsDone rfl rfl rfl (Nat.le_of_ble_eq_true rfl) (Nat.le_of_ble_eq_true rfl) (Nat.le_of_ble_eq_true rfl) (Nat.le_of_ble_eq_true rfl) (Nat.le_refl _) (c_itemsDone hs.2.1) ?_
                refine V_go 1 rfl ?_
                refine V_iret rfl rfl rfl ?_
                refine RP.mk ⟨?_, rfl, hs.2.2⟩
                unfold sRun
                rw [if_pos ⟨p0, pw⟩, if_neg hit, show x.toNatClampNeg = i from hi.symm]
                first
                  | (rw [if_pos (by assumption), hs.1.cntD _ hs.n8.2, hM, rm]; done)
                  | rw [if_neg (by assumption)]
            · skip
              have hit : isIt (cOf I 7) (w - 10) := (isIt_ok hC _).mp (b2i_eq1.mp ((b2i_or _).resolve_left h2))
              refine V_go 5 rfl ?_
              refine cVI (mt' := mX0_doneAt) rfl kX6_131 fX0_doneAt rfl rfl rfl (Nat.le_of_ble_eq_true rfl) (Nat.le_of_ble_eq_true rfl) (Nat.le_of_ble_eq_true rfl) (Nat.le_of_ble_eq_true rfl) (Nat.le_refl _) (c_doneAtX hs.2.1 (x := w - 10) ((isIt_ok hs.2.1 _).mpr (by show 0 ≤ w - 10 ∧ w - 10 < cOf I1 15 0 4; rw [hs.1.1 4 (by omega), sRn_0 _ _ _ (by omega)]; exact hit))) ?_
              refine V_iret rfl rfl rfl ?_
              refine RP.mk ⟨?_, rfl, hs.2.2⟩
              unfold sRun
              rw [if_pos ⟨p0, pw⟩, if_pos hit]
              obtain ⟨e1, e2⟩ := isIt_n hit
              rw [show x.toNatClampNeg = i from hi.symm]
              exact hs.1.2.2 6 _ (by omega) (by omega) (by omega)
          · skip
            exfalso
            exact h1 (by rw [← px, show x.toNatClampNeg = i from hi.symm]; exact Int32.le_refl _)
        | succ n ih =>
          unfold Hid
          intro i I1 hi hs
          obtain ⟨hN, hM, hn8, hm6⟩ := hs.nm
          obtain ⟨rn, rm⟩ := sRn_nm T (cOf I 7) i
          refine V_go 2 rfl ?_
          refine V_icmp_ge rfl (fun h1 => ?_) (fun h1 => ?_)
          · skip
            exfalso
            rw [← px] at h1
            exact lp_more (i := i) (N := x.toNatClampNeg) (by omega) (by omega) h1
          · skip
            refine V_go 3 rfl ?_
            refine cVP (mt' := mX0_hold) rfl kX6_170 fX0_hold rfl rfl rfl (Nat.le_of_ble_eq_true rfl) (Nat.le_of_ble_eq_true rfl) (Nat.le_of_ble_eq_true rfl) (Nat.le_of_ble_eq_true rfl) (Nat.le_refl _) (c_hold hs.2.1) ?_
            intro r2 Ir2 Jr2 h2
            obtain ⟨hv, hc2, rfl, hq2⟩ := h2
            refine V_go 4 rfl ?_
            refine V.st (I' := Ir2) (L' := [(0, .ref 0), (1, .int x), (2, .int w), (3, .int (b2i (0 ≤ w - 10 ∧ w - 10 < I 7 9 ∧ w - 10 < 6))), (4, .int (sRn T (cOf I 7) (i + 1)).2), (5, .int (i32 (i + 1)))]) (ih.un (i + 1) Ir2 (by omega) (hs.hold hc2 hq2)) rfl ?_
            rw [i32_s, hv, hs.hold2]
            simp [sRn]
    refine V_go 4 rfl ?_
    refine cVW (mt' := mX0_become) rfl kX6_173 fX0_become rfl rfl rfl (Nat.le_of_ble_eq_true rfl) (Nat.le_of_ble_eq_true rfl) (Nat.le_of_ble_eq_true rfl) (Nat.le_of_ble_eq_true rfl) (Nat.le_refl _) (c_become_15_7) ?_
    intro Ir1 Jr1 h1
    obtain ⟨rfl, hc, hq⟩ := h1
    refine V_go 4 rfl ?_
    exact (key _).un 0 _ (Nat.zero_add _) (Th.bec hC Scr.rf hq hc)
  refine V_go 5 rfl ?_
  refine cVI (mt' := mX0_hasItem) rfl kX6_96 fX0_hasItem rfl rfl rfl (Nat.le_of_ble_eq_true rfl) (Nat.le_of_ble_eq_true rfl) (Nat.le_of_ble_eq_true rfl) (Nat.le_of_ble_eq_true rfl) (Nat.le_refl _) (c_hasItem hC.1) ?_
  refine V_go 2 rfl ?_
  refine V_if_lt rfl (fun h2 => ?_) (fun h2 => ?_)
  · skip
    refine V_go 1 rfl ?_
    refine V_iret rfl rfl rfl ?_
    refine RP.mk ⟨?_, rfl, Scr.rf⟩
    unfold sRun
    refine (if_neg ?_).symm
    rintro ⟨⟨_, _⟩, hh⟩
    first
      | grind
      | exact run_f (by assumption) (by assumption) ((b2i_c (isIt_ok hC _)).symm.trans (by assumption)) hh
  · skip
    refine V_go 2 rfl ?_
    refine V_icmp_gt rfl (fun h3 => ?_) (fun h3 => ?_)
    · skip
      refine V_go 1 rfl ?_
      refine V_iret rfl rfl rfl ?_
      refine RP.mk ⟨?_, rfl, Scr.rf⟩
      unfold sRun
      refine (if_neg ?_).symm
      rintro ⟨⟨_, _⟩, hh⟩
      first
        | grind
        | exact run_f (by assumption) (by assumption) ((b2i_c (isIt_ok hC _)).symm.trans (by assumption)) hh
    · skip
      refine V_go 1 rfl ?_
      refine V_if_eq rfl (fun h4 => ?_) (fun h4 => ?_)
      · skip
        refine k38 ⟨Int32.not_lt.mp (by assumption), Int32.not_lt.mp (by assumption)⟩ ?_
        first
          | (left; assumption)
          | (right; left; assumption)
          | exact Or.inr (Or.inr ((isIt_ok hC _).mp (b2i_eq1.mp ((b2i_or _).resolve_left (by assumption)))))
      · skip
        refine V_go 2 rfl ?_
        refine V_icmp_eq rfl (fun h5 => ?_) (fun h5 => ?_)
        · skip
          refine k38 ⟨Int32.not_lt.mp (by assumption), Int32.not_lt.mp (by assumption)⟩ ?_
          first
            | (left; assumption)
            | (right; left; assumption)
            | exact Or.inr (Or.inr ((isIt_ok hC _).mp (b2i_eq1.mp ((b2i_or _).resolve_left (by assumption)))))
        · skip
          refine V_go 1 rfl ?_
          refine V_if_ne rfl (fun h6 => ?_) (fun h6 => ?_)
          · skip
            refine k38 ⟨Int32.not_lt.mp (by assumption), Int32.not_lt.mp (by assumption)⟩ ?_
            first
              | (left; assumption)
              | (right; left; assumption)
              | exact Or.inr (Or.inr ((isIt_ok hC _).mp (b2i_eq1.mp ((b2i_or _).resolve_left (by assumption)))))
          · skip
            refine V_go 1 rfl ?_
            refine V_iret rfl rfl rfl ?_
            refine RP.mk ⟨?_, rfl, Scr.rf⟩
            unfold sRun
            refine (if_neg ?_).symm
            rintro ⟨⟨_, _⟩, hh⟩
            first
              | grind
              | exact run_f (by assumption) (by assumption) ((b2i_c (isIt_ok hC _)).symm.trans (by assumption)) hh
