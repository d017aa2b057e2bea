theorem up2_self {α : Type} {f : Nat → Nat → α} {o k : Nat} : up2 f o k (f o k) = f := by
  funext i j
  simp only [up2_rd]
  grind
def sBri (T : TV) (C : CC) (c : Nat) : Nat → Nat → Int32
  | 0, _ => -1
  | n + 1, b => if sRd T (up2 C 3 c (i32 b)) c (cnt (sLst T C) c) = 0 then sBri T C c n (b + 1) else i32 b
def sBribe (T : TV) (C : CC) (x : Int32) : Int32 := if isCi C x then sBri T C x.toNatClampNeg 100 0 else -2

theorem c_bribe {x : Int32} {I : I2} {J : J2} {T : TV} (hC : Cok I 7 T) : CT mX6_bribe 9 58 58 [.ref 0, .int x] I J RF (RP RF (fun r I1 J1 => r = sBribe T (cOf I 7) x ∧ J1 = J ∧ Scr I I1)) := by
  obtain ⟨hN8, hM6⟩ := nC8 hC
  obtain ⟨hev, hp, hp1⟩ := evr hC
  have k14 : isCi (cOf I 7) x → V mX6_bribe none 9 58 (RP RF (fun r I1 J1 => r = sBri T (cOf I 7) x.toNatClampNeg 100 0 ∧ J1 = J ∧ Scr I I1)) 14 [(0, .ref 0), (1, .int x)] [] 58 I J RF := by
    intro pw
    obtain ⟨pm, px0⟩ := isCi_n pw
    have px := px0.symm
    have key : ∀ n, Hid (∀ (i : Nat) (I1 : I2) (v : Int32), i + n = 100 → Th I I1 T (up2 (cOf I 7) 3 x.toNatClampNeg v) → V mX6_bribe none 9 58 (RP RF (fun r I1 J1 => r = sBri T (cOf I 7) x.toNatClampNeg n i ∧ J1 = J ∧ Scr I I1)) 35 [(0, .ref 0), (1, .int x), (2, .int (i32 (sLst T (cOf I 7)))), (3, .int (i32 (i)))] [] 58 I1 J RF) := by
      intro n
      induction n with
      | zero =>
        unfold Hid
        intro i I1 v hi hs
        refine V_go 2 rfl ?_
        refine V_icmp_gt rfl (fun h1 => ?_) (fun h1 => ?_)
        · skip
          refine V_go 1 rfl ?_
          refine V_iret rfl rfl rfl ?_
          exact RP.mk ⟨rfl, rfl, hs.2.2⟩
        · skip
          exfalso
          have h9 : i = 100 := hi
          rw [h9] at h1
          exact h1 (by decide)
      | succ n ih =>
        unfold Hid
        intro i I1 v hi hs
        refine V_go 2 rfl ?_
        refine V_icmp_gt rfl (fun h1 => ?_) (fun h1 => ?_)
        · skip
          exfalso
          exact absurd h1 (lp_more (i := i) (N := 100) (by omega) (by omega) ∘ (fun h => by grind [i32_ti]))
        · skip
          refine V_go 4 rfl ?_
          refine cVV (mt' := mX0_putBribe) rfl kX6_75 fX0_putBribe rfl rfl rfl (Nat.le_of_ble_eq_true rfl) (Nat.le_of_ble_eq_true rfl) (Nat.le_of_ble_eq_true rfl) (Nat.le_of_ble_eq_true rfl) (Nat.le_refl _) (c_putBribeX (Or.inr (Or.inl rfl)) px (hs.lt (c := x.toNatClampNeg) pm).1 (hs.lt (c := x.toNatClampNeg) pm).2) ?_
          have ht2 : Th I (up2 I1 (15 + 4) x.toNatClampNeg (i32 i)) T (up2 (cOf I 7) 3 x.toNatClampNeg (i32 i)) := by
            have h := hs.put (g := 3) (i := x.toNatClampNeg) (v := i32 i) (by omega)
            rw [up2_up2] at h
            exact h
          refine V_go 4 rfl ?_
          refine cVP (mt' := mX0_isRead) rfl kX6_115 fX0_isRead rfl rfl rfl (Nat.le_of_ble_eq_true rfl) (Nat.le_of_ble_eq_true rfl) (Nat.le_of_ble_eq_true rfl) (Nat.le_of_ble_eq_true rfl) (Nat.le_refl _) (c_isReadX ht2.2.1 px (by rw [ht2.nm.1]; exact pm) (sLs_256 T _ hN8)) ?_
          intro r3 Ir3 Jr3 h3
          obtain ⟨hv, rfl, hq2⟩ := h3
          have ht3 := ht2.sq hq2
          rw [ht2.1.sRd (by omega)] at hv
          subst hv
          refine V_if_eq rfl (fun h4 => ?_) (fun h4 => ?_)
          · skip
            refine V_go 2 rfl ?_
            rw [show sBri T (cOf I 7) x.toNatClampNeg (n + 1) i = sBri T (cOf I 7) x.toNatClampNeg n (i + 1) from by rw [sBri, if_pos (by assumption)]]
            refine V.st (I' := Ir3) (L' := [(0, .ref 0), (1, .int x), (2, .int (i32 (sLst T (cOf I 7)))), (3, .int (i32 (i + 1)))]) (ih.un (i + 1) Ir3 (i32 i) (by omega) ht3) rfl ?_
            rw [i32_s]
            simp
          · skip
            refine V_go 1 rfl ?_
            refine V_iret rfl rfl rfl ?_
            refine RP.mk ⟨?_, rfl, ht3.2.2⟩
            rw [sBri, if_neg (by assumption)]
    refine V_go 2 rfl ?_
    refine cVP (mt' := mX0_listed) rfl kX6_111 fX0_listed rfl rfl rfl (Nat.le_of_ble_eq_true rfl) (Nat.le_of_ble_eq_true rfl) (Nat.le_of_ble_eq_true rfl) (Nat.le_of_ble_eq_true rfl) (Nat.le_refl _) (c_listed hC) ?_
    intro r1 Ir1 Jr1 h1
    obtain ⟨rfl, rfl, hq1⟩ := h1
    refine V_go 5 rfl ?_
    refine cVW (mt' := mX0_become) rfl kX6_173 fX0_become rfl rfl rfl (Nat.le_of_ble_eq_true rfl) (Nat.le_of_ble_eq_true rfl) (Nat.le_of_ble_eq_true rfl) (Nat.le_of_ble_eq_true rfl) (Nat.le_refl _) (c_become_15_7) ?_
    intro Ir2 Jr2 h2
    obtain ⟨rfl, hc, hq⟩ := h2
    have ht := Th.bec2 hC hq1.scr7 hq hc
    refine V_go 2 rfl ?_
    exact (key 100).un 0 _ (cOf I 7 3 x.toNatClampNeg) rfl (by rw [up2_self]; exact ht)
  refine CT_of okX6_bribe (Nat.le_of_ble_eq_true rfl) ?_
  show V _ _ _ _ _ _ [(0, _), (1, _)] _ _ _ _ _
  refine V_go 3 rfl ?_
  refine cVI (mt' := mX0_hasCitizen) rfl kX6_90 fX0_hasCitizen rfl rfl rfl (Nat.le_of_ble_eq_true rfl) (Nat.le_of_ble_eq_true rfl) (Nat.le_of_ble_eq_true rfl) (Nat.le_of_ble_eq_true rfl) (Nat.le_refl _) (c_hasCitizen hC.1) ?_
  refine V_if_ne rfl (fun h2 => ?_) (fun h2 => ?_)
  · skip
    have hh := (isCi_ok hC _).mp (b2i_eq1.mp ((b2i_or _).resolve_left (show ¬ b2i _ = 0 from by assumption)))
    rw [show sBribe T (cOf I 7) x = sBri T (cOf I 7) x.toNatClampNeg 100 0 from if_pos hh]
    exact k14 hh
  · skip
    refine V_go 1 rfl ?_
    refine V_iret rfl rfl rfl ?_
    refine RP.mk ⟨?_, rfl, Scr.rf⟩
    unfold sBribe
    exact (if_neg (fun k1 => absurd (b2i_1 ((isCi_ok hC _).mpr k1)) (by rw [show b2i _ = 0 from by assumption]; decide))).symm
theorem cq_rest {C C' : CC} (h : Cq 8 6 C C') (hm : mC C ≤ 6) {i : Nat} : sRest C i = sRest C' i := by
  unfold sRest
  rw [← h.mC]
  split
  · rw [h.2.2 4 i (by omega) (by omega) (by omega), h.2.2 5 i (by omega) (by omega) (by omega)]
  · rfl
theorem cq_wait {C C' : CC} (h : Cq 8 6 C C') (hm : mC C ≤ 6) : ∀ i, sWait C i = sWait C' i
  | 0 => rfl
  | i + 1 => by
    rw [sWait, sWait, cq_rest h hm, cq_wait h hm i]
theorem cq_mt {T : TV} {C C' : CC} (h : Cq 8 6 C C') (hn : nC C ≤ 8) : ∀ i, sMt T C i = sMt T C' i
  | 0 => rfl
  | i + 1 => by
    rw [sMt, sMt, cq_mt h hn i, h.1 0 (by omega), (Cq.up h).sLeft (show nC (up2 C 0 0 _) ≤ 8 from hn)]
theorem cq_ord {T : TV} {C C' : CC} (h : Cq 8 6 C C') (hn : nC C ≤ 8) (hm : mC C ≤ 6) : sOrd T C = sOrd T C' := by
  unfold sOrd
  rw [cq_wait h hm, h.1 0 (by omega)]
  exact tryS_congr (fun i _ => cq_rest h hm) (fun t _ => cq_mt h hn _) _ _ _ _ _ _
def sOrder (T : TV) (C : CC) (w : Int32) : Int32 := if w = 0 ∨ w = 1 then (if w = 0 then (sOrd T C).2 else (sOrd T C).1) else -2

theorem c_order {w : Int32} {I : I2} {J : J2} {T : TV} (hC : Cok I 7 T) : CT mX6_order 12 58 58 [.ref 0, .int w] I J RF (RP RF (fun r I1 J1 => r = sOrder T (cOf I 7) w ∧ J1 = J ∧ Scr I I1)) := by
  obtain ⟨hN8, hM6⟩ := nC8 hC
  obtain ⟨hev, hp, hp1⟩ := evr hC
  
  refine CT_of okX6_order (Nat.le_of_ble_eq_true rfl) ?_
  show V _ _ _ _ _ _ [(0, _), (1, _)] _ _ _ _ _
  refine V_go 1 rfl ?_
  refine V_if_eq rfl (fun h1 => ?_) (fun h1 => ?_)
  · skip
    refine V_go 4 rfl ?_
    refine cVW (mt' := mX0_become) rfl kX6_173 fX0_become rfl rfl rfl (Nat.le_of_ble_eq_true rfl) (Nat.le_of_ble_eq_true rfl) (Nat.le_of_ble_eq_true rfl) (Nat.le_of_ble_eq_true rfl) (Nat.le_refl _) (c_become_15_7) ?_
    intro Ir2 Jr2 h2
    obtain ⟨rfl, hc, hq⟩ := h2
    have ht := Th.bec hC Scr.rf hq hc
    refine V_go 4 rfl ?_
    refine cVW (mt' := mX2_weigh) rfl kX6_183 fX2_weigh rfl rfl rfl (Nat.le_of_ble_eq_true rfl) (Nat.le_of_ble_eq_true rfl) (Nat.le_of_ble_eq_true rfl) (Nat.le_of_ble_eq_true rfl) (Nat.le_refl _) (c_weigh ht.2.1) ?_
    intro Ir3 Jr3 h3
    obtain ⟨rfl, k4, k3, hq2⟩ := h3
    rw [cq_ord ht.1 ht.n8.1 ht.n8.2] at k4 k3
    refine V_go 1 rfl ?_
    refine V_if_ne rfl (fun h4 => ?_) (fun h4 => ?_)
    · skip
      refine V_go 3 rfl ?_
      refine V_iret rfl rfl rfl ?_
      unfold sOrder
      first
        | contradiction
        | exact RP.mk ⟨(if_neg (fun h => by rcases h with h | h <;> contradiction)).symm, rfl, Scr.rf⟩
        | exact RP.mk ⟨by rw [if_pos (Or.inl (by assumption)), if_pos (by assumption)]; exact k3, rfl, ht.2.2.tr hq2.scr⟩
        | exact RP.mk ⟨by rw [if_pos (Or.inr (by assumption)), if_neg (by assumption)]; exact k4, rfl, ht.2.2.tr hq2.scr⟩
    · skip
      refine V_go 4 rfl ?_
      refine V_iret rfl rfl rfl ?_
      unfold sOrder
      first
        | contradiction
        | exact RP.mk ⟨(if_neg (fun h => by rcases h with h | h <;> contradiction)).symm, rfl, Scr.rf⟩
        | exact RP.mk ⟨by rw [if_pos (Or.inl (by assumption)), if_pos (by assumption)]; exact k3, rfl, ht.2.2.tr hq2.scr⟩
        | exact RP.mk ⟨by rw [if_pos (Or.inr (by assumption)), if_neg (by assumption)]; exact k4, rfl, ht.2.2.tr hq2.scr⟩
  · skip
    refine V_go 2 rfl ?_
    refine V_icmp_eq rfl (fun h5 => ?_) (fun h5 => ?_)
    · skip
      refine V_go 4 rfl ?_
      refine cVW (mt' := mX0_become) rfl kX6_173 fX0_become rfl rfl rfl (Nat.le_of_ble_eq_true rfl) (Nat.le_of_ble_eq_true rfl) (Nat.le_of_ble_eq_true rfl) (Nat.le_of_ble_eq_true rfl) (Nat.le_refl _) (c_become_15_7) ?_
      intro Ir6 Jr6 h6
      obtain ⟨rfl, hc, hq⟩ := h6
      have ht := Th.bec hC Scr.rf hq hc
      refine V_go 4 rfl ?_
      refine cVW (mt' := mX2_weigh) rfl kX6_183 fX2_weigh rfl rfl rfl (Nat.le_of_ble_eq_true rfl) (Nat.le_of_ble_eq_true rfl) (Nat.le_of_ble_eq_true rfl) (Nat.le_of_ble_eq_true rfl) (Nat.le_refl _) (c_weigh ht.2.1) ?_
      intro Ir7 Jr7 h7
      obtain ⟨rfl, k4, k3, hq2⟩ := h7
      rw [cq_ord ht.1 ht.n8.1 ht.n8.2] at k4 k3
      refine V_go 1 rfl ?_
      refine V_if_ne rfl (fun h8 => ?_) (fun h8 => ?_)
      · skip
        refine V_go 3 rfl ?_
        refine V_iret rfl rfl rfl ?_
        unfold sOrder
        first
          | contradiction
          | exact RP.mk ⟨(if_neg (fun h => by rcases h with h | h <;> contradiction)).symm, rfl, Scr.rf⟩
          | exact RP.mk ⟨by rw [if_pos (Or.inl (by assumption)), if_pos (by assumption)]; exact k3, rfl, ht.2.2.tr hq2.scr⟩
          | exact RP.mk ⟨by rw [if_pos (Or.inr (by assumption)), if_neg (by assumption)]; exact k4, rfl, ht.2.2.tr hq2.scr⟩
      · skip
        refine V_go 4 rfl ?_
        refine V_iret rfl rfl rfl ?_
        unfold sOrder
        first
          | contradiction
          | exact RP.mk ⟨(if_neg (fun h => by rcases h with h | h <;> contradiction)).symm, rfl, Scr.rf⟩
          | exact RP.mk ⟨by rw [if_pos (Or.inl (by assumption)), if_pos (by assumption)]; exact k3, rfl, ht.2.2.tr hq2.scr⟩
          | exact RP.mk ⟨by rw [if_pos (Or.inr (by assumption)), if_neg (by assumption)]; exact k4, rfl, ht.2.2.tr hq2.scr⟩
    · skip
      refine V_go 1 rfl ?_
      refine V_iret rfl rfl rfl ?_
      unfold sOrder
      first
        | contradiction
        | exact RP.mk ⟨(if_neg (fun h => by rcases h with h | h <;> contradiction)).symm, rfl, Scr.rf⟩
        | exact RP.mk ⟨by rw [if_pos (Or.inl (by assumption)), if_pos (by assumption)]; exact k3, rfl, ht.2.2.tr hq2.scr⟩
        | exact RP.mk ⟨by rw [if_pos (Or.inr (by assumption)), if_neg (by assumption)]; exact k4, rfl, ht.2.2.tr hq2.scr⟩
def sDz (z0 : Int32) : Nat → Int32
  | 0 => z0
  | i + 1 => sDz z0 i * 1103515245 + 12345
def sDv (z : Int32) : Int32 := iushrV z 9 - iushrV z 9 / 100 * 100
theorem sDr_cl (C : CC) (z : Int32) : ∀ i, sDr C z i = (fun g j => if g = 3 ∧ j < i then sDv (sDz z (j + 1)) else C g j, sDz z i)
  | 0 => by
    rw [sDr]
    refine Prod.ext ?_ rfl
    funext g j
    simp
  | i + 1 => by
    rw [sDr, sDr_cl C z i]
    refine Prod.ext ?_ rfl
    funext g j
    simp only [up2_rd]
    by_cases hg : g = 3
    · by_cases hj : j = i
      · subst hj
        rw [if_pos hg, if_pos rfl, if_pos ⟨hg, by omega⟩]
        rfl
      · rw [if_pos hg, if_neg hj]
        by_cases h : j < i
        · rw [if_pos ⟨hg, h⟩, if_pos ⟨hg, by omega⟩]
        · rw [if_neg (fun k => h k.2), if_neg (fun k => h (by omega))]
    · rw [if_neg hg, if_neg (fun k => hg k.1), if_neg (fun k => hg k.1)]
theorem sDr_2 (C : CC) (z z' : Int32) (i : Nat) : (sDr (sDr C z i).1 z' i).1 = (sDr C z' i).1 := by
  rw [sDr_cl, sDr_cl, sDr_cl]
  funext g j
  simp only
  grind
theorem sDr_nm (C : CC) (z : Int32) (i : Nat) : nC (sDr C z i).1 = nC C ∧ mC (sDr C z i).1 = mC C := by
  unfold nC mC
  rw [sDr_0]
  exact ⟨rfl, rfl⟩
theorem cq_dr {n m : Nat} {C C' : CC} (h : Cq n m C C') (z : Int32) (i : Nat) : Cq n m (sDr C z i).1 (sDr C' z i).1 := by
  rw [sDr_cl, sDr_cl]
  refine ⟨fun k hk => ?_, fun a k h1 h2 h3 => ?_, fun a k h1 h2 h3 => ?_⟩
  · simp only []
    rw [if_neg (by omega), if_neg (by omega)]
    exact h.1 k hk
  · simp only []
    split
    · rfl
    · exact h.2.1 a k h1 h2 h3
  · simp only []
    rw [if_neg (by omega), if_neg (by omega)]
    exact h.2.2 a k h1 h2 h3
theorem Th.draw {I I1 I9 : I2} {T : TV} {C : CC} {z : Int32} (h : Th I I1 T C) (e : cOf I9 15 = (sDr (cOf I1 15) z (nC (cOf I1 15))).1) (q : Fr 15 I1 I9) : Th I I9 T (sDr C z (nC C)).1 := by
  refine ⟨?_, h.2.1.frq q ?_, h.2.2.tr q.scr15⟩
  · rw [e, h.1.nC]
    exact cq_dr h.1 z _
  · intro j _
    rw [e, sDr_0]
def sDrawn (T : TV) (C : CC) (z : Int32) : Int32 := i32 (cnt (sLst T (sDr C z (nC C)).1) 8)

theorem c_drawn {z : Int32} {I : I2} {J : J2} {T : TV} (hC : Cok I 7 T) : CT mX6_drawn 9 58 58 [.ref 0, .int z] I J RF (RP RF (fun r I1 J1 => r = sDrawn T (cOf I 7) z ∧ J1 = J ∧ Scr I I1)) := by
  obtain ⟨hN8, hM6⟩ := nC8 hC
  obtain ⟨hev, hp, hp1⟩ := evr hC
  
  refine CT_of okX6_drawn (Nat.le_of_ble_eq_true rfl) ?_
  show V _ _ _ _ _ _ [(0, _), (1, _)] _ _ _ _ _
  refine V_go 4 rfl ?_
  refine cVW (mt' := mX0_become) rfl kX6_173 fX0_become rfl rfl rfl (Nat.le_of_ble_eq_true rfl) (Nat.le_of_ble_eq_true rfl) (Nat.le_of_ble_eq_true rfl) (Nat.le_of_ble_eq_true rfl) (Nat.le_refl _) (c_become_15_7) ?_
  intro Ir1 Jr1 h1
  obtain ⟨rfl, hc, hq⟩ := h1
  have ht := Th.bec hC Scr.rf hq hc
  refine V_go 3 rfl ?_
  refine cVW (mt' := mX0_drawBribes) rfl kX6_243 fX0_drawBribes rfl rfl rfl (Nat.le_of_ble_eq_true rfl) (Nat.le_of_ble_eq_true rfl) (Nat.le_of_ble_eq_true rfl) (Nat.le_of_ble_eq_true rfl) (Nat.le_refl _) (c_drawBribes ht.2.1) ?_
  intro Ir2 Jr2 h2
  obtain ⟨hd, rfl, hq2⟩ := h2
  have ht2 := ht.draw hd hq2
  refine V_go 2 rfl ?_
  refine cVP (mt' := mX0_listed) rfl kX6_111 fX0_listed rfl rfl rfl (Nat.le_of_ble_eq_true rfl) (Nat.le_of_ble_eq_true rfl) (Nat.le_of_ble_eq_true rfl) (Nat.le_of_ble_eq_true rfl) (Nat.le_refl _) (c_listed ht2.2.1) ?_
  intro r3 Ir3 Jr3 h3
  obtain ⟨hv, rfl, hq3⟩ := h3
  rw [ht2.ls] at hv
  subst hv
  refine cSI (mt' := mJ6_bitCount_0f7a4) rfl kX6_150 fJ6_bitCount_0f7a4 rfl (Nat.le_of_ble_eq_true rfl) (Nat.le_of_ble_eq_true rfl) (Nat.le_refl _) (c_bitCount) ?_
  refine V_iret rfl rfl rfl ?_
  exact RP.mk ⟨bitc_all _ (sLs_256 T _ (by rw [(sDr_nm _ _ _).1]; exact hN8)), rfl, (ht2.sq hq3).2.2⟩
