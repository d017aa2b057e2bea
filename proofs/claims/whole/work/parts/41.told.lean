section LS
variable {mt : MT} {sc : Option (Nat × (Nat → Int32))} {d nE : Nat} {Q : QT} {pc nx t ci k n : Nat} {c32 : Int32} {c64 : Int64} {L : Lc} {st : List Value} {I : I2} {J : J2} {F : F2}
theorem V_lsw {dflt off : Int} {ps : Array (Int × Int)} {x : Int32} {tgt : Nat} (he : fE mt.2.2.2.2.2.2 pc = some (pc, .lookupswitch dflt ps, nx, t, c32, c64, ci, k)) (hp : (ps.toList.zip (ps.toList.drop 1)).all (fun (a, next) => a.1 < next.1) = true) (ho : Op.lookupswitch.offset ps.toList dflt x.toInt = off) (ht : (pc : Int) + off = (tgt : Int)) (kk : V mt sc d nE Q tgt L st n I J F) : V mt sc d nE Q pc L (.int x :: st) n I J F := by
  intro p l e R s m args below meth c D A n0 ad0 Qf X cA ad H locs ls S
  exact lv_lookup X.1 X.2.1 (rowS_of X.2.2.1 he) hp ho ht (kk p l e R s m args below meth c D A n0 ad0 Qf X cA ad H locs ls S)
theorem V_lswC {dflt off : Int} {ps : Array (Int × Int)} {x v : Int32} {tgt : Nat} (he : fE mt.2.2.2.2.2.2 pc = some (pc, .lookupswitch dflt ps, nx, t, c32, c64, ci, k)) (hp : (ps.toList.zip (ps.toList.drop 1)).all (fun (a, next) => a.1 < next.1) = true) (ho : Op.lookupswitch.offset ps.toList dflt v.toInt = off) (ht : (pc : Int) + off = (tgt : Int)) (k1 : x = v → V mt sc d nE Q tgt L st n I J F) (k2 : ¬ x = v → V mt sc d nE Q pc L (.int x :: st) n I J F) : V mt sc d nE Q pc L (.int x :: st) n I J F := by
  by_cases h : x = v
  · exact V_lsw he hp (by rw [h]; exact ho) ht (k1 h)
  · exact k2 h
end LS
def sToldI (C : CC) (i : Nat) (w : Int32) : Int32 := if w = 8 then C 4 i else if w = 9 then C 5 i else C 6 i
def sToldC (T : TV) (C : CC) (c : Nat) (w : Int32) : Int32 := if w = 2 then C 2 c else if w = 3 then C 3 c else if w = 4 then C 1 c else if w = 5 then sRd T C c (cnt (sLst T C) c) else if w = 6 then sSl T C c (cnt (sLst T C) c) else sTm T C c (cnt (sLst T C) c)
def sTold (T : TV) (C : CC) (x w : Int32) : Int32 := if w = 0 then C 0 0 else if w = 1 then C 0 1 else if (2 ≤ w ∧ w ≤ 7) ∧ isCi C x then sToldC T C x.toNatClampNeg w else if (8 ≤ w ∧ w ≤ 10) ∧ isIt C x then sToldI C x.toNatClampNeg w else -2

theorem c_numberOfX {x : Int32} {o : Nat} {I : I2} {J : J2} {T : TV} (hC : Cok I o T) (hx : 0 ≤ x ∧ x < I o 5 ∧ x < 8) : CT mX0_numberOf 2 58 58 [.ref o, .int x] I J RF (RI RF (I (o + 3) x.toNatClampNeg) I J) := by
  have h := c_numberOf (x := x) (I := I) (J := J) hC.1
  rwa [if_pos hx] at h
theorem c_bribeOfX {x : Int32} {o : Nat} {I : I2} {J : J2} {T : TV} (hC : Cok I o T) (hx : 0 ≤ x ∧ x < I o 5 ∧ x < 8) : CT mX0_bribeOf 2 58 58 [.ref o, .int x] I J RF (RI RF (I (o + 4) x.toNatClampNeg) I J) := by
  have h := c_bribeOf (x := x) (I := I) (J := J) hC.1
  rwa [if_pos hx] at h
theorem c_kindOfX {x : Int32} {o : Nat} {I : I2} {J : J2} {T : TV} (hC : Cok I o T) (hx : 0 ≤ x ∧ x < I o 5 ∧ x < 8) : CT mX0_kindOf 2 58 58 [.ref o, .int x] I J RF (RI RF (I (o + 2) x.toNatClampNeg) I J) := by
  have h := c_kindOf (x := x) (I := I) (J := J) hC.1
  rwa [if_pos hx] at h
theorem c_takesOfX {x : Int32} {o : Nat} {I : I2} {J : J2} {T : TV} (hC : Cok I o T) (hx : 0 ≤ x ∧ x < I o 9 ∧ x < 6) : CT mX0_takesOf 2 58 58 [.ref o, .int x] I J RF (RI RF (I (o + 5) x.toNatClampNeg) I J) := by
  have h := c_takesOf (x := x) (I := I) (J := J) hC.1
  rwa [if_pos hx] at h
theorem c_soFarOfX {x : Int32} {o : Nat} {I : I2} {J : J2} {T : TV} (hC : Cok I o T) (hx : 0 ≤ x ∧ x < I o 9 ∧ x < 6) : CT mX0_soFarOf 2 58 58 [.ref o, .int x] I J RF (RI RF (I (o + 6) x.toNatClampNeg) I J) := by
  have h := c_soFarOf (x := x) (I := I) (J := J) hC.1
  rwa [if_pos hx] at h
theorem c_silenceOfX {x : Int32} {o c m : Nat} {I : I2} {J : J2} {T : TV} (hC : Cok I o T) (e : i32 c = x) (hc : c < nC (cOf I o)) (hm : m < 256) : CT mX0_silenceOf 3 58 58 [.ref o, .int x, .int (i32 m)] I J RF (RP RF (fun r I1 J1 => r = sSl T (cOf I o) c (cnt m c) ∧ J1 = J ∧ Sq o I I1)) := by
  subst e
  exact c_silenceOf hC hc hm
theorem c_timeOfX {x : Int32} {o c m : Nat} {I : I2} {J : J2} {T : TV} (hC : Cok I o T) (e : i32 c = x) (hc : c < nC (cOf I o)) (hm : m < 256) : CT mX0_timeOf 3 58 58 [.ref o, .int x, .int (i32 m)] I J RF (RP RF (fun r I1 J1 => r = sTm T (cOf I o) c (cnt m c) ∧ J1 = J ∧ Sq o I I1)) := by
  subst e
  exact c_timeOf hC hc hm
theorem c_toldOfItem {x w : Int32} {I : I2} {J : J2} {T : TV} (hC : Cok I 7 T) (hx : 0 ≤ x ∧ x < I 7 9 ∧ x < 6) : CT mX6_toldOfItem 3 58 58 [.ref 0, .int x, .int w] I J RF (RI RF (sToldI (cOf I 7) x.toNatClampNeg w) I J) := by
  refine CT_of okX6_toldOfItem (Nat.le_of_ble_eq_true rfl) ?_
  show V _ _ _ _ _ _ [(0, _), (1, _), (2, _)] _ _ _ _ _
  refine V_go 1 rfl ?_
  refine V_lswC (v := 8) (off := 27) (tgt := 28) rfl (by decide) (by decide) (by decide) (fun h1 => ?_) (fun h1 => ?_)
  · skip
    refine V_go 3 rfl ?_
    refine cVI (mt' := mX0_takesOf) rfl kX6_125 fX0_takesOf rfl rfl rfl (Nat.le_of_ble_eq_true rfl) (Nat.le_of_ble_eq_true rfl) (Nat.le_of_ble_eq_true rfl) (Nat.le_of_ble_eq_true rfl) (Nat.le_refl _) (c_takesOfX hC hx) ?_
    refine V_iret rfl rfl rfl ?_
    refine RI.mk ?_
    unfold sToldI
    first
      | (rw [if_pos (by assumption)]; rfl)
      | (rw [if_neg (by assumption), if_pos (by assumption)]; rfl)
      | (rw [if_neg (by assumption), if_neg (by assumption)]; rfl)
  refine V_lswC (v := 9) (off := 36) (tgt := 37) rfl (by decide) (by decide) (by decide) (fun h3 => ?_) (fun h3 => ?_)
  · skip
    refine V_go 3 rfl ?_
    refine cVI (mt' := mX0_soFarOf) rfl kX6_128 fX0_soFarOf rfl rfl rfl (Nat.le_of_ble_eq_true rfl) (Nat.le_of_ble_eq_true rfl) (Nat.le_of_ble_eq_true rfl) (Nat.le_of_ble_eq_true rfl) (Nat.le_refl _) (c_soFarOfX hC hx) ?_
    refine V_iret rfl rfl rfl ?_
    refine RI.mk ?_
    unfold sToldI
    first
      | (rw [if_pos (by assumption)]; rfl)
      | (rw [if_neg (by assumption), if_pos (by assumption)]; rfl)
      | (rw [if_neg (by assumption), if_neg (by assumption)]; rfl)
  refine V_lsw (off := 45) (tgt := 46) rfl (by decide) (by rw [lv_osw h1 (by decide), lv_osw h3 (by decide)]; rfl) (by decide) ?_
  refine V_go 3 rfl ?_
  refine cVI (mt' := mX0_doneAt) rfl kX6_131 fX0_doneAt rfl rfl rfl (Nat.le_of_ble_eq_true rfl) (Nat.le_of_ble_eq_true rfl) (Nat.le_of_ble_eq_true rfl) (Nat.le_of_ble_eq_true rfl) (Nat.le_refl _) (c_doneAtX hC hx) ?_
  refine V_iret rfl rfl rfl ?_
  refine RI.mk ?_
  unfold sToldI
  first
    | (rw [if_pos (by assumption)]; rfl)
    | (rw [if_neg (by assumption), if_pos (by assumption)]; rfl)
    | (rw [if_neg (by assumption), if_neg (by assumption)]; rfl)
theorem c_toldOfCitizen {x w : Int32} {I : I2} {J : J2} {T : TV} (hC : Cok I 7 T) (hx : 0 ≤ x ∧ x < I 7 5 ∧ x < 8) : CT mX6_toldOfCitizen 5 58 58 [.ref 0, .int x, .int w] I J RF (RP RF (fun r I1 J1 => r = sToldC T (cOf I 7) x.toNatClampNeg w ∧ J1 = J ∧ Scr I I1)) := by
  obtain ⟨hN8, hM6⟩ := nC8 hC
  obtain ⟨hev, hp, hp1⟩ := evr hC
  have pm := isCi_n ((isCi_ok hC x).mp hx)
  refine CT_of okX6_toldOfCitizen (Nat.le_of_ble_eq_true rfl) ?_
  show V _ _ _ _ _ _ [(0, _), (1, _), (2, _)] _ _ _ _ _
  refine V_go 1 rfl ?_
  refine V_tswC (v := 2) rfl (by decide) (by decide) rfl (fun h2 => ?_) (fun h2 => ?_)
  · skip
    refine V_go 3 rfl ?_
    refine cVI (mt' := mX0_numberOf) rfl kX6_102 fX0_numberOf rfl rfl rfl (Nat.le_of_ble_eq_true rfl) (Nat.le_of_ble_eq_true rfl) (Nat.le_of_ble_eq_true rfl) (Nat.le_of_ble_eq_true rfl) (Nat.le_refl _) (c_numberOfX hC hx) ?_
    refine V_iret rfl rfl rfl ?_
    exact RP.mk ⟨by unfold sToldC; rw [if_pos (by assumption)]; rfl, rfl, Scr.rf⟩
  refine V_tswC (v := 3) rfl (by decide) (by decide) rfl (fun h4 => ?_) (fun h4 => ?_)
  · skip
    refine V_go 3 rfl ?_
    refine cVI (mt' := mX0_bribeOf) rfl kX6_105 fX0_bribeOf rfl rfl rfl (Nat.le_of_ble_eq_true rfl) (Nat.le_of_ble_eq_true rfl) (Nat.le_of_ble_eq_true rfl) (Nat.le_of_ble_eq_true rfl) (Nat.le_refl _) (c_bribeOfX hC hx) ?_
    refine V_iret rfl rfl rfl ?_
    exact RP.mk ⟨by unfold sToldC; rw [if_neg (by assumption), if_pos (by assumption)]; rfl, rfl, Scr.rf⟩
  refine V_tswC (v := 4) rfl (by decide) (by decide) rfl (fun h6 => ?_) (fun h6 => ?_)
  · skip
    refine V_go 3 rfl ?_
    refine cVI (mt' := mX0_kindOf) rfl kX6_108 fX0_kindOf rfl rfl rfl (Nat.le_of_ble_eq_true rfl) (Nat.le_of_ble_eq_true rfl) (Nat.le_of_ble_eq_true rfl) (Nat.le_of_ble_eq_true rfl) (Nat.le_refl _) (c_kindOfX hC hx) ?_
    refine V_iret rfl rfl rfl ?_
    exact RP.mk ⟨by unfold sToldC; rw [if_neg (by assumption), if_neg (by assumption), if_pos (by assumption)]; rfl, rfl, Scr.rf⟩
  refine V_tswC (v := 5) rfl (by decide) (by decide) rfl (fun h8 => ?_) (fun h8 => ?_)
  · skip
    refine V_go 5 rfl ?_
    refine cVP (mt' := mX0_listed) rfl kX6_111 fX0_listed rfl rfl rfl (Nat.le_of_ble_eq_true rfl) (Nat.le_of_ble_eq_true rfl) (Nat.le_of_ble_eq_true rfl) (Nat.le_of_ble_eq_true rfl) (Nat.le_refl _) (c_listed hC) ?_
    intro r9 Ir9 Jr9 h9
    obtain ⟨rfl, rfl, hq⟩ := h9
    refine cVP (mt' := mX0_isRead) rfl kX6_115 fX0_isRead rfl rfl rfl (Nat.le_of_ble_eq_true rfl) (Nat.le_of_ble_eq_true rfl) (Nat.le_of_ble_eq_true rfl) (Nat.le_of_ble_eq_true rfl) (Nat.le_refl _) (c_isReadX (hC.sq hq) pm.2.symm (by rw [cOf_sq (Or.inl rfl) hq]; exact pm.1) (sLs_256 T _ hN8)) ?_
    intro r10 Ir10 Jr10 h10
    obtain ⟨hv, rfl, hq2⟩ := h10
    rw [cOf_sq (Or.inl rfl) hq] at hv
    refine V_if_eq rfl (fun h11 => ?_) (fun h11 => ?_)
    · skip
      refine V_go 1 rfl ?_
      refine V_iret rfl rfl rfl ?_
      refine RP.mk ⟨?_, rfl, (hq.tr hq2).scr7⟩
      unfold sToldC
      rw [if_neg (by assumption), if_neg (by assumption), if_neg (by assumption), if_pos (by assumption), ← hv]
      rcases (by rw [hv]; exact sKRd_or _ _ _ _ _ : r10 = 0 ∨ r10 = 1) with h | h
      · first
          | exact absurd h (by assumption)
          | exact h.symm
      · first
          | exact h.symm
          | exact absurd (h.symm.trans (show r10 = 0 from by assumption)) (by decide)
    · skip
      refine V_go 2 rfl ?_
      refine V_iret rfl rfl rfl ?_
      refine RP.mk ⟨?_, rfl, (hq.tr hq2).scr7⟩
      unfold sToldC
      rw [if_neg (by assumption), if_neg (by assumption), if_neg (by assumption), if_pos (by assumption), ← hv]
      rcases (by rw [hv]; exact sKRd_or _ _ _ _ _ : r10 = 0 ∨ r10 = 1) with h | h
      · first
          | exact absurd h (by assumption)
          | exact h.symm
      · first
          | exact h.symm
          | exact absurd (h.symm.trans (show r10 = 0 from by assumption)) (by decide)
  refine V_tswC (v := 6) rfl (by decide) (by decide) rfl (fun h12 => ?_) (fun h12 => ?_)
  · skip
    refine V_go 5 rfl ?_
    refine cVP (mt' := mX0_listed) rfl kX6_111 fX0_listed rfl rfl rfl (Nat.le_of_ble_eq_true rfl) (Nat.le_of_ble_eq_true rfl) (Nat.le_of_ble_eq_true rfl) (Nat.le_of_ble_eq_true rfl) (Nat.le_refl _) (c_listed hC) ?_
    intro r13 Ir13 Jr13 h13
    obtain ⟨rfl, rfl, hq⟩ := h13
    refine cVP (mt' := mX0_silenceOf) rfl kX6_119 fX0_silenceOf rfl rfl rfl (Nat.le_of_ble_eq_true rfl) (Nat.le_of_ble_eq_true rfl) (Nat.le_of_ble_eq_true rfl) (Nat.le_of_ble_eq_true rfl) (Nat.le_refl _) (c_silenceOfX (hC.sq hq) pm.2.symm (by rw [cOf_sq (Or.inl rfl) hq]; exact pm.1) (sLs_256 T _ hN8)) ?_
    intro r14 Ir14 Jr14 h14
    obtain ⟨hv, rfl, hq2⟩ := h14
    rw [cOf_sq (Or.inl rfl) hq] at hv
    refine V_iret rfl rfl rfl ?_
    refine RP.mk ⟨?_, rfl, (hq.tr hq2).scr7⟩
    unfold sToldC
    rw [if_neg (by assumption), if_neg (by assumption), if_neg (by assumption), if_neg (by assumption), if_pos (by assumption)]
    exact hv
  refine V_tswD rfl (by decide) (by decide) (t9 := 103) rfl (by have q0 := lv_neT h2 (a := 2) (by decide); have q1 := lv_neT h4 (a := 3) (by decide); have q2 := lv_neT h6 (a := 4) (by decide); have q3 := lv_neT h8 (a := 5) (by decide); have q4 := lv_neT h12 (a := 6) (by decide); omega) ?_
  refine V_go 5 rfl ?_
  refine cVP (mt' := mX0_listed) rfl kX6_111 fX0_listed rfl rfl rfl (Nat.le_of_ble_eq_true rfl) (Nat.le_of_ble_eq_true rfl) (Nat.le_of_ble_eq_true rfl) (Nat.le_of_ble_eq_true rfl) (Nat.le_refl _) (c_listed hC) ?_
  intro r15 Ir15 Jr15 h15
  obtain ⟨rfl, rfl, hq⟩ := h15
  refine cVP (mt' := mX0_timeOf) rfl kX6_122 fX0_timeOf rfl rfl rfl (Nat.le_of_ble_eq_true rfl) (Nat.le_of_ble_eq_true rfl) (Nat.le_of_ble_eq_true rfl) (Nat.le_of_ble_eq_true rfl) (Nat.le_refl _) (c_timeOfX (hC.sq hq) pm.2.symm (by rw [cOf_sq (Or.inl rfl) hq]; exact pm.1) (sLs_256 T _ hN8)) ?_
  intro r16 Ir16 Jr16 h16
  obtain ⟨hv, rfl, hq2⟩ := h16
  rw [cOf_sq (Or.inl rfl) hq] at hv
  refine V_iret rfl rfl rfl ?_
  refine RP.mk ⟨?_, rfl, (hq.tr hq2).scr7⟩
  unfold sToldC
  rw [if_neg (by assumption), if_neg (by assumption), if_neg (by assumption), if_neg (by assumption), if_neg (by assumption)]
  exact hv
theorem c_told {x w : Int32} {I : I2} {J : J2} {T : TV} (hC : Cok I 7 T) : CT mX6_told 6 58 58 [.ref 0, .int x, .int w] I J RF (RP RF (fun r I1 J1 => r = sTold T (cOf I 7) x w ∧ J1 = J ∧ Scr I I1)) := by
  obtain ⟨hN8, hM6⟩ := nC8 hC
  obtain ⟨hev, hp, hp1⟩ := evr hC
  
  refine CT_of okX6_told (Nat.le_of_ble_eq_true rfl) ?_
  show V _ _ _ _ _ _ [(0, _), (1, _), (2, _)] _ _ _ _ _
  refine V_go 1 rfl ?_
  refine V_if_ne rfl (fun h1 => ?_) (fun h1 => ?_)
  · skip
    refine V_go 2 rfl ?_
    refine V_icmp_ne rfl (fun h2 => ?_) (fun h2 => ?_)
    · skip
      refine V_go 2 rfl ?_
      refine V_icmp_lt rfl (fun h3 => ?_) (fun h3 => ?_)
      · skip
        refine V_go 2 rfl ?_
        refine V_icmp_lt rfl (fun h4 => ?_) (fun h4 => ?_)
        · skip
          refine V_go 1 rfl ?_
          refine V_iret rfl rfl rfl ?_
          unfold sTold
          rw [if_neg (show ¬ w = 0 from by assumption), if_neg (show ¬ w = 1 from by assumption), if_neg (fun k => absurd k.1 (by grind)), if_neg (fun k => absurd k.1 (by grind))]
          exact RP.mk ⟨rfl, rfl, Scr.rf⟩
        · skip
          refine V_go 2 rfl ?_
          refine V_icmp_gt rfl (fun h5 => ?_) (fun h5 => ?_)
          · skip
            refine V_go 1 rfl ?_
            refine V_iret rfl rfl rfl ?_
            unfold sTold
            rw [if_neg (show ¬ w = 0 from by assumption), if_neg (show ¬ w = 1 from by assumption), if_neg (fun k => absurd k.1 (by grind)), if_neg (fun k => absurd k.1 (by grind))]
            exact RP.mk ⟨rfl, rfl, Scr.rf⟩
          · skip
            refine V_go 3 rfl ?_
            refine cVI (mt' := mX0_hasItem) rfl kX6_96 fX0_hasItem rfl rfl rfl (Nat.le_of_ble_eq_true rfl) (Nat.le_of_ble_eq_true rfl) (Nat.le_of_ble_eq_true rfl) (Nat.le_of_ble_eq_true rfl) (Nat.le_refl _) (c_hasItem hC.1) ?_
            refine V_if_eq rfl (fun h7 => ?_) (fun h7 => ?_)
            · skip
              refine V_go 1 rfl ?_
              refine V_iret rfl rfl rfl ?_
              unfold sTold
              rw [if_neg (show ¬ w = 0 from by assumption), if_neg (show ¬ w = 1 from by assumption), if_neg (fun k => absurd k.1 (by grind))]
              first
                | exact RP.mk ⟨(if_pos ⟨⟨by grind, by grind⟩, (show isIt (cOf I 7) x from (isIt_ok hC _).mp (b2i_eq1.mp ((b2i_or _).resolve_left (by assumption))))⟩).symm, rfl, Scr.rf⟩
                | exact RP.mk ⟨by rw [if_neg (fun k => absurd (b2i_1 ((isIt_ok hC _).mpr k.2)) (by rw [show b2i _ = 0 from by assumption]; decide))], rfl, Scr.rf⟩
            · skip
              refine V_go 3 rfl ?_
              refine cVI (mt' := mX6_toldOfItem) rfl kX6_99 fX6_toldOfItem rfl rfl rfl (Nat.le_of_ble_eq_true rfl) (Nat.le_of_ble_eq_true rfl) (Nat.le_of_ble_eq_true rfl) (Nat.le_of_ble_eq_true rfl) (Nat.le_refl _) (c_toldOfItem hC (b2i_eq1.mp ((b2i_or _).resolve_left (by assumption)))) ?_
              refine V_go 1 rfl ?_
              refine V_iret rfl rfl rfl ?_
              unfold sTold
              rw [if_neg (show ¬ w = 0 from by assumption), if_neg (show ¬ w = 1 from by assumption), if_neg (fun k => absurd k.1 (by grind))]
              first
                | exact RP.mk ⟨(if_pos ⟨⟨by grind, by grind⟩, (show isIt (cOf I 7) x from (isIt_ok hC _).mp (b2i_eq1.mp ((b2i_or _).resolve_left (by assumption))))⟩).symm, rfl, Scr.rf⟩
                | exact RP.mk ⟨by rw [if_neg (fun k => absurd (b2i_1 ((isIt_ok hC _).mpr k.2)) (by rw [show b2i _ = 0 from by assumption]; decide))], rfl, Scr.rf⟩
      · skip
        refine V_go 2 rfl ?_
        refine V_icmp_gt rfl (fun h9 => ?_) (fun h9 => ?_)
        · skip
          refine V_go 2 rfl ?_
          refine V_icmp_lt rfl (fun h10 => ?_) (fun h10 => ?_)
          · skip
            refine V_go 1 rfl ?_
            refine V_iret rfl rfl rfl ?_
            unfold sTold
            rw [if_neg (show ¬ w = 0 from by assumption), if_neg (show ¬ w = 1 from by assumption), if_neg (fun k => absurd k.1 (by grind)), if_neg (fun k => absurd k.1 (by grind))]
            exact RP.mk ⟨rfl, rfl, Scr.rf⟩
          · skip
            refine V_go 2 rfl ?_
            refine V_icmp_gt rfl (fun h11 => ?_) (fun h11 => ?_)
            · skip
              refine V_go 1 rfl ?_
              refine V_iret rfl rfl rfl ?_
              unfold sTold
              rw [if_neg (show ¬ w = 0 from by assumption), if_neg (show ¬ w = 1 from by assumption), if_neg (fun k => absurd k.1 (by grind)), if_neg (fun k => absurd k.1 (by grind))]
              exact RP.mk ⟨rfl, rfl, Scr.rf⟩
            · skip
              refine V_go 3 rfl ?_
              refine cVI (mt' := mX0_hasItem) rfl kX6_96 fX0_hasItem rfl rfl rfl (Nat.le_of_ble_eq_true rfl) (Nat.le_of_ble_eq_true rfl) (Nat.le_of_ble_eq_true rfl) (Nat.le_of_ble_eq_true rfl) (Nat.le_refl _) (c_hasItem hC.1) ?_
              refine V_if_eq rfl (fun h13 => ?_) (fun h13 => ?_)
              · skip
                refine V_go 1 rfl ?_
                refine V_iret rfl rfl rfl ?_
                unfold sTold
                rw [if_neg (show ¬ w = 0 from by assumption), if_neg (show ¬ w = 1 from by assumption), if_neg (fun k => absurd k.1 (by grind))]
                first
                  | exact RP.mk ⟨(if_pos ⟨⟨by grind, by grind⟩, (show isIt (cOf I 7) x from (isIt_ok hC _).mp (b2i_eq1.mp ((b2i_or _).resolve_left (by assumption))))⟩).symm, rfl, Scr.rf⟩
                  | exact RP.mk ⟨by rw [if_neg (fun k => absurd (b2i_1 ((isIt_ok hC _).mpr k.2)) (by rw [show b2i _ = 0 from by assumption]; decide))], rfl, Scr.rf⟩
              · skip
                refine V_go 3 rfl ?_
                refine cVI (mt' := mX6_toldOfItem) rfl kX6_99 fX6_toldOfItem rfl rfl rfl (Nat.le_of_ble_eq_true rfl) (Nat.le_of_ble_eq_true rfl) (Nat.le_of_ble_eq_true rfl) (Nat.le_of_ble_eq_true rfl) (Nat.le_refl _) (c_toldOfItem hC (b2i_eq1.mp ((b2i_or _).resolve_left (by assumption)))) ?_
                refine V_go 1 rfl ?_
                refine V_iret rfl rfl rfl ?_
                unfold sTold
                rw [if_neg (show ¬ w = 0 from by assumption), if_neg (show ¬ w = 1 from by assumption), if_neg (fun k => absurd k.1 (by grind))]
                first
                  | exact RP.mk ⟨(if_pos ⟨⟨by grind, by grind⟩, (show isIt (cOf I 7) x from (isIt_ok hC _).mp (b2i_eq1.mp ((b2i_or _).resolve_left (by assumption))))⟩).symm, rfl, Scr.rf⟩
                  | exact RP.mk ⟨by rw [if_neg (fun k => absurd (b2i_1 ((isIt_ok hC _).mpr k.2)) (by rw [show b2i _ = 0 from by assumption]; decide))], rfl, Scr.rf⟩
        · skip
          refine V_go 3 rfl ?_
          refine cVI (mt' := mX0_hasCitizen) rfl kX6_90 fX0_hasCitizen rfl rfl rfl (Nat.le_of_ble_eq_true rfl) (Nat.le_of_ble_eq_true rfl) (Nat.le_of_ble_eq_true rfl) (Nat.le_of_ble_eq_true rfl) (Nat.le_refl _) (c_hasCitizen hC.1) ?_
          refine V_if_eq rfl (fun h16 => ?_) (fun h16 => ?_)
          · skip
            refine V_go 1 rfl ?_
            refine V_iret rfl rfl rfl ?_
            unfold sTold
            rw [if_neg (show ¬ w = 0 from by assumption), if_neg (show ¬ w = 1 from by assumption)]
            first
              | exact RP.mk ⟨(if_pos ⟨⟨by grind, by grind⟩, (show isCi (cOf I 7) x from (isCi_ok hC _).mp (b2i_eq1.mp ((b2i_or _).resolve_left (by assumption))))⟩).symm, rfl, hq⟩
              | exact RP.mk ⟨by rw [if_neg (fun k => absurd (b2i_1 ((isCi_ok hC _).mpr k.2)) (by rw [show b2i _ = 0 from by assumption]; decide)), if_neg (fun k => absurd k.1 (by grind))], rfl, Scr.rf⟩
          · skip
            refine V_go 3 rfl ?_
            refine cVP (mt' := mX6_toldOfCitizen) rfl kX6_93 fX6_toldOfCitizen rfl rfl rfl (Nat.le_of_ble_eq_true rfl) (Nat.le_of_ble_eq_true rfl) (Nat.le_of_ble_eq_true rfl) (Nat.le_of_ble_eq_true rfl) (Nat.le_refl _) (c_toldOfCitizen hC (b2i_eq1.mp ((b2i_or _).resolve_left (by assumption)))) ?_
            intro r17 Ir17 Jr17 h17
            obtain ⟨rfl, rfl, hq⟩ := h17
            refine V_go 1 rfl ?_
            refine V_iret rfl rfl rfl ?_
            unfold sTold
            rw [if_neg (show ¬ w = 0 from by assumption), if_neg (show ¬ w = 1 from by assumption)]
            first
              | exact RP.mk ⟨(if_pos ⟨⟨by grind, by grind⟩, (show isCi (cOf I 7) x from (isCi_ok hC _).mp (b2i_eq1.mp ((b2i_or _).resolve_left (by assumption))))⟩).symm, rfl, hq⟩
              | exact RP.mk ⟨by rw [if_neg (fun k => absurd (b2i_1 ((isCi_ok hC _).mpr k.2)) (by rw [show b2i _ = 0 from by assumption]; decide)), if_neg (fun k => absurd k.1 (by grind))], rfl, Scr.rf⟩
    · skip
      refine V_go 3 rfl ?_
      refine V_iret rfl rfl rfl ?_
      exact RP.mk ⟨by unfold sTold; rw [if_neg (by assumption), if_pos (by assumption)]; rfl, rfl, Scr.rf⟩
  · skip
    refine V_go 3 rfl ?_
    refine V_iret rfl rfl rfl ?_
    exact RP.mk ⟨by unfold sTold; rw [if_pos (by assumption)]; rfl, rfl, Scr.rf⟩
