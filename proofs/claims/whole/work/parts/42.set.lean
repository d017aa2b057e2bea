/-- but for what is worked with, and the council -/
def Sc2 (I I1 : I2) : Prop := ∀ a, a ≠ 4 → (a < 7 ∨ 23 ≤ a) → a ≠ 31 → a ≠ 32 → a ≠ 33 → I1 a = I a
theorem Scr.sc2 {I I1 : I2} (h : Scr I I1) : Sc2 I I1 := fun a h1 h2 h3 h4 h5 => h a h1 (by omega) (by omega) h3 h4 h5
theorem Fr.sc2 {I I1 : I2} (h : Fr 7 I I1) : Sc2 I I1 := fun a h1 h2 _ _ _ => h a h1 (by omega)
theorem Sc2.tr {I I1 I9 : I2} (h : Sc2 I I1) (h' : Sc2 I1 I9) : Sc2 I I9 := fun a h1 h2 h3 h4 h5 => (h' a h1 h2 h3 h4 h5).trans (h a h1 h2 h3 h4 h5)
theorem Sc2.rf {I : I2} : Sc2 I I := fun _ _ _ _ _ _ => rfl
theorem lt_i32 {a b : Nat} (h : a < b) (hb : b < 1000) : i32 a < i32 b := by
  rw [Int32.lt_iff_toInt_lt, Int32.toInt_ofNat_of_lt (by omega), Int32.toInt_ofNat_of_lt (by omega)]
  omega
theorem w03 {w : Int32} (h1 : ¬ w < 0) (h2 : ¬ 3 < w) : 0 ≤ w ∧ w ≤ 3 := ⟨Int32.not_lt.mp h1, Int32.not_lt.mp h2⟩
def sHi (w : Int32) : Int32 := if w = 0 then 999 else if w = 1 then 600 else if w = 2 then 9 else 99
def isSet (T : TV) (C : CC) (w x v : Int32) : Prop := (0 ≤ w ∧ w ≤ 3) ∧ ¬ sTold T C x w = -2 ∧ 0 ≤ v ∧ v ≤ sHi w
def sPut (C : CC) (w x v : Int32) : CC := if w = 0 then up2 C 0 0 v else if w = 1 then up2 C 0 1 v else if w = 2 then up2 C 2 x.toNatClampNeg v else up2 C 3 x.toNatClampNeg v
theorem told_ci {T : TV} {C : CC} {x w : Int32} (h0 : ¬ w = 0) (h1 : ¬ w = 1) (h3 : w ≤ 3) (h : ¬ sTold T C x w = -2) : isCi C x := by
  refine Decidable.byContradiction (fun k => h ?_)
  unfold sTold
  rw [if_neg h0, if_neg h1, if_neg (fun q => k q.2), if_neg (fun q => absurd q.1.1 (Int32.not_le.mpr (Int32.lt_of_le_of_lt h3 (by decide))))]

theorem c_highest {w : Int32} {I : I2} {J : J2} : CT mX6_highest 1 58 58 [.int w] I J RF (RI RF (sHi w) I J) := by
  refine CT_of okX6_highest (Nat.le_of_ble_eq_true rfl) ?_
  show V _ _ _ _ _ _ [(0, _)] _ _ _ _ _
  refine V_go 1 rfl ?_
  refine V_tswC (v := 0) rfl (by decide) (by decide) rfl (fun h2 => ?_) (fun h2 => ?_)
  · skip
    refine V_go 1 rfl ?_
    refine V_iret rfl rfl rfl ?_
    refine RI.mk ?_
    unfold sHi
    first
      | (rw [if_pos (by assumption)]; done)
      | (rw [if_neg (by assumption), if_pos (by assumption)]; done)
      | (rw [if_neg (by assumption), if_neg (by assumption), if_pos (by assumption)]; done)
      | (rw [if_neg (by assumption), if_neg (by assumption), if_neg (by assumption)]; done)
  refine V_tswC (v := 1) rfl (by decide) (by decide) rfl (fun h3 => ?_) (fun h3 => ?_)
  · skip
    refine V_go 1 rfl ?_
    refine V_iret rfl rfl rfl ?_
    refine RI.mk ?_
    unfold sHi
    first
      | (rw [if_pos (by assumption)]; done)
      | (rw [if_neg (by assumption), if_pos (by assumption)]; done)
      | (rw [if_neg (by assumption), if_neg (by assumption), if_pos (by assumption)]; done)
      | (rw [if_neg (by assumption), if_neg (by assumption), if_neg (by assumption)]; done)
  refine V_tswC (v := 2) rfl (by decide) (by decide) rfl (fun h4 => ?_) (fun h4 => ?_)
  · skip
    refine V_go 1 rfl ?_
    refine V_iret rfl rfl rfl ?_
    refine RI.mk ?_
    unfold sHi
    first
      | (rw [if_pos (by assumption)]; done)
      | (rw [if_neg (by assumption), if_pos (by assumption)]; done)
      | (rw [if_neg (by assumption), if_neg (by assumption), if_pos (by assumption)]; done)
      | (rw [if_neg (by assumption), if_neg (by assumption), if_neg (by assumption)]; done)
  refine V_tswD rfl (by decide) (by decide) (t9 := 39) rfl (by have q0 := lv_neT h2 (a := 0) (by decide); have q1 := lv_neT h3 (a := 1) (by decide); have q2 := lv_neT h4 (a := 2) (by decide); omega) ?_
  refine V_go 1 rfl ?_
  refine V_iret rfl rfl rfl ?_
  refine RI.mk ?_
  unfold sHi
  first
    | (rw [if_pos (by assumption)]; done)
    | (rw [if_neg (by assumption), if_pos (by assumption)]; done)
    | (rw [if_neg (by assumption), if_neg (by assumption), if_pos (by assumption)]; done)
    | (rw [if_neg (by assumption), if_neg (by assumption), if_neg (by assumption)]; done)
theorem c_set {w x v : Int32} {I : I2} {J : J2} {T : TV} (hC : Cok I 7 T) : CT mX6_set 7 58 58 [.ref 0, .int w, .int x, .int v] I J RF (RP RF (fun r I1 J1 => J1 = J ∧ Sc2 I I1 ∧ ((isSet T (cOf I 7) w x v ∧ r = sTold T (cOf I 7) x w ∧ cOf I1 7 = sPut (cOf I 7) w x v) ∨ (¬ isSet T (cOf I 7) w x v ∧ r = -2 ∧ cOf I1 7 = cOf I 7)))) := by
  obtain ⟨hN8, -⟩ := nC8 hC
  refine CT_of okX6_set (Nat.le_of_ble_eq_true rfl) ?_
  show V _ _ _ _ _ _ [(0, _), (1, _), (2, _), (3, _)] _ _ _ _ _
  refine V_go 1 rfl ?_
  refine V_if_lt rfl (fun h1 => ?_) (fun h1 => ?_)
  · skip
    refine V_go 4 rfl ?_
    refine V_icmp_eq rfl (fun k => ?_) (fun k => absurd rfl k)
    refine V_go 1 rfl ?_
    refine V_iret rfl rfl rfl ?_
    exact RP.mk ⟨rfl, Sc2.rf, Or.inr ⟨fun h => absurd h.1 (fun k => by first | exact absurd k.1 (Int32.not_le.mpr (by assumption)) | exact absurd k.2 (Int32.not_le.mpr (by assumption))), rfl, rfl⟩⟩
  · skip
    refine V_go 2 rfl ?_
    refine V_icmp_gt rfl (fun h2 => ?_) (fun h2 => ?_)
    · skip
      refine V_go 4 rfl ?_
      refine V_icmp_eq rfl (fun k => ?_) (fun k => absurd rfl k)
      refine V_go 1 rfl ?_
      refine V_iret rfl rfl rfl ?_
      exact RP.mk ⟨rfl, Sc2.rf, Or.inr ⟨fun h => absurd h.1 (fun k => by first | exact absurd k.1 (Int32.not_le.mpr (by assumption)) | exact absurd k.2 (Int32.not_le.mpr (by assumption))), rfl, rfl⟩⟩
    · skip
      refine V_go 3 rfl ?_
      refine cVP (mt' := mX6_told) rfl kX6_56 fX6_told rfl rfl rfl (Nat.le_of_ble_eq_true rfl) (Nat.le_of_ble_eq_true rfl) (Nat.le_of_ble_eq_true rfl) (Nat.le_of_ble_eq_true rfl) (Nat.le_refl _) (c_told hC) ?_
      intro r3 Ir3 Jr3 h3
      obtain ⟨hv, rfl, hq⟩ := h3
      refine V_go 4 rfl ?_
      refine V_icmp_eq rfl (fun h4 => ?_) (fun h4 => ?_)
      · skip
        refine V_go 1 rfl ?_
        refine V_iret rfl rfl rfl ?_
        first
          | exact RP.mk ⟨rfl, Sc2.rf, Or.inr ⟨fun h => absurd h.1 (fun k => by first | exact absurd k.1 (Int32.not_le.mpr (by assumption)) | exact absurd k.2 (Int32.not_le.mpr (by assumption))), rfl, rfl⟩⟩
          | exact RP.mk ⟨rfl, hq.sc2, Or.inr ⟨fun h => absurd (hv.symm.trans (show r3 = -2 from by assumption)) h.2.1, rfl, cOf_scr hq⟩⟩
          | exact RP.mk ⟨rfl, hq.sc2, Or.inr ⟨fun h => absurd h.2.2 (fun k => by first | exact absurd k.1 (Int32.not_le.mpr (by assumption)) | exact absurd k.2 (by assumption) | exact absurd k.2 (Int32.not_le.mpr (by assumption))), rfl, cOf_scr hq⟩⟩
      · skip
        refine V_go 1 rfl ?_
        refine V_if_lt rfl (fun h5 => ?_) (fun h5 => ?_)
        · skip
          refine V_go 1 rfl ?_
          refine V_iret rfl rfl rfl ?_
          first
            | exact RP.mk ⟨rfl, Sc2.rf, Or.inr ⟨fun h => absurd h.1 (fun k => by first | exact absurd k.1 (Int32.not_le.mpr (by assumption)) | exact absurd k.2 (Int32.not_le.mpr (by assumption))), rfl, rfl⟩⟩
            | exact RP.mk ⟨rfl, hq.sc2, Or.inr ⟨fun h => absurd (hv.symm.trans (show r3 = -2 from by assumption)) h.2.1, rfl, cOf_scr hq⟩⟩
            | exact RP.mk ⟨rfl, hq.sc2, Or.inr ⟨fun h => absurd h.2.2 (fun k => by first | exact absurd k.1 (Int32.not_le.mpr (by assumption)) | exact absurd k.2 (by assumption) | exact absurd k.2 (Int32.not_le.mpr (by assumption))), rfl, cOf_scr hq⟩⟩
        · skip
          refine V_go 2 rfl ?_
          refine cSI (mt' := mX6_highest) rfl kX6_60 fX6_highest rfl (Nat.le_of_ble_eq_true rfl) (Nat.le_of_ble_eq_true rfl) (Nat.le_refl _) (c_highest) ?_
          refine V_icmp_le rfl (fun h7 => ?_) (fun h7 => ?_)
          · skip
            refine V_go 1 rfl ?_
            refine V_tswC (v := 0) rfl (by decide) (by decide) rfl (fun h9 => ?_) (fun h9 => ?_)
            · skip
              refine V_go 6 rfl ?_
              refine V_iret rfl rfl rfl ?_
              have hset : isSet T (cOf I 7) w x v := ⟨⟨Int32.not_lt.mp (by assumption), Int32.not_lt.mp (by assumption)⟩, fun h => absurd (hv.trans h) (by assumption), Int32.not_lt.mp (by assumption), by assumption⟩
              refine RP.mk ⟨rfl, ?_, Or.inl ⟨hset, hv, ?_⟩⟩
              · first
                  | exact hq.sc2.tr (Fr.up (o := 7) (by omega)).sc2
                done
              · rw [← cOf_scr hq]
                unfold sPut
                first
                  | (rw [if_pos (show w = 0 from by assumption)]; exact cOf_fld (o := 7) (f := 2) (by omega))
                  | (rw [if_neg (show ¬ w = 0 from by assumption), if_pos (show w = 1 from by assumption)]; exact cOf_fld (o := 7) (f := 3) (by omega))
                  | (rw [if_neg (show ¬ w = 0 from by assumption), if_neg (show ¬ w = 1 from by assumption), if_pos (show w = 2 from by assumption)]; exact cOf_row (o := 7) (g := 2) (by omega) (by omega))
                  | (rw [if_neg (show ¬ w = 0 from by assumption), if_neg (show ¬ w = 1 from by assumption), if_neg (show ¬ w = 2 from by assumption)]; exact cOf_row (o := 7) (g := 3) (by omega) (by omega))
            refine V_tswC (v := 1) rfl (by decide) (by decide) rfl (fun h10 => ?_) (fun h10 => ?_)
            · skip
              refine V_go 6 rfl ?_
              refine V_iret rfl rfl rfl ?_
              have hset : isSet T (cOf I 7) w x v := ⟨⟨Int32.not_lt.mp (by assumption), Int32.not_lt.mp (by assumption)⟩, fun h => absurd (hv.trans h) (by assumption), Int32.not_lt.mp (by assumption), by assumption⟩
              refine RP.mk ⟨rfl, ?_, Or.inl ⟨hset, hv, ?_⟩⟩
              · first
                  | exact hq.sc2.tr (Fr.up (o := 7) (by omega)).sc2
                done
              · rw [← cOf_scr hq]
                unfold sPut
                first
                  | (rw [if_pos (show w = 0 from by assumption)]; exact cOf_fld (o := 7) (f := 2) (by omega))
                  | (rw [if_neg (show ¬ w = 0 from by assumption), if_pos (show w = 1 from by assumption)]; exact cOf_fld (o := 7) (f := 3) (by omega))
                  | (rw [if_neg (show ¬ w = 0 from by assumption), if_neg (show ¬ w = 1 from by assumption), if_pos (show w = 2 from by assumption)]; exact cOf_row (o := 7) (g := 2) (by omega) (by omega))
                  | (rw [if_neg (show ¬ w = 0 from by assumption), if_neg (show ¬ w = 1 from by assumption), if_neg (show ¬ w = 2 from by assumption)]; exact cOf_row (o := 7) (g := 3) (by omega) (by omega))
            refine V_tswC (v := 2) rfl (by decide) (by decide) rfl (fun h11 => ?_) (fun h11 => ?_)
            · skip
              refine V_go 4 rfl ?_
              have e5 : Ir3 7 5 = i32 (nC (cOf I 7)) := by
                rw [hq 7 (by omega) (by omega) (by omega) (by omega) (by omega) (by omega)]
                exact (nC_i hC.2.2.2.2.1 hC.2.2.2.2.2.1).1
              obtain ⟨pm, px0⟩ := isCi_n (told_ci (T := T) (C := cOf I 7) (x := x) (w := w) (by assumption) (by assumption) (Int32.not_lt.mp (by assumption)) (fun h => absurd (hv.trans h) (by assumption)))
              have px := px0.symm
              refine cVV (mt' := mX0_putNumber) rfl kX6_71 fX0_putNumber rfl rfl rfl (Nat.le_of_ble_eq_true rfl) (Nat.le_of_ble_eq_true rfl) (Nat.le_of_ble_eq_true rfl) (Nat.le_of_ble_eq_true rfl) (Nat.le_refl _) (c_putNumberX (Or.inl rfl) px (c := x.toNatClampNeg) (by rw [e5]; exact lt_i32 pm (by omega)) (by omega)) ?_
              refine V_go 2 rfl ?_
              refine V_iret rfl rfl rfl ?_
              have hset : isSet T (cOf I 7) w x v := ⟨⟨Int32.not_lt.mp (by assumption), Int32.not_lt.mp (by assumption)⟩, fun h => absurd (hv.trans h) (by assumption), Int32.not_lt.mp (by assumption), by assumption⟩
              refine RP.mk ⟨rfl, ?_, Or.inl ⟨hset, hv, ?_⟩⟩
              · first
                  | exact hq.sc2.tr (Fr.up (o := 7) (by omega)).sc2
                done
              · rw [← cOf_scr hq]
                unfold sPut
                first
                  | (rw [if_pos (show w = 0 from by assumption)]; exact cOf_fld (o := 7) (f := 2) (by omega))
                  | (rw [if_neg (show ¬ w = 0 from by assumption), if_pos (show w = 1 from by assumption)]; exact cOf_fld (o := 7) (f := 3) (by omega))
                  | (rw [if_neg (show ¬ w = 0 from by assumption), if_neg (show ¬ w = 1 from by assumption), if_pos (show w = 2 from by assumption)]; exact cOf_row (o := 7) (g := 2) (by omega) (by omega))
                  | (rw [if_neg (show ¬ w = 0 from by assumption), if_neg (show ¬ w = 1 from by assumption), if_neg (show ¬ w = 2 from by assumption)]; exact cOf_row (o := 7) (g := 3) (by omega) (by omega))
            refine V_tswD rfl (by decide) (by decide) (t9 := 106) rfl (by have q0 := lv_neT h9 (a := 0) (by decide); have q1 := lv_neT h10 (a := 1) (by decide); have q2 := lv_neT h11 (a := 2) (by decide); omega) ?_
            refine V_go 4 rfl ?_
            have e5 : Ir3 7 5 = i32 (nC (cOf I 7)) := by
              rw [hq 7 (by omega) (by omega) (by omega) (by omega) (by omega) (by omega)]
              exact (nC_i hC.2.2.2.2.1 hC.2.2.2.2.2.1).1
            obtain ⟨pm, px0⟩ := isCi_n (told_ci (T := T) (C := cOf I 7) (x := x) (w := w) (by assumption) (by assumption) (Int32.not_lt.mp (by assumption)) (fun h => absurd (hv.trans h) (by assumption)))
            have px := px0.symm
            refine cVV (mt' := mX0_putBribe) rfl kX6_75 fX0_putBribe rfl rfl rfl (Nat.le_of_ble_eq_true rfl) (Nat.le_of_ble_eq_true rfl) (Nat.le_of_ble_eq_true rfl) (Nat.le_of_ble_eq_true rfl) (Nat.le_refl _) (c_putBribeX (Or.inl rfl) px (c := x.toNatClampNeg) (by rw [e5]; exact lt_i32 pm (by omega)) (by omega)) ?_
            refine V_go 1 rfl ?_
            refine V_iret rfl rfl rfl ?_
            have hset : isSet T (cOf I 7) w x v := ⟨⟨Int32.not_lt.mp (by assumption), Int32.not_lt.mp (by assumption)⟩, fun h => absurd (hv.trans h) (by assumption), Int32.not_lt.mp (by assumption), by assumption⟩
            refine RP.mk ⟨rfl, ?_, Or.inl ⟨hset, hv, ?_⟩⟩
            · first
                | exact hq.sc2.tr (Fr.up (o := 7) (by omega)).sc2
              done
            · rw [← cOf_scr hq]
              unfold sPut
              first
                | (rw [if_pos (show w = 0 from by assumption)]; exact cOf_fld (o := 7) (f := 2) (by omega))
                | (rw [if_neg (show ¬ w = 0 from by assumption), if_pos (show w = 1 from by assumption)]; exact cOf_fld (o := 7) (f := 3) (by omega))
                | (rw [if_neg (show ¬ w = 0 from by assumption), if_neg (show ¬ w = 1 from by assumption), if_pos (show w = 2 from by assumption)]; exact cOf_row (o := 7) (g := 2) (by omega) (by omega))
                | (rw [if_neg (show ¬ w = 0 from by assumption), if_neg (show ¬ w = 1 from by assumption), if_neg (show ¬ w = 2 from by assumption)]; exact cOf_row (o := 7) (g := 3) (by omega) (by omega))
          · skip
            refine V_go 1 rfl ?_
            refine V_iret rfl rfl rfl ?_
            first
              | exact RP.mk ⟨rfl, Sc2.rf, Or.inr ⟨fun h => absurd h.1 (fun k => by first | exact absurd k.1 (Int32.not_le.mpr (by assumption)) | exact absurd k.2 (Int32.not_le.mpr (by assumption))), rfl, rfl⟩⟩
              | exact RP.mk ⟨rfl, hq.sc2, Or.inr ⟨fun h => absurd (hv.symm.trans (show r3 = -2 from by assumption)) h.2.1, rfl, cOf_scr hq⟩⟩
              | exact RP.mk ⟨rfl, hq.sc2, Or.inr ⟨fun h => absurd h.2.2 (fun k => by first | exact absurd k.1 (Int32.not_le.mpr (by assumption)) | exact absurd k.2 (by assumption) | exact absurd k.2 (Int32.not_le.mpr (by assumption))), rfl, cOf_scr hq⟩⟩
