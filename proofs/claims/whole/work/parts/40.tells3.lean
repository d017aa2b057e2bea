/-- what tells answers, sort, size and first cell of the sheet given -/
def sTell (T : TV) (C : CC) (K : Nat) (mi w : Int32) : Int32 :=
  if w < 4 then sWay T C mi w else if w = 4 then i32 (fB (fun k => sGo T (up2 C 0 2 (i32 k))) mi K) else sOne T C mi (w / 10) (w - w / 10 * 10).toNatClampNeg
def sTells (T : TV) (C : CC) (K : Nat) (so sz mi s w : Int32) : Int32 :=
  if (0 ≤ s ∧ s < 4) ∧ isAsk C w then (if so = -1 then -11 else if sz = 1 then sTell T C K mi w else -2) else -2

theorem c_tells {s w : Int32} {I : I2} {J : J2} {T : TV} (hC : Cok I 7 T) : CT mX6_tells 9 58 58 [.ref 0, .int s, .int w] I J RF (RP RF (fun r I1 J1 => r = sTells T (cOf I 7) (I 1 0).toNatClampNeg (I 35 s.toNatClampNeg) (I 36 s.toNatClampNeg) (I 37 (40 * s.toNatClampNeg)) s w ∧ J1 = J ∧ Scr I I1)) := by
  obtain ⟨hN8, hM6⟩ := nC8 hC
  obtain ⟨hev, hp, hp1⟩ := evr hC
  
  refine CT_of okX6_tells (Nat.le_of_ble_eq_true rfl) ?_
  show V _ _ _ _ _ _ [(0, _), (1, _), (2, _)] _ _ _ _ _
  refine V_go 3 rfl ?_
  refine cVI (mt' := mX4_hasPlace) rfl kX6_192 fX4_hasPlace rfl rfl rfl (Nat.le_of_ble_eq_true rfl) (Nat.le_of_ble_eq_true rfl) (Nat.le_of_ble_eq_true rfl) (Nat.le_of_ble_eq_true rfl) (Nat.le_refl _) (c_hasPlace) ?_
  refine V_if_eq rfl (fun h2 => ?_) (fun h2 => ?_)
  · skip
    refine V_go 1 rfl ?_
    refine V_iret rfl rfl rfl ?_
    refine RP.mk ⟨?_, rfl, by first | exact hq | exact Scr.rf⟩
    unfold sTells
    refine (if_neg ?_).symm
    rintro ⟨k1, k2⟩
    first
      | exact absurd (b2i_1 k1) (by rw [show b2i (0 ≤ s ∧ s < 4) = 0 from by assumption]; decide)
      | exact absurd (b2i_1 k2) (by rw [show b2i (isAsk _ _) = 0 from by assumption]; decide)
  · skip
    refine V_go 2 rfl ?_
    refine cVI (mt' := mX6_canBeAsked) rfl kX6_195 fX6_canBeAsked rfl rfl rfl (Nat.le_of_ble_eq_true rfl) (Nat.le_of_ble_eq_true rfl) (Nat.le_of_ble_eq_true rfl) (Nat.le_of_ble_eq_true rfl) (Nat.le_refl _) (c_canBeAsked hC) ?_
    refine V_if_ne rfl (fun h4 => ?_) (fun h4 => ?_)
    · skip
      obtain ⟨p0, p4⟩ := b2i_eq1.mp ((b2i_or _).resolve_left h2)
      have pa := b2i_eq1.mp ((b2i_or _).resolve_left h4)
      refine V_go 3 rfl ?_
      refine cVI (mt' := mX4_isMissing) rfl kX6_198 fX4_isMissing rfl rfl rfl (Nat.le_of_ble_eq_true rfl) (Nat.le_of_ble_eq_true rfl) (Nat.le_of_ble_eq_true rfl) (Nat.le_of_ble_eq_true rfl) (Nat.le_refl _) (c_isMissing p0 p4) ?_
      refine V_if_eq rfl (fun h22 => ?_) (fun h22 => ?_)
      · skip
        refine V_go 3 rfl ?_
        refine cVI (mt' := mX4_sizeOf) rfl kX6_201 fX4_sizeOf rfl rfl rfl (Nat.le_of_ble_eq_true rfl) (Nat.le_of_ble_eq_true rfl) (Nat.le_of_ble_eq_true rfl) (Nat.le_of_ble_eq_true rfl) (Nat.le_refl _) (c_sizeOfR p0 p4) ?_
        refine V_go 1 rfl ?_
        refine V_icmp_eq rfl (fun h24 => ?_) (fun h24 => ?_)
        · skip
          have hz : I 36 s.toNatClampNeg = 1 := by assumption
          refine V_go 4 rfl ?_
          refine cVI (mt' := mX4_valueAt) rfl kX6_204 fX4_valueAt rfl rfl rfl (Nat.le_of_ble_eq_true rfl) (Nat.le_of_ble_eq_true rfl) (Nat.le_of_ble_eq_true rfl) (Nat.le_of_ble_eq_true rfl) (Nat.le_refl _) (c_valueAt p0 p4 (by decide) (by rw [hz]; decide) (by decide)) ?_
          refine V_go 3 rfl ?_
          refine V_icmp_ge rfl (fun h42 => ?_) (fun h42 => ?_)
          · skip
            refine V_go 2 rfl ?_
            refine V_icmp_ne rfl (fun h43 => ?_) (fun h43 => ?_)
            · skip
              have pm := isCi_n (pa.resolve_left (fun h => by grind)).2.2
              refine V_go 4 rfl ?_
              refine V_idiv rfl (by decide) ?_
              refine V_go 2 rfl ?_
              refine V_irem0 rfl (by decide) ?_
              refine cVP (mt' := mX6_ofOneBy) rfl kX6_213 fX6_ofOneBy rfl rfl rfl (Nat.le_of_ble_eq_true rfl) (Nat.le_of_ble_eq_true rfl) (Nat.le_of_ble_eq_true rfl) (Nat.le_of_ble_eq_true rfl) (Nat.le_refl _) (c_ofOneBy hC pm.2.symm pm.1) ?_
              intro r61 Ir61 Jr61 h61
              obtain ⟨rfl, rfl, hq⟩ := h61
              refine V_iret rfl rfl rfl ?_
              refine RP.mk ⟨?_, rfl, by first | exact hq | exact Scr.rf⟩
              unfold sTells
              rw [if_pos ⟨⟨p0, p4⟩, pa⟩, if_neg (show ¬ I 35 s.toNatClampNeg = -1 from fun h => absurd (b2i_1 h) (by rw [show b2i _ = 0 from by assumption]; decide)), if_pos hz]
              unfold sTell
              rw [if_neg (Int32.not_lt.mpr (by assumption))]
              first
                | (rw [if_pos (by assumption)]; rfl)
                | (rw [if_neg (by assumption)]; rfl)
            · skip
              refine V_go 2 rfl ?_
              refine cVP (mt' := mX6_textsBy) rfl kX6_210 fX6_textsBy rfl rfl rfl (Nat.le_of_ble_eq_true rfl) (Nat.le_of_ble_eq_true rfl) (Nat.le_of_ble_eq_true rfl) (Nat.le_of_ble_eq_true rfl) (Nat.le_refl _) (c_textsBy hC) ?_
              intro r44 Ir44 Jr44 h44
              obtain ⟨rfl, rfl, hq⟩ := h44
              refine V_go 1 rfl ?_
              refine V_iret rfl rfl rfl ?_
              refine RP.mk ⟨?_, rfl, by first | exact hq | exact Scr.rf⟩
              unfold sTells
              rw [if_pos ⟨⟨p0, p4⟩, pa⟩, if_neg (show ¬ I 35 s.toNatClampNeg = -1 from fun h => absurd (b2i_1 h) (by rw [show b2i _ = 0 from by assumption]; decide)), if_pos hz]
              unfold sTell
              rw [if_neg (Int32.not_lt.mpr (by assumption))]
              first
                | (rw [if_pos (by assumption)]; rfl)
                | (rw [if_neg (by assumption)]; rfl)
          · skip
            refine V_go 3 rfl ?_
            refine cVP (mt' := mX6_ways) rfl kX6_207 fX6_ways rfl rfl rfl (Nat.le_of_ble_eq_true rfl) (Nat.le_of_ble_eq_true rfl) (Nat.le_of_ble_eq_true rfl) (Nat.le_of_ble_eq_true rfl) (Nat.le_refl _) (c_ways hC) ?_
            intro r45 Ir45 Jr45 h45
            obtain ⟨rfl, rfl, hq⟩ := h45
            refine V_iret rfl rfl rfl ?_
            refine RP.mk ⟨?_, rfl, by first | exact hq | exact Scr.rf⟩
            unfold sTells
            rw [if_pos ⟨⟨p0, p4⟩, pa⟩, if_neg (show ¬ I 35 s.toNatClampNeg = -1 from fun h => absurd (b2i_1 h) (by rw [show b2i _ = 0 from by assumption]; decide)), if_pos hz]
            unfold sTell
            rw [if_pos (Int32.not_le.mp (by assumption))]
            rfl
        · skip
          refine V_go 1 rfl ?_
          refine V_iret rfl rfl rfl ?_
          refine RP.mk ⟨?_, rfl, by first | exact hq | exact Scr.rf⟩
          unfold sTells
          rw [if_pos ⟨⟨p0, p4⟩, pa⟩, if_neg (show ¬ I 35 s.toNatClampNeg = -1 from fun h => absurd (b2i_1 h) (by rw [show b2i _ = 0 from by assumption]; decide)), if_neg (by assumption)]
      · skip
        refine V_go 1 rfl ?_
        refine V_iret rfl rfl rfl ?_
        refine RP.mk ⟨?_, rfl, by first | exact hq | exact Scr.rf⟩
        unfold sTells
        rw [if_pos ⟨⟨p0, p4⟩, pa⟩, if_pos (b2i_eq1.mp ((b2i_or _).resolve_left (by assumption)))]
    · skip
      refine V_go 1 rfl ?_
      refine V_iret rfl rfl rfl ?_
      refine RP.mk ⟨?_, rfl, by first | exact hq | exact Scr.rf⟩
      unfold sTells
      refine (if_neg ?_).symm
      rintro ⟨k1, k2⟩
      first
        | exact absurd (b2i_1 k1) (by rw [show b2i (0 ≤ s ∧ s < 4) = 0 from by assumption]; decide)
        | exact absurd (b2i_1 k2) (by rw [show b2i (isAsk _ _) = 0 from by assumption]; decide)
def fLay (I : I2) (s : Nat) (k : Int32) (N : Nat) : I2 := row2 (up2 (up2 I 35 s k) 36 s (i32 N)) 37 (sZero (I 37) (40 * s) N)
theorem c_layX {x k y : Int32} {N : Nat} {I : I2} {J : J2} (e : i32 N = y) (p0 : 0 ≤ x) (p4 : x < 4) (hN : N ≤ 40) : CT mX4_lay 2 58 58 [.ref 34, .int x, .int k, .int y] I J RF (RV RF (fLay I x.toNatClampNeg k N) J) := by
  subst e
  exact c_lay p0 p4 hN
theorem fLay_r {I : I2} {s N : Nat} {k : Int32} : fLay I s k N 35 s = k ∧ fLay I s k N 36 s = i32 N := by
  unfold fLay
  simp only [row2_rd, up2_rd, reduceIte, Nat.reduceEqDiff, and_self]
def sFilm (I : I2) (s : Nat) (v : Int32) : I2 := up2 (fLay I s 2 1) 37 (40 * s) v

theorem c_film {s : Int32} {I : I2} {J : J2} {T : TV} (hC : Cok I 7 T) : CT mX6_film 9 58 58 [.ref 0, .int s] I J RF (RP RF (fun r I1 J1 => J1 = J ∧ if 0 ≤ s ∧ s < 4 then r = sGo T (cOf I 7) ∧ ∃ I9, Sq 7 I I9 ∧ I1 = sFilm I9 s.toNatClampNeg r else r = -2 ∧ I1 = I)) := by
  obtain ⟨hN8, hM6⟩ := nC8 hC
  obtain ⟨hev, hp, hp1⟩ := evr hC
  
  refine CT_of okX6_film (Nat.le_of_ble_eq_true rfl) ?_
  show V _ _ _ _ _ _ [(0, _), (1, _)] _ _ _ _ _
  refine V_go 3 rfl ?_
  refine cVI (mt' := mX4_hasPlace) rfl kX6_192 fX4_hasPlace rfl rfl rfl (Nat.le_of_ble_eq_true rfl) (Nat.le_of_ble_eq_true rfl) (Nat.le_of_ble_eq_true rfl) (Nat.le_of_ble_eq_true rfl) (Nat.le_refl _) (c_hasPlace) ?_
  refine V_if_ne rfl (fun h2 => ?_) (fun h2 => ?_)
  · skip
    obtain ⟨p0, p4⟩ := b2i_eq1.mp ((b2i_or _).resolve_left h2)
    refine V_go 2 rfl ?_
    refine cVP (mt' := mX0_spentByList) rfl kX6_220 fX0_spentByList rfl rfl rfl (Nat.le_of_ble_eq_true rfl) (Nat.le_of_ble_eq_true rfl) (Nat.le_of_ble_eq_true rfl) (Nat.le_of_ble_eq_true rfl) (Nat.le_refl _) (c_spentByList hC) ?_
    intro r9 Ir9 Jr9 h9
    obtain ⟨rfl, rfl, hq⟩ := h9
    refine V_go 6 rfl ?_
    refine cVV (mt' := mX4_lay) rfl kX6_236 fX4_lay rfl rfl rfl (Nat.le_of_ble_eq_true rfl) (Nat.le_of_ble_eq_true rfl) (Nat.le_of_ble_eq_true rfl) (Nat.le_of_ble_eq_true rfl) (Nat.le_refl _) (c_layX (N := 1) rfl p0 p4 (by omega)) ?_
    refine V_go 5 rfl ?_
    refine cVV (mt' := mX4_store) rfl kX6_240 fX4_store rfl rfl rfl (Nat.le_of_ble_eq_true rfl) (Nat.le_of_ble_eq_true rfl) (Nat.le_of_ble_eq_true rfl) (Nat.le_of_ble_eq_true rfl) (Nat.le_refl _) (c_store p0 p4 (by decide) (by rw [fLay_r.2]; decide) (by decide)) ?_
    refine V_go 1 rfl ?_
    refine V_iret rfl rfl rfl ?_
    refine RP.mk ⟨rfl, ?_⟩
    rw [if_pos ⟨p0, p4⟩]
    refine ⟨rfl, _, hq, ?_⟩
    rw [fLay_r.1]
    unfold sFilm
    rfl
  · skip
    refine V_go 1 rfl ?_
    refine V_iret rfl rfl rfl ?_
    exact RP.mk ⟨rfl, by rw [if_neg (fun h => absurd (b2i_1 h) (by rw [show b2i _ = 0 from by assumption]; decide))]; exact ⟨rfl, rfl⟩⟩
