theorem c_textsBy {mi : Int32} {I : I2} {J : J2} {T : TV} (hC : Cok I 7 T) : CT mX6_textsBy 7 58 58 [.ref 0, .int mi] I J RF (RP RF (fun r I1 J1 => r = i32 (fB (fun k => sGo T (up2 (cOf I 7) 0 2 (i32 k))) mi (I 1 0).toNatClampNeg) ∧ J1 = J ∧ Scr I I1)) := by
  obtain ⟨hN8, hM6⟩ := nC8 hC
  obtain ⟨hev, hp, hp1⟩ := evr hC
  have h10 : 0 ≤ I 1 0 := by have := hC.2.1.1; grind
  have en := xn h10
  have e6 : (I 1 0).toNatClampNeg ≤ 6 := by have := hC.2.1.2.1; have := tcn _ h10; grind
  have key : ∀ n, Hid (∀ (i : Nat) (I1 : I2) (v : Int32), i + n = (I 1 0).toNatClampNeg → Th I I1 T (up2 (cOf I 7) 0 2 v) → V mX6_textsBy none 7 58 (RP RF (fun r I1 J1 => r = i32 (fB (fun k => sGo T (up2 (cOf I 7) 0 2 (i32 k))) mi (I 1 0).toNatClampNeg) ∧ J1 = J ∧ Scr I I1)) 15 [(0, .ref 0), (1, .int mi), (2, .int (i32 (fB (fun k => sGo T (up2 (cOf I 7) 0 2 (i32 k))) mi (i)))), (3, .int (i32 (i)))] [] 58 I1 J RF) := by
    intro n
    induction n with
    | zero =>
      unfold Hid
      intro i I1 v hi hs
      have e1 : I1 1 0 = i32 (I 1 0).toNatClampNeg := by rw [hs.2.2 1 (by omega) (by omega) (by omega) (by omega) (by omega) (by omega)]; exact en.symm
      refine V_go 4 rfl ?_
      refine V_icmp_ge rfl (fun h1 => ?_) (fun h1 => ?_)
      · skip
        refine V_go 1 rfl ?_
        refine V_iret rfl rfl rfl ?_
        exact RP.mk ⟨by rw [show i = (I 1 0).toNatClampNeg from hi], rfl, hs.2.2⟩
      · skip
        exfalso
        rw [e1] at h1
        exact h1 (lp_stop hi)
    | succ n ih =>
      unfold Hid
      intro i I1 v hi hs
      have e1 : I1 1 0 = i32 (I 1 0).toNatClampNeg := by rw [hs.2.2 1 (by omega) (by omega) (by omega) (by omega) (by omega) (by omega)]; exact en.symm
      refine V_go 4 rfl ?_
      refine V_icmp_ge rfl (fun h1 => ?_) (fun h1 => ?_)
      · skip
        exfalso
        rw [e1] at h1
        exact lp_more (by omega) (by omega) h1
      · skip
        refine V_go 4 rfl ?_
        have ht2 : Th I (up2 I1 15 4 (i32 i)) T (up2 (cOf I 7) 0 2 (i32 i)) := by
          have h := hs.rule (v := i32 i) (by grind [i32_ti]) (by rw [e1]; grind [i32_ti])
          rw [up2_up2] at h
          exact h
        refine V_go 2 rfl ?_
        refine cVP (mt' := mX0_spentByList) rfl kX6_220 fX0_spentByList rfl rfl rfl (Nat.le_of_ble_eq_true rfl) (Nat.le_of_ble_eq_true rfl) (Nat.le_of_ble_eq_true rfl) (Nat.le_of_ble_eq_true rfl) (Nat.le_refl _) (c_spentByList ht2.2.1) ?_
        intro r2 Ir2 Jr2 h2
        obtain ⟨hv, rfl, hq2⟩ := h2
        have ht3 := ht2.sq hq2
        rw [ht2.go] at hv
        subst hv
        refine V_go 1 rfl ?_
        refine V_icmp_ne rfl (fun h3 => ?_) (fun h3 => ?_)
        · skip
          refine V_go 2 rfl ?_
          refine V.st (I' := Ir2) (L' := [(0, .ref 0), (1, .int mi), (2, .int (i32 (fB (fun k => sGo T (up2 (cOf I 7) 0 2 (i32 k))) mi (i + 1)))), (3, .int (i32 (i + 1)))]) (ih.un (i + 1) Ir2 (i32 i) (by omega) ht3) rfl ?_
          rw [i32_s i, (f_n (f := (fun k => sGo T (up2 (cOf I 7) 0 2 (i32 k)))) (k := i) h3).1]
          simp [i32_s]
        · skip
          refine V_go 8 rfl ?_
          refine V.st (I' := Ir2) (L' := [(0, .ref 0), (1, .int mi), (2, .int (i32 (fB (fun k => sGo T (up2 (cOf I 7) 0 2 (i32 k))) mi (i + 1)))), (3, .int (i32 (i + 1)))]) (ih.un (i + 1) Ir2 (i32 i) (by omega) ht3) rfl ?_
          rw [i32_s i, (f_y (f := (fun k => sGo T (up2 (cOf I 7) 0 2 (i32 k)))) (k := i) h3).1, ← orb10 i (by omega) _ (fB_lt _ _ _)]
          simp [i32_s]
  refine CT_of okX6_textsBy (Nat.le_of_ble_eq_true rfl) ?_
  show V _ _ _ _ _ _ [(0, _), (1, _)] _ _ _ _ _
  refine V_go 4 rfl ?_
  refine cVW (mt' := mX0_become) rfl kX6_173 fX0_become rfl rfl rfl (Nat.le_of_ble_eq_true rfl) (Nat.le_of_ble_eq_true rfl) (Nat.le_of_ble_eq_true rfl) (Nat.le_of_ble_eq_true rfl) (Nat.le_refl _) (c_become_15_7) ?_
  intro Ir1 Jr1 h1
  obtain ⟨rfl, hc, hq⟩ := h1
  have ht := Th.bec hC Scr.rf hq hc
  refine V_go 4 rfl ?_
  exact (key _).un 0 _ (cOf I 7 0 2) (Nat.zero_add _) (by rw [up2_self]; exact ht)
def sOne (T : TV) (C : CC) (mi k : Int32) (c : Nat) : Int32 :=
  if k = 1 then i32 (fB (fun k => sGo T (up2 C 1 c (i32 k))) mi 6) else if k = 2 then i32 (fB (fun k => sGo T (up2 C 2 c (i32 k))) mi 10) else if k = 3 then i32 (fN (fun k => sGo T (up2 C 3 c (i32 k))) mi 100) else fL (fun k => sGo T (up2 C 3 c (i32 k))) mi 100

theorem c_ofOneBy {mi k x : Int32} {c : Nat} {I : I2} {J : J2} {T : TV} (hC : Cok I 7 T) (px : i32 c = x) (pc : c < nC (cOf I 7)) : CT mX6_ofOneBy 8 58 58 [.ref 0, .int mi, .int k, .int x] I J RF (RP RF (fun r I1 J1 => r = sOne T (cOf I 7) mi k c ∧ J1 = J ∧ Scr I I1)) := by
  obtain ⟨hN8, hM6⟩ := nC8 hC
  obtain ⟨hev, hp, hp1⟩ := evr hC
  
  refine CT_of okX6_ofOneBy (Nat.le_of_ble_eq_true rfl) ?_
  show V _ _ _ _ _ _ [(0, _), (1, _), (2, _), (3, _)] _ _ _ _ _
  refine V_go 4 rfl ?_
  refine cVW (mt' := mX0_become) rfl kX6_173 fX0_become rfl rfl rfl (Nat.le_of_ble_eq_true rfl) (Nat.le_of_ble_eq_true rfl) (Nat.le_of_ble_eq_true rfl) (Nat.le_of_ble_eq_true rfl) (Nat.le_refl _) (c_become_15_7) ?_
  intro Ir1 Jr1 h1
  obtain ⟨rfl, hc, hq⟩ := h1
  have ht := Th.bec hC Scr.rf hq hc
  refine V_go 1 rfl ?_
  refine V_tswC (v := 1) rfl (by decide) (by decide) rfl (fun h3 => ?_) (fun h3 => ?_)
  · skip
    refine V_go 3 rfl ?_
    refine cVP (mt' := mX6_kindsBy) rfl kX6_223 fX6_kindsBy rfl rfl rfl (Nat.le_of_ble_eq_true rfl) (Nat.le_of_ble_eq_true rfl) (Nat.le_of_ble_eq_true rfl) (Nat.le_of_ble_eq_true rfl) (Nat.le_refl _) (c_kindsBy ht px pc) ?_
    intro r4 Ir4 Jr4 h4
    obtain ⟨rfl, rfl, hq2⟩ := h4
    refine V_iret rfl rfl rfl ?_
    refine RP.mk ⟨?_, rfl, hq2⟩
    unfold sOne
    rw [if_pos (by assumption)]
  refine V_tswC (v := 2) rfl (by decide) (by decide) rfl (fun h5 => ?_) (fun h5 => ?_)
  · skip
    refine V_go 3 rfl ?_
    refine cVP (mt' := mX6_numbersBy) rfl kX6_226 fX6_numbersBy rfl rfl rfl (Nat.le_of_ble_eq_true rfl) (Nat.le_of_ble_eq_true rfl) (Nat.le_of_ble_eq_true rfl) (Nat.le_of_ble_eq_true rfl) (Nat.le_refl _) (c_numbersBy ht px pc) ?_
    intro r6 Ir6 Jr6 h6
    obtain ⟨rfl, rfl, hq2⟩ := h6
    refine V_iret rfl rfl rfl ?_
    refine RP.mk ⟨?_, rfl, hq2⟩
    unfold sOne
    rw [if_neg (by assumption), if_pos (by assumption)]
  refine V_tswC (v := 3) rfl (by decide) (by decide) rfl (fun h7 => ?_) (fun h7 => ?_)
  · skip
    refine V_go 4 rfl ?_
    refine cVP (mt' := mX6_bribesBy) rfl kX6_229 fX6_bribesBy rfl rfl rfl (Nat.le_of_ble_eq_true rfl) (Nat.le_of_ble_eq_true rfl) (Nat.le_of_ble_eq_true rfl) (Nat.le_of_ble_eq_true rfl) (Nat.le_refl _) (c_bribesBy ht px pc) ?_
    intro r8 Ir8 Jr8 h8
    obtain ⟨rfl, rfl, hq2⟩ := h8
    refine V_iret rfl rfl rfl ?_
    refine RP.mk ⟨?_, rfl, hq2⟩
    unfold sOne
    rw [if_neg (show ¬ k = 1 from by assumption), if_neg (show ¬ k = 2 from by assumption), if_pos (show k = 3 from by assumption)]
    exact if_pos rfl
  refine V_tswD rfl (by decide) (by decide) (t9 := 62) rfl (by have q0 := lv_neT h3 (a := 1) (by decide); have q1 := lv_neT h5 (a := 2) (by decide); have q2 := lv_neT h7 (a := 3) (by decide); omega) ?_
  refine V_go 4 rfl ?_
  refine cVP (mt' := mX6_bribesBy) rfl kX6_229 fX6_bribesBy rfl rfl rfl (Nat.le_of_ble_eq_true rfl) (Nat.le_of_ble_eq_true rfl) (Nat.le_of_ble_eq_true rfl) (Nat.le_of_ble_eq_true rfl) (Nat.le_refl _) (c_bribesBy ht px pc) ?_
  intro r9 Ir9 Jr9 h9
  obtain ⟨rfl, rfl, hq2⟩ := h9
  refine V_iret rfl rfl rfl ?_
  refine RP.mk ⟨?_, rfl, hq2⟩
  unfold sOne
  rw [if_neg (show ¬ k = 1 from by assumption), if_neg (show ¬ k = 2 from by assumption), if_neg (show ¬ k = 3 from by assumption)]
  exact if_neg (by decide)
abbrev isAsk (C : CC) (w : Int32) : Prop := (0 ≤ w ∧ w ≤ 4) ∨ (10 ≤ w ∧ w ≤ 49 ∧ isCi C (w - w / 10 * 10))
theorem b2i_is {p : Prop} [Decidable p] {v : Int32} (h1 : v = 1 → p) (h0 : v = 0 → ¬ p) (hv : v = 0 ∨ v = 1) : v = b2i p := by
  rcases hv with h | h
  · rw [b2i_0 (h0 h), h]
  · rw [b2i_1 (h1 h), h]

theorem c_canBeAsked {w : Int32} {I : I2} {J : J2} {T : TV} (hC : Cok I 7 T) : CT mX6_canBeAsked 2 58 58 [.ref 0, .int w] I J RF (RI RF (b2i (isAsk (cOf I 7) w)) I J) := by
  refine CT_of okX6_canBeAsked (Nat.le_of_ble_eq_true rfl) ?_
  show V _ _ _ _ _ _ [(0, _), (1, _)] _ _ _ _ _
  refine V_go 1 rfl ?_
  refine V_if_lt rfl (fun h1 => ?_) (fun h1 => ?_)
  · skip
    refine V_go 4 rfl ?_
    refine V_icmp_lt rfl (fun h2 => ?_) (fun h2 => ?_)
    · skip
      refine V_go 3 rfl ?_
      refine V_if_ne rfl (fun h3 => ?_) (fun h3 => ?_)
      · skip
        refine V_go 2 rfl ?_
        refine V_zret rfl rfl rfl (by first | exact Or.inl rfl | exact Or.inr rfl | exact b2i_or _ | assumption) ?_
        refine RI.mk ?_
        first
          | (refine (b2i_1 ?_).symm
             first
               | contradiction
               | exact Or.inl ⟨by grind, by grind⟩
               | exact Or.inr ⟨by grind, by grind, (isCi_ok hC _).mp (b2i_eq1.mp ((b2i_or _).resolve_left (show ¬ b2i _ = 0 from by assumption)))⟩)
          | (refine (b2i_0 ?_).symm
             first
               | contradiction
               | (rintro (⟨k1, k2⟩ | ⟨k1, k2, k3⟩)
                  · grind
                  · first
                      | grind
                      | exact absurd (b2i_1 ((isCi_ok hC _).mpr k3)) (by rw [show b2i _ = 0 from by assumption]; decide)))
      · skip
        refine V_go 1 rfl ?_
        refine V_if_eq rfl (fun h4 => ?_) (fun h4 => ?_)
        · skip
          refine V_go 1 rfl ?_
          refine V_zret rfl rfl rfl (by first | exact Or.inl rfl | exact Or.inr rfl | exact b2i_or _ | assumption) ?_
          refine RI.mk ?_
          first
            | (refine (b2i_1 ?_).symm
               first
                 | contradiction
                 | exact Or.inl ⟨by grind, by grind⟩
                 | exact Or.inr ⟨by grind, by grind, (isCi_ok hC _).mp (b2i_eq1.mp ((b2i_or _).resolve_left (show ¬ b2i _ = 0 from by assumption)))⟩)
            | (refine (b2i_0 ?_).symm
               first
                 | contradiction
                 | (rintro (⟨k1, k2⟩ | ⟨k1, k2, k3⟩)
                    · grind
                    · first
                        | grind
                        | exact absurd (b2i_1 ((isCi_ok hC _).mpr k3)) (by rw [show b2i _ = 0 from by assumption]; decide)))
        · skip
          refine V_go 2 rfl ?_
          refine V_zret rfl rfl rfl (by first | exact Or.inl rfl | exact Or.inr rfl | exact b2i_or _ | assumption) ?_
          refine RI.mk ?_
          first
            | (refine (b2i_1 ?_).symm
               first
                 | contradiction
                 | exact Or.inl ⟨by grind, by grind⟩
                 | exact Or.inr ⟨by grind, by grind, (isCi_ok hC _).mp (b2i_eq1.mp ((b2i_or _).resolve_left (show ¬ b2i _ = 0 from by assumption)))⟩)
            | (refine (b2i_0 ?_).symm
               first
                 | contradiction
                 | (rintro (⟨k1, k2⟩ | ⟨k1, k2, k3⟩)
                    · grind
                    · first
                        | grind
                        | exact absurd (b2i_1 ((isCi_ok hC _).mpr k3)) (by rw [show b2i _ = 0 from by assumption]; decide)))
    · skip
      refine V_go 2 rfl ?_
      refine V_icmp_gt rfl (fun h5 => ?_) (fun h5 => ?_)
      · skip
        refine V_go 3 rfl ?_
        refine V_if_ne rfl (fun h6 => ?_) (fun h6 => ?_)
        · skip
          refine V_go 2 rfl ?_
          refine V_zret rfl rfl rfl (by first | exact Or.inl rfl | exact Or.inr rfl | exact b2i_or _ | assumption) ?_
          refine RI.mk ?_
          first
            | (refine (b2i_1 ?_).symm
               first
                 | contradiction
                 | exact Or.inl ⟨by grind, by grind⟩
                 | exact Or.inr ⟨by grind, by grind, (isCi_ok hC _).mp (b2i_eq1.mp ((b2i_or _).resolve_left (show ¬ b2i _ = 0 from by assumption)))⟩)
            | (refine (b2i_0 ?_).symm
               first
                 | contradiction
                 | (rintro (⟨k1, k2⟩ | ⟨k1, k2, k3⟩)
                    · grind
                    · first
                        | grind
                        | exact absurd (b2i_1 ((isCi_ok hC _).mpr k3)) (by rw [show b2i _ = 0 from by assumption]; decide)))
        · skip
          refine V_go 1 rfl ?_
          refine V_if_eq rfl (fun h7 => ?_) (fun h7 => ?_)
          · skip
            refine V_go 1 rfl ?_
            refine V_zret rfl rfl rfl (by first | exact Or.inl rfl | exact Or.inr rfl | exact b2i_or _ | assumption) ?_
            refine RI.mk ?_
            first
              | (refine (b2i_1 ?_).symm
                 first
                   | contradiction
                   | exact Or.inl ⟨by grind, by grind⟩
                   | exact Or.inr ⟨by grind, by grind, (isCi_ok hC _).mp (b2i_eq1.mp ((b2i_or _).resolve_left (show ¬ b2i _ = 0 from by assumption)))⟩)
              | (refine (b2i_0 ?_).symm
                 first
                   | contradiction
                   | (rintro (⟨k1, k2⟩ | ⟨k1, k2, k3⟩)
                      · grind
                      · first
                          | grind
                          | exact absurd (b2i_1 ((isCi_ok hC _).mpr k3)) (by rw [show b2i _ = 0 from by assumption]; decide)))
          · skip
            refine V_go 2 rfl ?_
            refine V_zret rfl rfl rfl (by first | exact Or.inl rfl | exact Or.inr rfl | exact b2i_or _ | assumption) ?_
            refine RI.mk ?_
            first
              | (refine (b2i_1 ?_).symm
                 first
                   | contradiction
                   | exact Or.inl ⟨by grind, by grind⟩
                   | exact Or.inr ⟨by grind, by grind, (isCi_ok hC _).mp (b2i_eq1.mp ((b2i_or _).resolve_left (show ¬ b2i _ = 0 from by assumption)))⟩)
              | (refine (b2i_0 ?_).symm
                 first
                   | contradiction
                   | (rintro (⟨k1, k2⟩ | ⟨k1, k2, k3⟩)
                      · grind
                      · first
                          | grind
                          | exact absurd (b2i_1 ((isCi_ok hC _).mpr k3)) (by rw [show b2i _ = 0 from by assumption]; decide)))
      · skip
        refine V_go 4 rfl ?_
        refine V_irem0 rfl (by decide) ?_
        refine cVI (mt' := mX0_hasCitizen) rfl kX6_90 fX0_hasCitizen rfl rfl rfl (Nat.le_of_ble_eq_true rfl) (Nat.le_of_ble_eq_true rfl) (Nat.le_of_ble_eq_true rfl) (Nat.le_of_ble_eq_true rfl) (Nat.le_refl _) (c_hasCitizen hC.1) ?_
        refine V_if_eq rfl (fun h9 => ?_) (fun h9 => ?_)
        · skip
          refine V_go 3 rfl ?_
          refine V_if_ne rfl (fun h10 => ?_) (fun h10 => ?_)
          · skip
            refine V_go 2 rfl ?_
            refine V_zret rfl rfl rfl (by first | exact Or.inl rfl | exact Or.inr rfl | exact b2i_or _ | assumption) ?_
            refine RI.mk ?_
            first
              | (refine (b2i_1 ?_).symm
                 first
                   | contradiction
                   | exact Or.inl ⟨by grind, by grind⟩
                   | exact Or.inr ⟨by grind, by grind, (isCi_ok hC _).mp (b2i_eq1.mp ((b2i_or _).resolve_left (show ¬ b2i _ = 0 from by assumption)))⟩)
              | (refine (b2i_0 ?_).symm
                 first
                   | contradiction
                   | (rintro (⟨k1, k2⟩ | ⟨k1, k2, k3⟩)
                      · grind
                      · first
                          | grind
                          | exact absurd (b2i_1 ((isCi_ok hC _).mpr k3)) (by rw [show b2i _ = 0 from by assumption]; decide)))
          · skip
            refine V_go 1 rfl ?_
            refine V_if_eq rfl (fun h11 => ?_) (fun h11 => ?_)
            · skip
              refine V_go 1 rfl ?_
              refine V_zret rfl rfl rfl (by first | exact Or.inl rfl | exact Or.inr rfl | exact b2i_or _ | assumption) ?_
              refine RI.mk ?_
              first
                | (refine (b2i_1 ?_).symm
                   first
                     | contradiction
                     | exact Or.inl ⟨by grind, by grind⟩
                     | exact Or.inr ⟨by grind, by grind, (isCi_ok hC _).mp (b2i_eq1.mp ((b2i_or _).resolve_left (show ¬ b2i _ = 0 from by assumption)))⟩)
                | (refine (b2i_0 ?_).symm
                   first
                     | contradiction
                     | (rintro (⟨k1, k2⟩ | ⟨k1, k2, k3⟩)
                        · grind
                        · first
                            | grind
                            | exact absurd (b2i_1 ((isCi_ok hC _).mpr k3)) (by rw [show b2i _ = 0 from by assumption]; decide)))
            · skip
              refine V_go 2 rfl ?_
              refine V_zret rfl rfl rfl (by first | exact Or.inl rfl | exact Or.inr rfl | exact b2i_or _ | assumption) ?_
              refine RI.mk ?_
              first
                | (refine (b2i_1 ?_).symm
                   first
                     | contradiction
                     | exact Or.inl ⟨by grind, by grind⟩
                     | exact Or.inr ⟨by grind, by grind, (isCi_ok hC _).mp (b2i_eq1.mp ((b2i_or _).resolve_left (show ¬ b2i _ = 0 from by assumption)))⟩)
                | (refine (b2i_0 ?_).symm
                   first
                     | contradiction
                     | (rintro (⟨k1, k2⟩ | ⟨k1, k2, k3⟩)
                        · grind
                        · first
                            | grind
                            | exact absurd (b2i_1 ((isCi_ok hC _).mpr k3)) (by rw [show b2i _ = 0 from by assumption]; decide)))
        · skip
          refine V_go 4 rfl ?_
          refine V_if_ne rfl (fun h12 => ?_) (fun h12 => ?_)
          · skip
            refine V_go 2 rfl ?_
            refine V_zret rfl rfl rfl (by first | exact Or.inl rfl | exact Or.inr rfl | exact b2i_or _ | assumption) ?_
            refine RI.mk ?_
            first
              | (refine (b2i_1 ?_).symm
                 first
                   | contradiction
                   | exact Or.inl ⟨by grind, by grind⟩
                   | exact Or.inr ⟨by grind, by grind, (isCi_ok hC _).mp (b2i_eq1.mp ((b2i_or _).resolve_left (show ¬ b2i _ = 0 from by assumption)))⟩)
              | (refine (b2i_0 ?_).symm
                 first
                   | contradiction
                   | (rintro (⟨k1, k2⟩ | ⟨k1, k2, k3⟩)
                      · grind
                      · first
                          | grind
                          | exact absurd (b2i_1 ((isCi_ok hC _).mpr k3)) (by rw [show b2i _ = 0 from by assumption]; decide)))
          · skip
            refine V_go 1 rfl ?_
            refine V_if_eq rfl (fun h13 => ?_) (fun h13 => ?_)
            · skip
              refine V_go 1 rfl ?_
              refine V_zret rfl rfl rfl (by first | exact Or.inl rfl | exact Or.inr rfl | exact b2i_or _ | assumption) ?_
              refine RI.mk ?_
              first
                | (refine (b2i_1 ?_).symm
                   first
                     | contradiction
                     | exact Or.inl ⟨by grind, by grind⟩
                     | exact Or.inr ⟨by grind, by grind, (isCi_ok hC _).mp (b2i_eq1.mp ((b2i_or _).resolve_left (show ¬ b2i _ = 0 from by assumption)))⟩)
                | (refine (b2i_0 ?_).symm
                   first
                     | contradiction
                     | (rintro (⟨k1, k2⟩ | ⟨k1, k2, k3⟩)
                        · grind
                        · first
                            | grind
                            | exact absurd (b2i_1 ((isCi_ok hC _).mpr k3)) (by rw [show b2i _ = 0 from by assumption]; decide)))
            · skip
              refine V_go 2 rfl ?_
              refine V_zret rfl rfl rfl (by first | exact Or.inl rfl | exact Or.inr rfl | exact b2i_or _ | assumption) ?_
              refine RI.mk ?_
              first
                | (refine (b2i_1 ?_).symm
                   first
                     | contradiction
                     | exact Or.inl ⟨by grind, by grind⟩
                     | exact Or.inr ⟨by grind, by grind, (isCi_ok hC _).mp (b2i_eq1.mp ((b2i_or _).resolve_left (show ¬ b2i _ = 0 from by assumption)))⟩)
                | (refine (b2i_0 ?_).symm
                   first
                     | contradiction
                     | (rintro (⟨k1, k2⟩ | ⟨k1, k2, k3⟩)
                        · grind
                        · first
                            | grind
                            | exact absurd (b2i_1 ((isCi_ok hC _).mpr k3)) (by rw [show b2i _ = 0 from by assumption]; decide)))
  · skip
    refine V_go 2 rfl ?_
    refine V_icmp_gt rfl (fun h14 => ?_) (fun h14 => ?_)
    · skip
      refine V_go 4 rfl ?_
      refine V_icmp_lt rfl (fun h15 => ?_) (fun h15 => ?_)
      · skip
        refine V_go 3 rfl ?_
        refine V_if_ne rfl (fun h16 => ?_) (fun h16 => ?_)
        · skip
          refine V_go 2 rfl ?_
          refine V_zret rfl rfl rfl (by first | exact Or.inl rfl | exact Or.inr rfl | exact b2i_or _ | assumption) ?_
          refine RI.mk ?_
          first
            | (refine (b2i_1 ?_).symm
               first
                 | contradiction
                 | exact Or.inl ⟨by grind, by grind⟩
                 | exact Or.inr ⟨by grind, by grind, (isCi_ok hC _).mp (b2i_eq1.mp ((b2i_or _).resolve_left (show ¬ b2i _ = 0 from by assumption)))⟩)
            | (refine (b2i_0 ?_).symm
               first
                 | contradiction
                 | (rintro (⟨k1, k2⟩ | ⟨k1, k2, k3⟩)
                    · grind
                    · first
                        | grind
                        | exact absurd (b2i_1 ((isCi_ok hC _).mpr k3)) (by rw [show b2i _ = 0 from by assumption]; decide)))
        · skip
          refine V_go 1 rfl ?_
          refine V_if_eq rfl (fun h17 => ?_) (fun h17 => ?_)
          · skip
            refine V_go 1 rfl ?_
            refine V_zret rfl rfl rfl (by first | exact Or.inl rfl | exact Or.inr rfl | exact b2i_or _ | assumption) ?_
            refine RI.mk ?_
            first
              | (refine (b2i_1 ?_).symm
                 first
                   | contradiction
                   | exact Or.inl ⟨by grind, by grind⟩
                   | exact Or.inr ⟨by grind, by grind, (isCi_ok hC _).mp (b2i_eq1.mp ((b2i_or _).resolve_left (show ¬ b2i _ = 0 from by assumption)))⟩)
              | (refine (b2i_0 ?_).symm
                 first
                   | contradiction
                   | (rintro (⟨k1, k2⟩ | ⟨k1, k2, k3⟩)
                      · grind
                      · first
                          | grind
                          | exact absurd (b2i_1 ((isCi_ok hC _).mpr k3)) (by rw [show b2i _ = 0 from by assumption]; decide)))
          · skip
            refine V_go 2 rfl ?_
            refine V_zret rfl rfl rfl (by first | exact Or.inl rfl | exact Or.inr rfl | exact b2i_or _ | assumption) ?_
            refine RI.mk ?_
            first
              | (refine (b2i_1 ?_).symm
                 first
                   | contradiction
                   | exact Or.inl ⟨by grind, by grind⟩
                   | exact Or.inr ⟨by grind, by grind, (isCi_ok hC _).mp (b2i_eq1.mp ((b2i_or _).resolve_left (show ¬ b2i _ = 0 from by assumption)))⟩)
              | (refine (b2i_0 ?_).symm
                 first
                   | contradiction
                   | (rintro (⟨k1, k2⟩ | ⟨k1, k2, k3⟩)
                      · grind
                      · first
                          | grind
                          | exact absurd (b2i_1 ((isCi_ok hC _).mpr k3)) (by rw [show b2i _ = 0 from by assumption]; decide)))
      · skip
        refine V_go 2 rfl ?_
        refine V_icmp_gt rfl (fun h18 => ?_) (fun h18 => ?_)
        · skip
          refine V_go 3 rfl ?_
          refine V_if_ne rfl (fun h19 => ?_) (fun h19 => ?_)
          · skip
            refine V_go 2 rfl ?_
            refine V_zret rfl rfl rfl (by first | exact Or.inl rfl | exact Or.inr rfl | exact b2i_or _ | assumption) ?_
            refine RI.mk ?_
            first
              | (refine (b2i_1 ?_).symm
                 first
                   | contradiction
                   | exact Or.inl ⟨by grind, by grind⟩
                   | exact Or.inr ⟨by grind, by grind, (isCi_ok hC _).mp (b2i_eq1.mp ((b2i_or _).resolve_left (show ¬ b2i _ = 0 from by assumption)))⟩)
              | (refine (b2i_0 ?_).symm
                 first
                   | contradiction
                   | (rintro (⟨k1, k2⟩ | ⟨k1, k2, k3⟩)
                      · grind
                      · first
                          | grind
                          | exact absurd (b2i_1 ((isCi_ok hC _).mpr k3)) (by rw [show b2i _ = 0 from by assumption]; decide)))
          · skip
            refine V_go 1 rfl ?_
            refine V_if_eq rfl (fun h20 => ?_) (fun h20 => ?_)
            · skip
              refine V_go 1 rfl ?_
              refine V_zret rfl rfl rfl (by first | exact Or.inl rfl | exact Or.inr rfl | exact b2i_or _ | assumption) ?_
              refine RI.mk ?_
              first
                | (refine (b2i_1 ?_).symm
                   first
                     | contradiction
                     | exact Or.inl ⟨by grind, by grind⟩
                     | exact Or.inr ⟨by grind, by grind, (isCi_ok hC _).mp (b2i_eq1.mp ((b2i_or _).resolve_left (show ¬ b2i _ = 0 from by assumption)))⟩)
                | (refine (b2i_0 ?_).symm
                   first
                     | contradiction
                     | (rintro (⟨k1, k2⟩ | ⟨k1, k2, k3⟩)
                        · grind
                        · first
                            | grind
                            | exact absurd (b2i_1 ((isCi_ok hC _).mpr k3)) (by rw [show b2i _ = 0 from by assumption]; decide)))
            · skip
              refine V_go 2 rfl ?_
              refine V_zret rfl rfl rfl (by first | exact Or.inl rfl | exact Or.inr rfl | exact b2i_or _ | assumption) ?_
              refine RI.mk ?_
              first
                | (refine (b2i_1 ?_).symm
                   first
                     | contradiction
                     | exact Or.inl ⟨by grind, by grind⟩
                     | exact Or.inr ⟨by grind, by grind, (isCi_ok hC _).mp (b2i_eq1.mp ((b2i_or _).resolve_left (show ¬ b2i _ = 0 from by assumption)))⟩)
                | (refine (b2i_0 ?_).symm
                   first
                     | contradiction
                     | (rintro (⟨k1, k2⟩ | ⟨k1, k2, k3⟩)
                        · grind
                        · first
                            | grind
                            | exact absurd (b2i_1 ((isCi_ok hC _).mpr k3)) (by rw [show b2i _ = 0 from by assumption]; decide)))
        · skip
          refine V_go 4 rfl ?_
          refine V_irem0 rfl (by decide) ?_
          refine cVI (mt' := mX0_hasCitizen) rfl kX6_90 fX0_hasCitizen rfl rfl rfl (Nat.le_of_ble_eq_true rfl) (Nat.le_of_ble_eq_true rfl) (Nat.le_of_ble_eq_true rfl) (Nat.le_of_ble_eq_true rfl) (Nat.le_refl _) (c_hasCitizen hC.1) ?_
          refine V_if_eq rfl (fun h22 => ?_) (fun h22 => ?_)
          · skip
            refine V_go 3 rfl ?_
            refine V_if_ne rfl (fun h23 => ?_) (fun h23 => ?_)
            · skip
              refine V_go 2 rfl ?_
              refine V_zret rfl rfl rfl (by first | exact Or.inl rfl | exact Or.inr rfl | exact b2i_or _ | assumption) ?_
              refine RI.mk ?_
              first
                | (refine (b2i_1 ?_).symm
                   first
                     | contradiction
                     | exact Or.inl ⟨by grind, by grind⟩
                     | exact Or.inr ⟨by grind, by grind, (isCi_ok hC _).mp (b2i_eq1.mp ((b2i_or _).resolve_left (show ¬ b2i _ = 0 from by assumption)))⟩)
                | (refine (b2i_0 ?_).symm
                   first
                     | contradiction
                     | (rintro (⟨k1, k2⟩ | ⟨k1, k2, k3⟩)
                        · grind
                        · first
                            | grind
                            | exact absurd (b2i_1 ((isCi_ok hC _).mpr k3)) (by rw [show b2i _ = 0 from by assumption]; decide)))
            · skip
              refine V_go 1 rfl ?_
              refine V_if_eq rfl (fun h24 => ?_) (fun h24 => ?_)
              · skip
                refine V_go 1 rfl ?_
                refine V_zret rfl rfl rfl (by first | exact Or.inl rfl | exact Or.inr rfl | exact b2i_or _ | assumption) ?_
                refine RI.mk ?_
                first
                  | (refine (b2i_1 ?_).symm
                     first
                       | contradiction
                       | exact Or.inl ⟨by grind, by grind⟩
                       | exact Or.inr ⟨by grind, by grind, (isCi_ok hC _).mp (b2i_eq1.mp ((b2i_or _).resolve_left (show ¬ b2i _ = 0 from by assumption)))⟩)
                  | (refine (b2i_0 ?_).symm
                     first
                       | contradiction
                       | (rintro (⟨k1, k2⟩ | ⟨k1, k2, k3⟩)
                          · grind
                          · first
                              | grind
                              | exact absurd (b2i_1 ((isCi_ok hC _).mpr k3)) (by rw [show b2i _ = 0 from by assumption]; decide)))
              · skip
                refine V_go 2 rfl ?_
                refine V_zret rfl rfl rfl (by first | exact Or.inl rfl | exact Or.inr rfl | exact b2i_or _ | assumption) ?_
                refine RI.mk ?_
                first
                  | (refine (b2i_1 ?_).symm
                     first
                       | contradiction
                       | exact Or.inl ⟨by grind, by grind⟩
                       | exact Or.inr ⟨by grind, by grind, (isCi_ok hC _).mp (b2i_eq1.mp ((b2i_or _).resolve_left (show ¬ b2i _ = 0 from by assumption)))⟩)
                  | (refine (b2i_0 ?_).symm
                     first
                       | contradiction
                       | (rintro (⟨k1, k2⟩ | ⟨k1, k2, k3⟩)
                          · grind
                          · first
                              | grind
                              | exact absurd (b2i_1 ((isCi_ok hC _).mpr k3)) (by rw [show b2i _ = 0 from by assumption]; decide)))
          · skip
            refine V_go 4 rfl ?_
            refine V_if_ne rfl (fun h25 => ?_) (fun h25 => ?_)
            · skip
              refine V_go 2 rfl ?_
              refine V_zret rfl rfl rfl (by first | exact Or.inl rfl | exact Or.inr rfl | exact b2i_or _ | assumption) ?_
              refine RI.mk ?_
              first
                | (refine (b2i_1 ?_).symm
                   first
                     | contradiction
                     | exact Or.inl ⟨by grind, by grind⟩
                     | exact Or.inr ⟨by grind, by grind, (isCi_ok hC _).mp (b2i_eq1.mp ((b2i_or _).resolve_left (show ¬ b2i _ = 0 from by assumption)))⟩)
                | (refine (b2i_0 ?_).symm
                   first
                     | contradiction
                     | (rintro (⟨k1, k2⟩ | ⟨k1, k2, k3⟩)
                        · grind
                        · first
                            | grind
                            | exact absurd (b2i_1 ((isCi_ok hC _).mpr k3)) (by rw [show b2i _ = 0 from by assumption]; decide)))
            · skip
              refine V_go 1 rfl ?_
              refine V_if_eq rfl (fun h26 => ?_) (fun h26 => ?_)
              · skip
                refine V_go 1 rfl ?_
                refine V_zret rfl rfl rfl (by first | exact Or.inl rfl | exact Or.inr rfl | exact b2i_or _ | assumption) ?_
                refine RI.mk ?_
                first
                  | (refine (b2i_1 ?_).symm
                     first
                       | contradiction
                       | exact Or.inl ⟨by grind, by grind⟩
                       | exact Or.inr ⟨by grind, by grind, (isCi_ok hC _).mp (b2i_eq1.mp ((b2i_or _).resolve_left (show ¬ b2i _ = 0 from by assumption)))⟩)
                  | (refine (b2i_0 ?_).symm
                     first
                       | contradiction
                       | (rintro (⟨k1, k2⟩ | ⟨k1, k2, k3⟩)
                          · grind
                          · first
                              | grind
                              | exact absurd (b2i_1 ((isCi_ok hC _).mpr k3)) (by rw [show b2i _ = 0 from by assumption]; decide)))
              · skip
                refine V_go 2 rfl ?_
                refine V_zret rfl rfl rfl (by first | exact Or.inl rfl | exact Or.inr rfl | exact b2i_or _ | assumption) ?_
                refine RI.mk ?_
                first
                  | (refine (b2i_1 ?_).symm
                     first
                       | contradiction
                       | exact Or.inl ⟨by grind, by grind⟩
                       | exact Or.inr ⟨by grind, by grind, (isCi_ok hC _).mp (b2i_eq1.mp ((b2i_or _).resolve_left (show ¬ b2i _ = 0 from by assumption)))⟩)
                  | (refine (b2i_0 ?_).symm
                     first
                       | contradiction
                       | (rintro (⟨k1, k2⟩ | ⟨k1, k2, k3⟩)
                          · grind
                          · first
                              | grind
                              | exact absurd (b2i_1 ((isCi_ok hC _).mpr k3)) (by rw [show b2i _ = 0 from by assumption]; decide)))
    · skip
      refine V_go 5 rfl ?_
      refine V_icmp_lt rfl (fun h27 => ?_) (fun h27 => ?_)
      · skip
        refine V_go 3 rfl ?_
        refine V_if_ne rfl (fun h28 => ?_) (fun h28 => ?_)
        · skip
          refine V_go 2 rfl ?_
          refine V_zret rfl rfl rfl (by first | exact Or.inl rfl | exact Or.inr rfl | exact b2i_or _ | assumption) ?_
          refine RI.mk ?_
          first
            | (refine (b2i_1 ?_).symm
               first
                 | contradiction
                 | exact Or.inl ⟨by grind, by grind⟩
                 | exact Or.inr ⟨by grind, by grind, (isCi_ok hC _).mp (b2i_eq1.mp ((b2i_or _).resolve_left (show ¬ b2i _ = 0 from by assumption)))⟩)
            | (refine (b2i_0 ?_).symm
               first
                 | contradiction
                 | (rintro (⟨k1, k2⟩ | ⟨k1, k2, k3⟩)
                    · grind
                    · first
                        | grind
                        | exact absurd (b2i_1 ((isCi_ok hC _).mpr k3)) (by rw [show b2i _ = 0 from by assumption]; decide)))
        · skip
          refine V_go 1 rfl ?_
          refine V_if_eq rfl (fun h29 => ?_) (fun h29 => ?_)
          · skip
            refine V_go 1 rfl ?_
            refine V_zret rfl rfl rfl (by first | exact Or.inl rfl | exact Or.inr rfl | exact b2i_or _ | assumption) ?_
            refine RI.mk ?_
            first
              | (refine (b2i_1 ?_).symm
                 first
                   | contradiction
                   | exact Or.inl ⟨by grind, by grind⟩
                   | exact Or.inr ⟨by grind, by grind, (isCi_ok hC _).mp (b2i_eq1.mp ((b2i_or _).resolve_left (show ¬ b2i _ = 0 from by assumption)))⟩)
              | (refine (b2i_0 ?_).symm
                 first
                   | contradiction
                   | (rintro (⟨k1, k2⟩ | ⟨k1, k2, k3⟩)
                      · grind
                      · first
                          | grind
                          | exact absurd (b2i_1 ((isCi_ok hC _).mpr k3)) (by rw [show b2i _ = 0 from by assumption]; decide)))
          · skip
            refine V_go 2 rfl ?_
            refine V_zret rfl rfl rfl (by first | exact Or.inl rfl | exact Or.inr rfl | exact b2i_or _ | assumption) ?_
            refine RI.mk ?_
            first
              | (refine (b2i_1 ?_).symm
                 first
                   | contradiction
                   | exact Or.inl ⟨by grind, by grind⟩
                   | exact Or.inr ⟨by grind, by grind, (isCi_ok hC _).mp (b2i_eq1.mp ((b2i_or _).resolve_left (show ¬ b2i _ = 0 from by assumption)))⟩)
              | (refine (b2i_0 ?_).symm
                 first
                   | contradiction
                   | (rintro (⟨k1, k2⟩ | ⟨k1, k2, k3⟩)
                      · grind
                      · first
                          | grind
                          | exact absurd (b2i_1 ((isCi_ok hC _).mpr k3)) (by rw [show b2i _ = 0 from by assumption]; decide)))
      · skip
        refine V_go 2 rfl ?_
        refine V_icmp_gt rfl (fun h30 => ?_) (fun h30 => ?_)
        · skip
          refine V_go 3 rfl ?_
          refine V_if_ne rfl (fun h31 => ?_) (fun h31 => ?_)
          · skip
            refine V_go 2 rfl ?_
            refine V_zret rfl rfl rfl (by first | exact Or.inl rfl | exact Or.inr rfl | exact b2i_or _ | assumption) ?_
            refine RI.mk ?_
            first
              | (refine (b2i_1 ?_).symm
                 first
                   | contradiction
                   | exact Or.inl ⟨by grind, by grind⟩
                   | exact Or.inr ⟨by grind, by grind, (isCi_ok hC _).mp (b2i_eq1.mp ((b2i_or _).resolve_left (show ¬ b2i _ = 0 from by assumption)))⟩)
              | (refine (b2i_0 ?_).symm
                 first
                   | contradiction
                   | (rintro (⟨k1, k2⟩ | ⟨k1, k2, k3⟩)
                      · grind
                      · first
                          | grind
                          | exact absurd (b2i_1 ((isCi_ok hC _).mpr k3)) (by rw [show b2i _ = 0 from by assumption]; decide)))
          · skip
            refine V_go 1 rfl ?_
            refine V_if_eq rfl (fun h32 => ?_) (fun h32 => ?_)
            · skip
              refine V_go 1 rfl ?_
              refine V_zret rfl rfl rfl (by first | exact Or.inl rfl | exact Or.inr rfl | exact b2i_or _ | assumption) ?_
              refine RI.mk ?_
              first
                | (refine (b2i_1 ?_).symm
                   first
                     | contradiction
                     | exact Or.inl ⟨by grind, by grind⟩
                     | exact Or.inr ⟨by grind, by grind, (isCi_ok hC _).mp (b2i_eq1.mp ((b2i_or _).resolve_left (show ¬ b2i _ = 0 from by assumption)))⟩)
                | (refine (b2i_0 ?_).symm
                   first
                     | contradiction
                     | (rintro (⟨k1, k2⟩ | ⟨k1, k2, k3⟩)
                        · grind
                        · first
                            | grind
                            | exact absurd (b2i_1 ((isCi_ok hC _).mpr k3)) (by rw [show b2i _ = 0 from by assumption]; decide)))
            · skip
              refine V_go 2 rfl ?_
              refine V_zret rfl rfl rfl (by first | exact Or.inl rfl | exact Or.inr rfl | exact b2i_or _ | assumption) ?_
              refine RI.mk ?_
              first
                | (refine (b2i_1 ?_).symm
                   first
                     | contradiction
                     | exact Or.inl ⟨by grind, by grind⟩
                     | exact Or.inr ⟨by grind, by grind, (isCi_ok hC _).mp (b2i_eq1.mp ((b2i_or _).resolve_left (show ¬ b2i _ = 0 from by assumption)))⟩)
                | (refine (b2i_0 ?_).symm
                   first
                     | contradiction
                     | (rintro (⟨k1, k2⟩ | ⟨k1, k2, k3⟩)
                        · grind
                        · first
                            | grind
                            | exact absurd (b2i_1 ((isCi_ok hC _).mpr k3)) (by rw [show b2i _ = 0 from by assumption]; decide)))
        · skip
          refine V_go 4 rfl ?_
          refine V_irem0 rfl (by decide) ?_
          refine cVI (mt' := mX0_hasCitizen) rfl kX6_90 fX0_hasCitizen rfl rfl rfl (Nat.le_of_ble_eq_true rfl) (Nat.le_of_ble_eq_true rfl) (Nat.le_of_ble_eq_true rfl) (Nat.le_of_ble_eq_true rfl) (Nat.le_refl _) (c_hasCitizen hC.1) ?_
          refine V_if_eq rfl (fun h34 => ?_) (fun h34 => ?_)
          · skip
            refine V_go 3 rfl ?_
            refine V_if_ne rfl (fun h35 => ?_) (fun h35 => ?_)
            · skip
              refine V_go 2 rfl ?_
              refine V_zret rfl rfl rfl (by first | exact Or.inl rfl | exact Or.inr rfl | exact b2i_or _ | assumption) ?_
              refine RI.mk ?_
              first
                | (refine (b2i_1 ?_).symm
                   first
                     | contradiction
                     | exact Or.inl ⟨by grind, by grind⟩
                     | exact Or.inr ⟨by grind, by grind, (isCi_ok hC _).mp (b2i_eq1.mp ((b2i_or _).resolve_left (show ¬ b2i _ = 0 from by assumption)))⟩)
                | (refine (b2i_0 ?_).symm
                   first
                     | contradiction
                     | (rintro (⟨k1, k2⟩ | ⟨k1, k2, k3⟩)
                        · grind
                        · first
                            | grind
                            | exact absurd (b2i_1 ((isCi_ok hC _).mpr k3)) (by rw [show b2i _ = 0 from by assumption]; decide)))
            · skip
              refine V_go 1 rfl ?_
              refine V_if_eq rfl (fun h36 => ?_) (fun h36 => ?_)
              · skip
                refine V_go 1 rfl ?_
                refine V_zret rfl rfl rfl (by first | exact Or.inl rfl | exact Or.inr rfl | exact b2i_or _ | assumption) ?_
                refine RI.mk ?_
                first
                  | (refine (b2i_1 ?_).symm
                     first
                       | contradiction
                       | exact Or.inl ⟨by grind, by grind⟩
                       | exact Or.inr ⟨by grind, by grind, (isCi_ok hC _).mp (b2i_eq1.mp ((b2i_or _).resolve_left (show ¬ b2i _ = 0 from by assumption)))⟩)
                  | (refine (b2i_0 ?_).symm
                     first
                       | contradiction
                       | (rintro (⟨k1, k2⟩ | ⟨k1, k2, k3⟩)
                          · grind
                          · first
                              | grind
                              | exact absurd (b2i_1 ((isCi_ok hC _).mpr k3)) (by rw [show b2i _ = 0 from by assumption]; decide)))
              · skip
                refine V_go 2 rfl ?_
                refine V_zret rfl rfl rfl (by first | exact Or.inl rfl | exact Or.inr rfl | exact b2i_or _ | assumption) ?_
                refine RI.mk ?_
                first
                  | (refine (b2i_1 ?_).symm
                     first
                       | contradiction
                       | exact Or.inl ⟨by grind, by grind⟩
                       | exact Or.inr ⟨by grind, by grind, (isCi_ok hC _).mp (b2i_eq1.mp ((b2i_or _).resolve_left (show ¬ b2i _ = 0 from by assumption)))⟩)
                  | (refine (b2i_0 ?_).symm
                     first
                       | contradiction
                       | (rintro (⟨k1, k2⟩ | ⟨k1, k2, k3⟩)
                          · grind
                          · first
                              | grind
                              | exact absurd (b2i_1 ((isCi_ok hC _).mpr k3)) (by rw [show b2i _ = 0 from by assumption]; decide)))
          · skip
            refine V_go 4 rfl ?_
            refine V_if_ne rfl (fun h37 => ?_) (fun h37 => ?_)
            · skip
              refine V_go 2 rfl ?_
              refine V_zret rfl rfl rfl (by first | exact Or.inl rfl | exact Or.inr rfl | exact b2i_or _ | assumption) ?_
              refine RI.mk ?_
              first
                | (refine (b2i_1 ?_).symm
                   first
                     | contradiction
                     | exact Or.inl ⟨by grind, by grind⟩
                     | exact Or.inr ⟨by grind, by grind, (isCi_ok hC _).mp (b2i_eq1.mp ((b2i_or _).resolve_left (show ¬ b2i _ = 0 from by assumption)))⟩)
                | (refine (b2i_0 ?_).symm
                   first
                     | contradiction
                     | (rintro (⟨k1, k2⟩ | ⟨k1, k2, k3⟩)
                        · grind
                        · first
                            | grind
                            | exact absurd (b2i_1 ((isCi_ok hC _).mpr k3)) (by rw [show b2i _ = 0 from by assumption]; decide)))
            · skip
              refine V_go 1 rfl ?_
              refine V_if_eq rfl (fun h38 => ?_) (fun h38 => ?_)
              · skip
                refine V_go 1 rfl ?_
                refine V_zret rfl rfl rfl (by first | exact Or.inl rfl | exact Or.inr rfl | exact b2i_or _ | assumption) ?_
                refine RI.mk ?_
                first
                  | (refine (b2i_1 ?_).symm
                     first
                       | contradiction
                       | exact Or.inl ⟨by grind, by grind⟩
                       | exact Or.inr ⟨by grind, by grind, (isCi_ok hC _).mp (b2i_eq1.mp ((b2i_or _).resolve_left (show ¬ b2i _ = 0 from by assumption)))⟩)
                  | (refine (b2i_0 ?_).symm
                     first
                       | contradiction
                       | (rintro (⟨k1, k2⟩ | ⟨k1, k2, k3⟩)
                          · grind
                          · first
                              | grind
                              | exact absurd (b2i_1 ((isCi_ok hC _).mpr k3)) (by rw [show b2i _ = 0 from by assumption]; decide)))
              · skip
                refine V_go 2 rfl ?_
                refine V_zret rfl rfl rfl (by first | exact Or.inl rfl | exact Or.inr rfl | exact b2i_or _ | assumption) ?_
                refine RI.mk ?_
                first
                  | (refine (b2i_1 ?_).symm
                     first
                       | contradiction
                       | exact Or.inl ⟨by grind, by grind⟩
                       | exact Or.inr ⟨by grind, by grind, (isCi_ok hC _).mp (b2i_eq1.mp ((b2i_or _).resolve_left (show ¬ b2i _ = 0 from by assumption)))⟩)
                  | (refine (b2i_0 ?_).symm
                     first
                       | contradiction
                       | (rintro (⟨k1, k2⟩ | ⟨k1, k2, k3⟩)
                          · grind
                          · first
                              | grind
                              | exact absurd (b2i_1 ((isCi_ok hC _).mpr k3)) (by rw [show b2i _ = 0 from by assumption]; decide)))
