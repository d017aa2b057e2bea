theorem Cok.fr2 {I I1 : I2} {T : TV} (h : Cok I 7 T) (q : Fr 7 I I1) (e2 : 0 ≤ cOf I1 7 0 2 ∧ cOf I1 7 0 2 < I 1 0) (e3 : 0 ≤ cOf I1 7 0 3 ∧ cOf I1 7 0 3 ≤ 8) (e4 : 0 ≤ cOf I1 7 0 4 ∧ cOf I1 7 0 4 ≤ 6) : Cok I1 7 T := by
  obtain ⟨ho, h1, h4⟩ := h
  have e1 : I1 1 = I 1 := q 1 (by omega) (by omega)
  refine ⟨ho, h1.rows e1 (q 2 (by omega) (by omega)) (q 3 (by omega) (by omega)), e2.1, ?_, e3.1, e3.2, e4.1, e4.2⟩
  rw [e1]
  exact e2.2
theorem add8 {x : Int32} (h : 0 ≤ x) (h2 : x < 8) : 0 ≤ x + 1 ∧ x + 1 ≤ 8 := by grind
theorem add6 {x : Int32} (h : 0 ≤ x) (h2 : x < 6) : 0 ≤ x + 1 ∧ x + 1 ≤ 6 := by grind
theorem sAddC_0 (C : CC) (k x : Int32) : (sAddC C k x).2 0 2 = C 0 2 ∧ (sAddC C k x).2 0 4 = C 0 4 ∧ ((sAddC C k x).2 0 3 = C 0 3 ∨ C 0 3 < 8 ∧ (sAddC C k x).2 0 3 = C 0 3 + 1) := by
  unfold sAddC
  split
  · split
    · rename_i h
      refine ⟨rfl, rfl, Or.inr ⟨h, rfl⟩⟩
    · exact ⟨rfl, rfl, Or.inl rfl⟩
  · exact ⟨rfl, rfl, Or.inl rfl⟩
theorem Cok.addC {I I1 : I2} {T : TV} {k x : Int32} (h : Cok I 7 T) (q : Fr 7 I I1) (e : cOf I1 7 = (sAddC (cOf I 7) k x).2) : Cok I1 7 T := by
  obtain ⟨a1, a2, a3⟩ := sAddC_0 (cOf I 7) k x
  rw [← e] at a1 a2 a3
  obtain ⟨-, -, r0, r1, n0, n8, i0, i6⟩ := id h
  refine h.fr2 q ?_ ?_ ?_
  · rw [a1]; exact ⟨r0, r1⟩
  · rcases a3 with a3 | ⟨a3, a4⟩
    · rw [a3]; exact ⟨n0, n8⟩
    · rw [a4]; exact add8 n0 a3
  · rw [a2]; exact ⟨i0, i6⟩
def sCt (ce : Int32 → Int32) (sz fr : Int32) : Nat → Nat → CC → Int32 → Int32 × CC
  | 0, _, C, came => (came, C)
  | n + 1, i, C, came => if (0 ≤ fr + 2 * i32 i ∧ fr + 2 * i32 i < sz ∧ fr + 2 * i32 i < 40) ∧ (0 ≤ fr + 2 * i32 i + 1 ∧ fr + 2 * i32 i + 1 < sz ∧ fr + 2 * i32 i + 1 < 40) then sCt ce sz fr n (i + 1) (sAddC C (ce (fr + 2 * i32 i)) (ce (fr + 2 * i32 i + 1))).2 (if 0 ≤ (sAddC C (ce (fr + 2 * i32 i)) (ce (fr + 2 * i32 i + 1))).1 then came + 1 else came) else (-12, C)
def ceOf (I : I2) (s : Int32) : Int32 → Int32 := fun p => I 37 (40 * s.toNatClampNeg + p.toNatClampNeg)
def sCitz (so sz : Int32) (ce : Int32 → Int32) (C : CC) (s k fr n : Int32) : Int32 × CC := if (0 ≤ s ∧ s < 4) ∧ (0 ≤ k ∧ k ≤ 2) ∧ 0 ≤ n ∧ n ≤ 8 then (if so = -1 then (-11, C) else if so = k then sCt ce sz fr n.toNatClampNeg 0 C 0 else (-13, C)) else (-2, C)

theorem c_citizens {s k fr mm : Int32} {I : I2} {J : J2} {T : TV} (hC : Cok I 7 T) : CT mX6_citizens 5 58 58 [.ref 0, .int s, .int k, .int fr, .int mm] I J RF (RP RF (fun r I9 J9 => J9 = J ∧ Fr 7 I I9 ∧ r = (sCitz (I 35 s.toNatClampNeg) (I 36 s.toNatClampNeg) (ceOf I s) (cOf I 7) s k fr mm).1 ∧ cOf I9 7 = (sCitz (I 35 s.toNatClampNeg) (I 36 s.toNatClampNeg) (ceOf I s) (cOf I 7) s k fr mm).2)) := by
  skip
  have k62 : ((0 ≤ s ∧ s < 4) ∧ 0 ≤ mm ∧ mm ≤ 8) → V mX6_citizens none 5 58 (RP RF (fun r I9 J9 => J9 = J ∧ Fr 7 I I9 ∧ r = (sCt (ceOf I s) (I 36 s.toNatClampNeg) fr mm.toNatClampNeg 0 (cOf I 7) 0).1 ∧ cOf I9 7 = (sCt (ceOf I s) (I 36 s.toNatClampNeg) fr mm.toNatClampNeg 0 (cOf I 7) 0).2)) 62 [(0, .ref 0), (1, .int s), (2, .int k), (3, .int fr), (4, .int mm)] [] 58 I J RF := by
    intro pw
    obtain ⟨⟨p0, p4⟩, q0, q8⟩ := pw
    have px := xn q0
    have p9 : mm.toNatClampNeg < 1000 := by
      have h1 := tcn mm q0
      have h2 := Int32.le_iff_toInt_le.mp q8
      have h3 : (8 : Int32).toInt = 8 := rfl
      have h4 : Lean.Grind.ToInt.toInt mm = mm.toInt := rfl
      omega
    have key : ∀ n, Hid (∀ (i : Nat) (I1 : I2) (came : Int32), i + n = mm.toNatClampNeg → Cok I1 7 T ∧ Fr 7 I I1 → V mX6_citizens none 5 58 (RP RF (fun r I9 J9 => J9 = J ∧ Fr 7 I I9 ∧ r = (sCt (ceOf I s) (I 36 s.toNatClampNeg) fr n i (cOf I1 7) came).1 ∧ cOf I9 7 = (sCt (ceOf I s) (I 36 s.toNatClampNeg) fr n i (cOf I1 7) came).2)) 68 [(0, .ref 0), (1, .int s), (2, .int k), (3, .int fr), (4, .int mm), (5, .int (came)), (6, .int (i32 (i)))] [] 58 I1 J RF) := by
      intro n
      induction n with
      | zero =>
        unfold Hid
        intro i I1 came hi hs
        have r36 : I1 36 = I 36 := hs.2 36 (by omega) (by omega)
        have r37 : I1 37 = I 37 := hs.2 37 (by omega) (by omega)
        refine V_go 2 rfl ?_
        refine V_icmp_ge rfl (fun h1 => ?_) (fun h1 => ?_)
        · skip
          refine V_go 1 rfl ?_
          refine V_iret rfl rfl rfl ?_
          exact RP.mk ⟨rfl, hs.2, rfl, rfl⟩
        · skip
          exfalso
          rw [← px] at h1
          exact h1 (lp_stop hi)
      | succ n ih =>
        unfold Hid
        intro i I1 came hi hs
        have r36 : I1 36 = I 36 := hs.2 36 (by omega) (by omega)
        have r37 : I1 37 = I 37 := hs.2 37 (by omega) (by omega)
        refine V_go 2 rfl ?_
        refine V_icmp_ge rfl (fun h1 => ?_) (fun h1 => ?_)
        · skip
          exfalso
          rw [← px] at h1
          exact lp_more (by omega) (by omega) h1
        · skip
          refine V_go 10 rfl ?_
          refine cVI (mt' := mX4_hasItem) rfl kX6_261 fX4_hasItem rfl rfl rfl (Nat.le_of_ble_eq_true rfl) (Nat.le_of_ble_eq_true rfl) (Nat.le_of_ble_eq_true rfl) (Nat.le_of_ble_eq_true rfl) (Nat.le_refl _) (c_hasItem9 p0 p4) ?_
          refine V_if_eq rfl (fun h3 => ?_) (fun h3 => ?_)
          · skip
            refine V_go 1 rfl ?_
            refine V_iret rfl rfl rfl ?_
            refine RP.mk ⟨rfl, hs.2, ?_⟩
            rw [sCt, if_neg]
            · exact ⟨rfl, rfl⟩
            · intro q
              rw [← r36] at q
              first
                | exact absurd (b2i_1 q.1) (by rw [show b2i (0 ≤ fr + 2 * i32 i ∧ fr + 2 * i32 i < I1 36 s.toNatClampNeg ∧ fr + 2 * i32 i < 40) = 0 from by assumption]; decide)
                | exact absurd (b2i_1 q.2) (by rw [show b2i (0 ≤ fr + 2 * i32 i + 1 ∧ fr + 2 * i32 i + 1 < I1 36 s.toNatClampNeg ∧ fr + 2 * i32 i + 1 < 40) = 0 from by assumption]; decide)
          · skip
            refine V_go 6 rfl ?_
            refine cVI (mt' := mX4_hasItem) rfl kX6_261 fX4_hasItem rfl rfl rfl (Nat.le_of_ble_eq_true rfl) (Nat.le_of_ble_eq_true rfl) (Nat.le_of_ble_eq_true rfl) (Nat.le_of_ble_eq_true rfl) (Nat.le_refl _) (c_hasItem9 p0 p4) ?_
            refine V_if_ne rfl (fun h5 => ?_) (fun h5 => ?_)
            · skip
              have u1 := (show 0 ≤ fr + 2 * i32 i ∧ fr + 2 * i32 i < I1 36 s.toNatClampNeg ∧ fr + 2 * i32 i < 40 from b2i_eq1.mp ((b2i_or _).resolve_left (by assumption)))
              have u2 := (show 0 ≤ fr + 2 * i32 i + 1 ∧ fr + 2 * i32 i + 1 < I1 36 s.toNatClampNeg ∧ fr + 2 * i32 i + 1 < 40 from b2i_eq1.mp ((b2i_or _).resolve_left (by assumption)))
              refine V_go 5 rfl ?_
              refine cVI (mt' := mX4_valueAt) rfl kX6_204 fX4_valueAt rfl rfl rfl (Nat.le_of_ble_eq_true rfl) (Nat.le_of_ble_eq_true rfl) (Nat.le_of_ble_eq_true rfl) (Nat.le_of_ble_eq_true rfl) (Nat.le_refl _) (c_valueAt p0 p4 u1.1 u1.2.1 u1.2.2) ?_
              refine V_go 6 rfl ?_
              refine cVI (mt' := mX4_valueAt) rfl kX6_204 fX4_valueAt rfl rfl rfl (Nat.le_of_ble_eq_true rfl) (Nat.le_of_ble_eq_true rfl) (Nat.le_of_ble_eq_true rfl) (Nat.le_of_ble_eq_true rfl) (Nat.le_refl _) (c_valueAt p0 p4 u2.1 u2.2.1 u2.2.2) ?_
              refine cVP (mt' := mX6_citizen) rfl kX6_274 fX6_citizen rfl rfl rfl (Nat.le_of_ble_eq_true rfl) (Nat.le_of_ble_eq_true rfl) (Nat.le_of_ble_eq_true rfl) (Nat.le_of_ble_eq_true rfl) (Nat.le_refl _) (c_citizen hs.1) ?_
              intro r33 Ir33 Jr33 h33
              obtain ⟨rfl, hq2, hv, hc2⟩ := h33
              refine V_if_lt rfl (fun h34 => ?_) (fun h34 => ?_)
              · skip
                refine V_go 2 rfl ?_
                have hC2 := hs.1.addC hq2 hc2
                have ec : sCt (ceOf I s) (I 36 s.toNatClampNeg) fr (n + 1) i (cOf I1 7) came = sCt (ceOf I s) (I 36 s.toNatClampNeg) fr n (i + 1) (cOf Ir33 7) (came) := by
                  rw [sCt, if_pos ⟨by rw [← r36]; exact u1, by rw [← r36]; exact u2⟩, hc2, r37]
                  show sCt _ _ _ _ _ _ (if 0 ≤ (sAddC (cOf I1 7) (I 37 _) (I 37 _)).1 then came + 1 else came) = _
                  rw [r37] at hv
                  rw [← hv, if_neg (by first | assumption | exact Int32.not_le.mpr (by assumption))]
                  rfl
                rw [ec]
                refine V.st (I' := Ir33) (L' := [(0, .ref 0), (1, .int s), (2, .int k), (3, .int fr), (4, .int mm), (5, .int (came)), (6, .int (i32 (i + 1)))]) (ih.un (i + 1) Ir33 (came) (by omega) ⟨hC2, hs.2.tr hq2⟩) rfl ?_
                rw [i32_s]
                simp
              · skip
                refine V_go 3 rfl ?_
                have hC2 := hs.1.addC hq2 hc2
                have ec : sCt (ceOf I s) (I 36 s.toNatClampNeg) fr (n + 1) i (cOf I1 7) came = sCt (ceOf I s) (I 36 s.toNatClampNeg) fr n (i + 1) (cOf Ir33 7) (came + 1) := by
                  rw [sCt, if_pos ⟨by rw [← r36]; exact u1, by rw [← r36]; exact u2⟩, hc2, r37]
                  show sCt _ _ _ _ _ _ (if 0 ≤ (sAddC (cOf I1 7) (I 37 _) (I 37 _)).1 then came + 1 else came) = _
                  rw [r37] at hv
                  rw [← hv, if_pos (by first | assumption | exact Int32.not_lt.mp (by assumption))]
                  rfl
                rw [ec]
                refine V.st (I' := Ir33) (L' := [(0, .ref 0), (1, .int s), (2, .int k), (3, .int fr), (4, .int mm), (5, .int (came + 1)), (6, .int (i32 (i + 1)))]) (ih.un (i + 1) Ir33 (came + 1) (by omega) ⟨hC2, hs.2.tr hq2⟩) rfl ?_
                rw [i32_s]
                simp
            · skip
              refine V_go 1 rfl ?_
              refine V_iret rfl rfl rfl ?_
              refine RP.mk ⟨rfl, hs.2, ?_⟩
              rw [sCt, if_neg]
              · exact ⟨rfl, rfl⟩
              · intro q
                rw [← r36] at q
                first
                  | exact absurd (b2i_1 q.1) (by rw [show b2i (0 ≤ fr + 2 * i32 i ∧ fr + 2 * i32 i < I1 36 s.toNatClampNeg ∧ fr + 2 * i32 i < 40) = 0 from by assumption]; decide)
                  | exact absurd (b2i_1 q.2) (by rw [show b2i (0 ≤ fr + 2 * i32 i + 1 ∧ fr + 2 * i32 i + 1 < I1 36 s.toNatClampNeg ∧ fr + 2 * i32 i + 1 < 40) = 0 from by assumption]; decide)
    refine V_go 4 rfl ?_
    exact (key _).un 0 I 0 (Nat.zero_add _) ⟨hC, Fr.rf⟩
  refine CT_of okX6_citizens (Nat.le_of_ble_eq_true rfl) ?_
  show V _ _ _ _ _ _ [(0, _), (1, _), (2, _), (3, _), (4, _)] _ _ _ _ _
  refine V_go 3 rfl ?_
  refine cVI (mt' := mX4_hasPlace) rfl kX6_192 fX4_hasPlace rfl rfl rfl (Nat.le_of_ble_eq_true rfl) (Nat.le_of_ble_eq_true rfl) (Nat.le_of_ble_eq_true rfl) (Nat.le_of_ble_eq_true rfl) (Nat.le_refl _) (c_hasPlace) ?_
  refine V_if_eq rfl (fun h2 => ?_) (fun h2 => ?_)
  · skip
    refine V_go 1 rfl ?_
    refine V_iret rfl rfl rfl ?_
    refine RP.mk ⟨rfl, Fr.rf, ?_⟩
    unfold sCitz
    rw [if_neg]
    · exact ⟨rfl, rfl⟩
    · rintro ⟨q1, q2, q3, q4⟩
      first
        | exact absurd (b2i_1 q1) (by rw [show b2i (0 ≤ s ∧ s < 4) = 0 from by assumption]; decide)
        | exact absurd (b2i_1 q2) (by rw [show b2i (0 ≤ k ∧ k ≤ 2) = 0 from by assumption]; decide)
        | exact absurd q3 (by first | assumption | exact Int32.not_le.mpr (by assumption))
        | exact absurd q4 (by first | assumption | exact Int32.not_le.mpr (by assumption))
  · skip
    refine V_go 1 rfl ?_
    refine cSI (mt' := mX4_isSort) rfl kX6_258 fX4_isSort rfl (Nat.le_of_ble_eq_true rfl) (Nat.le_of_ble_eq_true rfl) (Nat.le_refl _) (c_isSort) ?_
    refine V_if_eq rfl (fun h4 => ?_) (fun h4 => ?_)
    · skip
      refine V_go 1 rfl ?_
      refine V_iret rfl rfl rfl ?_
      refine RP.mk ⟨rfl, Fr.rf, ?_⟩
      unfold sCitz
      rw [if_neg]
      · exact ⟨rfl, rfl⟩
      · rintro ⟨q1, q2, q3, q4⟩
        first
          | exact absurd (b2i_1 q1) (by rw [show b2i (0 ≤ s ∧ s < 4) = 0 from by assumption]; decide)
          | exact absurd (b2i_1 q2) (by rw [show b2i (0 ≤ k ∧ k ≤ 2) = 0 from by assumption]; decide)
          | exact absurd q3 (by first | assumption | exact Int32.not_le.mpr (by assumption))
          | exact absurd q4 (by first | assumption | exact Int32.not_le.mpr (by assumption))
    · skip
      refine V_go 1 rfl ?_
      refine V_if_lt rfl (fun h5 => ?_) (fun h5 => ?_)
      · skip
        refine V_go 1 rfl ?_
        refine V_iret rfl rfl rfl ?_
        refine RP.mk ⟨rfl, Fr.rf, ?_⟩
        unfold sCitz
        rw [if_neg]
        · exact ⟨rfl, rfl⟩
        · rintro ⟨q1, q2, q3, q4⟩
          first
            | exact absurd (b2i_1 q1) (by rw [show b2i (0 ≤ s ∧ s < 4) = 0 from by assumption]; decide)
            | exact absurd (b2i_1 q2) (by rw [show b2i (0 ≤ k ∧ k ≤ 2) = 0 from by assumption]; decide)
            | exact absurd q3 (by first | assumption | exact Int32.not_le.mpr (by assumption))
            | exact absurd q4 (by first | assumption | exact Int32.not_le.mpr (by assumption))
      · skip
        refine V_go 2 rfl ?_
        refine V_icmp_le rfl (fun h6 => ?_) (fun h6 => ?_)
        · skip
          obtain ⟨p0, p4⟩ := b2i_eq1.mp ((b2i_or _).resolve_left (show ¬ b2i (0 ≤ s ∧ s < 4) = 0 from by assumption))
          have pk := b2i_eq1.mp ((b2i_or _).resolve_left (show ¬ b2i (0 ≤ k ∧ k ≤ 2) = 0 from by assumption))
          have q0 : 0 ≤ mm := by first | assumption | exact Int32.not_lt.mp (by assumption)
          have q8 : mm ≤ 8 := by first | assumption | exact Int32.not_lt.mp (by assumption)
          refine V_go 3 rfl ?_
          refine cVI (mt' := mX4_isMissing) rfl kX6_198 fX4_isMissing rfl rfl rfl (Nat.le_of_ble_eq_true rfl) (Nat.le_of_ble_eq_true rfl) (Nat.le_of_ble_eq_true rfl) (Nat.le_of_ble_eq_true rfl) (Nat.le_refl _) (c_isMissing p0 p4) ?_
          refine V_if_eq rfl (fun h42 => ?_) (fun h42 => ?_)
          · skip
            refine V_go 3 rfl ?_
            refine cVI (mt' := mX4_sortOf) rfl kX6_263 fX4_sortOf rfl rfl rfl (Nat.le_of_ble_eq_true rfl) (Nat.le_of_ble_eq_true rfl) (Nat.le_of_ble_eq_true rfl) (Nat.le_of_ble_eq_true rfl) (Nat.le_refl _) (c_sortOfR p0 p4) ?_
            refine V_go 1 rfl ?_
            refine V_icmp_eq rfl (fun h44 => ?_) (fun h44 => ?_)
            · skip
              have hE : sCitz (I 35 s.toNatClampNeg) (I 36 s.toNatClampNeg) (ceOf I s) (cOf I 7) s k fr mm = sCt (ceOf I s) (I 36 s.toNatClampNeg) fr mm.toNatClampNeg 0 (cOf I 7) 0 := by
                unfold sCitz
                rw [if_pos ⟨⟨p0, p4⟩, pk, q0, q8⟩, if_neg (fun q => absurd (b2i_1 q) (by rw [show b2i (I 35 s.toNatClampNeg = -1) = 0 from by assumption]; decide)), if_pos (by assumption)]
              rw [hE]
              exact k62 ⟨⟨p0, p4⟩, q0, q8⟩
            · skip
              refine V_go 1 rfl ?_
              refine V_iret rfl rfl rfl ?_
              refine RP.mk ⟨rfl, Fr.rf, ?_⟩
              unfold sCitz
              rw [if_pos ⟨⟨p0, p4⟩, pk, q0, q8⟩, if_neg (fun q => absurd (b2i_1 q) (by rw [show b2i (I 35 s.toNatClampNeg = -1) = 0 from by assumption]; decide)), if_neg (by assumption)]
              exact ⟨rfl, rfl⟩
          · skip
            refine V_go 1 rfl ?_
            refine V_iret rfl rfl rfl ?_
            refine RP.mk ⟨rfl, Fr.rf, ?_⟩
            unfold sCitz
            rw [if_pos ⟨⟨p0, p4⟩, pk, q0, q8⟩, if_pos (b2i_eq1.mp ((b2i_or _).resolve_left (show ¬ b2i (I 35 s.toNatClampNeg = -1) = 0 from by assumption)))]
            exact ⟨rfl, rfl⟩
        · skip
          refine V_go 1 rfl ?_
          refine V_iret rfl rfl rfl ?_
          refine RP.mk ⟨rfl, Fr.rf, ?_⟩
          unfold sCitz
          rw [if_neg]
          · exact ⟨rfl, rfl⟩
          · rintro ⟨q1, q2, q3, q4⟩
            first
              | exact absurd (b2i_1 q1) (by rw [show b2i (0 ≤ s ∧ s < 4) = 0 from by assumption]; decide)
              | exact absurd (b2i_1 q2) (by rw [show b2i (0 ≤ k ∧ k ≤ 2) = 0 from by assumption]; decide)
              | exact absurd q3 (by first | assumption | exact Int32.not_le.mpr (by assumption))
              | exact absurd q4 (by first | assumption | exact Int32.not_le.mpr (by assumption))
