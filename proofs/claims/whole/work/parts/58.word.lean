def MFr (I : I2) (J : J2) (I9 : I2) (J9 : J2) : Prop := (∀ o, o ≠ 38 → I9 o = I o ∧ J9 o = J o) ∧ ∀ k, k < 23 ∨ 29 < k → I9 38 k = I 38 k
theorem MFr.rf {I : I2} {J : J2} : MFr I J I J := ⟨fun _ _ => ⟨rfl, rfl⟩, fun _ _ => rfl⟩
theorem MFr.tr {I I1 I9 : I2} {J J1 J9 : J2} (h : MFr I J I1 J1) (h' : MFr I1 J1 I9 J9) : MFr I J I9 J9 := ⟨fun o ho => ⟨(h'.1 o ho).1.trans (h.1 o ho).1, (h'.1 o ho).2.trans (h.1 o ho).2⟩, fun k hk => (h'.2 k hk).trans (h.2 k hk)⟩
theorem NFr.mfr {I I9 : I2} {J J9 : J2} (h : NFr I J I9 J9) : MFr I J I9 J9 := ⟨h.1, fun k hk => h.2 k (by omega)⟩
theorem MFr.fld {I : I2} {J : J2} {k : Nat} {v : Int32} (h1 : 23 ≤ k) (h2 : k ≤ 29) : MFr I J (up2 I 38 k v) J := ⟨fun o ho => ⟨up2_ne ho, rfl⟩, fun j hj => by
  simp only [up2_rd, reduceIte]
  rw [if_neg (by omega)]⟩
theorem MB.mfr {t n : Nat} {b : Nat → Int32} {I I9 : I2} {J J9 : J2} (h : MB t n b I) (q : MFr I J I9 J9) : MB t n b I9 := by
  obtain ⟨h1, h2, h3, h4, h5, h6⟩ := h
  refine ⟨h1, h2, by rw [q.2 21 (by omega)]; exact h3, by rw [q.2 22 (by omega)]; exact h4, fun i => ?_, h6⟩
  rw [(q.1 39 (by omega)).1]
  exact h5 i
def mFail (I : I2) : I2 := if I 38 28 = 0 then up2 (up2 I 38 28 1) 38 29 (I 38 25) else I
theorem MTk.here {b : Nat → Int32} {n : Nat} {I : I2} {J : J2} {s : PT} (h : MTk b n I J s) (h1 : s.1 ≠ 1) : I 38 23 = i32 s.2.2.1 := by
  rcases h.2 with h | h | h | h | h
  · exact h.2.2
  · exact h.2.1
  · exact h.2.2.1
  · exact h.2.2.1
  · exact absurd h.2 h1
/-- from here a token is passed -/
theorem c_nextT {t n : Nat} {s : PT} {b : Nat → Int32} {I : I2} {J : J2} (hB : MB t n b I) (hT : MTk b n I J s) (h1 : s.1 ≠ 1) (hP : pOk n s) : CT mX7_next 2 58 58 [.ref 38] I J RF (RVP RF (fun I9 J9 => MTk b n I9 J9 (nxt b n s) ∧ NFr I J I9 J9)) := c_next hB (hT.here h1) hP.2.1
theorem wk_j : ∀ j, j < 12 → ∀ k, k < 12 → (256 : Int32) + i32 j = 256 + i32 k → j = k := by decide +kernel
theorem wk_1 : ∀ k, k < 12 → (1 : Int32) ≠ 256 + i32 k := by decide +kernel
theorem wTok_iff {l : List Int32} {k : Nat} (hk : k < 12) : wTok l = 256 + i32 k ↔ l = spl k := by
  constructor
  · intro h
    refine Classical.byContradiction (fun hn => ?_)
    by_cases hj : ∃ j, j < 12 ∧ l = spl j
    · obtain ⟨j, hj, e⟩ := hj
      rw [e, wTok_at j hj] at h
      exact hn (by rw [e, wk_j j hj k hk h])
    · rw [wTok_no (fun j hj2 e => hj ⟨j, hj2, e⟩)] at h
      exact wk_1 k hk h
  · intro h
    rw [h, wTok_at k hk]
/-- letter by letter -/
abbrev LtM (b : Nat → Int32) (q e i : Nat) (c : Int32) : Prop := (q + i < e ∧ b (q + i) = c) ∨ (¬ q + i < e ∧ c = 0)
theorem spl_0 : ∀ k, k < 12 → ∀ i, i < (spl k).length → (spl k).getD i 0 ≠ 0 := by decide +kernel
theorem isLe_0 {x : Int32} (h : isLe x = true) : x ≠ 0 := by
  have h1 := (of_decide_eq_true h).1
  intro z
  rw [z] at h1
  exact absurd h1 (by decide)
theorem getD_ge {l : List Int32} {i : Nat} (h : l.length ≤ i) : l.getD i 0 = 0 := by
  rw [List.getD_eq_getElem?_getD, List.getElem?_eq_none h]
  rfl
theorem ltm_iff {b : Nat → Int32} {q e k : Nat} (hk : k < 12) (hqe : q ≤ e) (hl : ∀ j, q ≤ j → j < e → isLe (b j) = true) : bts b q (e - q) = spl k ↔ ∀ i, i < 8 → LtM b q e i ((spl k).getD i 0) := by
  have h7 := spl_le k hk
  rw [bts_iff]
  constructor
  · rintro ⟨h1, h2⟩ i hi
    by_cases hil : i < (spl k).length
    · exact Or.inl ⟨by omega, h2 i hil⟩
    · exact Or.inr ⟨by omega, getD_ge (by omega)⟩
  · intro h
    have hlen : e - q = (spl k).length := by
      rcases Nat.lt_trichotomy (e - q) (spl k).length with z | z | z
      · rcases h (e - q) (by omega) with y | y
        · omega
        · exact absurd y.2 (spl_0 k hk _ z)
      · exact z
      · rcases h (spl k).length (by omega) with y | y
        · have y2 := y.2
          rw [getD_ge (Nat.le_refl _)] at y2
          exact absurd y2 (isLe_0 (hl _ (by omega) (by omega)))
        · omega
    refine ⟨hlen, fun j hj => ?_⟩
    rcases h j (by omega) with y | y
    · exact y.2
    · omega

theorem c_fail {I : I2} {J : J2} : CT mX7_fail 1 58 58 [.ref 38] I J RF (RV RF (mFail I) J) := by
  refine CT_of okX7_fail (Nat.le_of_ble_eq_true rfl) ?_
  show V _ _ _ _ _ _ [(0, _)] _ _ _ _ _
  refine V_go 2 rfl ?_
  refine V_if_ne rfl (fun h1 => ?_) (fun h1 => ?_)
  · skip
    refine V_vret rfl rfl rfl ?_
    refine RV.mk2 ?_
    unfold mFail
    rw [if_neg h1]
  · skip
    refine V_go 2 rfl ?_
    refine V_putZ rfl rfl (Nat.le_of_ble_eq_true rfl) rfl rfl (by first | exact Or.inl rfl | exact Or.inr rfl | assumption) ?_
    refine V_go 4 rfl ?_
    refine V_vret rfl rfl rfl ?_
    refine RV.mk2 ?_
    unfold mFail
    rw [if_pos (by first | assumption | exact Decidable.not_not.mp (by assumption))]
    rfl
theorem c_isLetter7 {t n q e i : Nat} {b : Nat → Int32} {c : Int32} {I : I2} {J : J2} (hB : MB t n b I) (h25 : I 38 25 = i32 q) (h23 : I 38 23 = i32 e) (hen : e ≤ n) (hq : q ≤ 200) (hi : i < 8) : CT mX7_isLetter 2 58 58 [.ref 38, .int (i32 i), .int c] I J RF (RI RF (b2i (LtM b q e i c)) I J) := by
  have hn := hB.2.1
  refine CT_of okX7_isLetter (Nat.le_of_ble_eq_true rfl) ?_
  show V _ _ _ _ _ _ [(0, _), (1, _), (2, _)] _ _ _ _ _
  refine V_go 6 rfl ?_
  refine V_icmp_ge rfl (fun h1 => ?_) (fun h1 => ?_)
  · skip
    rw [h25, h23, ← i32_add] at h1
    have hge : ¬ q + i < e := fun y => absurd ((i32_le (a := e) (b := q + i) (by omega) (by omega)).mp h1) (by omega)
    refine V_go 1 rfl ?_
    refine V_if_ne rfl (fun h11 => ?_) (fun h11 => ?_)
    · skip
      refine V_go 1 rfl ?_
      refine V_zret rfl rfl rfl (by first | exact Or.inl rfl | exact Or.inr rfl) ?_
      exact RI.mk (b2i_0 (fun y => y.elim (fun y => hge y.1) (fun y => h11 y.2))).symm
    · skip
      refine V_go 2 rfl ?_
      refine V_zret rfl rfl rfl (by first | exact Or.inl rfl | exact Or.inr rfl) ?_
      exact RI.mk (b2i_1 (Or.inr ⟨hge, h11⟩)).symm
  · skip
    rw [h25, h23, ← i32_add] at h1
    have hlt : q + i < e := Nat.lt_of_not_le (fun y => h1 ((i32_le (a := e) (b := q + i) (by omega) (by omega)).mpr y))
    refine V_go 5 rfl ?_
    refine cVI (mt' := mX7_byteAt) rfl kX7_162 fX7_byteAt rfl rfl rfl (Nat.le_of_ble_eq_true rfl) (Nat.le_of_ble_eq_true rfl) (Nat.le_of_ble_eq_true rfl) (Nat.le_of_ble_eq_true rfl) (Nat.le_refl _) ((by rw [h25, ← i32_add]; exact c_byteAt hB (by omega))) ?_
    refine V_go 1 rfl ?_
    refine V_icmp_ne rfl (fun h22 => ?_) (fun h22 => ?_)
    · skip
      rw [mBt_p (by omega)] at h22
      refine V_go 2 rfl ?_
      refine V_zret rfl rfl rfl (by first | exact Or.inl rfl | exact Or.inr rfl) ?_
      exact RI.mk (b2i_0 (fun y => y.elim (fun y => h22 y.2) (fun y => y.1 hlt))).symm
    · skip
      rw [mBt_p (by omega)] at h22
      refine V_go 2 rfl ?_
      refine V_zret rfl rfl rfl (by first | exact Or.inl rfl | exact Or.inr rfl) ?_
      exact RI.mk (b2i_1 (Or.inl ⟨hlt, h22⟩)).symm

theorem wk_0 : ∀ k, k < 12 → (0 : Int32) ≠ 256 + i32 k := by decide +kernel
theorem wk_2 : ∀ k, k < 12 → (2 : Int32) ≠ 256 + i32 k := by decide +kernel
theorem wk_s : ∀ k, k < 12 → ¬ isSi (256 + i32 k) = true := by decide +kernel
theorem MTk.word {b : Nat → Int32} {n : Nat} {I : I2} {J : J2} {s : PT} (h : MTk b n I J s) (h1 : I 38 24 = 1) : I 38 23 = i32 s.2.2.1 ∧ s.1 = wTok (bts b s.2.1 (s.2.2.1 - s.2.1)) ∧ s.2.1 ≤ s.2.2.1 ∧ ∀ j, s.2.1 ≤ j → j < s.2.2.1 → isLe (b j) = true := by
  rcases h.2 with z | z | z | z | z
  · exact absurd (h1.symm.trans z.1) (by decide)
  · exact z.2
  · exact absurd (h1.symm.trans z.1) (by decide)
  · exact absurd (h1.symm.trans z.1) (by decide)
  · exact absurd (h1.symm.trans z.1) (by decide)
theorem c_isWord {t n k : Nat} {b : Nat → Int32} {s : PT} {I : I2} {J : J2} (hk : k < 12) (hB : MB t n b I) (hP : pOk n s) (hT0 : I 38 28 = 0 → MTk b n I J s) : CT mX7_isWord 3 58 58 [.ref 38, .int ((spl k).getD 0 0), .int ((spl k).getD 1 0), .int ((spl k).getD 2 0), .int ((spl k).getD 3 0), .int ((spl k).getD 4 0), .int ((spl k).getD 5 0), .int ((spl k).getD 6 0), .int ((spl k).getD 7 0)] I J RF (RI RF (b2i (I 38 28 = 0 ∧ s.1 = 256 + i32 k)) I J) := by
  have hn := hB.2.1
  refine CT_of okX7_isWord (Nat.le_of_ble_eq_true rfl) ?_
  show V _ _ _ _ _ _ [(0, _), (1, _), (2, _), (3, _), (4, _), (5, _), (6, _), (7, _), (8, _)] _ _ _ _ _
  refine V_go 2 rfl ?_
  refine V_if_ne rfl (fun h1 => ?_) (fun h1 => ?_)
  · skip
    refine V_go 1 rfl ?_
    refine V_zret rfl rfl rfl (Or.inl rfl) ?_
    exact RI.mk (b2i_0 (fun y => h1 y.1)).symm
  · skip
    have hb0 : I 38 28 = 0 := h1
    have hT := hT0 hb0
    refine V_go 3 rfl ?_
    refine V_icmp_ne rfl (fun h11 => ?_) (fun h11 => ?_)
    · skip
      refine V_go 1 rfl ?_
      refine V_zret rfl rfl rfl (Or.inl rfl) ?_
      exact RI.mk (b2i_0 (fun y => by
        rcases hT.2 with z | z | z | z | z
        · exact wk_0 k hk (z.2.1.symm.trans y.2)
        · exact h11 z.1
        · exact wk_2 k hk (z.2.1.symm.trans y.2)
        · exact wk_s k hk (by rw [← y.2]; exact z.2.1)
        · exact wk_1 k hk (z.2.symm.trans y.2))).symm
    · skip
      have hw0 := hT.word h11
      have hw : I 38 25 = i32 s.2.1 ∧ I 38 23 = i32 s.2.2.1 ∧ s.2.2.1 ≤ n ∧ s.2.1 ≤ 200 := ⟨hT.1, hw0.1, hP.2.1, by have := hP.1; omega⟩
      have hall : (I 38 28 = 0 ∧ s.1 = 256 + i32 k) → ∀ i, i < 8 → LtM b s.2.1 s.2.2.1 i ((spl k).getD i 0) := fun y => (ltm_iff hk hw0.2.2.1 hw0.2.2.2).mp ((wTok_iff hk).mp (hw0.2.1.symm.trans y.2))
      refine V_go 6 rfl ?_
      refine V_icmp_gt rfl (fun h21 => ?_) (fun h21 => ?_)
      · skip
        refine V_go 1 rfl ?_
        refine V_zret rfl rfl rfl (Or.inl rfl) ?_
        exact RI.mk (b2i_0 (fun y => by
          have y3 := bts_iff.mp ((wTok_iff hk).mp (hw0.2.1.symm.trans y.2))
          have h7 := spl_le k hk
          rw [hw.1, hw.2.1, show (8 : Int32) = i32 8 from rfl, ← i32_add] at h21
          have y4 := (i32_lt (by omega) (by have := hw.2.2.1; omega)).mp h21
          have y5 := y3.1
          omega)).symm
      · skip
        refine V_go 3 rfl ?_
        refine cVI (mt' := mX7_isLetter) rfl kX7_190 fX7_isLetter rfl rfl rfl (Nat.le_of_ble_eq_true rfl) (Nat.le_of_ble_eq_true rfl) (Nat.le_of_ble_eq_true rfl) (Nat.le_of_ble_eq_true rfl) (Nat.le_refl _) (c_isLetter7 (i := 0) hB hw.1 hw.2.1 hw.2.2.1 hw.2.2.2 (by omega)) ?_
        refine V_if_eq rfl (fun h23 => ?_) (fun h23 => ?_)
        · skip
          refine V_go 1 rfl ?_
          refine V_zret rfl rfl rfl (Or.inl rfl) ?_
          exact RI.mk (b2i_0 (fun y => absurd (b2i_1 (hall y 0 (by omega))) (by rw [h23]; decide))).symm
        · skip
          refine V_go 3 rfl ?_
          refine cVI (mt' := mX7_isLetter) rfl kX7_190 fX7_isLetter rfl rfl rfl (Nat.le_of_ble_eq_true rfl) (Nat.le_of_ble_eq_true rfl) (Nat.le_of_ble_eq_true rfl) (Nat.le_of_ble_eq_true rfl) (Nat.le_refl _) (c_isLetter7 (i := 1) hB hw.1 hw.2.1 hw.2.2.1 hw.2.2.2 (by omega)) ?_
          refine V_if_eq rfl (fun h25 => ?_) (fun h25 => ?_)
          · skip
            refine V_go 1 rfl ?_
            refine V_zret rfl rfl rfl (Or.inl rfl) ?_
            exact RI.mk (b2i_0 (fun y => absurd (b2i_1 (hall y 1 (by omega))) (by rw [h25]; decide))).symm
          · skip
            refine V_go 3 rfl ?_
            refine cVI (mt' := mX7_isLetter) rfl kX7_190 fX7_isLetter rfl rfl rfl (Nat.le_of_ble_eq_true rfl) (Nat.le_of_ble_eq_true rfl) (Nat.le_of_ble_eq_true rfl) (Nat.le_of_ble_eq_true rfl) (Nat.le_refl _) (c_isLetter7 (i := 2) hB hw.1 hw.2.1 hw.2.2.1 hw.2.2.2 (by omega)) ?_
            refine V_if_eq rfl (fun h27 => ?_) (fun h27 => ?_)
            · skip
              refine V_go 1 rfl ?_
              refine V_zret rfl rfl rfl (Or.inl rfl) ?_
              exact RI.mk (b2i_0 (fun y => absurd (b2i_1 (hall y 2 (by omega))) (by rw [h27]; decide))).symm
            · skip
              refine V_go 3 rfl ?_
              refine cVI (mt' := mX7_isLetter) rfl kX7_190 fX7_isLetter rfl rfl rfl (Nat.le_of_ble_eq_true rfl) (Nat.le_of_ble_eq_true rfl) (Nat.le_of_ble_eq_true rfl) (Nat.le_of_ble_eq_true rfl) (Nat.le_refl _) (c_isLetter7 (i := 3) hB hw.1 hw.2.1 hw.2.2.1 hw.2.2.2 (by omega)) ?_
              refine V_if_eq rfl (fun h29 => ?_) (fun h29 => ?_)
              · skip
                refine V_go 1 rfl ?_
                refine V_zret rfl rfl rfl (Or.inl rfl) ?_
                exact RI.mk (b2i_0 (fun y => absurd (b2i_1 (hall y 3 (by omega))) (by rw [h29]; decide))).symm
              · skip
                refine V_go 3 rfl ?_
                refine cVI (mt' := mX7_isLetter) rfl kX7_190 fX7_isLetter rfl rfl rfl (Nat.le_of_ble_eq_true rfl) (Nat.le_of_ble_eq_true rfl) (Nat.le_of_ble_eq_true rfl) (Nat.le_of_ble_eq_true rfl) (Nat.le_refl _) (c_isLetter7 (i := 4) hB hw.1 hw.2.1 hw.2.2.1 hw.2.2.2 (by omega)) ?_
                refine V_if_eq rfl (fun h31 => ?_) (fun h31 => ?_)
                · skip
                  refine V_go 1 rfl ?_
                  refine V_zret rfl rfl rfl (Or.inl rfl) ?_
                  exact RI.mk (b2i_0 (fun y => absurd (b2i_1 (hall y 4 (by omega))) (by rw [h31]; decide))).symm
                · skip
                  refine V_go 3 rfl ?_
                  refine cVI (mt' := mX7_isLetter) rfl kX7_190 fX7_isLetter rfl rfl rfl (Nat.le_of_ble_eq_true rfl) (Nat.le_of_ble_eq_true rfl) (Nat.le_of_ble_eq_true rfl) (Nat.le_of_ble_eq_true rfl) (Nat.le_refl _) (c_isLetter7 (i := 5) hB hw.1 hw.2.1 hw.2.2.1 hw.2.2.2 (by omega)) ?_
                  refine V_if_eq rfl (fun h33 => ?_) (fun h33 => ?_)
                  · skip
                    refine V_go 1 rfl ?_
                    refine V_zret rfl rfl rfl (Or.inl rfl) ?_
                    exact RI.mk (b2i_0 (fun y => absurd (b2i_1 (hall y 5 (by omega))) (by rw [h33]; decide))).symm
                  · skip
                    refine V_go 3 rfl ?_
                    refine cVI (mt' := mX7_isLetter) rfl kX7_190 fX7_isLetter rfl rfl rfl (Nat.le_of_ble_eq_true rfl) (Nat.le_of_ble_eq_true rfl) (Nat.le_of_ble_eq_true rfl) (Nat.le_of_ble_eq_true rfl) (Nat.le_refl _) (c_isLetter7 (i := 6) hB hw.1 hw.2.1 hw.2.2.1 hw.2.2.2 (by omega)) ?_
                    refine V_if_eq rfl (fun h35 => ?_) (fun h35 => ?_)
                    · skip
                      refine V_go 1 rfl ?_
                      refine V_zret rfl rfl rfl (Or.inl rfl) ?_
                      exact RI.mk (b2i_0 (fun y => absurd (b2i_1 (hall y 6 (by omega))) (by rw [h35]; decide))).symm
                    · skip
                      refine V_go 3 rfl ?_
                      refine cVI (mt' := mX7_isLetter) rfl kX7_190 fX7_isLetter rfl rfl rfl (Nat.le_of_ble_eq_true rfl) (Nat.le_of_ble_eq_true rfl) (Nat.le_of_ble_eq_true rfl) (Nat.le_of_ble_eq_true rfl) (Nat.le_refl _) (c_isLetter7 (i := 7) hB hw.1 hw.2.1 hw.2.2.1 hw.2.2.2 (by omega)) ?_
                      refine V_if_eq rfl (fun h37 => ?_) (fun h37 => ?_)
                      · skip
                        refine V_go 1 rfl ?_
                        refine V_zret rfl rfl rfl (Or.inl rfl) ?_
                        exact RI.mk (b2i_0 (fun y => absurd (b2i_1 (hall y 7 (by omega))) (by rw [h37]; decide))).symm
                      · skip
                        refine V_go 2 rfl ?_
                        refine V_zret rfl rfl rfl (by first | exact Or.inl rfl | exact Or.inr rfl | exact b2i_or _ | assumption) ?_
                        refine RI.mk (b2i_1 ⟨hb0, ?_⟩).symm
                        rw [hw0.2.1]
                        refine (wTok_iff hk).mpr ((ltm_iff hk hw0.2.2.1 hw0.2.2.2).mpr (fun i hi => ?_))
                        match i, hi with
                        | 0, _ => exact b2i_eq1.mp ((b2i_or _).resolve_left h23)
                        | 1, _ => exact b2i_eq1.mp ((b2i_or _).resolve_left h25)
                        | 2, _ => exact b2i_eq1.mp ((b2i_or _).resolve_left h27)
                        | 3, _ => exact b2i_eq1.mp ((b2i_or _).resolve_left h29)
                        | 4, _ => exact b2i_eq1.mp ((b2i_or _).resolve_left h31)
                        | 5, _ => exact b2i_eq1.mp ((b2i_or _).resolve_left h33)
                        | 6, _ => exact b2i_eq1.mp ((b2i_or _).resolve_left h35)
                        | 7, _ => exact b2i_eq1.mp ((b2i_or _).resolve_left h37)
theorem Int32.toInt64_inj2 {a b : Int32} (h : a.toInt64 = b.toInt64) : a = b := by
  rw [← Int32.toInt_inj, ← Int32.toInt_toInt64 a, ← Int32.toInt_toInt64 b, h]
theorem wTok_ns (l : List Int32) : ¬ isSi (wTok l) = true := by
  by_cases hj : ∃ j, j < 12 ∧ l = spl j
  · obtain ⟨j, hj, e⟩ := hj
    rw [e, wTok_at j hj]
    exact wk_s j hj
  · rw [wTok_no (fun j hj2 e => hj ⟨j, hj2, e⟩)]
    decide
theorem MTk.sign {b : Nat → Int32} {n : Nat} {I : I2} {J : J2} {s : PT} (h : MTk b n I J s) (h1 : I 38 24 = 3) : isSi s.1 = true ∧ I 38 23 = i32 s.2.2.1 ∧ J 38 26 = s.1.toInt64 := by
  rcases h.2 with z | z | z | z | z
  · exact absurd (h1.symm.trans z.1) (by decide)
  · exact absurd (h1.symm.trans z.1) (by decide)
  · exact absurd (h1.symm.trans z.1) (by decide)
  · exact z.2
  · exact absurd (h1.symm.trans z.1) (by decide)
theorem c_isSign7 {n : Nat} {b : Nat → Int32} {s : PT} {c : Int32} {I : I2} {J : J2} (hc : isSi c = true) (hT0 : I 38 28 = 0 → MTk b n I J s) : CT mX7_isSign 1 58 58 [.ref 38, .int c] I J RF (RI RF (b2i (I 38 28 = 0 ∧ s.1 = c)) I J) := by
  refine CT_of okX7_isSign (Nat.le_of_ble_eq_true rfl) ?_
  show V _ _ _ _ _ _ [(0, _), (1, _)] _ _ _ _ _
  refine V_go 2 rfl ?_
  refine V_if_ne rfl (fun h1 => ?_) (fun h1 => ?_)
  · skip
    refine V_go 1 rfl ?_
    refine V_zret rfl rfl rfl (Or.inl rfl) ?_
    exact RI.mk (b2i_0 (fun y => h1 y.1)).symm
  · skip
    have hb0 : I 38 28 = 0 := h1
    have hT := hT0 hb0
    refine V_go 3 rfl ?_
    refine V_icmp_ne rfl (fun h11 => ?_) (fun h11 => ?_)
    · skip
      refine V_go 1 rfl ?_
      refine V_zret rfl rfl rfl (Or.inl rfl) ?_
      exact RI.mk (b2i_0 (fun y => by
        rcases hT.2 with z | z | z | z | z
        · exact absurd hc (by rw [← y.2, z.2.1]; decide)
        · exact wTok_ns _ (by rw [← z.2.2.1, y.2]; exact hc)
        · exact absurd hc (by rw [← y.2, z.2.1]; decide)
        · exact h11 z.1
        · exact absurd hc (by rw [← y.2, z.2]; decide))).symm
    · skip
      have hs0 := hT.sign h11
      refine V_go 5 rfl ?_
      refine V_if_ne rfl (fun h21 => ?_) (fun h21 => ?_)
      · skip
        refine V_go 1 rfl ?_
        refine V_zret rfl rfl rfl (Or.inl rfl) ?_
        exact RI.mk (b2i_0 (fun y => h21 ((lgc_eq _ _).mpr (by rw [hs0.2.2, y.2])))).symm
      · skip
        refine V_go 2 rfl ?_
        refine V_zret rfl rfl rfl (by first | exact Or.inl rfl | exact Or.inr rfl | exact b2i_or _ | assumption) ?_
        exact RI.mk (b2i_1 ⟨hb0, Int32.toInt64_inj2 (hs0.2.2.symm.trans ((lgc_eq _ _).mp (by first | assumption | exact Decidable.not_not.mp (by assumption))))⟩).symm
theorem c_opens {t n op : Nat} {b : Nat → Int32} {s : PT} {I : I2} {J : J2} (hB : MB t n b I) (hP : pOk n s) (hb0 : I 38 28 = 0) (hT : MTk b n I J s) (hs1 : s.1 ≠ 1) (ho : I 38 27 = i32 op) (hop : op ≤ 5) : CT mX7_opens 3 58 58 [.ref 38] I J RF (RP RF (fun r I9 J9 => (op = 5 → r = 0 ∧ I9 38 28 = 1 ∧ I9 38 29 = i32 s.2.1 ∧ MFr I J I9 J9) ∧ (op < 5 → r = 1 ∧ I9 38 28 = 0 ∧ I9 38 27 = i32 (op + 1) ∧ MTk b n I9 J9 (nxt b n s) ∧ MFr I J I9 J9))) := by
  refine CT_of okX7_opens (Nat.le_of_ble_eq_true rfl) ?_
  show V _ _ _ _ _ _ [(0, _)] _ _ _ _ _
  refine V_go 3 rfl ?_
  try simp only [up2_rd, row2_rd, reduceIte, Nat.reduceEqDiff]
  refine V_icmp_ne rfl (fun h1 => ?_) (fun h1 => ?_)
  · skip
    have h5 : op < 5 := by
      have z : ¬ op = 5 := fun z => h1 (ho.trans (by rw [z]; rfl))
      omega
    refine V_go 6 rfl ?_
    try simp only [up2_rd, row2_rd, reduceIte, Nat.reduceEqDiff]
    rw [ho, ← i32_s]
    have hT2 : MTk b n (up2 I 38 27 (i32 (op + 1))) J s := hT
    refine V_go 1 rfl ?_
    refine cVW (mt' := mX7_next) rfl kX7_200 fX7_next rfl rfl rfl (Nat.le_of_ble_eq_true rfl) (Nat.le_of_ble_eq_true rfl) (Nat.le_of_ble_eq_true rfl) (Nat.le_of_ble_eq_true rfl) (Nat.le_refl _) (c_nextT (I := up2 I 38 27 (i32 (op + 1))) (hB.mfr (J := J) (J9 := J) (MFr.fld (by omega) (by omega))) hT2 hs1 hP) ?_
    intro Ir41 Jr41 h41
    obtain ⟨hT3, hN⟩ := h41
    refine V_go 1 rfl ?_
    try simp only [up2_rd, row2_rd, reduceIte, Nat.reduceEqDiff]
    refine V_zret rfl rfl rfl (by first | exact Or.inl rfl | exact Or.inr rfl | exact b2i_or _ | assumption) ?_
    refine RP.mk ⟨fun z => absurd z (by omega), fun _ => ⟨rfl, ?_, ?_, hT3, (MFr.fld (by omega) (by omega)).tr hN.mfr⟩⟩
    · rw [hN.2 28 (by omega)]; exact hb0
    · rw [hN.2 27 (by omega)]; rfl
  · skip
    have h5 : op = 5 := (i32_inj (a := op) (b := 5) (by omega) (by omega)).mp (ho.symm.trans h1)
    refine V_go 1 rfl ?_
    try simp only [up2_rd, row2_rd, reduceIte, Nat.reduceEqDiff]
    refine cVV (mt' := mX7_fail) rfl kX7_197 fX7_fail rfl rfl rfl (Nat.le_of_ble_eq_true rfl) (Nat.le_of_ble_eq_true rfl) (Nat.le_of_ble_eq_true rfl) (Nat.le_of_ble_eq_true rfl) (Nat.le_refl _) (c_fail) ?_
    refine V_go 1 rfl ?_
    try simp only [up2_rd, row2_rd, reduceIte, Nat.reduceEqDiff]
    refine V_zret rfl rfl rfl (by first | exact Or.inl rfl | exact Or.inr rfl | exact b2i_or _ | assumption) ?_
    refine RP.mk ⟨fun _ => ⟨rfl, ?_⟩, fun z => absurd z (by omega)⟩
    rw [show mFail I = up2 (up2 I 38 28 1) 38 29 (I 38 25) from if_pos hb0]
    exact ⟨rfl, hT.1, (MFr.fld (by omega) (by omega)).tr (MFr.fld (by omega) (by omega))⟩
theorem c_name {t n : Nat} {b : Nat → Int32} {s : PT} {I : I2} {J : J2} (hB : MB t n b I) (hP : pOk n s) (hb0 : I 38 28 = 0) (hT : MTk b n I J s) : CT mX7_name 4 58 58 [.ref 38] I J RF (RP RF (fun r I9 J9 => ((256 ≤ s.1 ∧ s.1 < 262) → r = I 38 (15 + (s.1 - 256).toNatClampNeg) ∧ I9 = I ∧ J9 = J) ∧ (¬ (256 ≤ s.1 ∧ s.1 < 262) → I9 = mFail I ∧ J9 = J))) := by
  refine CT_of okX7_name (Nat.le_of_ble_eq_true rfl) ?_
  show V _ _ _ _ _ _ [(0, _)] _ _ _ _ _
  refine V_go 9 rfl ?_
  refine cVI (mt' := mX7_isWord) rfl kX7_203 fX7_isWord rfl rfl rfl (Nat.le_of_ble_eq_true rfl) (Nat.le_of_ble_eq_true rfl) (Nat.le_of_ble_eq_true rfl) (Nat.le_of_ble_eq_true rfl) (Nat.le_refl _) (c_isWord (k := 0) (by omega) hB hP (fun _ => hT)) ?_
  refine V_if_eq rfl (fun h2 => ?_) (fun h2 => ?_)
  · skip
    refine V_go 9 rfl ?_
    refine cVI (mt' := mX7_isWord) rfl kX7_203 fX7_isWord rfl rfl rfl (Nat.le_of_ble_eq_true rfl) (Nat.le_of_ble_eq_true rfl) (Nat.le_of_ble_eq_true rfl) (Nat.le_of_ble_eq_true rfl) (Nat.le_refl _) (c_isWord (k := 1) (by omega) hB hP (fun _ => hT)) ?_
    refine V_if_eq rfl (fun h4 => ?_) (fun h4 => ?_)
    · skip
      refine V_go 9 rfl ?_
      refine cVI (mt' := mX7_isWord) rfl kX7_203 fX7_isWord rfl rfl rfl (Nat.le_of_ble_eq_true rfl) (Nat.le_of_ble_eq_true rfl) (Nat.le_of_ble_eq_true rfl) (Nat.le_of_ble_eq_true rfl) (Nat.le_refl _) (c_isWord (k := 2) (by omega) hB hP (fun _ => hT)) ?_
      refine V_if_eq rfl (fun h6 => ?_) (fun h6 => ?_)
      · skip
        refine V_go 9 rfl ?_
        refine cVI (mt' := mX7_isWord) rfl kX7_203 fX7_isWord rfl rfl rfl (Nat.le_of_ble_eq_true rfl) (Nat.le_of_ble_eq_true rfl) (Nat.le_of_ble_eq_true rfl) (Nat.le_of_ble_eq_true rfl) (Nat.le_refl _) (c_isWord (k := 3) (by omega) hB hP (fun _ => hT)) ?_
        refine V_if_eq rfl (fun h8 => ?_) (fun h8 => ?_)
        · skip
          refine V_go 9 rfl ?_
          refine cVI (mt' := mX7_isWord) rfl kX7_203 fX7_isWord rfl rfl rfl (Nat.le_of_ble_eq_true rfl) (Nat.le_of_ble_eq_true rfl) (Nat.le_of_ble_eq_true rfl) (Nat.le_of_ble_eq_true rfl) (Nat.le_refl _) (c_isWord (k := 4) (by omega) hB hP (fun _ => hT)) ?_
          refine V_if_eq rfl (fun h10 => ?_) (fun h10 => ?_)
          · skip
            refine V_go 9 rfl ?_
            refine cVI (mt' := mX7_isWord) rfl kX7_203 fX7_isWord rfl rfl rfl (Nat.le_of_ble_eq_true rfl) (Nat.le_of_ble_eq_true rfl) (Nat.le_of_ble_eq_true rfl) (Nat.le_of_ble_eq_true rfl) (Nat.le_refl _) (c_isWord (k := 5) (by omega) hB hP (fun _ => hT)) ?_
            refine V_if_eq rfl (fun h12 => ?_) (fun h12 => ?_)
            · skip
              refine V_go 1 rfl ?_
              refine cVV (mt' := mX7_fail) rfl kX7_197 fX7_fail rfl rfl rfl (Nat.le_of_ble_eq_true rfl) (Nat.le_of_ble_eq_true rfl) (Nat.le_of_ble_eq_true rfl) (Nat.le_of_ble_eq_true rfl) (Nat.le_refl _) (c_fail) ?_
              refine V_go 1 rfl ?_
              refine V_iret rfl rfl rfl ?_
              refine RP.mk ⟨fun z => ?_, fun _ => ⟨rfl, rfl⟩⟩
              exfalso
              rcases nm_cases z with y | y | y | y | y | y
              · exact b2i_eq0.mp (show b2i (I 38 28 = 0 ∧ s.1 = 256 + i32 0) = 0 from by assumption) ⟨hb0, y⟩
              · exact b2i_eq0.mp (show b2i (I 38 28 = 0 ∧ s.1 = 256 + i32 1) = 0 from by assumption) ⟨hb0, y⟩
              · exact b2i_eq0.mp (show b2i (I 38 28 = 0 ∧ s.1 = 256 + i32 2) = 0 from by assumption) ⟨hb0, y⟩
              · exact b2i_eq0.mp (show b2i (I 38 28 = 0 ∧ s.1 = 256 + i32 3) = 0 from by assumption) ⟨hb0, y⟩
              · exact b2i_eq0.mp (show b2i (I 38 28 = 0 ∧ s.1 = 256 + i32 4) = 0 from by assumption) ⟨hb0, y⟩
              · exact b2i_eq0.mp (show b2i (I 38 28 = 0 ∧ s.1 = 256 + i32 5) = 0 from by assumption) ⟨hb0, y⟩
            · skip
              refine V_go 2 rfl ?_
              refine V_iret rfl rfl rfl ?_
              have hk : s.1 = 256 + i32 5 := (b2i_eq1.mp ((b2i_or (I 38 28 = 0 ∧ s.1 = 256 + i32 5)).resolve_left (by assumption))).2
              exact RP.mk ⟨fun _ => by rw [hk]; exact ⟨rfl, rfl, rfl⟩, fun z => absurd (by rw [hk]; decide) z⟩
          · skip
            refine V_go 2 rfl ?_
            refine V_iret rfl rfl rfl ?_
            have hk : s.1 = 256 + i32 4 := (b2i_eq1.mp ((b2i_or (I 38 28 = 0 ∧ s.1 = 256 + i32 4)).resolve_left (by assumption))).2
            exact RP.mk ⟨fun _ => by rw [hk]; exact ⟨rfl, rfl, rfl⟩, fun z => absurd (by rw [hk]; decide) z⟩
        · skip
          refine V_go 2 rfl ?_
          refine V_iret rfl rfl rfl ?_
          have hk : s.1 = 256 + i32 3 := (b2i_eq1.mp ((b2i_or (I 38 28 = 0 ∧ s.1 = 256 + i32 3)).resolve_left (by assumption))).2
          exact RP.mk ⟨fun _ => by rw [hk]; exact ⟨rfl, rfl, rfl⟩, fun z => absurd (by rw [hk]; decide) z⟩
      · skip
        refine V_go 2 rfl ?_
        refine V_iret rfl rfl rfl ?_
        have hk : s.1 = 256 + i32 2 := (b2i_eq1.mp ((b2i_or (I 38 28 = 0 ∧ s.1 = 256 + i32 2)).resolve_left (by assumption))).2
        exact RP.mk ⟨fun _ => by rw [hk]; exact ⟨rfl, rfl, rfl⟩, fun z => absurd (by rw [hk]; decide) z⟩
    · skip
      refine V_go 2 rfl ?_
      refine V_iret rfl rfl rfl ?_
      have hk : s.1 = 256 + i32 1 := (b2i_eq1.mp ((b2i_or (I 38 28 = 0 ∧ s.1 = 256 + i32 1)).resolve_left (by assumption))).2
      exact RP.mk ⟨fun _ => by rw [hk]; exact ⟨rfl, rfl, rfl⟩, fun z => absurd (by rw [hk]; decide) z⟩
  · skip
    refine V_go 2 rfl ?_
    refine V_iret rfl rfl rfl ?_
    have hk : s.1 = 256 + i32 0 := (b2i_eq1.mp ((b2i_or (I 38 28 = 0 ∧ s.1 = 256 + i32 0)).resolve_left (by assumption))).2
    exact RP.mk ⟨fun _ => by rw [hk]; exact ⟨rfl, rfl, rfl⟩, fun z => absurd (by rw [hk]; decide) z⟩
