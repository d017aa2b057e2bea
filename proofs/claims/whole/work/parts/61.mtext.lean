theorem c_mlev {t n : Nat} {b : Nat → Int32} : ∀ k op, k + op = 5 → CMd mX7_atom (5 + 6 * k) (pLv b n k).1 op t n b ∧ CMd mX7_not (8 + 6 * k) (pLv b n k).2 op t n b
  | 0, op, h => by
    have h1 : CMd mX7_atom 5 (pOne b n (5 - op) pNone pNone) op t n b := c_atom7 (dO := 0) (dE := 0) (by omega) (by omega) (by omega) (by omega) (pNone_good n) (fun z => absurd z (by omega)) (fun z => absurd z (by omega))
    rw [show 5 - op = 0 from by omega] at h1
    have g1 := (pLv_good b n 0).1
    have h2 : CMd mX7_term 6 (pTerm b n (pOne b n 0 pNone pNone)) op t n b := c_term7 (by omega) (by omega) g1 h1
    have h3 : CMd mX7_added 7 (pSum b n (pOne b n 0 pNone pNone)) op t n b := c_added7 (by omega) (by omega) (pTerm_good g1) h2
    have h5 := c_not7 (d := 8) (d9 := 7) (d8 := 0) (n' := pNone) (by omega) (by omega) (by omega) (by omega) (pSum_good g1) h3 (fun z => absurd z (by omega))
    rw [show 5 - op = 0 from by omega] at h5
    exact ⟨h1, h5⟩
  | k + 1, op, h => by
    obtain ⟨i1, i2⟩ := c_mlev (t := t) (n := n) (b := b) k (op + 1) (by omega)
    obtain ⟨g1, g2⟩ := pLv_good b n k
    have ha : CMd mX7_both (9 + 6 * k) (pAnd b n (pLv b n k).2) (op + 1) t n b := c_both7 (by omega) (by omega) g2 i2
    have ho : CMd mX7_either (10 + 6 * k) (pOr b n (pLv b n k).2) (op + 1) t n b := c_either7 (by omega) (by omega) (pAnd_good g2) ha
    have h1 := c_atom7 (d := 5 + 6 * (k + 1)) (dO := 10 + 6 * k) (dE := 5 + 6 * k) (by omega) (by omega) (by omega) (by omega) (pOr_good g2) (fun _ => ho) (fun _ => i1)
    rw [show 5 - op = k + 1 from by omega] at h1
    have g3 := (pLv_good b n (k + 1)).1
    have h2 : CMd mX7_term (6 + 6 * (k + 1)) (pTerm b n (pLv b n (k + 1)).1) op t n b := c_term7 (by omega) (by omega) g3 h1
    have h3 : CMd mX7_added (7 + 6 * (k + 1)) (pSum b n (pLv b n (k + 1)).1) op t n b := c_added7 (by omega) (by omega) (pTerm_good g3) h2
    have h5 := c_not7 (d := 8 + 6 * (k + 1)) (d9 := 7 + 6 * (k + 1)) (d8 := 8 + 6 * k) (by omega) (by omega) (by omega) (by omega) (pSum_good g3) h3 (fun _ => i2)
    rw [show 5 - op = k + 1 from by omega] at h5
    exact ⟨h1, h5⟩
theorem c_mall {t n : Nat} {b : Nat → Int32} : CMd mX7_either 40 (pAll b n 5) 0 t n b := by
  obtain ⟨i1, i2⟩ := c_mlev (t := t) (n := n) (b := b) 5 0 rfl
  have g2 := (pLv_good b n 5).2
  have ha : CMd mX7_both 39 (pAnd b n (pLv b n 5).2) 0 t n b := c_both7 (by omega) (by omega) g2 i2
  exact c_either7 (by omega) (by omega) (pAnd_good g2) ha

theorem c_part7 {t n k : Nat} {b : Nat → Int32} {s : PT} {I : I2} {J : J2} (hk : k < 12) (hs : MS t n b 0 I J s) : CT mX7_part 41 58 58 [.ref 38, .int (b2i (s.1 = 256 + i32 k))] I J RF (RP RF (MRd b n 0 I J (pPart b n (256 + i32 k) s))) := by
  refine CT_of okX7_part (Nat.le_of_ble_eq_true rfl) ?_
  show V _ _ _ _ _ _ [(0, _), (1, _)] _ _ _ _ _
  refine V_go 1 rfl ?_
  refine V_if_ne rfl (fun h1 => ?_) (fun h1 => ?_)
  · skip
    have hkey : s.1 = 256 + i32 k := b2i_eq1.mp ((b2i_or _).resolve_left h1)
    have hne1 : s.1 ≠ 1 := fun z => wk_1 k hk (z.symm.trans hkey)
    refine V_go 2 rfl ?_
    refine V_if_ne rfl (fun h41 => ?_) (fun h41 => ?_)
    · skip
      exact absurd hs.2.1 h41
    · skip
      refine V_go 1 rfl ?_
      refine cVW (mt' := mX7_next) rfl kX7_200 fX7_next rfl rfl rfl (Nat.le_of_ble_eq_true rfl) (Nat.le_of_ble_eq_true rfl) (by omega) (Nat.le_of_ble_eq_true rfl) (Nat.le_refl _) (c_nextT hs.1 hs.2.2.1 hne1 hs.2.2.2.1) ?_
      intro Ir42 Jr42 h42
      obtain ⟨hT2, hN⟩ := h42
      have hs2 : MS t n b 0 Ir42 Jr42 (nxt b n s) := ⟨hs.1.mfr hN.mfr, (hN.2 28 (by omega)).trans hs.2.1, hT2, (nxt_ok hs.2.2.2.1).1, (hN.2 27 (by omega)).trans hs.2.2.2.2⟩
      refine V_go 2 rfl ?_
      refine V_if_eq rfl (fun h43 => ?_) (fun h43 => ?_)
      · skip
        refine V_go 1 rfl ?_
        refine cVP (mt' := mX7_either) rfl kX7_235 fX7_either rfl rfl rfl (Nat.le_of_ble_eq_true rfl) (Nat.le_of_ble_eq_true rfl) (by omega) (Nat.le_of_ble_eq_true rfl) (Nat.le_refl _) (c_mall _ _ _ hs2) ?_
        intro r44 Ir44 Jr44 h44
        have hq3 := h44
        have hgo := (pAll_good b n 5 _ hs2.2.2.2.1).1
        refine V_go 3 rfl ?_
        refine cVI (mt' := mX7_isSign) rfl kX7_225 fX7_isSign rfl rfl rfl (Nat.le_of_ble_eq_true rfl) (Nat.le_of_ble_eq_true rfl) (by omega) (Nat.le_of_ble_eq_true rfl) (Nat.le_refl _) (c_isSign7 (s := (pAll b n 5 (nxt b n s)).2.1) (b := b) (n := n) (c := 59) rfl hq3.t0) ?_
        refine V_if_ne rfl (fun h46 => ?_) (fun h46 => ?_)
        · skip
          have hsg := b2i_eq1.mp ((b2i_or _).resolve_left h46)
          have hr1 : (pAll b n 5 (nxt b n s)).1 = true := hq3.good hsg.1
          refine V_go 2 rfl ?_
          refine V_if_ne rfl (fun h61 => ?_) (fun h61 => ?_)
          · skip
            exact absurd (hq3.2.1 hr1).1 h61
          · skip
            refine V_go 1 rfl ?_
            refine cVW (mt' := mX7_next) rfl kX7_200 fX7_next rfl rfl rfl (Nat.le_of_ble_eq_true rfl) (Nat.le_of_ble_eq_true rfl) (by omega) (Nat.le_of_ble_eq_true rfl) (Nat.le_refl _) (c_nextT (hs.1.mfr (hN.mfr.tr hq3.1)) (hq3.2.1 hr1).2.1 (fun z => absurd (hsg.2.symm.trans z) (by decide)) hgo) ?_
            intro Ir62 Jr62 h62
            obtain ⟨hT4, hN4⟩ := h62
            refine V_go 1 rfl ?_
            refine V_iret rfl rfl rfl ?_
            refine RP.mk ?_
            rw [show pPart b n (256 + i32 k) s = (true, nxt b n (pAll b n 5 (nxt b n s)).2.1, (pAll b n 5 (nxt b n s)).2.2) from by unfold pPart; rw [if_pos hkey, if_pos ⟨hr1, hsg.2⟩]]
            refine ⟨(hN.mfr.tr hq3.1).tr hN4.mfr, fun _ => ⟨?_, hT4, ?_, ?_⟩, fun z => absurd (show true = false from z) (by decide)⟩
            · rw [hN4.2 28 (by omega)]; exact (hq3.2.1 hr1).1
            · rw [hN4.2 27 (by omega)]; exact (hq3.2.1 hr1).2.2.1
            · rw [(hq3.2.1 hr1).2.2.2, mEnv_f hN.mfr]
        · skip
          have hns := b2i_eq0.mp h46
          refine V_go 1 rfl ?_
          refine cVV (mt' := mX7_fail) rfl kX7_197 fX7_fail rfl rfl rfl (Nat.le_of_ble_eq_true rfl) (Nat.le_of_ble_eq_true rfl) (by omega) (Nat.le_of_ble_eq_true rfl) (Nat.le_refl _) (c_fail) ?_
          have hfl : MFr Ir44 Jr44 (mFail Ir44) Jr44 ∧ mFail Ir44 38 28 = 1 ∧ mFail Ir44 38 29 = i32 (pAll b n 5 (nxt b n s)).2.1.2.1 := by
            by_cases hr1 : (pAll b n 5 (nxt b n s)).1 = true
            · obtain ⟨a1, a2, a3, a4⟩ := hq3.2.1 hr1
              rw [show mFail Ir44 = up2 (up2 Ir44 38 28 1) 38 29 (Ir44 38 25) from if_pos a1]
              exact ⟨(MFr.fld (by omega) (by omega)).tr (MFr.fld (by omega) (by omega)), rfl, a2.1⟩
            · obtain ⟨a1, a2⟩ := hq3.2.2 (bof hr1)
              rw [show mFail Ir44 = Ir44 from if_neg (by rw [a1]; decide)]
              exact ⟨MFr.rf, a1, a2⟩
          have hfx : ¬ ((pAll b n 5 (nxt b n s)).1 = true ∧ (pAll b n 5 (nxt b n s)).2.1.1 = 59) := fun z => hns ⟨(hq3.2.1 z.1).1, z.2⟩
          refine V_go 2 rfl ?_
          refine V_if_ne rfl (fun h91 => ?_) (fun h91 => ?_)
          · skip
            refine V_go 1 rfl ?_
            refine V_iret rfl rfl rfl ?_
            refine RP.mk ?_
            rw [show pPart b n (256 + i32 k) s = (false, (pAll b n 5 (nxt b n s)).2.1, [], fun _ => 0) from by unfold pPart; rw [if_pos hkey, if_neg hfx]]
            exact MRd.bad (op2 := 0) ((hN.mfr.tr hq3.1).tr hfl.1) hfl.2.1 hfl.2.2
          · skip
            exact absurd (show mFail Ir44 38 28 = 0 from h91) (by rw [hfl.2.1]; decide)
      · skip
        exact absurd hs2.2.1 h43
  · skip
    have hkey : ¬ s.1 = 256 + i32 k := b2i_eq0.mp h1
    refine V_go 1 rfl ?_
    refine cVV (mt' := mX7_fail) rfl kX7_197 fX7_fail rfl rfl rfl (Nat.le_of_ble_eq_true rfl) (Nat.le_of_ble_eq_true rfl) (by omega) (Nat.le_of_ble_eq_true rfl) (Nat.le_refl _) (c_fail) ?_
    have hmf0 : mFail I = up2 (up2 I 38 28 1) 38 29 (I 38 25) := if_pos hs.2.1
    have hmf : ¬ mFail I 38 28 = 0 := by rw [hmf0]; exact fun z => absurd (show (1 : Int32) = 0 from z) (by decide)
    refine V_go 2 rfl ?_
    refine V_if_ne rfl (fun h22 => ?_) (fun h22 => ?_)
    · skip
      refine V_go 2 rfl ?_
      refine V_if_eq rfl (fun h23 => ?_) (fun h23 => ?_)
      · skip
        exact absurd (show mFail I 38 28 = 0 from h23) hmf
      · skip
        refine V_go 5 rfl ?_
        refine cVI (mt' := mX7_isSign) rfl kX7_225 fX7_isSign rfl rfl rfl (Nat.le_of_ble_eq_true rfl) (Nat.le_of_ble_eq_true rfl) (by omega) (Nat.le_of_ble_eq_true rfl) (Nat.le_refl _) (c_isSign7 (s := s) (b := b) (n := n) (c := 59) rfl (fun z => absurd z hmf)) ?_
        refine V_if_ne rfl (fun h25 => ?_) (fun h25 => ?_)
        · skip
          exact (h25 (b2i_0 (fun z => hmf z.1))).elim
        · skip
          refine V_go 1 rfl ?_
          refine cVV (mt' := mX7_fail) rfl kX7_197 fX7_fail rfl rfl rfl (Nat.le_of_ble_eq_true rfl) (Nat.le_of_ble_eq_true rfl) (by omega) (Nat.le_of_ble_eq_true rfl) (Nat.le_refl _) (c_fail) ?_
          rw [show mFail (mFail I) = mFail I from if_neg hmf]
          refine V_go 2 rfl ?_
          refine V_if_ne rfl (fun h27 => ?_) (fun h27 => ?_)
          · skip
            refine V_go 1 rfl ?_
            refine V_iret rfl rfl rfl ?_
            refine RP.mk ?_
            rw [show pPart b n (256 + i32 k) s = pNone s from by unfold pPart; rw [if_neg hkey]]
            exact MRd.none hs
          · skip
            exact absurd (show mFail I 38 28 = 0 from h27) hmf
    · skip
      exact absurd (show mFail I 38 28 = 0 from h22) hmf
theorem b2i_and {p q : Prop} [Decidable p] [Decidable q] (hp : p) : b2i (p ∧ q) = b2i q := by
  by_cases hq : q
  · rw [b2i_1 ⟨hp, hq⟩, b2i_1 hq]
  · rw [b2i_0 (fun z => hq z.2), b2i_0 hq]
def MFr2 (I : I2) (J : J2) (I9 : I2) (J9 : J2) : Prop := (∀ o, o ≠ 38 → I9 o = I o ∧ J9 o = J o) ∧ ∀ k, k < 21 ∨ 29 < k → I9 38 k = I 38 k
theorem MRd.part {t n k : Nat} {b : Nat → Int32} {I I1 I9 : I2} {J J1 J9 : J2} {v x : Int32} (hr : MRd b n 0 I J (pRd b n k) v I1 J1) (hr1 : (pRd b n k).1 = true) (h : MRd b n 0 I1 J1 (pPart b n (262 + i32 k) (pRd b n k).2.1) x I9 J9) : MRd b n 0 I J (pRd b n (k + 1)) x I9 J9 := by
  rw [pRd_s hr1]
  have z := h.pre hr.1
  exact z.val (fun y => (z.2.1 y).2.2.2)
theorem MRd.skip {n k : Nat} {b : Nat → Int32} {I I1 : I2} {J J1 : J2} {v x : Int32} (hr : MRd b n 0 I J (pRd b n k) v I1 J1) (hb : ¬ I1 38 28 = 0) : MRd b n 0 I J (pRd b n (k + 1)) x I1 J1 := by
  have h0 : ¬ (pRd b n k).1 = true := fun z => hb (hr.2.1 z).1
  have e := pRd_x h0 1
  rw [e]
  exact ⟨hr.1, fun z => absurd z h0, hr.2.2⟩
theorem MRd.ms {t n k : Nat} {b : Nat → Int32} {I I1 : I2} {J J1 : J2} {v : Int32} (hB : MB t n b I) (hr : MRd b n 0 I J (pRd b n k) v I1 J1) (hb : I1 38 28 = 0) (hk : k ≤ 3) : (pRd b n k).1 = true ∧ MS t n b 0 I1 J1 (pRd b n k).2.1 := by
  have h1 := hr.good hb
  obtain ⟨a1, a2, a3, a4⟩ := hr.2.1 h1
  exact ⟨h1, hB.mfr hr.1, a1, a2, (pRd_good b n k hk).1, a3⟩
theorem MTk.end0 {b : Nat → Int32} {n : Nat} {I : I2} {J : J2} {s : PT} (h : MTk b n I J s) : I 38 24 = 0 ↔ s.1 = 0 := by
  rcases h.2 with z | z | z | z | z
  · exact ⟨fun _ => z.2.1, fun _ => z.1⟩
  · exact ⟨fun y => absurd (z.1.symm.trans y) (by decide), fun y => absurd (z.2.2.1.symm.trans y) (wTok_n2 _).2⟩
  · exact ⟨fun y => absurd (z.1.symm.trans y) (by decide), fun y => absurd (z.2.1.symm.trans y) (by decide)⟩
  · exact ⟨fun y => absurd (z.1.symm.trans y) (by decide), fun y => absurd y (isSi_n2 z.2.1).2.1⟩
  · exact ⟨fun y => absurd (z.1.symm.trans y) (by decide), fun y => absurd (z.2.symm.trans y) (by decide)⟩
/-- what a reading of a text answers -/
def RdX (b : Nat → Int32) (n w : Nat) (I : I2) (J : J2) (r : Int32) (I9 : I2) (J9 : J2) : Prop := MFr2 I J I9 J9 ∧ (pOkT b n → I9 38 28 = 0 ∧ r = (pRd b n (w + 1)).2.2.2 (mEnv I)) ∧ (¬ pOkT b n → I9 38 28 = 1 ∧ I9 38 29 = i32 (pRd b n 3).2.1.2.1)

theorem c_read {t n w : Nat} {b : Nat → Int32} {I : I2} {J : J2} (ht : t < 6) (hn : n ≤ 160) (hw : w < 3) (hsz : I 40 t = i32 n) (hb : ∀ i, I 39 (160 * t + i) = b i) (hby : ∀ i, i < n → 0 ≤ b i ∧ b i ≤ 255) : CT mX7_read 42 58 58 [.ref 38, .int (i32 t), .int (i32 w)] I J RF (RP RF (RdX b n w I J)) := by
  have hB0 : MB t n b (up2 (up2 (up2 (up2 (up2 I 38 21 (i32 (160 * t))) 38 22 (i32 n)) 38 23 0) 38 27 0) 38 28 0) := ⟨ht, hn, rfl, rfl, hb, hby⟩
  have hf0 : MFr2 I J (up2 (up2 (up2 (up2 (up2 I 38 21 (i32 (160 * t))) 38 22 (i32 n)) 38 23 0) 38 27 0) 38 28 0) J := ⟨fun o ho => ⟨by simp only [up2_ne ho], rfl⟩, fun k hk => by
    have k1 : ¬ k = 21 := by omega
    have k2 : ¬ k = 22 := by omega
    have k3 : ¬ k = 23 := by omega
    have k4 : ¬ k = 27 := by omega
    have k5 : ¬ k = 28 := by omega
    simp only [up2_rd, reduceIte, if_neg k1, if_neg k2, if_neg k3, if_neg k4, if_neg k5]⟩
  have henv : mEnv (up2 (up2 (up2 (up2 (up2 I 38 21 (i32 (160 * t))) 38 22 (i32 n)) 38 23 0) 38 27 0) 38 28 0) = mEnv I := rfl
  have k129 : ∀ (v1 v2 v3 : Int32) (I1 I2' I3 : I2) (J1 J2' J3 : J2), MRd b n 0 (up2 (up2 (up2 (up2 (up2 I 38 21 (i32 (160 * t))) 38 22 (i32 n)) 38 23 0) 38 27 0) 38 28 0) J (pRd b n 1) v1 I1 J1 → MRd b n 0 (up2 (up2 (up2 (up2 (up2 I 38 21 (i32 (160 * t))) 38 22 (i32 n)) 38 23 0) 38 27 0) 38 28 0) J (pRd b n 2) v2 I2' J2' → MRd b n 0 (up2 (up2 (up2 (up2 (up2 I 38 21 (i32 (160 * t))) 38 22 (i32 n)) 38 23 0) 38 27 0) 38 28 0) J (pRd b n 3) v3 I3 J3 → V mX7_read none 42 58 (RP RF (RdX b n w I J)) 129 [(0, .ref 38), (1, .int (i32 t)), (2, .int (i32 w)), (3, .int v1), (4, .int v2), (5, .int v3)] [] 58 I3 J3 RF := by
    intro v1 v2 v3 I1 I2' I3 J1 J2' J3 hr1 hr2 hr
    refine V_go 2 rfl ?_
    refine V_if_ne rfl (fun h21 => ?_) (fun h21 => ?_)
    · skip
      have hf9 : MFr I3 J3 I3 J3 := MFr.rf
      have hn3 : ¬ (pRd b n 3).1 = true := fun z => h21 (hr.2.1 z).1
      have hb9 : (pOkT b n → I3 38 28 = 0) ∧ (¬ pOkT b n → I3 38 28 = 1 ∧ I3 38 29 = i32 (pRd b n 3).2.1.2.1) := ⟨fun z => absurd z.1 hn3, fun _ => hr.2.2 (bof hn3)⟩
      have hfr : MFr2 I J I3 J3 := ⟨fun o ho => ⟨((hf9.1 o ho).1.trans (hr.1.1 o ho).1).trans (hf0.1 o ho).1, ((hf9.1 o ho).2.trans (hr.1.1 o ho).2).trans (hf0.1 o ho).2⟩, fun k hk => ((hf9.2 k (by omega)).trans (hr.1.2 k (by omega))).trans (hf0.2 k hk)⟩
      have hv : ∀ r : Int32, (w = 0 → r = v1) → (w = 1 → r = v2) → (w = 2 → r = v3) → RP RF (RdX b n w I J) (some (.int r)) I3 J3 RF := fun r y1 y2 y3 => by
        refine RP.mk ⟨hfr, fun z => ⟨hb9.1 z, ?_⟩, hb9.2⟩
        have e3 := (hr.2.1 z.1).2.2.2
        have e2 := (hr2.2.1 (pRd_t z.1)).2.2.2
        have e1 := (hr1.2.1 (pRd_t (pRd_t z.1))).2.2.2
        rw [henv] at e1 e2 e3
        match w, hw with
        | 0, _ => rw [y1 rfl]; exact e1
        | 1, _ => rw [y2 rfl]; exact e2
        | 2, _ => rw [y3 rfl]; exact e3
      refine V_go 1 rfl ?_
      refine V_if_ne rfl (fun h41 => ?_) (fun h41 => ?_)
      · skip
        have w0 : ¬ w = 0 := fun z => h41 (by rw [z]; rfl)
        refine V_go 2 rfl ?_
        refine V_icmp_ne rfl (fun h51 => ?_) (fun h51 => ?_)
        · skip
          have w1 : ¬ w = 1 := fun z => h51 (by rw [z]; rfl)
          refine V_go 1 rfl ?_
          refine V_iret rfl rfl rfl ?_
          exact hv _ (fun z => absurd z w0) (fun z => absurd z w1) (fun _ => rfl)
        · skip
          have w1 : w = 1 := (i32_inj (a := w) (b := 1) (by omega) (by omega)).mp h51
          refine V_go 2 rfl ?_
          refine V_iret rfl rfl rfl ?_
          exact hv _ (fun z => absurd z w0) (fun _ => rfl) (fun z => absurd z (by omega))
      · skip
        have w0 : w = 0 := (i32_inj (a := w) (b := 0) (by omega) (by omega)).mp h41
        refine V_go 2 rfl ?_
        refine V_iret rfl rfl rfl ?_
        exact hv _ (fun _ => rfl) (fun z => absurd z (by omega)) (fun z => absurd z (by omega))
    · skip
      have hg1 := hr.good h21
      have hT := (hr.2.1 hg1).2.1
      refine V_go 2 rfl ?_
      refine V_if_eq rfl (fun h25 => ?_) (fun h25 => ?_)
      · skip
        have hf9 : MFr I3 J3 I3 J3 := MFr.rf
        have hok : pOkT b n := ⟨hg1, hT.end0.mp h25⟩
        have hb9 : (pOkT b n → I3 38 28 = 0) ∧ (¬ pOkT b n → I3 38 28 = 1 ∧ I3 38 29 = i32 (pRd b n 3).2.1.2.1) := ⟨fun z => (hr.2.1 hg1).1, fun z => absurd hok z⟩
        have hfr : MFr2 I J I3 J3 := ⟨fun o ho => ⟨((hf9.1 o ho).1.trans (hr.1.1 o ho).1).trans (hf0.1 o ho).1, ((hf9.1 o ho).2.trans (hr.1.1 o ho).2).trans (hf0.1 o ho).2⟩, fun k hk => ((hf9.2 k (by omega)).trans (hr.1.2 k (by omega))).trans (hf0.2 k hk)⟩
        have hv : ∀ r : Int32, (w = 0 → r = v1) → (w = 1 → r = v2) → (w = 2 → r = v3) → RP RF (RdX b n w I J) (some (.int r)) I3 J3 RF := fun r y1 y2 y3 => by
          refine RP.mk ⟨hfr, fun z => ⟨hb9.1 z, ?_⟩, hb9.2⟩
          have e3 := (hr.2.1 z.1).2.2.2
          have e2 := (hr2.2.1 (pRd_t z.1)).2.2.2
          have e1 := (hr1.2.1 (pRd_t (pRd_t z.1))).2.2.2
          rw [henv] at e1 e2 e3
          match w, hw with
          | 0, _ => rw [y1 rfl]; exact e1
          | 1, _ => rw [y2 rfl]; exact e2
          | 2, _ => rw [y3 rfl]; exact e3
        refine V_go 1 rfl ?_
        refine V_if_ne rfl (fun h41 => ?_) (fun h41 => ?_)
        · skip
          have w0 : ¬ w = 0 := fun z => h41 (by rw [z]; rfl)
          refine V_go 2 rfl ?_
          refine V_icmp_ne rfl (fun h51 => ?_) (fun h51 => ?_)
          · skip
            have w1 : ¬ w = 1 := fun z => h51 (by rw [z]; rfl)
            refine V_go 1 rfl ?_
            refine V_iret rfl rfl rfl ?_
            exact hv _ (fun z => absurd z w0) (fun z => absurd z w1) (fun _ => rfl)
          · skip
            have w1 : w = 1 := (i32_inj (a := w) (b := 1) (by omega) (by omega)).mp h51
            refine V_go 2 rfl ?_
            refine V_iret rfl rfl rfl ?_
            exact hv _ (fun z => absurd z w0) (fun _ => rfl) (fun z => absurd z (by omega))
        · skip
          have w0 : w = 0 := (i32_inj (a := w) (b := 0) (by omega) (by omega)).mp h41
          refine V_go 2 rfl ?_
          refine V_iret rfl rfl rfl ?_
          exact hv _ (fun _ => rfl) (fun z => absurd z (by omega)) (fun z => absurd z (by omega))
      · skip
        have hno : ¬ pOkT b n := fun z => h25 (hT.end0.mpr z.2)
        refine V_go 1 rfl ?_
        refine cVV (mt' := mX7_fail) rfl kX7_197 fX7_fail rfl rfl rfl (Nat.le_of_ble_eq_true rfl) (Nat.le_of_ble_eq_true rfl) (Nat.le_of_ble_eq_true rfl) (Nat.le_of_ble_eq_true rfl) (Nat.le_refl _) (c_fail) ?_
        have hmf : mFail I3 = up2 (up2 I3 38 28 1) 38 29 (I3 38 25) := if_pos (hr.2.1 hg1).1
        have hf9 : MFr I3 J3 (mFail I3) J3 := by rw [hmf]; exact (MFr.fld (by omega) (by omega)).tr (MFr.fld (by omega) (by omega))
        have hb9 : (pOkT b n → mFail I3 38 28 = 0) ∧ (¬ pOkT b n → mFail I3 38 28 = 1 ∧ mFail I3 38 29 = i32 (pRd b n 3).2.1.2.1) := ⟨fun z => absurd z hno, fun _ => by rw [hmf]; exact ⟨rfl, hT.1⟩⟩
        have hfr : MFr2 I J (mFail I3) J3 := ⟨fun o ho => ⟨((hf9.1 o ho).1.trans (hr.1.1 o ho).1).trans (hf0.1 o ho).1, ((hf9.1 o ho).2.trans (hr.1.1 o ho).2).trans (hf0.1 o ho).2⟩, fun k hk => ((hf9.2 k (by omega)).trans (hr.1.2 k (by omega))).trans (hf0.2 k hk)⟩
        have hv : ∀ r : Int32, (w = 0 → r = v1) → (w = 1 → r = v2) → (w = 2 → r = v3) → RP RF (RdX b n w I J) (some (.int r)) (mFail I3) J3 RF := fun r y1 y2 y3 => by
          refine RP.mk ⟨hfr, fun z => ⟨hb9.1 z, ?_⟩, hb9.2⟩
          have e3 := (hr.2.1 z.1).2.2.2
          have e2 := (hr2.2.1 (pRd_t z.1)).2.2.2
          have e1 := (hr1.2.1 (pRd_t (pRd_t z.1))).2.2.2
          rw [henv] at e1 e2 e3
          match w, hw with
          | 0, _ => rw [y1 rfl]; exact e1
          | 1, _ => rw [y2 rfl]; exact e2
          | 2, _ => rw [y3 rfl]; exact e3
        refine V_go 1 rfl ?_
        refine V_if_ne rfl (fun h41 => ?_) (fun h41 => ?_)
        · skip
          have w0 : ¬ w = 0 := fun z => h41 (by rw [z]; rfl)
          refine V_go 2 rfl ?_
          refine V_icmp_ne rfl (fun h51 => ?_) (fun h51 => ?_)
          · skip
            have w1 : ¬ w = 1 := fun z => h51 (by rw [z]; rfl)
            refine V_go 1 rfl ?_
            refine V_iret rfl rfl rfl ?_
            exact hv _ (fun z => absurd z w0) (fun z => absurd z w1) (fun _ => rfl)
          · skip
            have w1 : w = 1 := (i32_inj (a := w) (b := 1) (by omega) (by omega)).mp h51
            refine V_go 2 rfl ?_
            refine V_iret rfl rfl rfl ?_
            exact hv _ (fun z => absurd z w0) (fun _ => rfl) (fun z => absurd z (by omega))
        · skip
          have w0 : w = 0 := (i32_inj (a := w) (b := 0) (by omega) (by omega)).mp h41
          refine V_go 2 rfl ?_
          refine V_iret rfl rfl rfl ?_
          exact hv _ (fun _ => rfl) (fun z => absurd z (by omega)) (fun z => absurd z (by omega))
  have k95 : ∀ (v1 v2 : Int32) (I1 I2' : I2) (J1 J2' : J2), MRd b n 0 (up2 (up2 (up2 (up2 (up2 I 38 21 (i32 (160 * t))) 38 22 (i32 n)) 38 23 0) 38 27 0) 38 28 0) J (pRd b n 1) v1 I1 J1 → MRd b n 0 (up2 (up2 (up2 (up2 (up2 I 38 21 (i32 (160 * t))) 38 22 (i32 n)) 38 23 0) 38 27 0) 38 28 0) J (pRd b n 2) v2 I2' J2' → V mX7_read none 42 58 (RP RF (RdX b n w I J)) 95 [(0, .ref 38), (1, .int (i32 t)), (2, .int (i32 w)), (3, .int v1), (4, .int v2)] [] 58 I2' J2' RF := by
    intro v1 v2 I1 I2' J1 J2' hr1 hr
    refine V_go 2 rfl ?_
    refine V_if_eq rfl (fun h61 => ?_) (fun h61 => ?_)
    · skip
      have hm := hr.ms hB0 h61 (by omega)
      refine V_go 10 rfl ?_
      refine cVI (mt' := mX7_isWord) rfl kX7_203 fX7_isWord rfl rfl rfl (Nat.le_of_ble_eq_true rfl) (Nat.le_of_ble_eq_true rfl) (Nat.le_of_ble_eq_true rfl) (Nat.le_of_ble_eq_true rfl) (Nat.le_refl _) (c_isWord (k := 8) (s := (pRd b n 2).2.1) (by omega) (hB0.mfr hr.1) (pRd_good b n 2 (by omega)).1 (fun _ => hm.2.2.2.1)) ?_
      rw [b2i_and h61]
      refine cVP (mt' := mX7_part) rfl kX7_257 fX7_part rfl rfl rfl (Nat.le_of_ble_eq_true rfl) (Nat.le_of_ble_eq_true rfl) (Nat.le_of_ble_eq_true rfl) (Nat.le_of_ble_eq_true rfl) (Nat.le_refl _) (c_part7 (k := 8) (by omega) hm.2) ?_
      intro r77 Ir77 Jr77 h77
      have hrn := MRd.part (t := t) hr hm.1 h77
      refine V_go 1 rfl ?_
      exact k129 _ _ _ _ _ _ _ _ _ hr1 hr hrn
    · skip
      refine V_go 3 rfl ?_
      exact k129 _ _ _ _ _ _ _ _ _ hr1 hr (hr.skip h61)
  have k60 : ∀ (v1 : Int32) (I1 : I2) (J1 : J2), MRd b n 0 (up2 (up2 (up2 (up2 (up2 I 38 21 (i32 (160 * t))) 38 22 (i32 n)) 38 23 0) 38 27 0) 38 28 0) J (pRd b n 1) v1 I1 J1 → V mX7_read none 42 58 (RP RF (RdX b n w I J)) 60 [(0, .ref 38), (1, .int (i32 t)), (2, .int (i32 w)), (3, .int v1)] [] 58 I1 J1 RF := by
    intro v1 I1 J1 hr
    refine V_go 2 rfl ?_
    refine V_if_eq rfl (fun h61 => ?_) (fun h61 => ?_)
    · skip
      have hm := hr.ms hB0 h61 (by omega)
      refine V_go 10 rfl ?_
      refine cVI (mt' := mX7_isWord) rfl kX7_203 fX7_isWord rfl rfl rfl (Nat.le_of_ble_eq_true rfl) (Nat.le_of_ble_eq_true rfl) (Nat.le_of_ble_eq_true rfl) (Nat.le_of_ble_eq_true rfl) (Nat.le_refl _) (c_isWord (k := 7) (s := (pRd b n 1).2.1) (by omega) (hB0.mfr hr.1) (pRd_good b n 1 (by omega)).1 (fun _ => hm.2.2.2.1)) ?_
      rw [b2i_and h61]
      refine cVP (mt' := mX7_part) rfl kX7_257 fX7_part rfl rfl rfl (Nat.le_of_ble_eq_true rfl) (Nat.le_of_ble_eq_true rfl) (Nat.le_of_ble_eq_true rfl) (Nat.le_of_ble_eq_true rfl) (Nat.le_refl _) (c_part7 (k := 7) (by omega) hm.2) ?_
      intro r77 Ir77 Jr77 h77
      have hrn := MRd.part (t := t) hr hm.1 h77
      refine V_go 1 rfl ?_
      exact k95 _ _ _ _ _ _ hr hrn
    · skip
      refine V_go 3 rfl ?_
      exact k95 _ _ _ _ _ _ hr (hr.skip h61)
  refine CT_of okX7_read (Nat.le_of_ble_eq_true rfl) ?_
  show V _ _ _ _ _ _ [(0, _), (1, _), (2, _)] _ _ _ _ _
  refine V_go 9 rfl ?_
  refine V_iald rfl rfl (Nat.le_of_ble_eq_true rfl) (inb_i32 (by omega) (by decide)) ?_
  rw [tn_of (show t < 2147483648 by omega), show up2 I 38 21 (160 * i32 t) = up2 I 38 21 (i32 (160 * t)) from by rw [Int32.mul_comm, p160 t ht], show up2 I 38 21 (i32 (160 * t)) 40 t = i32 n from hsz]
  refine V_go 9 rfl ?_
  refine V_putZ rfl rfl (Nat.le_of_ble_eq_true rfl) rfl rfl (by first | exact Or.inl rfl | exact Or.inr rfl | assumption) ?_
  refine V_go 1 rfl ?_
  refine cVW (mt' := mX7_next) rfl kX7_200 fX7_next rfl rfl rfl (Nat.le_of_ble_eq_true rfl) (Nat.le_of_ble_eq_true rfl) (Nat.le_of_ble_eq_true rfl) (Nat.le_of_ble_eq_true rfl) (Nat.le_refl _) (c_next (p0 := 0) hB0 rfl (Nat.zero_le _)) ?_
  intro Ir1 Jr1 h1
  obtain ⟨hT2, hN⟩ := h1
  have hr : MRd b n 0 (up2 (up2 (up2 (up2 (up2 I 38 21 (i32 (160 * t))) 38 22 (i32 n)) 38 23 0) 38 27 0) 38 28 0) J (pRd b n 0) 0 Ir1 Jr1 := ⟨hN.mfr, fun _ => ⟨(hN.2 28 (by omega)), hT2, (hN.2 27 (by omega)), rfl⟩, fun z => absurd (show true = false from z) (by decide)⟩
  have hm := hr.ms hB0 (hN.2 28 (by omega)) (by omega)
  have hb0 : Ir1 38 28 = 0 := hN.2 28 (by omega)
  refine V_go 10 rfl ?_
  refine cVI (mt' := mX7_isWord) rfl kX7_203 fX7_isWord rfl rfl rfl (Nat.le_of_ble_eq_true rfl) (Nat.le_of_ble_eq_true rfl) (Nat.le_of_ble_eq_true rfl) (Nat.le_of_ble_eq_true rfl) (Nat.le_refl _) (c_isWord (k := 6) (s := (pRd b n 0).2.1) (by omega) (hB0.mfr hr.1) (pRd_good b n 0 (by omega)).1 (fun _ => hm.2.2.2.1)) ?_
  rw [b2i_and hb0]
  refine cVP (mt' := mX7_part) rfl kX7_257 fX7_part rfl rfl rfl (Nat.le_of_ble_eq_true rfl) (Nat.le_of_ble_eq_true rfl) (Nat.le_of_ble_eq_true rfl) (Nat.le_of_ble_eq_true rfl) (Nat.le_refl _) (c_part7 (k := 6) (by omega) hm.2) ?_
  intro r3 Ir3 Jr3 h3
  have hrn := MRd.part (t := t) hr hm.1 h3
  refine V_go 1 rfl ?_
  exact k60 _ _ _ hrn

