theorem w2e {w : Int32} (h : 0 ≤ w ∧ w ≤ 5) (h3 : ¬ 3 ≤ w) (h0 : ¬ w = 0) (h1 : ¬ w = 1) : w = 2 := by grind
theorem w5e {w : Int32} (h : 0 ≤ w ∧ w ≤ 5) (h3 : 3 ≤ w) (h0 : ¬ w = 3) (h1 : ¬ w = 4) : w = 5 := by grind
theorem sCount_9 {C : CC} {nt sz w : Int32} (h : ¬ (0 ≤ w ∧ w ≤ 5)) : sCount C nt sz w = -2 := by
  unfold sCount
  rw [if_neg (fun z => h (by rw [z]; decide)), if_neg (fun z => h (by rw [z]; decide)), if_neg (fun z => h (by rw [z]; decide)), if_neg (fun z => h (by rw [z]; decide)), if_neg (fun z => h (by rw [z]; decide)), if_neg (fun z => h (by rw [z]; decide))]

theorem c_count7 {tc : Nat} {I : I2} {J : J2} {T : TV} {C : CC} (hM : MC tc I J T C) {w : Int32} : CT mX7_count 2 58 58 [.ref 38, .int w] I J RF (RI RF (sCount C (I 38 3) (I 38 6) w) I J) := by
  refine CT_of okX7_count (Nat.le_of_ble_eq_true rfl) ?_
  show V _ _ _ _ _ _ [(0, _), (1, _)] _ _ _ _ _
  refine V_go 4 rfl ?_
  refine cSI (mt' := mX7_in) rfl kX7_89 fX7_in rfl (Nat.le_of_ble_eq_true rfl) (Nat.le_of_ble_eq_true rfl) (Nat.le_refl _) (c_inI (lo := (0)) (hi := (5)) rfl (by decide +kernel) (by decide +kernel)) ?_
  refine V_if_ne rfl (fun h2 => ?_) (fun h2 => ?_)
  · skip
    have hw := b2i_n0.mp h2
    refine V_go 2 rfl ?_
    refine V_icmp_ge rfl (fun h21 => ?_) (fun h21 => ?_)
    · skip
      refine V_go 2 rfl ?_
      refine V_icmp_ne rfl (fun h22 => ?_) (fun h22 => ?_)
      · skip
        refine V_go 2 rfl ?_
        refine V_icmp_ne rfl (fun h23 => ?_) (fun h23 => ?_)
        · skip
          refine V_go 2 rfl ?_
          refine V_iret rfl rfl rfl ?_
          refine RI.mk ?_
          unfold sCount
          first
            | (rw [if_pos (by assumption)]; first | exact hM.nm.1.trans hM.nm.2.2.2.2.1.symm | rfl)
            | (rw [if_neg (by assumption), if_pos (by assumption)]; first | exact hM.nm.2.2.1.trans hM.nm.2.2.2.2.2.symm | rfl)
            | (rw [if_neg (by assumption), if_neg (by assumption), if_pos (w2e hw (by assumption) (by assumption) (by assumption))]; done)
            | (rw [if_neg (by rw [show w = 3 by assumption]; decide), if_neg (by rw [show w = 3 by assumption]; decide), if_neg (by rw [show w = 3 by assumption]; decide), if_pos (by assumption)]; done)
            | (rw [if_neg (by rw [show w = 4 by assumption]; decide), if_neg (by rw [show w = 4 by assumption]; decide), if_neg (by rw [show w = 4 by assumption]; decide), if_neg (by rw [show w = 4 by assumption]; decide), if_pos (by assumption)]; done)
            | (have w5 := w5e hw (by assumption) (by assumption) (by assumption); rw [if_neg (by rw [w5]; decide), if_neg (by rw [w5]; decide), if_neg (by rw [w5]; decide), if_neg (by rw [w5]; decide), if_neg (by rw [w5]; decide), if_pos w5]; exact hM.f.2.2)
        · skip
          refine V_go 3 rfl ?_
          refine V_iret rfl rfl rfl ?_
          refine RI.mk ?_
          unfold sCount
          first
            | (rw [if_pos (by assumption)]; first | exact hM.nm.1.trans hM.nm.2.2.2.2.1.symm | rfl)
            | (rw [if_neg (by assumption), if_pos (by assumption)]; first | exact hM.nm.2.2.1.trans hM.nm.2.2.2.2.2.symm | rfl)
            | (rw [if_neg (by assumption), if_neg (by assumption), if_pos (w2e hw (by assumption) (by assumption) (by assumption))]; done)
            | (rw [if_neg (by rw [show w = 3 by assumption]; decide), if_neg (by rw [show w = 3 by assumption]; decide), if_neg (by rw [show w = 3 by assumption]; decide), if_pos (by assumption)]; done)
            | (rw [if_neg (by rw [show w = 4 by assumption]; decide), if_neg (by rw [show w = 4 by assumption]; decide), if_neg (by rw [show w = 4 by assumption]; decide), if_neg (by rw [show w = 4 by assumption]; decide), if_pos (by assumption)]; done)
            | (have w5 := w5e hw (by assumption) (by assumption) (by assumption); rw [if_neg (by rw [w5]; decide), if_neg (by rw [w5]; decide), if_neg (by rw [w5]; decide), if_neg (by rw [w5]; decide), if_neg (by rw [w5]; decide), if_pos w5]; exact hM.f.2.2)
      · skip
        refine V_go 3 rfl ?_
        refine V_iret rfl rfl rfl ?_
        refine RI.mk ?_
        unfold sCount
        first
          | (rw [if_pos (by assumption)]; first | exact hM.nm.1.trans hM.nm.2.2.2.2.1.symm | rfl)
          | (rw [if_neg (by assumption), if_pos (by assumption)]; first | exact hM.nm.2.2.1.trans hM.nm.2.2.2.2.2.symm | rfl)
          | (rw [if_neg (by assumption), if_neg (by assumption), if_pos (w2e hw (by assumption) (by assumption) (by assumption))]; done)
          | (rw [if_neg (by rw [show w = 3 by assumption]; decide), if_neg (by rw [show w = 3 by assumption]; decide), if_neg (by rw [show w = 3 by assumption]; decide), if_pos (by assumption)]; done)
          | (rw [if_neg (by rw [show w = 4 by assumption]; decide), if_neg (by rw [show w = 4 by assumption]; decide), if_neg (by rw [show w = 4 by assumption]; decide), if_neg (by rw [show w = 4 by assumption]; decide), if_pos (by assumption)]; done)
          | (have w5 := w5e hw (by assumption) (by assumption) (by assumption); rw [if_neg (by rw [w5]; decide), if_neg (by rw [w5]; decide), if_neg (by rw [w5]; decide), if_neg (by rw [w5]; decide), if_neg (by rw [w5]; decide), if_pos w5]; exact hM.f.2.2)
    · skip
      refine V_go 1 rfl ?_
      refine V_if_ne rfl (fun h24 => ?_) (fun h24 => ?_)
      · skip
        refine V_go 2 rfl ?_
        refine V_icmp_ne rfl (fun h25 => ?_) (fun h25 => ?_)
        · skip
          refine V_go 1 rfl ?_
          refine cVI (mt' := mX7_doneMany) rfl kX7_309 fX7_doneMany rfl rfl rfl (Nat.le_of_ble_eq_true rfl) (Nat.le_of_ble_eq_true rfl) (Nat.le_of_ble_eq_true rfl) (Nat.le_of_ble_eq_true rfl) (Nat.le_refl _) (c_doneMany7 hM) ?_
          refine V_iret rfl rfl rfl ?_
          refine RI.mk ?_
          unfold sCount
          first
            | (rw [if_pos (by assumption)]; first | exact hM.nm.1.trans hM.nm.2.2.2.2.1.symm | rfl)
            | (rw [if_neg (by assumption), if_pos (by assumption)]; first | exact hM.nm.2.2.1.trans hM.nm.2.2.2.2.2.symm | rfl)
            | (rw [if_neg (by assumption), if_neg (by assumption), if_pos (w2e hw (by assumption) (by assumption) (by assumption))]; done)
            | (rw [if_neg (by rw [show w = 3 by assumption]; decide), if_neg (by rw [show w = 3 by assumption]; decide), if_neg (by rw [show w = 3 by assumption]; decide), if_pos (by assumption)]; done)
            | (rw [if_neg (by rw [show w = 4 by assumption]; decide), if_neg (by rw [show w = 4 by assumption]; decide), if_neg (by rw [show w = 4 by assumption]; decide), if_neg (by rw [show w = 4 by assumption]; decide), if_pos (by assumption)]; done)
            | (have w5 := w5e hw (by assumption) (by assumption) (by assumption); rw [if_neg (by rw [w5]; decide), if_neg (by rw [w5]; decide), if_neg (by rw [w5]; decide), if_neg (by rw [w5]; decide), if_neg (by rw [w5]; decide), if_pos w5]; exact hM.f.2.2)
        · skip
          refine V_go 3 rfl ?_
          refine V_iret rfl rfl rfl ?_
          refine RI.mk ?_
          unfold sCount
          first
            | (rw [if_pos (by assumption)]; first | exact hM.nm.1.trans hM.nm.2.2.2.2.1.symm | rfl)
            | (rw [if_neg (by assumption), if_pos (by assumption)]; first | exact hM.nm.2.2.1.trans hM.nm.2.2.2.2.2.symm | rfl)
            | (rw [if_neg (by assumption), if_neg (by assumption), if_pos (w2e hw (by assumption) (by assumption) (by assumption))]; done)
            | (rw [if_neg (by rw [show w = 3 by assumption]; decide), if_neg (by rw [show w = 3 by assumption]; decide), if_neg (by rw [show w = 3 by assumption]; decide), if_pos (by assumption)]; done)
            | (rw [if_neg (by rw [show w = 4 by assumption]; decide), if_neg (by rw [show w = 4 by assumption]; decide), if_neg (by rw [show w = 4 by assumption]; decide), if_neg (by rw [show w = 4 by assumption]; decide), if_pos (by assumption)]; done)
            | (have w5 := w5e hw (by assumption) (by assumption) (by assumption); rw [if_neg (by rw [w5]; decide), if_neg (by rw [w5]; decide), if_neg (by rw [w5]; decide), if_neg (by rw [w5]; decide), if_neg (by rw [w5]; decide), if_pos w5]; exact hM.f.2.2)
      · skip
        refine V_go 3 rfl ?_
        refine V_iret rfl rfl rfl ?_
        refine RI.mk ?_
        unfold sCount
        first
          | (rw [if_pos (by assumption)]; first | exact hM.nm.1.trans hM.nm.2.2.2.2.1.symm | rfl)
          | (rw [if_neg (by assumption), if_pos (by assumption)]; first | exact hM.nm.2.2.1.trans hM.nm.2.2.2.2.2.symm | rfl)
          | (rw [if_neg (by assumption), if_neg (by assumption), if_pos (w2e hw (by assumption) (by assumption) (by assumption))]; done)
          | (rw [if_neg (by rw [show w = 3 by assumption]; decide), if_neg (by rw [show w = 3 by assumption]; decide), if_neg (by rw [show w = 3 by assumption]; decide), if_pos (by assumption)]; done)
          | (rw [if_neg (by rw [show w = 4 by assumption]; decide), if_neg (by rw [show w = 4 by assumption]; decide), if_neg (by rw [show w = 4 by assumption]; decide), if_neg (by rw [show w = 4 by assumption]; decide), if_pos (by assumption)]; done)
          | (have w5 := w5e hw (by assumption) (by assumption) (by assumption); rw [if_neg (by rw [w5]; decide), if_neg (by rw [w5]; decide), if_neg (by rw [w5]; decide), if_neg (by rw [w5]; decide), if_neg (by rw [w5]; decide), if_pos w5]; exact hM.f.2.2)
  · skip
    refine V_go 1 rfl ?_
    refine V_iret rfl rfl rfl ?_
    exact RI.mk (sCount_9 (b2i_eq0.mp h2)).symm
def ovr (x : Int32) : Int32 := if x = 0 then -1 else if x = 3 then 1 else if x = 4 then 2 else 0
def wrk (x : Int32) : Nat := if x = -1 then 0 else if x = 0 then 1 else if x = 3 ∨ x = 4 then 3 else 2
theorem kd6 {x : Int32} (h : 0 ≤ x ∧ x ≤ 5) : x = 0 ∨ x = 1 ∨ x = 2 ∨ x = 3 ∨ x = 4 ∨ x = 5 := by
  have a1 := Int32.le_iff_toInt_le.mp h.1
  have a2 := Int32.le_iff_toInt_le.mp h.2
  rw [show (0 : Int32).toInt = 0 from rfl] at a1
  rw [show (5 : Int32).toInt = 5 from rfl] at a2
  have i3 : x.toInt = 0 ∨ x.toInt = 1 ∨ x.toInt = 2 ∨ x.toInt = 3 ∨ x.toInt = 4 ∨ x.toInt = 5 := by omega
  rcases i3 with i | i | i | i | i | i
  · exact Or.inl (Int32.toInt_inj.mp i)
  · exact Or.inr (Or.inl (Int32.toInt_inj.mp i))
  · exact Or.inr (Or.inr (Or.inl (Int32.toInt_inj.mp i)))
  · exact Or.inr (Or.inr (Or.inr (Or.inl (Int32.toInt_inj.mp i))))
  · exact Or.inr (Or.inr (Or.inr (Or.inr (Or.inl (Int32.toInt_inj.mp i)))))
  · exact Or.inr (Or.inr (Or.inr (Or.inr (Or.inr (Int32.toInt_inj.mp i)))))
theorem ovr_ok {x : Int32} (h : 0 ≤ x ∧ x ≤ 5) : ovr x = sAbove x ∧ (ovr x = -1 ∨ (0 ≤ ovr x ∧ ovr x ≤ 5)) ∧ wrk (ovr x) < wrk x ∧ wrk x ≤ 3 := by
  rcases kd6 h with rfl | rfl | rfl | rfl | rfl | rfl <;> decide +kernel
theorem sUnder_st {k : Int32} : ∀ (n : Nat) (a : Int32), (a = -1 ∨ (0 ≤ a ∧ a ≤ 5)) → wrk a < n → ∀ m, n ≤ m → sUnder m a k = sUnder n a k
  | 0, a, _, h, m, _ => absurd h (Nat.not_lt_zero _)
  | n + 1, a, ha, h, m, hm => by
    obtain ⟨m', rfl⟩ : ∃ m', m = m' + 1 := ⟨m - 1, by omega⟩
    rw [sUnder, sUnder]
    by_cases hs : a = -1 ∨ a = k
    · rw [if_pos hs, if_pos hs]
    · rw [if_neg hs, if_neg hs]
      have ha2 := ha.resolve_left (fun z => hs (Or.inl z))
      obtain ⟨e1, e2, e3, e4⟩ := ovr_ok ha2
      rw [← e1]
      exact sUnder_st n (ovr a) e2 (by omega) m' (by omega)

theorem c_over7 {x : Int32} {I : I2} {J : J2} : CT mX7_over 1 58 58 [.int x] I J RF (RI RF (ovr x) I J) := by
  refine CT_of okX7_over (Nat.le_of_ble_eq_true rfl) ?_
  show V _ _ _ _ _ _ [(0, _)] _ _ _ _ _
  refine V_go 1 rfl ?_
  refine V_if_ne rfl (fun h1 => ?_) (fun h1 => ?_)
  · skip
    refine V_go 2 rfl ?_
    refine V_icmp_ne rfl (fun h2 => ?_) (fun h2 => ?_)
    · skip
      refine V_go 2 rfl ?_
      refine V_icmp_ne rfl (fun h3 => ?_) (fun h3 => ?_)
      · skip
        refine V_go 1 rfl ?_
        refine V_iret rfl rfl rfl ?_
        refine RI.mk ?_
        unfold ovr
        first
          | (rw [if_pos (by assumption)]; done)
          | (rw [if_neg (by assumption), if_pos (by assumption)]; done)
          | (rw [if_neg (by assumption), if_neg (by assumption), if_pos (by assumption)]; done)
          | (rw [if_neg (by assumption), if_neg (by assumption), if_neg (by assumption)]; done)
      · skip
        refine V_go 2 rfl ?_
        refine V_iret rfl rfl rfl ?_
        refine RI.mk ?_
        unfold ovr
        first
          | (rw [if_pos (by assumption)]; done)
          | (rw [if_neg (by assumption), if_pos (by assumption)]; done)
          | (rw [if_neg (by assumption), if_neg (by assumption), if_pos (by assumption)]; done)
          | (rw [if_neg (by assumption), if_neg (by assumption), if_neg (by assumption)]; done)
    · skip
      refine V_go 2 rfl ?_
      refine V_iret rfl rfl rfl ?_
      refine RI.mk ?_
      unfold ovr
      first
        | (rw [if_pos (by assumption)]; done)
        | (rw [if_neg (by assumption), if_pos (by assumption)]; done)
        | (rw [if_neg (by assumption), if_neg (by assumption), if_pos (by assumption)]; done)
        | (rw [if_neg (by assumption), if_neg (by assumption), if_neg (by assumption)]; done)
  · skip
    refine V_go 2 rfl ?_
    refine V_iret rfl rfl rfl ?_
    refine RI.mk ?_
    unfold ovr
    first
      | (rw [if_pos (by assumption)]; done)
      | (rw [if_neg (by assumption), if_pos (by assumption)]; done)
      | (rw [if_neg (by assumption), if_neg (by assumption), if_pos (by assumption)]; done)
      | (rw [if_neg (by assumption), if_neg (by assumption), if_neg (by assumption)]; done)
theorem c_taken7 {tc : Nat} {I : I2} {J : J2} {T : TV} {C : CC} (hM : MC tc I J T C) {x k : Int32} : CT mX7_taken 3 58 58 [.ref 38, .int x, .int k] I J RF (RI RF (sTaken C x k) I J) := by
  obtain ⟨hn1, hn8, hm1, hm6, hC3, hC4⟩ := hM.nm
  refine CT_of okX7_taken (Nat.le_of_ble_eq_true rfl) ?_
  show V _ _ _ _ _ _ [(0, _), (1, _), (2, _)] _ _ _ _ _
  refine V_go 4 rfl ?_
  refine cSI (mt' := mX7_in) rfl kX7_89 fX7_in rfl (Nat.le_of_ble_eq_true rfl) (Nat.le_of_ble_eq_true rfl) (Nat.le_refl _) (c_inI (lo := (0)) (hi := (5)) rfl (by decide +kernel) (by decide +kernel)) ?_
  refine V_if_ne rfl (fun h2 => ?_) (fun h2 => ?_)
  · skip
    have hk := b2i_n0.mp h2
    refine V_go 2 rfl ?_
    refine cVI (mt' := mX7_isOne) rfl kX7_98 fX7_isOne rfl rfl rfl (Nat.le_of_ble_eq_true rfl) (Nat.le_of_ble_eq_true rfl) (Nat.le_of_ble_eq_true rfl) (Nat.le_of_ble_eq_true rfl) (Nat.le_refl _) (c_isOne7 hM) ?_
    refine V_if_ne rfl (fun h22 => ?_) (fun h22 => ?_)
    · skip
      have hx := b2i_n0.mp h22
      obtain ⟨c, hc, hc8, e1, e2⟩ := hM.isC hx
      subst e1
      obtain ⟨v1, v2, v3⟩ := hM.ci hc
      have hT : sTaken C (i32 c) k = if sUnder 6 (C 1 c) k = k then C 2 c else -13 := by unfold sTaken; rw [if_pos hk, if_pos hx, e2]
      have hkk := (hM.2.1.2.2.2.2.2.1 c hc).1
      have key : ∀ n, Hid (∀ a : Int32, (a = -1 ∨ (0 ≤ a ∧ a ≤ 5)) → (wrk a ≤ n ∧ sUnder (n + 1) a k = sUnder 6 (C 1 c) k) → V mX7_taken none 3 58 (RI RF (sTaken C (i32 c) k) I J) 33 [(0, .ref 38), (1, .int (i32 c)), (2, .int k), (3, .int a)] [] 58 I J RF) := by
        intro n
        induction n with
        | zero =>
          unfold Hid
          intro a ha ⟨hw, hR⟩
          have hz : a = -1 := by
            rcases ha with z | z
            · exact z
            · obtain ⟨-, -, e3, -⟩ := ovr_ok z; omega
          refine V_go 2 rfl ?_
          refine V_icmp_eq rfl (fun h1 => ?_) (fun h1 => ?_)
          · skip
            have hu : sUnder 6 (C 1 c) k = a := by rw [← hR, sUnder, if_pos (Or.inl h1)]
            refine V_go 2 rfl ?_
            refine V_icmp_ne rfl (fun h51 => ?_) (fun h51 => ?_)
            · skip
              refine V_go 1 rfl ?_
              refine V_iret rfl rfl rfl ?_
              exact RI.mk (by rw [hT, hu, if_neg h51])
            · skip
              refine V_go 3 rfl ?_
              refine V_iald rfl rfl (Nat.le_of_ble_eq_true rfl) (inb_i32 (by omega) (by decide)) ?_
              refine V_go 1 rfl ?_
              refine V_iret rfl rfl rfl ?_
              exact RI.mk (by rw [hT, hu, if_pos h51, tn_of (by omega)]; exact v2)
          · skip
            exact absurd hz h1
        | succ n ih =>
          unfold Hid
          intro a ha ⟨hw, hR⟩
          refine V_go 2 rfl ?_
          refine V_icmp_eq rfl (fun h1 => ?_) (fun h1 => ?_)
          · skip
            have hu : sUnder 6 (C 1 c) k = a := by rw [← hR, sUnder, if_pos (Or.inl h1)]
            refine V_go 2 rfl ?_
            refine V_icmp_ne rfl (fun h51 => ?_) (fun h51 => ?_)
            · skip
              refine V_go 1 rfl ?_
              refine V_iret rfl rfl rfl ?_
              exact RI.mk (by rw [hT, hu, if_neg h51])
            · skip
              refine V_go 3 rfl ?_
              refine V_iald rfl rfl (Nat.le_of_ble_eq_true rfl) (inb_i32 (by omega) (by decide)) ?_
              refine V_go 1 rfl ?_
              refine V_iret rfl rfl rfl ?_
              exact RI.mk (by rw [hT, hu, if_pos h51, tn_of (by omega)]; exact v2)
          · skip
            have ha1 := ha.resolve_left h1
            have ha0 := h1
            refine V_go 2 rfl ?_
            refine V_icmp_eq rfl (fun h31 => ?_) (fun h31 => ?_)
            · skip
              have hu : sUnder 6 (C 1 c) k = a := by rw [← hR, sUnder, if_pos (Or.inr h31)]
              refine V_go 2 rfl ?_
              refine V_icmp_ne rfl (fun h51 => ?_) (fun h51 => ?_)
              · skip
                refine V_go 1 rfl ?_
                refine V_iret rfl rfl rfl ?_
                exact RI.mk (by rw [hT, hu, if_neg h51])
              · skip
                refine V_go 3 rfl ?_
                refine V_iald rfl rfl (Nat.le_of_ble_eq_true rfl) (inb_i32 (by omega) (by decide)) ?_
                refine V_go 1 rfl ?_
                refine V_iret rfl rfl rfl ?_
                exact RI.mk (by rw [hT, hu, if_pos h51, tn_of (by omega)]; exact v2)
            · skip
              obtain ⟨o1, o2, o3, o4⟩ := ovr_ok ha1
              have hnk := h31
              refine V_go 1 rfl ?_
              refine cSI (mt' := mX7_over) rfl kX7_388 fX7_over rfl (Nat.le_of_ble_eq_true rfl) (Nat.le_of_ble_eq_true rfl) (Nat.le_refl _) (c_over7) ?_
              refine V_go 2 rfl ?_
              exact ih.un (ovr a) o2 ⟨by omega, by rw [← hR, show sUnder (n + 1 + 1) a k = sUnder (n + 1) (sAbove a) k from if_neg (fun z => z.elim ha0 hnk), o1]⟩
      refine V_go 3 rfl ?_
      refine V_iald rfl rfl (Nat.le_of_ble_eq_true rfl) (inb_i32 (by omega) (by decide)) ?_
      refine V_go 1 rfl ?_
      rw [tn_of (by omega), v1]
      exact (key 3).un (C 1 c) (Or.inr hkk) ⟨(ovr_ok hkk).2.2.2, (sUnder_st 4 _ (Or.inr hkk) (by have := (ovr_ok hkk).2.2.2; omega) 6 (by omega)).symm⟩
    · skip
      refine V_go 1 rfl ?_
      refine V_iret rfl rfl rfl ?_
      exact RI.mk (by unfold sTaken; rw [if_pos hk, if_neg (b2i_eq0.mp h22)])
  · skip
    refine V_go 1 rfl ?_
    refine V_iret rfl rfl rfl ?_
    exact RI.mk (if_neg (b2i_eq0.mp h2)).symm
theorem c_feed7 {n : Nat} {x : Int32} {I : I2} {J : J2} (h6 : I 38 6 = i32 n) (hn : n ≤ 160) : CT mX7_feed 2 58 58 [.ref 38, .int x] I J RF (RP RF (fun r I1 J1 => J1 = J ∧ (((0 ≤ x ∧ x ≤ 255) ∧ ((n < 160 ∧ r = i32 (n + 1) ∧ I1 = up2 (up2 I 41 n x) 38 6 (i32 (n + 1))) ∨ (n = 160 ∧ r = -4 ∧ I1 = I))) ∨ (¬ (0 ≤ x ∧ x ≤ 255) ∧ r = -2 ∧ I1 = I)))) := by
  refine CT_of okX7_feed (Nat.le_of_ble_eq_true rfl) ?_
  show V _ _ _ _ _ _ [(0, _), (1, _)] _ _ _ _ _
  refine V_go 4 rfl ?_
  refine cSI (mt' := mX7_in) rfl kX7_89 fX7_in rfl (Nat.le_of_ble_eq_true rfl) (Nat.le_of_ble_eq_true rfl) (Nat.le_refl _) (c_inI (lo := (0)) (hi := (255)) rfl (by decide +kernel) (by decide +kernel)) ?_
  refine V_if_ne rfl (fun h2 => ?_) (fun h2 => ?_)
  · skip
    have hx := b2i_n0.mp h2
    refine V_go 3 rfl ?_
    refine V_icmp_ne rfl (fun h21 => ?_) (fun h21 => ?_)
    · skip
      have h9 : n < 160 := by
        have z : ¬ n = 160 := fun z => h21 (h6.trans (by rw [z]; rfl))
        omega
      refine V_go 5 rfl ?_
      try simp only [up2_rd, row2_rd, reduceIte, Nat.reduceEqDiff, h6, ← i32_s, tn_of (show n < 2147483648 by omega)]
      refine V_iast rfl rfl (Nat.le_of_ble_eq_true rfl) (inb_i32 (by omega) (by decide)) ?_
      refine V_go 8 rfl ?_
      try simp only [up2_rd, row2_rd, reduceIte, Nat.reduceEqDiff, h6, ← i32_s, tn_of (show n < 2147483648 by omega)]
      refine V_iret rfl rfl rfl ?_
      exact RP.mk ⟨rfl, Or.inl ⟨hx, Or.inl ⟨h9, rfl, rfl⟩⟩⟩
    · skip
      refine V_go 1 rfl ?_
      refine V_iret rfl rfl rfl ?_
      have h9 : n = 160 := (i32_inj (a := n) (b := 160) (by omega) (by omega)).mp (h6.symm.trans h21)
      exact RP.mk ⟨rfl, Or.inl ⟨hx, Or.inr ⟨h9, rfl, rfl⟩⟩⟩
  · skip
    refine V_go 1 rfl ?_
    refine V_iret rfl rfl rfl ?_
    exact RP.mk ⟨rfl, Or.inr ⟨b2i_eq0.mp h2, rfl, rfl⟩⟩
