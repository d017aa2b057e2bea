theorem CRd.s {mt : MT} {d op n : Nat} {f : PT → PR} {b : Nat → Int32} (h : CRd mt d f (op + 1) n b) : ∀ (t u : Nat) (I : I2) (J : J2) (s : PT), RS t u n I s → I 6 = b → u ≤ s.2.1 → CT mt d 58 58 [.ref 5, .int (i32 op + 1)] I J RF (RP RF (RdP t u n I J (f s))) := fun t u I J s h1 h2 h3 => by
  have z := h t u I J s h1 h2 h3
  rw [i32_s] at z
  exact z
theorem c_readComparison {d d9 op n : Nat} {b : Nat → Int32} {f : PT → PR} (hd : 8 ≤ d) (hd9 : d9 + 1 ≤ d) (hfg : pFn n f) (hf : CRd mX3_readSum d9 f op n b) : CRd mX3_readComparison d (fun s => pBin b n f cmpC 1 (f s)) op n b := by
  intro t u I J s hs hb hu
  show CT _ _ _ _ _ _ _ _ (RP RF (RdP t u n I J (pBin b n f cmpC 1 (f s))))
  refine CT_of okX3_readComparison (Nat.le_of_ble_eq_true rfl) ?_
  show V _ _ _ _ _ _ [(0, _), (1, _)] _ _ _ _ _
  refine V_go 2 rfl ?_
  refine cVP (mt' := mX3_readSum) rfl kX3_67 fX3_readSum rfl rfl rfl (Nat.le_of_ble_eq_true rfl) (Nat.le_of_ble_eq_true rfl) (by omega) (Nat.le_of_ble_eq_true rfl) (Nat.le_refl _) (hf _ _ _ _ _ hs hb hu) ?_
  intro r1 Ir1 Jr1 h1
  have hr := h1
  obtain rfl : J = Jr1 := hr.1.symm
  have hg := hfg s hs.2.1
  refine V_go 2 rfl ?_
  refine V_if_eq rfl (fun h2 => ?_) (fun h2 => ?_)
  · skip
    refine V_go 1 rfl ?_
    refine V_zret rfl rfl rfl (by rw [hr.2.1]; exact b2i_or _) ?_
    exact RP.mk (by rw [pBin_stop (fun z => absurd (b2i_1 z.1) (by rw [← hr.2.1, h2]; decide))]; exact hr)
  · skip
    refine V_go 3 rfl ?_
    refine V_icmp_eq rfl (fun h3 => ?_) (fun h3 => ?_)
    · skip
      have hr1 : (f s).1 = true := b2i_eq1.mp ((b2i_or _).resolve_left (by rw [← hr.2.1]; assumption))
      rw [hr.2.2.1.2.2.1] at h3
      have htk : (f s).2.1.1 = 60 := h3
      refine V_go 3 rfl ?_
      refine V_icmp_ne rfl (fun h41 => ?_) (fun h41 => ?_)
      · skip
        exact absurd (hr.2.2.1.2.2.1.trans htk) h41
      · skip
        have hc : cmpC (f s).2.1.1 = (-22) := if_pos htk
        have ht' : cmpC (f s).2.1.1 ≠ 0 := by rw [hc]; decide
        have ht0 : (f s).2.1.1 ≠ 0 := fun z => ht' (by rw [z]; rfl)
        have hg' : pGood n s.2.1 ((f (nxt b n (f s).2.1)).1, (f (nxt b n (f s).2.1)).2.1, (f s).2.2.1 ++ (f (nxt b n (f s).2.1)).2.2.1 ++ [cmpC (f s).2.1.1], fun e => vBoth (cmpC (f s).2.1.1) ((f s).2.2.2 e) ((f (nxt b n (f s).2.1)).2.2.2 e)) := by
          have z := pBin_good (b := b) hfg (oc := cmpC) rfl s.2.1 1 (f s) hg
          rw [pBin_go hr1 ht'] at z
          exact z
        have hR' : pBin b n f cmpC 0 ((f (nxt b n (f s).2.1)).1, (f (nxt b n (f s).2.1)).2.1, (f s).2.2.1 ++ (f (nxt b n (f s).2.1)).2.2.1 ++ [cmpC (f s).2.1.1], fun e => vBoth (cmpC (f s).2.1.1) ((f s).2.2.2 e) ((f (nxt b n (f s).2.1)).2.2.2 e)) = (pBin b n f cmpC 1 (f s)) := by
          rw [pBin_go hr1 ht']
        have hbud : (f (nxt b n (f s).2.1)).1 = true → u + ((f s).2.2.1 ++ (f (nxt b n (f s).2.1)).2.2.1).length < 160 := fun z => by
          have g := hg'.2.2 z
          have g2 := hg'.1.1
          have g3 := hr.2.2.1.2.1
          simp only [List.length_append, List.length_singleton] at g g2 ⊢
          omega
        refine V_go 4 rfl ?_
        refine cVW (mt' := mX3_passToken) rfl kX3_31 fX3_passToken rfl rfl rfl (Nat.le_of_ble_eq_true rfl) (Nat.le_of_ble_eq_true rfl) (by omega) (Nat.le_of_ble_eq_true rfl) (Nat.le_refl _) (c_passT hr.2.2.1 hg.1 (hr.b6 hb)) ?_
        intro Ir61 Jr61 h61
        obtain ⟨hJ1, hT2, q2⟩ := h61
        obtain rfl : J = Jr61 := hJ1.symm
        have hrs := hr.rs hs hr1 ht0 hg hu q2 hT2
        refine V_go 2 rfl ?_
        refine cVP (mt' := mX3_readSum) rfl kX3_67 fX3_readSum rfl rfl rfl (Nat.le_of_ble_eq_true rfl) (Nat.le_of_ble_eq_true rfl) (by omega) (Nat.le_of_ble_eq_true rfl) (Nat.le_refl _) (hf _ _ _ _ _ hrs.1 (by rw [q2.1 6 (by omega)]; exact hr.b6 hb) (by omega)) ?_
        intro r62 Ir62 Jr62 h62
        have hq3 := h62
        obtain rfl : J = Jr62 := hq3.1.symm
        refine V_go 4 rfl ?_
        refine cVW (mt' := mX5_put) rfl kX3_58 fX5_put rfl rfl rfl (Nat.le_of_ble_eq_true rfl) (Nat.le_of_ble_eq_true rfl) (by omega) (Nat.le_of_ble_eq_true rfl) (Nat.le_refl _) (c_putR (v := fun _ => 0) (hr.seq (v := fun _ => 0) hr1 q2 hq3) hs.2.2.1 hs.2.2.2.1 hbud) ?_
        intro Ir63 Jr63 h63
        have hq4 := h63
        obtain rfl : J = Jr63 := hq4.1.symm
        refine V_go 1 rfl ?_
        refine V_zret rfl rfl rfl (by rw [hq4.2.1]; exact b2i_or _) ?_
        refine RP.mk ?_
        rw [← hR']
        show RdP t u n I J ((f (nxt b n (f s).2.1)).1, (f (nxt b n (f s).2.1)).2.1, (f s).2.2.1 ++ (f (nxt b n (f s).2.1)).2.2.1 ++ [cmpC (f s).2.1.1], fun e => vBoth (cmpC (f s).2.1.1) ((f s).2.2.2 e) ((f (nxt b n (f s).2.1)).2.2.2 e)) _ _ _
        rw [hc]
        exact hq4
    · skip
      have hr1 : (f s).1 = true := b2i_eq1.mp ((b2i_or _).resolve_left (by rw [← hr.2.1]; assumption))
      rw [hr.2.2.1.2.2.1] at h3
      have hn60 : ¬ (f s).2.1.1 = 60 := h3
      refine V_go 3 rfl ?_
      refine V_icmp_eq rfl (fun h36 => ?_) (fun h36 => ?_)
      · skip
        rw [hr.2.2.1.2.2.1] at h36
        have htk : (f s).2.1.1 = 61 := h36
        refine V_go 3 rfl ?_
        refine V_icmp_ne rfl (fun h61 => ?_) (fun h61 => ?_)
        · skip
          have hc : cmpC (f s).2.1.1 = (-23) := by unfold cmpC; rw [if_neg (by rw [htk]; decide), if_pos htk]
          have ht' : cmpC (f s).2.1.1 ≠ 0 := by rw [hc]; decide
          have ht0 : (f s).2.1.1 ≠ 0 := fun z => ht' (by rw [z]; rfl)
          have hg' : pGood n s.2.1 ((f (nxt b n (f s).2.1)).1, (f (nxt b n (f s).2.1)).2.1, (f s).2.2.1 ++ (f (nxt b n (f s).2.1)).2.2.1 ++ [cmpC (f s).2.1.1], fun e => vBoth (cmpC (f s).2.1.1) ((f s).2.2.2 e) ((f (nxt b n (f s).2.1)).2.2.2 e)) := by
            have z := pBin_good (b := b) hfg (oc := cmpC) rfl s.2.1 1 (f s) hg
            rw [pBin_go hr1 ht'] at z
            exact z
          have hR' : pBin b n f cmpC 0 ((f (nxt b n (f s).2.1)).1, (f (nxt b n (f s).2.1)).2.1, (f s).2.2.1 ++ (f (nxt b n (f s).2.1)).2.2.1 ++ [cmpC (f s).2.1.1], fun e => vBoth (cmpC (f s).2.1.1) ((f s).2.2.2 e) ((f (nxt b n (f s).2.1)).2.2.2 e)) = (pBin b n f cmpC 1 (f s)) := by
            rw [pBin_go hr1 ht']
          have hbud : (f (nxt b n (f s).2.1)).1 = true → u + ((f s).2.2.1 ++ (f (nxt b n (f s).2.1)).2.2.1).length < 160 := fun z => by
            have g := hg'.2.2 z
            have g2 := hg'.1.1
            have g3 := hr.2.2.1.2.1
            simp only [List.length_append, List.length_singleton] at g g2 ⊢
            omega
          refine V_go 3 rfl ?_
          refine cVW (mt' := mX3_passToken) rfl kX3_31 fX3_passToken rfl rfl rfl (Nat.le_of_ble_eq_true rfl) (Nat.le_of_ble_eq_true rfl) (by omega) (Nat.le_of_ble_eq_true rfl) (Nat.le_refl _) (c_passT hr.2.2.1 hg.1 (hr.b6 hb)) ?_
          intro Ir81 Jr81 h81
          obtain ⟨hJ1, hT2, q2⟩ := h81
          obtain rfl : J = Jr81 := hJ1.symm
          have hrs := hr.rs hs hr1 ht0 hg hu q2 hT2
          refine V_go 2 rfl ?_
          refine cVP (mt' := mX3_readSum) rfl kX3_67 fX3_readSum rfl rfl rfl (Nat.le_of_ble_eq_true rfl) (Nat.le_of_ble_eq_true rfl) (by omega) (Nat.le_of_ble_eq_true rfl) (Nat.le_refl _) (hf _ _ _ _ _ hrs.1 (by rw [q2.1 6 (by omega)]; exact hr.b6 hb) (by omega)) ?_
          intro r82 Ir82 Jr82 h82
          have hq3 := h82
          obtain rfl : J = Jr82 := hq3.1.symm
          refine V_go 4 rfl ?_
          refine cVW (mt' := mX5_put) rfl kX3_58 fX5_put rfl rfl rfl (Nat.le_of_ble_eq_true rfl) (Nat.le_of_ble_eq_true rfl) (by omega) (Nat.le_of_ble_eq_true rfl) (Nat.le_refl _) (c_putR (v := fun _ => 0) (hr.seq (v := fun _ => 0) hr1 q2 hq3) hs.2.2.1 hs.2.2.2.1 hbud) ?_
          intro Ir83 Jr83 h83
          have hq4 := h83
          obtain rfl : J = Jr83 := hq4.1.symm
          refine V_go 1 rfl ?_
          refine V_zret rfl rfl rfl (by rw [hq4.2.1]; exact b2i_or _) ?_
          refine RP.mk ?_
          rw [← hR']
          show RdP t u n I J ((f (nxt b n (f s).2.1)).1, (f (nxt b n (f s).2.1)).2.1, (f s).2.2.1 ++ (f (nxt b n (f s).2.1)).2.2.1 ++ [cmpC (f s).2.1.1], fun e => vBoth (cmpC (f s).2.1.1) ((f s).2.2.2 e) ((f (nxt b n (f s).2.1)).2.2.2 e)) _ _ _
          rw [hc]
          exact hq4
        · skip
          exact absurd (hr.2.2.1.2.2.1.symm.trans h61) hn60
      · skip
        rw [hr.2.2.1.2.2.1] at h36
        refine V_go 1 rfl ?_
        refine V_zret rfl rfl rfl (by rw [hr.2.1]; exact b2i_or _) ?_
        exact RP.mk (by rw [pBin_stop (fun z => z.2 (by unfold cmpC; rw [if_neg hn60, if_neg h36]))]; exact hr)
theorem c_readNot {d d9 d8 op n : Nat} {b : Nat → Int32} {c' n' : PT → PR} (hd : 8 ≤ d) (hd9 : d9 + 1 ≤ d) (hd8 : op < 5 → d8 + 1 ≤ d) (hop : op ≤ 5) (hcg : pFn n c') (hng : pFn n n') (hc : CRd mX3_readComparison d9 c' op n b) (hn : op < 5 → CRd mX3_readNot d8 n' (op + 1) n b) : CRd mX3_readNot d (pNot b n (5 - op) c' n') op n b := by
  intro t u I J s hs hb hu
  refine CT_of okX3_readNot (Nat.le_of_ble_eq_true rfl) ?_
  show V _ _ _ _ _ _ [(0, _), (1, _)] _ _ _ _ _
  refine V_go 3 rfl ?_
  refine V_icmp_eq rfl (fun h1 => ?_) (fun h1 => ?_)
  · skip
    rw [hs.1.2.2.1] at h1
    have htk : s.1 = 267 := h1
    refine V_go 2 rfl ?_
    refine V_icmp_lt rfl (fun h31 => ?_) (fun h31 => ?_)
    · skip
      have h5 : op < 5 := (i32_lt (a := op) (b := 5) (by omega) (by omega)).mp h31
      have hE : pNot b n (5 - op) c' n' s = ((n' (nxt b n s)).1, (n' (nxt b n s)).2.1, (n' (nxt b n s)).2.2.1 ++ [-10], fun e => b2i ((n' (nxt b n s)).2.2.2 e = 0)) := by unfold pNot; rw [if_pos htk, if_neg (by omega)]
      have hgd := pNot_good (b := b) (k := 5 - op) hcg hng s hs.2.1
      rw [hE] at hgd
      refine V_go 1 rfl ?_
      refine cVW (mt' := mX3_passToken) rfl kX3_31 fX3_passToken rfl rfl rfl (Nat.le_of_ble_eq_true rfl) (Nat.le_of_ble_eq_true rfl) (by omega) (Nat.le_of_ble_eq_true rfl) (Nat.le_refl _) (c_passT hs.1 hs.2.1 hb) ?_
      intro Ir51 Jr51 h51
      obtain ⟨hJ1, hT2, q2⟩ := h51
      obtain rfl : J = Jr51 := hJ1.symm
      have hn2 := nxt_ok (b := b) hs.2.1
      have hs2 := hs.next q2 hT2 hn2.1
      have hb2 := (q2.1 6 (by omega)).trans hb
      have hu2 := Nat.le_trans hu hn2.2.1
      refine V_go 4 rfl ?_
      refine cVP (mt' := mX3_readNot) rfl kX3_61 fX3_readNot rfl rfl rfl (Nat.le_of_ble_eq_true rfl) (Nat.le_of_ble_eq_true rfl) (by omega) (Nat.le_of_ble_eq_true rfl) (Nat.le_refl _) ((hn h5).s _ _ _ _ _ hs2 hb2 hu2) ?_
      intro r52 Ir52 Jr52 h52
      have hq3 := h52
      obtain rfl : J = Jr52 := hq3.1.symm
      have hbud : (n' (nxt b n s)).1 = true → u + (n' (nxt b n s)).2.2.1.length < 160 := fun z => by
        have g := hgd.2.2 z
        have g2 := hgd.1.1
        have g3 := hs.1.2.1
        simp only [List.length_append, List.length_singleton] at g g2
        omega
      refine V_go 4 rfl ?_
      refine cVW (mt' := mX5_put) rfl kX3_58 fX5_put rfl rfl rfl (Nat.le_of_ble_eq_true rfl) (Nat.le_of_ble_eq_true rfl) (by omega) (Nat.le_of_ble_eq_true rfl) (Nat.le_refl _) (c_putR (v := fun _ => 0) (hq3.pre q2) hs.2.2.1 hs.2.2.2.1 hbud) ?_
      intro Ir53 Jr53 h53
      have hq4 := h53
      obtain rfl : J = Jr53 := hq4.1.symm
      refine V_go 1 rfl ?_
      refine V_zret rfl rfl rfl (by rw [hq4.2.1]; exact b2i_or _) ?_
      exact RP.mk (by rw [hE]; exact hq4)
    · skip
      have h5 : ¬ op < 5 := fun z => h31 ((i32_lt (a := op) (b := 5) (by omega) (by omega)).mpr z)
      have hE : pNot b n (5 - op) c' n' s = pNone s := by unfold pNot; rw [if_pos htk, if_pos (by omega)]
      refine V_go 1 rfl ?_
      refine V_zret rfl rfl rfl (Or.inl rfl) ?_
      exact RP.mk (by rw [hE]; exact RdP.none hs)
  · skip
    rw [hs.1.2.2.1] at h1
    have hE : pNot b n (5 - op) c' n' s = c' s := by unfold pNot; rw [if_neg h1]
    refine V_go 2 rfl ?_
    refine cVP (mt' := mX3_readComparison) rfl kX3_64 fX3_readComparison rfl rfl rfl (Nat.le_of_ble_eq_true rfl) (Nat.le_of_ble_eq_true rfl) (by omega) (Nat.le_of_ble_eq_true rfl) (Nat.le_refl _) (hc _ _ _ _ _ hs hb hu) ?_
    intro r21 Ir21 Jr21 h21
    have hq1 := h21
    obtain rfl : J = Jr21 := hq1.1.symm
    refine V_zret rfl rfl rfl (by rw [hq1.2.1]; exact b2i_or _) ?_
    exact RP.mk (by rw [hE]; exact hq1)
theorem c_passed {n : Nat} {s : PT} {b : Nat → Int32} {x : Int32} {I : I2} {J : J2} (hT : RT I n s) (hP : pOk n s) (hb : I 6 = b) : CT mX3_passed 8 58 58 [.ref 5, .int x] I J RF (RP RF (fun r I9 J9 => J9 = J ∧ ((s.1 = x ∧ r = 1 ∧ RT I9 n (nxt b n s) ∧ R5 I I9) ∨ (s.1 ≠ x ∧ r = 0 ∧ I9 = I)))) := by
  refine CT_of okX3_passed (Nat.le_of_ble_eq_true rfl) ?_
  show V _ _ _ _ _ _ [(0, _), (1, _)] _ _ _ _ _
  refine V_go 3 rfl ?_
  refine V_icmp_eq rfl (fun h1 => ?_) (fun h1 => ?_)
  · skip
    rw [hT.2.2.1] at h1
    have htk := h1
    refine V_go 1 rfl ?_
    refine cVW (mt' := mX3_passToken) rfl kX3_31 fX3_passToken rfl rfl rfl (Nat.le_of_ble_eq_true rfl) (Nat.le_of_ble_eq_true rfl) (Nat.le_of_ble_eq_true rfl) (Nat.le_of_ble_eq_true rfl) (Nat.le_refl _) (c_passT hT hP hb) ?_
    intro Ir11 Jr11 h11
    obtain ⟨hJ1, hT2, q2⟩ := h11
    refine V_go 1 rfl ?_
    refine V_zret rfl rfl rfl (by first | exact Or.inl rfl | exact Or.inr rfl | exact b2i_or _ | assumption) ?_
    exact RP.mk ⟨hJ1, Or.inl ⟨htk, rfl, hT2, q2⟩⟩
  · skip
    rw [hT.2.2.1] at h1
    refine V_go 1 rfl ?_
    refine V_zret rfl rfl rfl (Or.inl rfl) ?_
    exact RP.mk ⟨rfl, Or.inr ⟨h1, rfl, rfl⟩⟩
theorem c_readOne {d dO dE op n : Nat} {b : Nat → Int32} {o' e' : PT → PR} (hd : 9 ≤ d) (hdO : op < 5 → dO + 1 ≤ d) (hdE : op < 5 → dE + 1 ≤ d) (hop : op ≤ 5) (hog : pFn n o') (heg : pFn n e') (hor : op < 5 → CRd mX3_readOr dO o' (op + 1) n b) (hone : op < 5 → CRd mX3_readOne dE e' (op + 1) n b) : CRd mX3_readOne d (pOne b n (5 - op) o' e') op n b := by
  intro t u I J s hs hb hu
  refine CT_of okX3_readOne (Nat.le_of_ble_eq_true rfl) ?_
  show V _ _ _ _ _ _ [(0, _), (1, _)] _ _ _ _ _
  refine V_go 3 rfl ?_
  refine V_icmp_ne rfl (fun h1 => ?_) (fun h1 => ?_)
  · skip
    have h2 : ¬ s.1 = 2 := by rw [← hs.1.2.2.1]; exact h1
    refine V_go 3 rfl ?_
    refine V_icmp_lt rfl (fun h11 => ?_) (fun h11 => ?_)
    · skip
      have hnm : ¬ (256 ≤ s.1 ∧ s.1 < 262) := by rw [← hs.1.2.2.1]; exact fun z => absurd z.1 (Int32.not_le.mpr h11)
      refine V_go 2 rfl ?_
      refine V_icmp_lt rfl (fun h51 => ?_) (fun h51 => ?_)
      · skip
        have h5 : op < 5 := (i32_lt (a := op) (b := 5) (by omega) (by omega)).mp h51
        refine V_go 2 rfl ?_
        refine cVP (mt' := mX3_passed) rfl kX3_34 fX3_passed rfl rfl rfl (Nat.le_of_ble_eq_true rfl) (Nat.le_of_ble_eq_true rfl) (by omega) (Nat.le_of_ble_eq_true rfl) (Nat.le_refl _) (c_passed hs.1 hs.2.1 hb) ?_
        intro r61 Ir61 Jr61 h61
        obtain ⟨hJ1, hp⟩ := h61
        obtain rfl : J = Jr61 := hJ1.symm
        rcases hp with ⟨h40, hw, hT2, q2⟩ | ⟨h40, hw, hI⟩
        · subst hw
          refine V_if_eq rfl (fun z => absurd z (by decide)) (fun _ => ?_)
          have hn2 := nxt_ok (b := b) hs.2.1
          have hs2 := hs.next q2 hT2 hn2.1
          have hb2 := (q2.1 6 (by omega)).trans hb
          have hu2 := Nat.le_trans hu hn2.2.1
          refine V_go 4 rfl ?_
          refine cVP (mt' := mX3_readOr) rfl kX3_38 fX3_readOr rfl rfl rfl (Nat.le_of_ble_eq_true rfl) (Nat.le_of_ble_eq_true rfl) (by omega) (Nat.le_of_ble_eq_true rfl) (Nat.le_refl _) ((hor h5).s _ _ _ _ _ hs2 hb2 hu2) ?_
          intro r81 Ir81 Jr81 h81
          have hq3 := h81
          obtain rfl : J = Jr81 := hq3.1.symm
          have hgo := hog _ hs2.2.1
          refine V_if_eq rfl (fun h82 => ?_) (fun h82 => ?_)
          · skip
            have hE : pOne b n (5 - op) o' e' s = (false, (o' (nxt b n s)).2.1, [], fun _ => 0) := by unfold pOne; rw [if_neg h2, if_neg hnm, if_neg (by omega), if_pos h40, if_neg (fun z => absurd (b2i_1 z.1) (by rw [← hq3.2.1, h82]; decide))]
            refine V_go 1 rfl ?_
            refine V_zret rfl rfl rfl (by first | exact Or.inl rfl | exact Or.inr rfl) ?_
            refine RP.mk ?_
            rw [hE]
            exact (hq3.pre q2).fail
          · skip
            refine V_go 2 rfl ?_
            refine cVP (mt' := mX3_passed) rfl kX3_34 fX3_passed rfl rfl rfl (Nat.le_of_ble_eq_true rfl) (Nat.le_of_ble_eq_true rfl) (by omega) (Nat.le_of_ble_eq_true rfl) (Nat.le_refl _) (c_passed hq3.2.2.1 hgo.1 (hq3.b6 hb2)) ?_
            intro r83 Ir83 Jr83 h83
            obtain ⟨hJ1, hp⟩ := h83
            obtain rfl : J = Jr83 := hJ1.symm
            have ho1 : (o' (nxt b n s)).1 = true := b2i_eq1.mp ((b2i_or _).resolve_left (by rw [← hq3.2.1]; assumption))
            rcases hp with ⟨h41, hw, hT3, q3⟩ | ⟨h41, hw, hI⟩
            · subst hw
              have hE : pOne b n (5 - op) o' e' s = (true, nxt b n (o' (nxt b n s)).2.1, (o' (nxt b n s)).2.2) := by unfold pOne; rw [if_neg h2, if_neg hnm, if_neg (by omega), if_pos h40, if_pos ⟨ho1, h41⟩]
              refine V_if_eq rfl (fun z => absurd z (by decide)) (fun _ => ?_)
              refine V_go 2 rfl ?_
              refine V_zret rfl rfl rfl (by first | exact Or.inl rfl | exact Or.inr rfl) ?_
              refine RP.mk ?_
              rw [hE]
              exact (hq3.pre q2).post ho1 q3 hT3
            · subst hw
              subst hI
              have hE : pOne b n (5 - op) o' e' s = (false, (o' (nxt b n s)).2.1, [], fun _ => 0) := by unfold pOne; rw [if_neg h2, if_neg hnm, if_neg (by omega), if_pos h40, if_neg (fun z => h41 z.2)]
              refine V_if_eq rfl (fun _ => ?_) (fun z => absurd rfl z)
              refine V_go 1 rfl ?_
              refine V_zret rfl rfl rfl (by first | exact Or.inl rfl | exact Or.inr rfl) ?_
              refine RP.mk ?_
              rw [hE]
              exact (hq3.pre q2).fail
        · subst hw
          obtain rfl : I = Ir61 := hI.symm
          refine V_if_eq rfl (fun _ => ?_) (fun z => absurd rfl z)
          refine V_go 2 rfl ?_
          refine cVP (mt' := mX3_passed) rfl kX3_34 fX3_passed rfl rfl rfl (Nat.le_of_ble_eq_true rfl) (Nat.le_of_ble_eq_true rfl) (by omega) (Nat.le_of_ble_eq_true rfl) (Nat.le_refl _) (c_passed hs.1 hs.2.1 hb) ?_
          intro r91 Ir91 Jr91 h91
          obtain ⟨hJ1, hp⟩ := h91
          obtain rfl : J = Jr91 := hJ1.symm
          rcases hp with ⟨h45, hw, hT2, q2⟩ | ⟨h45, hw, hI⟩
          · subst hw
            have hE : pOne b n (5 - op) o' e' s = ((e' (nxt b n s)).1, (e' (nxt b n s)).2.1, (e' (nxt b n s)).2.2.1 ++ [-11], fun e => -((e' (nxt b n s)).2.2.2 e)) := by unfold pOne; rw [if_neg h2, if_neg hnm, if_neg (by omega), if_neg h40, if_pos h45]
            have hgd := pOne_good (b := b) (k := 5 - op) hog heg s hs.2.1
            rw [hE] at hgd
            refine V_if_eq rfl (fun z => absurd z (by decide)) (fun _ => ?_)
            have hn2 := nxt_ok (b := b) hs.2.1
            have hs2 := hs.next q2 hT2 hn2.1
            have hb2 := (q2.1 6 (by omega)).trans hb
            have hu2 := Nat.le_trans hu hn2.2.1
            refine V_go 4 rfl ?_
            refine cVP (mt' := mX3_readOne) rfl kX3_73 fX3_readOne rfl rfl rfl (Nat.le_of_ble_eq_true rfl) (Nat.le_of_ble_eq_true rfl) (by omega) (Nat.le_of_ble_eq_true rfl) (Nat.le_refl _) ((hone h5).s _ _ _ _ _ hs2 hb2 hu2) ?_
            intro r131 Ir131 Jr131 h131
            have hq3 := h131
            obtain rfl : J = Jr131 := hq3.1.symm
            refine V_if_eq rfl (fun h132 => ?_) (fun h132 => ?_)
            · skip
              refine V_go 1 rfl ?_
              have hq6 : RdP t u n I J (e' (nxt b n s)) 0 Ir131 J := by have z := hq3.pre q2; rw [h132] at z; exact z
              have hbud : (e' (nxt b n s)).1 = true → u + (e' (nxt b n s)).2.2.1.length < 160 := fun z => by
                have g := hgd.2.2 z
                have g2 := hgd.1.1
                have g3 := hs.1.2.1
                simp only [List.length_append, List.length_singleton] at g g2
                omega
              refine V_go 4 rfl ?_
              refine cVW (mt' := mX5_put) rfl kX3_58 fX5_put rfl rfl rfl (Nat.le_of_ble_eq_true rfl) (Nat.le_of_ble_eq_true rfl) (by omega) (Nat.le_of_ble_eq_true rfl) (Nat.le_refl _) (c_putR (v := fun _ => 0) (hq6) hs.2.2.1 hs.2.2.2.1 hbud) ?_
              intro Ir151 Jr151 h151
              have hq4 := h151
              obtain rfl : J = Jr151 := hq4.1.symm
              refine V_go 1 rfl ?_
              refine V_zret rfl rfl rfl (by first | exact Or.inl rfl | exact Or.inr rfl) ?_
              refine RP.mk ?_
              rw [hE]
              exact hq4
            · skip
              refine V_go 2 rfl ?_
              have hq6 : RdP t u n I J (e' (nxt b n s)) 1 Ir131 J := by
                have z := hq3.pre q2
                rcases (b2i_or ((e' (nxt b n s)).1 = true)) with y | y
                · exact absurd (z.2.1.trans y) h132
                · rw [z.2.1.trans y] at z; exact z
              have hbud : (e' (nxt b n s)).1 = true → u + (e' (nxt b n s)).2.2.1.length < 160 := fun z => by
                have g := hgd.2.2 z
                have g2 := hgd.1.1
                have g3 := hs.1.2.1
                simp only [List.length_append, List.length_singleton] at g g2
                omega
              refine V_go 4 rfl ?_
              refine cVW (mt' := mX5_put) rfl kX3_58 fX5_put rfl rfl rfl (Nat.le_of_ble_eq_true rfl) (Nat.le_of_ble_eq_true rfl) (by omega) (Nat.le_of_ble_eq_true rfl) (Nat.le_refl _) (c_putR (v := fun _ => 0) (hq6) hs.2.2.1 hs.2.2.2.1 hbud) ?_
              intro Ir171 Jr171 h171
              have hq4 := h171
              obtain rfl : J = Jr171 := hq4.1.symm
              refine V_go 1 rfl ?_
              refine V_zret rfl rfl rfl (by first | exact Or.inl rfl | exact Or.inr rfl) ?_
              refine RP.mk ?_
              rw [hE]
              exact hq4
          · subst hw
            obtain rfl : I = Ir91 := hI.symm
            have hE : pOne b n (5 - op) o' e' s = pNone s := by unfold pOne; rw [if_neg h2, if_neg hnm, if_neg (by omega), if_neg h40, if_neg h45]
            refine V_if_eq rfl (fun _ => ?_) (fun z => absurd rfl z)
            refine V_go 1 rfl ?_
            refine V_go 4 rfl ?_
            refine cVW (mt' := mX5_put) rfl kX3_58 fX5_put rfl rfl rfl (Nat.le_of_ble_eq_true rfl) (Nat.le_of_ble_eq_true rfl) (by omega) (Nat.le_of_ble_eq_true rfl) (Nat.le_refl _) (c_putR (v := fun _ => 0) (RdP.none (J := J) hs) hs.2.2.1 hs.2.2.2.1 (fun z => absurd (show false = true from z) Bool.false_ne_true)) ?_
            intro Ir111 Jr111 h111
            have hq4 := h111
            obtain rfl : J = Jr111 := hq4.1.symm
            refine V_go 1 rfl ?_
            refine V_zret rfl rfl rfl (by first | exact Or.inl rfl | exact Or.inr rfl) ?_
            refine RP.mk ?_
            rw [hE]
            exact hq4.fail
      · skip
        have h5 : ¬ op < 5 := fun z => h51 ((i32_lt (a := op) (b := 5) (by omega) (by omega)).mpr z)
        have hE : pOne b n (5 - op) o' e' s = pNone s := by unfold pOne; rw [if_neg h2, if_neg hnm, if_pos (by omega)]
        refine V_go 1 rfl ?_
        refine V_zret rfl rfl rfl (by first | exact Or.inl rfl | exact Or.inr rfl) ?_
        exact RP.mk (by rw [hE]; exact RdP.none hs)
    · skip
      refine V_go 3 rfl ?_
      refine V_icmp_ge rfl (fun h12 => ?_) (fun h12 => ?_)
      · skip
        have hnm : ¬ (256 ≤ s.1 ∧ s.1 < 262) := by rw [← hs.1.2.2.1]; exact fun z => absurd z.2 (Int32.not_lt.mpr h12)
        refine V_go 2 rfl ?_
        refine V_icmp_lt rfl (fun h51 => ?_) (fun h51 => ?_)
        · skip
          have h5 : op < 5 := (i32_lt (a := op) (b := 5) (by omega) (by omega)).mp h51
          refine V_go 2 rfl ?_
          refine cVP (mt' := mX3_passed) rfl kX3_34 fX3_passed rfl rfl rfl (Nat.le_of_ble_eq_true rfl) (Nat.le_of_ble_eq_true rfl) (by omega) (Nat.le_of_ble_eq_true rfl) (Nat.le_refl _) (c_passed hs.1 hs.2.1 hb) ?_
          intro r61 Ir61 Jr61 h61
          obtain ⟨hJ1, hp⟩ := h61
          obtain rfl : J = Jr61 := hJ1.symm
          rcases hp with ⟨h40, hw, hT2, q2⟩ | ⟨h40, hw, hI⟩
          · subst hw
            refine V_if_eq rfl (fun z => absurd z (by decide)) (fun _ => ?_)
            have hn2 := nxt_ok (b := b) hs.2.1
            have hs2 := hs.next q2 hT2 hn2.1
            have hb2 := (q2.1 6 (by omega)).trans hb
            have hu2 := Nat.le_trans hu hn2.2.1
            refine V_go 4 rfl ?_
            refine cVP (mt' := mX3_readOr) rfl kX3_38 fX3_readOr rfl rfl rfl (Nat.le_of_ble_eq_true rfl) (Nat.le_of_ble_eq_true rfl) (by omega) (Nat.le_of_ble_eq_true rfl) (Nat.le_refl _) ((hor h5).s _ _ _ _ _ hs2 hb2 hu2) ?_
            intro r81 Ir81 Jr81 h81
            have hq3 := h81
            obtain rfl : J = Jr81 := hq3.1.symm
            have hgo := hog _ hs2.2.1
            refine V_if_eq rfl (fun h82 => ?_) (fun h82 => ?_)
            · skip
              have hE : pOne b n (5 - op) o' e' s = (false, (o' (nxt b n s)).2.1, [], fun _ => 0) := by unfold pOne; rw [if_neg h2, if_neg hnm, if_neg (by omega), if_pos h40, if_neg (fun z => absurd (b2i_1 z.1) (by rw [← hq3.2.1, h82]; decide))]
              refine V_go 1 rfl ?_
              refine V_zret rfl rfl rfl (by first | exact Or.inl rfl | exact Or.inr rfl) ?_
              refine RP.mk ?_
              rw [hE]
              exact (hq3.pre q2).fail
            · skip
              refine V_go 2 rfl ?_
              refine cVP (mt' := mX3_passed) rfl kX3_34 fX3_passed rfl rfl rfl (Nat.le_of_ble_eq_true rfl) (Nat.le_of_ble_eq_true rfl) (by omega) (Nat.le_of_ble_eq_true rfl) (Nat.le_refl _) (c_passed hq3.2.2.1 hgo.1 (hq3.b6 hb2)) ?_
              intro r83 Ir83 Jr83 h83
              obtain ⟨hJ1, hp⟩ := h83
              obtain rfl : J = Jr83 := hJ1.symm
              have ho1 : (o' (nxt b n s)).1 = true := b2i_eq1.mp ((b2i_or _).resolve_left (by rw [← hq3.2.1]; assumption))
              rcases hp with ⟨h41, hw, hT3, q3⟩ | ⟨h41, hw, hI⟩
              · subst hw
                have hE : pOne b n (5 - op) o' e' s = (true, nxt b n (o' (nxt b n s)).2.1, (o' (nxt b n s)).2.2) := by unfold pOne; rw [if_neg h2, if_neg hnm, if_neg (by omega), if_pos h40, if_pos ⟨ho1, h41⟩]
                refine V_if_eq rfl (fun z => absurd z (by decide)) (fun _ => ?_)
                refine V_go 2 rfl ?_
                refine V_zret rfl rfl rfl (by first | exact Or.inl rfl | exact Or.inr rfl) ?_
                refine RP.mk ?_
                rw [hE]
                exact (hq3.pre q2).post ho1 q3 hT3
              · subst hw
                subst hI
                have hE : pOne b n (5 - op) o' e' s = (false, (o' (nxt b n s)).2.1, [], fun _ => 0) := by unfold pOne; rw [if_neg h2, if_neg hnm, if_neg (by omega), if_pos h40, if_neg (fun z => h41 z.2)]
                refine V_if_eq rfl (fun _ => ?_) (fun z => absurd rfl z)
                refine V_go 1 rfl ?_
                refine V_zret rfl rfl rfl (by first | exact Or.inl rfl | exact Or.inr rfl) ?_
                refine RP.mk ?_
                rw [hE]
                exact (hq3.pre q2).fail
          · subst hw
            obtain rfl : I = Ir61 := hI.symm
            refine V_if_eq rfl (fun _ => ?_) (fun z => absurd rfl z)
            refine V_go 2 rfl ?_
            refine cVP (mt' := mX3_passed) rfl kX3_34 fX3_passed rfl rfl rfl (Nat.le_of_ble_eq_true rfl) (Nat.le_of_ble_eq_true rfl) (by omega) (Nat.le_of_ble_eq_true rfl) (Nat.le_refl _) (c_passed hs.1 hs.2.1 hb) ?_
            intro r91 Ir91 Jr91 h91
            obtain ⟨hJ1, hp⟩ := h91
            obtain rfl : J = Jr91 := hJ1.symm
            rcases hp with ⟨h45, hw, hT2, q2⟩ | ⟨h45, hw, hI⟩
            · subst hw
              have hE : pOne b n (5 - op) o' e' s = ((e' (nxt b n s)).1, (e' (nxt b n s)).2.1, (e' (nxt b n s)).2.2.1 ++ [-11], fun e => -((e' (nxt b n s)).2.2.2 e)) := by unfold pOne; rw [if_neg h2, if_neg hnm, if_neg (by omega), if_neg h40, if_pos h45]
              have hgd := pOne_good (b := b) (k := 5 - op) hog heg s hs.2.1
              rw [hE] at hgd
              refine V_if_eq rfl (fun z => absurd z (by decide)) (fun _ => ?_)
              have hn2 := nxt_ok (b := b) hs.2.1
              have hs2 := hs.next q2 hT2 hn2.1
              have hb2 := (q2.1 6 (by omega)).trans hb
              have hu2 := Nat.le_trans hu hn2.2.1
              refine V_go 4 rfl ?_
              refine cVP (mt' := mX3_readOne) rfl kX3_73 fX3_readOne rfl rfl rfl (Nat.le_of_ble_eq_true rfl) (Nat.le_of_ble_eq_true rfl) (by omega) (Nat.le_of_ble_eq_true rfl) (Nat.le_refl _) ((hone h5).s _ _ _ _ _ hs2 hb2 hu2) ?_
              intro r131 Ir131 Jr131 h131
              have hq3 := h131
              obtain rfl : J = Jr131 := hq3.1.symm
              refine V_if_eq rfl (fun h132 => ?_) (fun h132 => ?_)
              · skip
                refine V_go 1 rfl ?_
                have hq6 : RdP t u n I J (e' (nxt b n s)) 0 Ir131 J := by have z := hq3.pre q2; rw [h132] at z; exact z
                have hbud : (e' (nxt b n s)).1 = true → u + (e' (nxt b n s)).2.2.1.length < 160 := fun z => by
                  have g := hgd.2.2 z
                  have g2 := hgd.1.1
                  have g3 := hs.1.2.1
                  simp only [List.length_append, List.length_singleton] at g g2
                  omega
                refine V_go 4 rfl ?_
                refine cVW (mt' := mX5_put) rfl kX3_58 fX5_put rfl rfl rfl (Nat.le_of_ble_eq_true rfl) (Nat.le_of_ble_eq_true rfl) (by omega) (Nat.le_of_ble_eq_true rfl) (Nat.le_refl _) (c_putR (v := fun _ => 0) (hq6) hs.2.2.1 hs.2.2.2.1 hbud) ?_
                intro Ir151 Jr151 h151
                have hq4 := h151
                obtain rfl : J = Jr151 := hq4.1.symm
                refine V_go 1 rfl ?_
                refine V_zret rfl rfl rfl (by first | exact Or.inl rfl | exact Or.inr rfl) ?_
                refine RP.mk ?_
                rw [hE]
                exact hq4
              · skip
                refine V_go 2 rfl ?_
                have hq6 : RdP t u n I J (e' (nxt b n s)) 1 Ir131 J := by
                  have z := hq3.pre q2
                  rcases (b2i_or ((e' (nxt b n s)).1 = true)) with y | y
                  · exact absurd (z.2.1.trans y) h132
                  · rw [z.2.1.trans y] at z; exact z
                have hbud : (e' (nxt b n s)).1 = true → u + (e' (nxt b n s)).2.2.1.length < 160 := fun z => by
                  have g := hgd.2.2 z
                  have g2 := hgd.1.1
                  have g3 := hs.1.2.1
                  simp only [List.length_append, List.length_singleton] at g g2
                  omega
                refine V_go 4 rfl ?_
                refine cVW (mt' := mX5_put) rfl kX3_58 fX5_put rfl rfl rfl (Nat.le_of_ble_eq_true rfl) (Nat.le_of_ble_eq_true rfl) (by omega) (Nat.le_of_ble_eq_true rfl) (Nat.le_refl _) (c_putR (v := fun _ => 0) (hq6) hs.2.2.1 hs.2.2.2.1 hbud) ?_
                intro Ir171 Jr171 h171
                have hq4 := h171
                obtain rfl : J = Jr171 := hq4.1.symm
                refine V_go 1 rfl ?_
                refine V_zret rfl rfl rfl (by first | exact Or.inl rfl | exact Or.inr rfl) ?_
                refine RP.mk ?_
                rw [hE]
                exact hq4
            · subst hw
              obtain rfl : I = Ir91 := hI.symm
              have hE : pOne b n (5 - op) o' e' s = pNone s := by unfold pOne; rw [if_neg h2, if_neg hnm, if_neg (by omega), if_neg h40, if_neg h45]
              refine V_if_eq rfl (fun _ => ?_) (fun z => absurd rfl z)
              refine V_go 1 rfl ?_
              refine V_go 4 rfl ?_
              refine cVW (mt' := mX5_put) rfl kX3_58 fX5_put rfl rfl rfl (Nat.le_of_ble_eq_true rfl) (Nat.le_of_ble_eq_true rfl) (by omega) (Nat.le_of_ble_eq_true rfl) (Nat.le_refl _) (c_putR (v := fun _ => 0) (RdP.none (J := J) hs) hs.2.2.1 hs.2.2.2.1 (fun z => absurd (show false = true from z) Bool.false_ne_true)) ?_
              intro Ir111 Jr111 h111
              have hq4 := h111
              obtain rfl : J = Jr111 := hq4.1.symm
              refine V_go 1 rfl ?_
              refine V_zret rfl rfl rfl (by first | exact Or.inl rfl | exact Or.inr rfl) ?_
              refine RP.mk ?_
              rw [hE]
              exact hq4.fail
        · skip
          have h5 : ¬ op < 5 := fun z => h51 ((i32_lt (a := op) (b := 5) (by omega) (by omega)).mpr z)
          have hE : pOne b n (5 - op) o' e' s = pNone s := by unfold pOne; rw [if_neg h2, if_neg hnm, if_pos (by omega)]
          refine V_go 1 rfl ?_
          refine V_zret rfl rfl rfl (by first | exact Or.inl rfl | exact Or.inr rfl) ?_
          exact RP.mk (by rw [hE]; exact RdP.none hs)
      · skip
        have hnm : 256 ≤ s.1 ∧ s.1 < 262 := by rw [← hs.1.2.2.1]; exact ⟨Int32.not_lt.mp (by assumption), Int32.not_le.mp h12⟩
        have hE : pOne b n (5 - op) o' e' s = (true, (nxt b n s), [-1 - (s.1 - 256)], fun e => e (s.1 - 256).toNatClampNeg) := by unfold pOne; rw [if_neg h2, if_pos hnm]
        have h0s : s.1 ≠ 0 := fun z => absurd hnm.1 (by rw [z]; decide)
        have h0 := h0s
        have hr0 : RdP t u n I J (true, s, [], fun _ => 0) 1 I J := ⟨rfl, (b2i_1 rfl).symm, hs.1, RFr.rf, u, Nat.le_refl _, hs.2.2.2.2.2, hs.2.2.2.2.1, fun _ => ⟨rfl, fun j hj => absurd hj (Nat.not_lt_zero _)⟩⟩
        have hbud : (true, s, ([] : List Int32), fun (_ : Nat → Int32) => (0 : Int32)).1 = true → u + (true, s, ([] : List Int32), fun (_ : Nat → Int32) => (0 : Int32)).2.2.1.length < 160 := fun _ => by
          have g1 := hs.2.1.2.2.2 h0
          have g2 := hs.2.1.2.1
          have g3 := hs.1.2.1
          show u + 0 < 160
          omega
        refine V_go 6 rfl ?_
        refine cSI (mt' := mX5_cellOfName) rfl kX3_79 fX5_cellOfName rfl (by omega) (Nat.le_of_ble_eq_true rfl) (Nat.le_refl _) (c_cellOfName) ?_
        refine cVW (mt' := mX5_put) rfl kX3_58 fX5_put rfl rfl rfl (Nat.le_of_ble_eq_true rfl) (Nat.le_of_ble_eq_true rfl) (by omega) (Nat.le_of_ble_eq_true rfl) (Nat.le_refl _) (c_putR (v := fun _ => 0) hr0 hs.2.2.1 hs.2.2.2.1 hbud) ?_
        intro Ir42 Jr42 h42
        have hq4 := h42
        obtain rfl : J = Jr42 := hq4.1.symm
        refine V_go 1 rfl ?_
        refine cVW (mt' := mX3_passToken) rfl kX3_31 fX3_passToken rfl rfl rfl (Nat.le_of_ble_eq_true rfl) (Nat.le_of_ble_eq_true rfl) (by omega) (Nat.le_of_ble_eq_true rfl) (Nat.le_refl _) (c_passT hq4.2.2.1 hs.2.1 (hq4.b6 hb)) ?_
        intro Ir43 Jr43 h43
        obtain ⟨hJ1, hT2, q2⟩ := h43
        obtain rfl : J = Jr43 := hJ1.symm
        have hq5 := hq4.post (v := fun _ => 0) rfl q2 hT2
        refine V_go 1 rfl ?_
        refine V_zret rfl rfl rfl (by first | exact Or.inl rfl | exact Or.inr rfl) ?_
        refine RP.mk ?_
        rw [hE]
        rw [hs.1.2.2.1] at hq5
        exact hq5
  · skip
    have h2 : s.1 = 2 := by rw [← hs.1.2.2.1]; exact h1
    have hE : pOne b n (5 - op) o' e' s = (true, (nxt b n s), [s.2.2.2], fun _ => s.2.2.2) := by unfold pOne; rw [if_pos h2]
    have h0s : s.1 ≠ 0 := by rw [h2]; decide
    have h0 := h0s
    have hr0 : RdP t u n I J (true, s, [], fun _ => 0) 1 I J := ⟨rfl, (b2i_1 rfl).symm, hs.1, RFr.rf, u, Nat.le_refl _, hs.2.2.2.2.2, hs.2.2.2.2.1, fun _ => ⟨rfl, fun j hj => absurd hj (Nat.not_lt_zero _)⟩⟩
    have hbud : (true, s, ([] : List Int32), fun (_ : Nat → Int32) => (0 : Int32)).1 = true → u + (true, s, ([] : List Int32), fun (_ : Nat → Int32) => (0 : Int32)).2.2.1.length < 160 := fun _ => by
      have g1 := hs.2.1.2.2.2 h0
      have g2 := hs.2.1.2.1
      have g3 := hs.1.2.1
      show u + 0 < 160
      omega
    refine V_go 4 rfl ?_
    refine cVW (mt' := mX5_put) rfl kX3_58 fX5_put rfl rfl rfl (Nat.le_of_ble_eq_true rfl) (Nat.le_of_ble_eq_true rfl) (by omega) (Nat.le_of_ble_eq_true rfl) (Nat.le_refl _) (c_putR (v := fun _ => 0) hr0 hs.2.2.1 hs.2.2.2.1 hbud) ?_
    intro Ir21 Jr21 h21
    have hq4 := h21
    obtain rfl : J = Jr21 := hq4.1.symm
    refine V_go 1 rfl ?_
    refine cVW (mt' := mX3_passToken) rfl kX3_31 fX3_passToken rfl rfl rfl (Nat.le_of_ble_eq_true rfl) (Nat.le_of_ble_eq_true rfl) (by omega) (Nat.le_of_ble_eq_true rfl) (Nat.le_refl _) (c_passT hq4.2.2.1 hs.2.1 (hq4.b6 hb)) ?_
    intro Ir22 Jr22 h22
    obtain ⟨hJ1, hT2, q2⟩ := h22
    obtain rfl : J = Jr22 := hJ1.symm
    have hq5 := hq4.post (v := fun _ => 0) rfl q2 hT2
    refine V_go 1 rfl ?_
    refine V_zret rfl rfl rfl (by first | exact Or.inl rfl | exact Or.inr rfl) ?_
    refine RP.mk ?_
    rw [hE]
    rw [hs.1.2.2.2.2.2 h2] at hq5
    exact hq5
