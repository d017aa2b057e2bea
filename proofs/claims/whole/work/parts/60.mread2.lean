theorem c_not7 {d d9 d8 op t n : Nat} {b : Nat → Int32} {f n' : PT → PR} (hd : 4 ≤ d) (hd9 : d9 + 1 ≤ d) (hd8 : op < 5 → d8 + 1 ≤ d) (hop : op ≤ 5) (hfg : pFn n f) (hf : CMd mX7_added d9 f op t n b) (hn : op < 5 → CMd mX7_not d8 n' (op + 1) t n b) : CMd mX7_not d (pNot b n (5 - op) (fun s => pBin b n f cmpC 1 (f s)) n') op t n b := by
  intro I J s hs
  refine CT_of okX7_not (Nat.le_of_ble_eq_true rfl) ?_
  show V _ _ _ _ _ _ [(0, _)] _ _ _ _ _
  refine V_go 9 rfl ?_
  refine cVI (mt' := mX7_isWord) rfl kX7_203 fX7_isWord rfl rfl rfl (Nat.le_of_ble_eq_true rfl) (Nat.le_of_ble_eq_true rfl) (by omega) (Nat.le_of_ble_eq_true rfl) (Nat.le_refl _) (c_isWord (k := 11) (s := s) (by omega) hs.1 hs.2.2.2.1 (fun _ => hs.2.2.1)) ?_
  refine V_if_eq rfl (fun h2 => ?_) (fun h2 => ?_)
  · skip
    have hnw : ¬ s.1 = 267 := fun z => (b2i_eq0.mp h2) ⟨hs.2.1, z⟩
    refine V_go 1 rfl ?_
    refine cVP (mt' := mX7_added) rfl kX7_249 fX7_added rfl rfl rfl (Nat.le_of_ble_eq_true rfl) (Nat.le_of_ble_eq_true rfl) (by omega) (Nat.le_of_ble_eq_true rfl) (Nat.le_refl _) (hf _ _ _ hs) ?_
    intro r21 Ir21 Jr21 h21
    obtain ⟨r, hrE⟩ : ∃ r, r = f s := ⟨_, rfl⟩
    have hr := h21
    rw [← hrE] at hr
    have hg := hfg s hs.2.2.2.1
    rw [← hrE] at hg
    have hE : pNot b n (5 - op) (fun s => pBin b n f cmpC 1 (f s)) n' s = (pBin b n f cmpC 1 r) := by
      unfold pNot
      rw [if_neg hnw]
      show pBin b n f cmpC 1 (f s) = _
      rw [← hrE]
    obtain ⟨v, hv⟩ : ∃ v, v = r21 := ⟨_, rfl⟩
    rw [← hv] at hr ⊢
    refine V_go 3 rfl ?_
    refine cVI (mt' := mX7_isSign) rfl kX7_225 fX7_isSign rfl rfl rfl (Nat.le_of_ble_eq_true rfl) (Nat.le_of_ble_eq_true rfl) (by omega) (Nat.le_of_ble_eq_true rfl) (Nat.le_refl _) (c_isSign7 (s := r.2.1) (b := b) (n := n) (c := 60) rfl hr.t0) ?_
    refine V_if_ne rfl (fun h23 => ?_) (fun h23 => ?_)
    · skip
      have hsg := b2i_eq1.mp ((b2i_or _).resolve_left h23)
      have hr1 : r.1 = true := hr.good hsg.1
      have hne2 : r.2.1.1 ≠ 1 := fun z => absurd (hsg.2.symm.trans z) (by decide)
      have hc : cmpC r.2.1.1 = -22 := if_pos hsg.2
      have ht' : cmpC r.2.1.1 ≠ 0 := by rw [hc]; decide
      have ht0 : r.2.1.1 ≠ 0 := fun z => ht' (by rw [z]; rfl)
      have hg' : pGood n s.2.1 ((f (nxt b n r.2.1)).1, (f (nxt b n r.2.1)).2.1, r.2.2.1 ++ (f (nxt b n r.2.1)).2.2.1 ++ [cmpC r.2.1.1], fun e => vBoth (cmpC r.2.1.1) (r.2.2.2 e) ((f (nxt b n r.2.1)).2.2.2 e)) := by
        have z := pBin_good (b := b) hfg (oc := cmpC) rfl s.2.1 1 r hg
        rw [pBin_go hr1 ht'] at z
        exact z
      have hR' : pBin b n f cmpC 0 ((f (nxt b n r.2.1)).1, (f (nxt b n r.2.1)).2.1, r.2.2.1 ++ (f (nxt b n r.2.1)).2.2.1 ++ [cmpC r.2.1.1], fun e => vBoth (cmpC r.2.1.1) (r.2.2.2 e) ((f (nxt b n r.2.1)).2.2.2 e)) = (pBin b n f cmpC 1 r) := by rw [pBin_go hr1 ht']
      have hR' : (pBin b n f cmpC 1 r) = ((f (nxt b n r.2.1)).1, (f (nxt b n r.2.1)).2.1, r.2.2.1 ++ (f (nxt b n r.2.1)).2.2.1 ++ [cmpC r.2.1.1], fun e => vBoth (cmpC r.2.1.1) (r.2.2.2 e) ((f (nxt b n r.2.1)).2.2.2 e)) := hR'.symm
      have hwr : Jr21 38 26 = 60 := ((hr.2.1 hr1).2.1.sgn (by rw [hsg.2]; decide)).trans (by rw [hsg.2]; decide +kernel)
      refine V_go 4 rfl ?_
      refine V_if_ne rfl (fun h31 => ?_) (fun h31 => ?_)
      · skip
        exact absurd ((lgc_eq _ _).mpr hwr) h31
      · skip
        refine V_go 2 rfl ?_
        refine V_go 2 rfl ?_
        refine cVW (mt' := mX7_next) rfl kX7_200 fX7_next rfl rfl rfl (Nat.le_of_ble_eq_true rfl) (Nat.le_of_ble_eq_true rfl) (by omega) (Nat.le_of_ble_eq_true rfl) (Nat.le_refl _) (c_nextT (hs.1.mfr hr.1) (hr.2.1 hr1).2.1 hne2 hg.1) ?_
        intro Ir41 Jr41 h41
        obtain ⟨hT2, hN⟩ := h41
        have hs3 := hs.next hr hr1 hg.1 hN hT2
        refine V_go 1 rfl ?_
        refine cVP (mt' := mX7_added) rfl kX7_249 fX7_added rfl rfl rfl (Nat.le_of_ble_eq_true rfl) (Nat.le_of_ble_eq_true rfl) (by omega) (Nat.le_of_ble_eq_true rfl) (Nat.le_refl _) (hf _ _ _ hs3) ?_
        intro r42 Ir42 Jr42 h42
        have hq3 := h42
        have hq4 : ∀ x : Int32, x = b2i (v < r42) → MRd b n op I J ((f (nxt b n r.2.1)).1, (f (nxt b n r.2.1)).2.1, r.2.2.1 ++ (f (nxt b n r.2.1)).2.2.1 ++ [cmpC r.2.1.1], fun e => vBoth (cmpC r.2.1.1) (r.2.2.2 e) ((f (nxt b n r.2.1)).2.2.2 e)) x Ir42 Jr42 := fun x hx => hr.seq hN hq3 (fun _ z => by
          show x = vBoth (cmpC r.2.1.1) (r.2.2.2 (mEnv I)) ((f (nxt b n r.2.1)).2.2.2 (mEnv I))
          rw [hc, hx, vB_l, z, (hr.2.1 hr1).2.2.2])
        refine V_go 2 rfl ?_
        refine V_if_eq rfl (fun h43 => ?_) (fun h43 => ?_)
        · skip
          exact absurd h43 (by decide)
        · skip
          refine V_go 2 rfl ?_
          refine V_icmp_ge rfl (fun h44 => ?_) (fun h44 => ?_)
          · skip
            refine V_go 1 rfl ?_
            refine V_iret rfl rfl rfl ?_
            refine RP.mk ?_
            rw [hE, hR']
            exact hq4 _ (b2i_0 (Int32.not_lt.mpr h44)).symm
          · skip
            refine V_go 3 rfl ?_
            refine V_iret rfl rfl rfl ?_
            refine RP.mk ?_
            rw [hE, hR']
            exact hq4 _ (b2i_1 (Int32.not_le.mp h44)).symm
    · skip
      have h60 := h23
      refine V_go 2 rfl ?_
      refine cVI (mt' := mX7_isSign) rfl kX7_225 fX7_isSign rfl rfl rfl (Nat.le_of_ble_eq_true rfl) (Nat.le_of_ble_eq_true rfl) (by omega) (Nat.le_of_ble_eq_true rfl) (Nat.le_refl _) (c_isSign7 (s := r.2.1) (b := b) (n := n) (c := 61) rfl hr.t0) ?_
      refine V_if_ne rfl (fun h62 => ?_) (fun h62 => ?_)
      · skip
        have hsg := b2i_eq1.mp ((b2i_or _).resolve_left h62)
        have hr1 : r.1 = true := hr.good hsg.1
        have hne2 : r.2.1.1 ≠ 1 := fun z => absurd (hsg.2.symm.trans z) (by decide)
        have hc : cmpC r.2.1.1 = -23 := by unfold cmpC; rw [if_neg (by rw [hsg.2]; decide), if_pos hsg.2]
        have ht' : cmpC r.2.1.1 ≠ 0 := by rw [hc]; decide
        have ht0 : r.2.1.1 ≠ 0 := fun z => ht' (by rw [z]; rfl)
        have hg' : pGood n s.2.1 ((f (nxt b n r.2.1)).1, (f (nxt b n r.2.1)).2.1, r.2.2.1 ++ (f (nxt b n r.2.1)).2.2.1 ++ [cmpC r.2.1.1], fun e => vBoth (cmpC r.2.1.1) (r.2.2.2 e) ((f (nxt b n r.2.1)).2.2.2 e)) := by
          have z := pBin_good (b := b) hfg (oc := cmpC) rfl s.2.1 1 r hg
          rw [pBin_go hr1 ht'] at z
          exact z
        have hR' : pBin b n f cmpC 0 ((f (nxt b n r.2.1)).1, (f (nxt b n r.2.1)).2.1, r.2.2.1 ++ (f (nxt b n r.2.1)).2.2.1 ++ [cmpC r.2.1.1], fun e => vBoth (cmpC r.2.1.1) (r.2.2.2 e) ((f (nxt b n r.2.1)).2.2.2 e)) = (pBin b n f cmpC 1 r) := by rw [pBin_go hr1 ht']
        have hR' : (pBin b n f cmpC 1 r) = ((f (nxt b n r.2.1)).1, (f (nxt b n r.2.1)).2.1, r.2.2.1 ++ (f (nxt b n r.2.1)).2.2.1 ++ [cmpC r.2.1.1], fun e => vBoth (cmpC r.2.1.1) (r.2.2.2 e) ((f (nxt b n r.2.1)).2.2.2 e)) := hR'.symm
        have hwr : Jr21 38 26 = 61 := ((hr.2.1 hr1).2.1.sgn (by rw [hsg.2]; decide)).trans (by rw [hsg.2]; decide +kernel)
        refine V_go 4 rfl ?_
        refine V_if_ne rfl (fun h81 => ?_) (fun h81 => ?_)
        · skip
          refine V_go 1 rfl ?_
          refine V_go 2 rfl ?_
          refine cVW (mt' := mX7_next) rfl kX7_200 fX7_next rfl rfl rfl (Nat.le_of_ble_eq_true rfl) (Nat.le_of_ble_eq_true rfl) (by omega) (Nat.le_of_ble_eq_true rfl) (Nat.le_refl _) (c_nextT (hs.1.mfr hr.1) (hr.2.1 hr1).2.1 hne2 hg.1) ?_
          intro Ir91 Jr91 h91
          obtain ⟨hT2, hN⟩ := h91
          have hs3 := hs.next hr hr1 hg.1 hN hT2
          refine V_go 1 rfl ?_
          refine cVP (mt' := mX7_added) rfl kX7_249 fX7_added rfl rfl rfl (Nat.le_of_ble_eq_true rfl) (Nat.le_of_ble_eq_true rfl) (by omega) (Nat.le_of_ble_eq_true rfl) (Nat.le_refl _) (hf _ _ _ hs3) ?_
          intro r92 Ir92 Jr92 h92
          have hq3 := h92
          have hq4 : ∀ x : Int32, x = b2i (v = r92) → MRd b n op I J ((f (nxt b n r.2.1)).1, (f (nxt b n r.2.1)).2.1, r.2.2.1 ++ (f (nxt b n r.2.1)).2.2.1 ++ [cmpC r.2.1.1], fun e => vBoth (cmpC r.2.1.1) (r.2.2.2 e) ((f (nxt b n r.2.1)).2.2.2 e)) x Ir92 Jr92 := fun x hx => hr.seq hN hq3 (fun _ z => by
            show x = vBoth (cmpC r.2.1.1) (r.2.2.2 (mEnv I)) ((f (nxt b n r.2.1)).2.2.2 (mEnv I))
            rw [hc, hx, vB_e, z, (hr.2.1 hr1).2.2.2])
          refine V_go 2 rfl ?_
          refine V_if_eq rfl (fun h93 => ?_) (fun h93 => ?_)
          · skip
            refine V_go 2 rfl ?_
            refine V_icmp_ne rfl (fun h94 => ?_) (fun h94 => ?_)
            · skip
              refine V_go 1 rfl ?_
              refine V_iret rfl rfl rfl ?_
              refine RP.mk ?_
              rw [hE, hR']
              exact hq4 _ (b2i_0 h94).symm
            · skip
              refine V_go 2 rfl ?_
              refine V_iret rfl rfl rfl ?_
              refine RP.mk ?_
              rw [hE, hR']
              exact hq4 _ (b2i_1 h94).symm
          · skip
            exact absurd rfl h93
        · skip
          exact absurd (hwr.symm.trans ((lgc_eq _ _).mp h81)) (by decide)
      · skip
        refine V_go 1 rfl ?_
        refine V_iret rfl rfl rfl ?_
        refine RP.mk ?_
        rw [hE, pBin_stop (fun z => z.2 (by unfold cmpC; rw [if_neg (fun y => (b2i_eq0.mp h60) ⟨(hr.2.1 z.1).1, y⟩), if_neg (fun y => (b2i_eq0.mp h62) ⟨(hr.2.1 z.1).1, y⟩)]))]
        exact hr
  · skip
    have htk : s.1 = 267 := (b2i_eq1.mp ((b2i_or _).resolve_left h2)).2
    have hne1 : s.1 ≠ 1 := fun z => absurd (htk.symm.trans z) (by decide)
    refine V_go 1 rfl ?_
    refine cVP (mt' := mX7_opens) rfl kX7_228 fX7_opens rfl rfl rfl (Nat.le_of_ble_eq_true rfl) (Nat.le_of_ble_eq_true rfl) (by omega) (Nat.le_of_ble_eq_true rfl) (Nat.le_refl _) (c_opens hs.1 hs.2.2.2.1 hs.2.1 hs.2.2.1 hne1 hs.2.2.2.2 hop) ?_
    intro r91 Ir91 Jr91 h91
    obtain ⟨ho5, ho4⟩ := h91
    by_cases h5 : op < 5
    · obtain ⟨hr9, k0, k1, k2, k3⟩ := ho4 h5
      subst hr9
      refine V_if_ne rfl (fun _ => ?_) (fun z => absurd z (by decide))
      have hs2 : MS t n b (op + 1) Ir91 Jr91 (nxt b n s) := ⟨hs.1.mfr k3, k0, k2, (nxt_ok hs.2.2.2.1).1, k1⟩
      refine V_go 1 rfl ?_
      refine cVP (mt' := mX7_not) rfl kX7_246 fX7_not rfl rfl rfl (Nat.le_of_ble_eq_true rfl) (Nat.le_of_ble_eq_true rfl) (by omega) (Nat.le_of_ble_eq_true rfl) (Nat.le_refl _) (hn h5 _ _ _ hs2) ?_
      intro r121 Ir121 Jr121 h121
      have hq4 : ∀ x : Int32, x = b2i (r121 = 0) → MRd b n op I J ((n' (nxt b n s)).1, (n' (nxt b n s)).2.1, (n' (nxt b n s)).2.2.1 ++ [-10], fun e => b2i ((n' (nxt b n s)).2.2.2 e = 0)) x (up2 Ir121 38 27 (Ir121 38 27 - 1)) Jr121 := fun x hx => (h121.dec.pre k3).val (fun z => by
        rw [hx, ((h121.dec.pre k3).2.1 z).2.2.2])
      refine V_go 8 rfl ?_
      refine V_if_ne rfl (fun h122 => ?_) (fun h122 => ?_)
      · skip
        refine V_go 1 rfl ?_
        refine V_iret rfl rfl rfl ?_
        refine RP.mk ?_
        rw [show pNot b n (5 - op) (fun s => pBin b n f cmpC 1 (f s)) n' s = ((n' (nxt b n s)).1, (n' (nxt b n s)).2.1, (n' (nxt b n s)).2.2.1 ++ [-10], fun e => b2i ((n' (nxt b n s)).2.2.2 e = 0)) from by unfold pNot; rw [if_pos htk, if_neg (by omega)]]
        exact hq4 _ (b2i_0 h122).symm
      · skip
        refine V_go 2 rfl ?_
        refine V_iret rfl rfl rfl ?_
        refine RP.mk ?_
        rw [show pNot b n (5 - op) (fun s => pBin b n f cmpC 1 (f s)) n' s = ((n' (nxt b n s)).1, (n' (nxt b n s)).2.1, (n' (nxt b n s)).2.2.1 ++ [-10], fun e => b2i ((n' (nxt b n s)).2.2.2 e = 0)) from by unfold pNot; rw [if_pos htk, if_neg (by omega)]]
        exact hq4 _ (b2i_1 h122).symm
    · obtain ⟨hr9, k0, k1, k2⟩ := ho5 (by omega)
      subst hr9
      refine V_if_ne rfl (fun z => absurd rfl z) (fun _ => ?_)
      refine V_go 1 rfl ?_
      refine V_iret rfl rfl rfl ?_
      refine RP.mk ?_
      rw [show pNot b n (5 - op) (fun s => pBin b n f cmpC 1 (f s)) n' s = pNone s from by unfold pNot; rw [if_pos htk, if_pos (by omega)]]
      exact MRd.bad (op2 := op) k2 k0 k1
