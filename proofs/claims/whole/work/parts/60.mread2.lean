theorem c_not7 {d d9 d8 op t n : Nat} {b : Nat → Int32} {f n' : PT → PR} (hd : 4 ≤ d) (hd9 : d9 + 1 ≤ d) (hd8 : op < 5 → d8 + 1 ≤ d) (hop : op ≤ 5) (hfg : pFn n f) (hf : CMd mX7_added d9 f op t n b) (hn : op < 5 → CMd mX7_not d8 n' (op + 1) t n b) : CMd mX7_not d (pNot b n (5 - op) (fun s => pBin b n f cmpC 1 (f s)) n') op t n b := by
  intro I J s hs
  refine CT_of okX7_not (Nat.le_of_ble_eq_true rfl) ?_
  show V _ _ _ _ _ _ [(0, _)] _ _ _ _ _
  refine V_go 9 rfl ?_
  refine cVI (mt' := mX7_isWord) rfl kX7_203 fX7_isWord rfl rfl rfl (Nat.le_of_ble_eq_true rfl) (Nat.le_of_ble_eq_true rfl) (by omega) (Nat.le_of_ble_eq_true rfl) (Nat.le_refl _) (c_isWord (k := 11) (s := s) (by omega) hs.1 hs.2.2.2.1 (fun _ => hs.2.2.1)) ?_
  refine V_if_eq rfl (fun h2 => ?_) (fun h2 => ?_)
  · skip
    have hnw : ¬ s.1 = 267 := fun z => (b2i_eq0.mp h2) ⟨hs.2.1, z⟩
    refine V_go 1 rfl ?_
    refine cVP (mt' := mX7_added) rfl kX7_249 fX7_added rfl rfl rfl (Nat.le_of_ble_eq_true rfl) (Nat.le_of_ble_eq_true rfl) (by omega) (Nat.le_of_ble_eq_true rfl) (Nat.le_refl _) (hf _ _ _ hs) ?_
    intro r21 Ir21 Jr21 h21
    obtain ⟨r, hrE⟩ : ∃ r, r = f s := ⟨_, rfl⟩
    have hr := h21
    rw [← hrE] at hr
    have hg := hfg s hs.2.2.2.1
    rw [← hrE] at hg
    have hE : pNot b n (5 - op) (fun s => pBin b n f cmpC 1 (f s)) n' s = (pBin b n f cmpC 1 r) := by
      unfold pNot
      rw [if_neg hnw]
      show pBin b n f cmpC 1 (f s) = _
      rw [← hrE]
    obtain ⟨v, hv⟩ : ∃ v, v = r21 := ⟨_, rfl⟩
    rw [← hv] at hr ⊢
    refine V_go 3 rfl ?_
    refine cVI (mt' := mX7_isSign) rfl kX7_225 fX7_isSign rfl rfl rfl (Nat.le_of_ble_eq_true rfl) (Nat.le_of_ble_eq_true rfl) (by omega) (Nat.le_of_ble_eq_true rfl) (Nat.le_refl _) (c_isSign7 (s := r.2.1) (b := b) (n := n) (c := 60) rfl hr.t0) ?_
    refine V_if_ne rfl (fun h23 => ?_) (fun h23 => ?_)
    · skip
      have hsg := b2i_eq1.mp ((b2i_or _).resolve_left h23)
      have hr1 : r.1 = true := hr.good hsg.1
      have hne2 : r.2.1.1 ≠ 1 := fun z => absurd (hsg.2.symm.trans z) (by decide)
      have hc : cmpC r.2.1.1 = -22 := if_pos hsg.2
      have ht' : cmpC r.2.1.1 ≠ 0 := by rw [hc]; decide
      have ht0 : r.2.1.1 ≠ 0 := fun z => ht' (by rw [z]; rfl)
      have hg' : pGood n s.2.1 ((f (nxt b n r.2.1)).1, (f (nxt b n r.2.1)).2.1, r.2.2.1 ++ (f (nxt b n r.2.1)).2.2.1 ++ [cmpC r.2.1.1], fun e => vBoth (cmpC r.2.1.1) (r.2.2.2 e) ((f (nxt b n r.2.1)).2.2.2 e)) := by
        have z := pBin_good (b := b) hfg (oc := cmpC) rfl s.2.1 1 r hg
        rw [pBin_go hr1 ht'] at z
        exact z
      have hR' : pBin b n f cmpC 0 ((f (nxt b n r.2.1)).1, (f (nxt b n r.2.1)).2.1, r.2.2.1 ++ (f (nxt b n r.2.1)).2.2.1 ++ [cmpC r.2.1.1], fun e => vBoth (cmpC r.2.1.1) (r.2.2.2 e) ((f (nxt b n r.2.1)).2.2.2 e)) = (pBin b n f cmpC 1 r) := by rw [pBin_go hr1 ht']
      have hR' : (pBin b n f cmpC 1 r) = ((f (nxt b n r.2.1)).1, (f (nxt b n r.2.1)).2.1, r.2.2.1 ++ (f (nxt b n r.2.1)).2.2.1 ++ [cmpC r.2.1.1], fun e => vBoth (cmpC r.2.1.1) (r.2.2.2 e) ((f (nxt b n r.2.1)).2.2.2 e)) := hR'.symm
      have hwr : Jr21 38 26 = 60 := ((hr.2.1 hr1).2.1.sgn (by rw [hsg.2]; decide)).trans (by rw [hsg.2]; decide +kernel)
      refine V_go 4 rfl ?_
      refine V_if_ne rfl (fun h31 => ?_) (fun h31 => ?_)
      · skip
        exact absurd ((lgc_eq _ _).mpr hwr) h31
      · skip
        refine V_go 2 rfl ?_
        refine V_go 2 rfl ?_
        refine cVW (mt' := mX7_next) rfl kX7_200 fX7_next rfl rfl rfl (Nat.le_of_ble_eq_true rfl) (Nat.le_of_ble_eq_true rfl) (by omega) (Nat.le_of_ble_eq_true rfl) (Nat.le_refl _) (c_nextT (hs.1.mfr hr.1) (hr.2.1 hr1).2.1 hne2 hg.1) ?_
        intro Ir41 Jr41 h41
        obtain ⟨hT2, hN⟩ := h41
        have hs3 := hs.next hr hr1 hg.1 hN hT2
        refine V_go 1 rfl ?_
        refine cVP (mt' := mX7_added) rfl kX7_249 fX7_added rfl rfl rfl (Nat.le_of_ble_eq_true rfl) (Nat.le_of_ble_eq_true rfl) (by omega) (Nat.le_of_ble_eq_true rfl) (Nat.le_refl _) (hf _ _ _ hs3) ?_
        intro r42 Ir42 Jr42 h42
        have hq3 := h42
        have hq4 : ∀ x : Int32, x = b2i (v < r42) → MRd b n op I J ((f (nxt b n r.2.1)).1, (f (nxt b n r.2.1)).2.1, r.2.2.1 ++ (f (nxt b n r.2.1)).2.2.1 ++ [cmpC r.2.1.1], fun e => vBoth (cmpC r.2.1.1) (r.2.2.2 e) ((f (nxt b n r.2.1)).2.2.2 e)) x Ir42 Jr42 := fun x hx => hr.seq hN hq3 (fun _ z => by
          show x = vBoth (cmpC r.2.1.1) (r.2.2.2 (mEnv I)) ((f (nxt b n r.2.1)).2.2.2 (mEnv I))
          rw [hc, hx, vB_l, z, (hr.2.1 hr1).2.2.2])
        refine V_go 2 rfl ?_
        refine V_if_eq rfl (fun h43 => ?_) (fun h43 => ?_)
        · skip
          exact absurd h43 (by decide)
        · skip
          refine V_go 2 rfl ?_
          refine V_icmp_ge rfl (fun h44 => ?_) (fun h44 => ?_)
          · skip
            refine V_go 1 rfl ?_
            refine V_iret rfl rfl rfl ?_
            refine RP.mk ?_
            rw [hE, hR']
            exact hq4 _ (b2i_0 (Int32.not_lt.mpr h44)).symm
          · skip
            refine V_go 3 rfl ?_
            refine V_iret rfl rfl rfl ?_
            refine RP.mk ?_
            rw [hE, hR']
            exact hq4 _ (b2i_1 (Int32.not_le.mp h44)).symm
    · skip
      have h60 := h23
      refine V_go 2 rfl ?_
      refine cVI (mt' := mX7_isSign) rfl kX7_225 fX7_isSign rfl rfl rfl (Nat.le_of_ble_eq_true rfl) (Nat.le_of_ble_eq_true rfl) (by omega) (Nat.le_of_ble_eq_true rfl) (Nat.le_refl _) (c_isSign7 (s := r.2.1) (b := b) (n := n) (c := 61) rfl hr.t0) ?_
      refine V_if_ne rfl (fun h62 => ?_) (fun h62 => ?_)
      · skip
        have hsg := b2i_eq1.mp ((b2i_or _).resolve_left h62)
        have hr1 : r.1 = true := hr.good hsg.1
        have hne2 : r.2.1.1 ≠ 1 := fun z => absurd (hsg.2.symm.trans z) (by decide)
        have hc : cmpC r.2.1.1 = -23 := by unfold cmpC; rw [if_neg (by rw [hsg.2]; decide), if_pos hsg.2]
        have ht' : cmpC r.2.1.1 ≠ 0 := by rw [hc]; decide
        have ht0 : r.2.1.1 ≠ 0 := fun z => ht' (by rw [z]; rfl)
        have hg' : pGood n s.2.1 ((f (nxt b n r.2.1)).1, (f (nxt b n r.2.1)).2.1, r.2.2.1 ++ (f (nxt b n r.2.1)).2.2.1 ++ [cmpC r.2.1.1], fun e => vBoth (cmpC r.2.1.1) (r.2.2.2 e) ((f (nxt b n r.2.1)).2.2.2 e)) := by
          have z := pBin_good (b := b) hfg (oc := cmpC) rfl s.2.1 1 r hg
          rw [pBin_go hr1 ht'] at z
          exact z
        have hR' : pBin b n f cmpC 0 ((f (nxt b n r.2.1)).1, (f (nxt b n r.2.1)).2.1, r.2.2.1 ++ (f (nxt b n r.2.1)).2.2.1 ++ [cmpC r.2.1.1], fun e => vBoth (cmpC r.2.1.1) (r.2.2.2 e) ((f (nxt b n r.2.1)).2.2.2 e)) = (pBin b n f cmpC 1 r) := by rw [pBin_go hr1 ht']
        have hR' : (pBin b n f cmpC 1 r) = ((f (nxt b n r.2.1)).1, (f (nxt b n r.2.1)).2.1, r.2.2.1 ++ (f (nxt b n r.2.1)).2.2.1 ++ [cmpC r.2.1.1], fun e => vBoth (cmpC r.2.1.1) (r.2.2.2 e) ((f (nxt b n r.2.1)).2.2.2 e)) := hR'.symm
        have hwr : Jr21 38 26 = 61 := ((hr.2.1 hr1).2.1.sgn (by rw [hsg.2]; decide)).trans (by rw [hsg.2]; decide +kernel)
        refine V_go 4 rfl ?_
        refine V_if_ne rfl (fun h81 => ?_) (fun h81 => ?_)
        · skip
          refine V_go 1 rfl ?_
          refine V_go 2 rfl ?_
          refine cVW (mt' := mX7_next) rfl kX7_200 fX7_next rfl rfl rfl (Nat.le_of_ble_eq_true rfl) (Nat.le_of_ble_eq_true rfl) (by omega) (Nat.le_of_ble_eq_true rfl) (Nat.le_refl _) (c_nextT (hs.1.mfr hr.1) (hr.2.1 hr1).2.1 hne2 hg.1) ?_
          intro Ir91 Jr91 h91
          obtain ⟨hT2, hN⟩ := h91
          have hs3 := hs.next hr hr1 hg.1 hN hT2
          refine V_go 1 rfl ?_
          refine cVP (mt' := mX7_added) rfl kX7_249 fX7_added rfl rfl rfl (Nat.le_of_ble_eq_true rfl) (Nat.le_of_ble_eq_true rfl) (by omega) (Nat.le_of_ble_eq_true rfl) (Nat.le_refl _) (hf _ _ _ hs3) ?_
          intro r92 Ir92 Jr92 h92
          have hq3 := h92
          have hq4 : ∀ x : Int32, x = b2i (v = r92) → MRd b n op I J ((f (nxt b n r.2.1)).1, (f (nxt b n r.2.1)).2.1, r.2.2.1 ++ (f (nxt b n r.2.1)).2.2.1 ++ [cmpC r.2.1.1], fun e => vBoth (cmpC r.2.1.1) (r.2.2.2 e) ((f (nxt b n r.2.1)).2.2.2 e)) x Ir92 Jr92 := fun x hx => hr.seq hN hq3 (fun _ z => by
            show x = vBoth (cmpC r.2.1.1) (r.2.2.2 (mEnv I)) ((f (nxt b n r.2.1)).2.2.2 (mEnv I))
            rw [hc, hx, vB_e, z, (hr.2.1 hr1).2.2.2])
          refine V_go 2 rfl ?_
          refine V_if_eq rfl (fun h93 => ?_) (fun h93 => ?_)
          · skip
            refine V_go 2 rfl ?_
            refine V_icmp_ne rfl (fun h94 => ?_) (fun h94 => ?_)
            · skip
              refine V_go 1 rfl ?_
              refine V_iret rfl rfl rfl ?_
              refine RP.mk ?_
              rw [hE, hR']
              exact hq4 _ (b2i_0 h94).symm
            · skip
              refine V_go 2 rfl ?_
              refine V_iret rfl rfl rfl ?_
              refine RP.mk ?_
              rw [hE, hR']
              exact hq4 _ (b2i_1 h94).symm
          · skip
            exact absurd rfl h93
        · skip
          exact absurd (hwr.symm.trans ((lgc_eq _ _).mp h81)) (by decide)
      · skip
        refine V_go 1 rfl ?_
        refine V_iret rfl rfl rfl ?_
        refine RP.mk ?_
        rw [hE, pBin_stop (fun z => z.2 (by unfold cmpC; rw [if_neg (fun y => (b2i_eq0.mp h60) ⟨(hr.2.1 z.1).1, y⟩), if_neg (fun y => (b2i_eq0.mp h62) ⟨(hr.2.1 z.1).1, y⟩)]))]
        exact hr
  · skip
    have htk : s.1 = 267 := (b2i_eq1.mp ((b2i_or _).resolve_left h2)).2
    have hne1 : s.1 ≠ 1 := fun z => absurd (htk.symm.trans z) (by decide)
    refine V_go 1 rfl ?_
    refine cVP (mt' := mX7_opens) rfl kX7_228 fX7_opens rfl rfl rfl (Nat.le_of_ble_eq_true rfl) (Nat.le_of_ble_eq_true rfl) (by omega) (Nat.le_of_ble_eq_true rfl) (Nat.le_refl _) (c_opens hs.1 hs.2.2.2.1 hs.2.1 hs.2.2.1 hne1 hs.2.2.2.2 hop) ?_
    intro r91 Ir91 Jr91 h91
    obtain ⟨ho5, ho4⟩ := h91
    by_cases h5 : op < 5
    · obtain ⟨hr9, k0, k1, k2, k3⟩ := ho4 h5
      subst hr9
      refine V_if_ne rfl (fun _ => ?_) (fun z => absurd z (by decide))
      have hs2 : MS t n b (op + 1) Ir91 Jr91 (nxt b n s) := ⟨hs.1.mfr k3, k0, k2, (nxt_ok hs.2.2.2.1).1, k1⟩
      refine V_go 1 rfl ?_
      refine cVP (mt' := mX7_not) rfl kX7_246 fX7_not rfl rfl rfl (Nat.le_of_ble_eq_true rfl) (Nat.le_of_ble_eq_true rfl) (by omega) (Nat.le_of_ble_eq_true rfl) (Nat.le_refl _) (hn h5 _ _ _ hs2) ?_
      intro r121 Ir121 Jr121 h121
      have hq4 : ∀ x : Int32, x = b2i (r121 = 0) → MRd b n op I J ((n' (nxt b n s)).1, (n' (nxt b n s)).2.1, (n' (nxt b n s)).2.2.1 ++ [-10], fun e => b2i ((n' (nxt b n s)).2.2.2 e = 0)) x (up2 Ir121 38 27 (Ir121 38 27 - 1)) Jr121 := fun x hx => (h121.dec.pre k3).val (fun z => by
        rw [hx, ((h121.dec.pre k3).2.1 z).2.2.2])
      refine V_go 8 rfl ?_
      refine V_if_ne rfl (fun h122 => ?_) (fun h122 => ?_)
      · skip
        refine V_go 1 rfl ?_
        refine V_iret rfl rfl rfl ?_
        refine RP.mk ?_
        rw [show pNot b n (5 - op) (fun s => pBin b n f cmpC 1 (f s)) n' s = ((n' (nxt b n s)).1, (n' (nxt b n s)).2.1, (n' (nxt b n s)).2.2.1 ++ [-10], fun e => b2i ((n' (nxt b n s)).2.2.2 e = 0)) from by unfold pNot; rw [if_pos htk, if_neg (by omega)]]
        exact hq4 _ (b2i_0 h122).symm
      · skip
        refine V_go 2 rfl ?_
        refine V_iret rfl rfl rfl ?_
        refine RP.mk ?_
        rw [show pNot b n (5 - op) (fun s => pBin b n f cmpC 1 (f s)) n' s = ((n' (nxt b n s)).1, (n' (nxt b n s)).2.1, (n' (nxt b n s)).2.2.1 ++ [-10], fun e => b2i ((n' (nxt b n s)).2.2.2 e = 0)) from by unfold pNot; rw [if_pos htk, if_neg (by omega)]]
        exact hq4 _ (b2i_1 h122).symm
    · obtain ⟨hr9, k0, k1, k2⟩ := ho5 (by omega)
      subst hr9
      refine V_if_ne rfl (fun z => absurd rfl z) (fun _ => ?_)
      refine V_go 1 rfl ?_
      refine V_iret rfl rfl rfl ?_
      refine RP.mk ?_
      rw [show pNot b n (5 - op) (fun s => pBin b n f cmpC 1 (f s)) n' s = pNone s from by unfold pNot; rw [if_pos htk, if_pos (by omega)]]
      exact MRd.bad (op2 := op) k2 k0 k1
theorem c_atom7 {d dO dE op t n : Nat} {b : Nat → Int32} {o' e' : PT → PR} (hd : 5 ≤ d) (hdO : op < 5 → dO + 1 ≤ d) (hdE : op < 5 → dE + 1 ≤ d) (hop : op ≤ 5) (hog : pFn n o') (hor : op < 5 → CMd mX7_either dO o' (op + 1) t n b) (hone : op < 5 → CMd mX7_atom dE e' (op + 1) t n b) : CMd mX7_atom d (pOne b n (5 - op) o' e') op t n b := by
  intro I J s hs
  have k161 : ∀ (x : Int32) (I9 : I2) (J9 : J2), MRd b n op I J (pOne b n (5 - op) o' e' s) x I9 J9 → V mX7_atom none d 58 (RP RF (MRd b n op I J (pOne b n (5 - op) o' e' s))) 161 [(0, .ref 38), (1, .int x)] [] 58 I9 J9 RF := by
    intro x I9 J9 h
    refine V_go 1 rfl ?_
    refine V_iret rfl rfl rfl ?_
    exact RP.mk h
  refine CT_of okX7_atom (Nat.le_of_ble_eq_true rfl) ?_
  show V _ _ _ _ _ _ [(0, _)] _ _ _ _ _
  refine V_go 4 rfl ?_
  refine cVI (mt' := mX7_isSign) rfl kX7_225 fX7_isSign rfl rfl rfl (Nat.le_of_ble_eq_true rfl) (Nat.le_of_ble_eq_true rfl) (by omega) (Nat.le_of_ble_eq_true rfl) (Nat.le_refl _) (c_isSign7 (s := s) (b := b) (n := n) (c := 45) rfl (fun _ => hs.2.2.1)) ?_
  refine V_if_eq rfl (fun h2 => ?_) (fun h2 => ?_)
  · skip
    have h45 := b2i_eq0.mp h2
    refine V_go 2 rfl ?_
    refine cVI (mt' := mX7_isSign) rfl kX7_225 fX7_isSign rfl rfl rfl (Nat.le_of_ble_eq_true rfl) (Nat.le_of_ble_eq_true rfl) (by omega) (Nat.le_of_ble_eq_true rfl) (Nat.le_refl _) (c_isSign7 (s := s) (b := b) (n := n) (c := 40) rfl (fun _ => hs.2.2.1)) ?_
    refine V_if_eq rfl (fun h14 => ?_) (fun h14 => ?_)
    · skip
      have h40 := b2i_eq0.mp h14
      refine V_go 2 rfl ?_
      refine V_if_ne rfl (fun h15 => ?_) (fun h15 => ?_)
      · skip
        exact absurd hs.2.1 h15
      · skip
        refine V_go 3 rfl ?_
        refine V_icmp_ne rfl (fun h16 => ?_) (fun h16 => ?_)
        · skip
          have hk2 : ¬ I 38 24 = 2 := h16
          refine V_go 2 rfl ?_
          refine V_if_ne rfl (fun h17 => ?_) (fun h17 => ?_)
          · skip
            exact absurd hs.2.1 h17
          · skip
            refine V_go 3 rfl ?_
            refine V_icmp_ne rfl (fun h18 => ?_) (fun h18 => ?_)
            · skip
              have hk1 : ¬ I 38 24 = 1 := h18
              have hx2 : ¬ s.1 = 2 := fun z => by
                rcases hs.2.2.1.2 with y | y | y | y | y
                · exact absurd (y.2.1.symm.trans z) (by decide)
                · exact (wTok_n2 _).1 (y.2.2.1.symm.trans z)
                · exact hk2 y.1
                · exact absurd y.2.1 (by rw [z]; decide)
                · exact absurd (y.2.symm.trans z) (by decide)
              have hxn : ¬ (256 ≤ s.1 ∧ s.1 < 262) := fun z => by
                rcases hs.2.2.1.2 with y | y | y | y | y
                · exact absurd z.1 (by rw [y.2.1]; decide)
                · exact hk1 y.1
                · exact absurd z.1 (by rw [y.2.1]; decide)
                · have w := (isSi_n2 y.2.1).2.2.2.2
                  exact absurd (Int32.le_trans z.1 w) (by decide)
                · exact absurd z.1 (by rw [y.2]; decide)
              have hx40 : ¬ s.1 = 40 := fun z => h40 ⟨hs.2.1, z⟩
              have hx45 : ¬ s.1 = 45 := fun z => h45 ⟨hs.2.1, z⟩
              refine V_go 1 rfl ?_
              refine cVV (mt' := mX7_fail) rfl kX7_197 fX7_fail rfl rfl rfl (Nat.le_of_ble_eq_true rfl) (Nat.le_of_ble_eq_true rfl) (by omega) (Nat.le_of_ble_eq_true rfl) (Nat.le_refl _) (c_fail) ?_
              refine k161 _ _ _ ?_
              rw [show pOne b n (5 - op) o' e' s = pNone s from by unfold pOne; rw [if_neg hx2, if_neg hxn, if_neg hx40, if_neg hx45]; split <;> rfl]
              exact MRd.none hs
            · skip
              have h241 : I 38 24 = 1 := h18
              have hnw : ∀ c : Int32, (c = 2 ∨ c = 40 ∨ c = 45) → ¬ s.1 = c := fun c hc z => by
                rcases hs.2.2.1.2 with y | y | y | y | y
                · exact absurd (h241.symm.trans y.1) (by decide)
                · have w := y.2.2.1
                  rw [z] at w
                  rcases hc with rfl | rfl | rfl
                  · exact (wTok_n2 _).1 w.symm
                  · exact wTok_ns (bts b s.2.1 (s.2.2.1 - s.2.1)) (by rw [← w]; decide)
                  · exact wTok_ns (bts b s.2.1 (s.2.2.1 - s.2.1)) (by rw [← w]; decide)
                · exact absurd (h241.symm.trans y.1) (by decide)
                · exact absurd (h241.symm.trans y.1) (by decide)
                · exact absurd (h241.symm.trans y.1) (by decide)
              refine V_go 1 rfl ?_
              refine cVP (mt' := mX7_name) rfl kX7_238 fX7_name rfl rfl rfl (Nat.le_of_ble_eq_true rfl) (Nat.le_of_ble_eq_true rfl) (by omega) (Nat.le_of_ble_eq_true rfl) (Nat.le_refl _) (c_name hs.1 hs.2.2.2.1 hs.2.1 hs.2.2.1) ?_
              intro r161 Ir161 Jr161 h161
              obtain ⟨hn1, hn2⟩ := h161
              obtain ⟨v9, hv9⟩ : ∃ v9, v9 = r161 := ⟨_, rfl⟩
              rw [← hv9] at hn1 ⊢
              refine V_go 3 rfl ?_
              refine V_if_ne rfl (fun h162 => ?_) (fun h162 => ?_)
              · skip
                have hnm : ¬ (256 ≤ s.1 ∧ s.1 < 262) := fun z => by
                  rw [(hn1 z).2.1] at h162
                  exact h162 hs.2.1
                obtain ⟨hI9, hJ9⟩ := hn2 hnm
                rw [hI9, hJ9]
                refine k161 _ _ _ ?_
                rw [show pOne b n (5 - op) o' e' s = pNone s from by unfold pOne; rw [if_neg (hnw 2 (Or.inl rfl)), if_neg hnm, if_neg (hnw 40 (Or.inr (Or.inl rfl))), if_neg (hnw 45 (Or.inr (Or.inr rfl)))]; split <;> rfl]
                exact MRd.none hs
              · skip
                have hnm : 256 ≤ s.1 ∧ s.1 < 262 := by
                  refine Classical.byContradiction (fun z => ?_)
                  rw [(hn2 z).1, show mFail I = up2 (up2 I 38 28 1) 38 29 (I 38 25) from if_pos hs.2.1] at h162
                  exact absurd (show (1 : Int32) = 0 from h162) (by decide)
                obtain ⟨hv, hI9, hJ9⟩ := hn1 hnm
                rw [hI9, hJ9]
                refine V_go 1 rfl ?_
                refine cVW (mt' := mX7_next) rfl kX7_200 fX7_next rfl rfl rfl (Nat.le_of_ble_eq_true rfl) (Nat.le_of_ble_eq_true rfl) (by omega) (Nat.le_of_ble_eq_true rfl) (Nat.le_refl _) (c_nextT hs.1 hs.2.2.1 (fun z => absurd hnm.1 (by rw [z]; decide)) hs.2.2.2.1) ?_
                intro Ir191 Jr191 h191
                obtain ⟨hT4, hN4⟩ := h191
                refine V_go 1 rfl ?_
                refine k161 _ _ _ ?_
                rw [show pOne b n (5 - op) o' e' s = (true, nxt b n s, [-1 - (s.1 - 256)], fun e => e (s.1 - 256).toNatClampNeg) from by unfold pOne; rw [if_neg (fun z => absurd hnm.1 (by rw [z]; decide)), if_pos hnm]]
                refine ⟨hN4.mfr, fun _ => ⟨?_, hT4, ?_, ?_⟩, fun z => absurd (show true = false from z) (by decide)⟩
                · rw [hN4.2 28 (by omega)]; exact hs.2.1
                · rw [hN4.2 27 (by omega)]; exact hs.2.2.2.2
                · rw [hv]
                  rcases nm_cases hnm with y | y | y | y | y | y <;> (rw [y]; rfl)
        · skip
          have hnum : s.1 = 2 ∧ J 38 26 = s.2.2.2.toInt64 := by
            rcases hs.2.2.1.2 with y | y | y | y | y
            · exact absurd (h16.symm.trans y.1) (by decide)
            · exact absurd (h16.symm.trans y.1) (by decide)
            · exact ⟨y.2.1, y.2.2.2⟩
            · exact absurd (h16.symm.trans y.1) (by decide)
            · exact absurd (h16.symm.trans y.1) (by decide)
          have h2 := hnum.1
          refine V_go 5 rfl ?_
          refine cVW (mt' := mX7_next) rfl kX7_200 fX7_next rfl rfl rfl (Nat.le_of_ble_eq_true rfl) (Nat.le_of_ble_eq_true rfl) (by omega) (Nat.le_of_ble_eq_true rfl) (Nat.le_refl _) (c_nextT hs.1 hs.2.2.1 (by rw [h2]; decide) hs.2.2.2.1) ?_
          intro Ir141 Jr141 h141
          obtain ⟨hT4, hN4⟩ := h141
          refine V_go 1 rfl ?_
          refine k161 _ _ _ ?_
          rw [show pOne b n (5 - op) o' e' s = (true, nxt b n s, [s.2.2.2], fun _ => s.2.2.2) from by unfold pOne; rw [if_pos h2]]
          refine ⟨hN4.mfr, fun _ => ⟨?_, hT4, ?_, ?_⟩, fun z => absurd (show true = false from z) (by decide)⟩
          · rw [hN4.2 28 (by omega)]; exact hs.2.1
          · rw [hN4.2 27 (by omega)]; exact hs.2.2.2.2
          · rw [hnum.2, Int32.toInt32_toInt64]
    · skip
      have htk : s.1 = 40 := (b2i_eq1.mp ((b2i_or _).resolve_left h14)).2
      have hne1 : s.1 ≠ 1 := fun z => absurd (htk.symm.trans z) (by decide)
      have h2 : ¬ s.1 = 2 := fun z => absurd (htk.symm.trans z) (by decide)
      have hnm : ¬ (256 ≤ s.1 ∧ s.1 < 262) := by rw [htk]; decide
      refine V_go 1 rfl ?_
      refine cVP (mt' := mX7_opens) rfl kX7_228 fX7_opens rfl rfl rfl (Nat.le_of_ble_eq_true rfl) (Nat.le_of_ble_eq_true rfl) (by omega) (Nat.le_of_ble_eq_true rfl) (Nat.le_refl _) (c_opens hs.1 hs.2.2.2.1 hs.2.1 hs.2.2.1 hne1 hs.2.2.2.2 hop) ?_
      intro r51 Ir51 Jr51 h51
      obtain ⟨ho5, ho4⟩ := h51
      by_cases h5 : op < 5
      · obtain ⟨hr9, k0, k1, k2, k3⟩ := ho4 h5
        subst hr9
        refine V_if_eq rfl (fun z => absurd z (by decide)) (fun _ => ?_)
        have hs2 : MS t n b (op + 1) Ir51 Jr51 (nxt b n s) := ⟨hs.1.mfr k3, k0, k2, (nxt_ok hs.2.2.2.1).1, k1⟩
        refine V_go 1 rfl ?_
        refine cVP (mt' := mX7_either) rfl kX7_235 fX7_either rfl rfl rfl (Nat.le_of_ble_eq_true rfl) (Nat.le_of_ble_eq_true rfl) (by omega) (Nat.le_of_ble_eq_true rfl) (Nat.le_refl _) (hor h5 _ _ _ hs2) ?_
        intro r61 Ir61 Jr61 h61
        have hq3 := h61
        have hgo := (hog _ hs2.2.2.2.1).1
        refine V_go 3 rfl ?_
        refine cVI (mt' := mX7_isSign) rfl kX7_225 fX7_isSign rfl rfl rfl (Nat.le_of_ble_eq_true rfl) (Nat.le_of_ble_eq_true rfl) (by omega) (Nat.le_of_ble_eq_true rfl) (Nat.le_refl _) (c_isSign7 (s := (o' (nxt b n s)).2.1) (b := b) (n := n) (c := 41) rfl hq3.t0) ?_
        refine V_if_ne rfl (fun h63 => ?_) (fun h63 => ?_)
        · skip
          have hsg := b2i_eq1.mp ((b2i_or _).resolve_left h63)
          have hr1 : (o' (nxt b n s)).1 = true := hq3.good hsg.1
          have hd3 := hq3.dec
          refine V_go 8 rfl ?_
          refine V_if_ne rfl (fun h81 => ?_) (fun h81 => ?_)
          · skip
            exact absurd (hd3.2.1 hr1).1 h81
          · skip
            refine V_go 1 rfl ?_
            refine cVW (mt' := mX7_next) rfl kX7_200 fX7_next rfl rfl rfl (Nat.le_of_ble_eq_true rfl) (Nat.le_of_ble_eq_true rfl) (by omega) (Nat.le_of_ble_eq_true rfl) (Nat.le_refl _) (c_nextT ((hs.1.mfr k3).mfr (hq3.1.tr (MFr.fld (by omega) (by omega)))) (hd3.2.1 hr1).2.1 (fun z => absurd (hsg.2.symm.trans z) (by decide)) hgo) ?_
            intro Ir82 Jr82 h82
            obtain ⟨hT4, hN4⟩ := h82
            refine V_go 1 rfl ?_
            refine k161 _ _ _ ?_
            rw [show pOne b n (5 - op) o' e' s = (true, nxt b n (o' (nxt b n s)).2.1, (o' (nxt b n s)).2.2) from by unfold pOne; rw [if_neg h2, if_neg hnm, if_neg (by omega), if_pos htk, if_pos ⟨hr1, hsg.2⟩]]
            refine ⟨(k3.tr hd3.1).tr hN4.mfr, fun _ => ⟨?_, hT4, ?_, ?_⟩, fun z => absurd (show true = false from z) (by decide)⟩
            · rw [hN4.2 28 (by omega)]; exact (hd3.2.1 hr1).1
            · rw [hN4.2 27 (by omega)]; exact (hd3.2.1 hr1).2.2.1
            · rw [(hd3.2.1 hr1).2.2.2, mEnv_f k3]
        · skip
          have hns := b2i_eq0.mp h63
          refine V_go 1 rfl ?_
          refine cVV (mt' := mX7_fail) rfl kX7_197 fX7_fail rfl rfl rfl (Nat.le_of_ble_eq_true rfl) (Nat.le_of_ble_eq_true rfl) (by omega) (Nat.le_of_ble_eq_true rfl) (Nat.le_refl _) (c_fail) ?_
          have hfl : MFr Ir61 Jr61 (mFail Ir61) Jr61 ∧ mFail Ir61 38 28 = 1 ∧ mFail Ir61 38 29 = i32 (o' (nxt b n s)).2.1.2.1 := by
            by_cases hr1 : (o' (nxt b n s)).1 = true
            · obtain ⟨a1, a2, a3, a4⟩ := hq3.2.1 hr1
              rw [show mFail Ir61 = up2 (up2 Ir61 38 28 1) 38 29 (Ir61 38 25) from if_pos a1]
              exact ⟨(MFr.fld (by omega) (by omega)).tr (MFr.fld (by omega) (by omega)), rfl, a2.1⟩
            · obtain ⟨a1, a2⟩ := hq3.2.2 (bof hr1)
              rw [show mFail Ir61 = Ir61 from if_neg (by rw [a1]; decide)]
              exact ⟨MFr.rf, a1, a2⟩
          have hfx : ¬ ((o' (nxt b n s)).1 = true ∧ (o' (nxt b n s)).2.1.1 = 41) := fun z => hns ⟨(hq3.2.1 z.1).1, z.2⟩
          refine V_go 8 rfl ?_
          refine V_if_ne rfl (fun h121 => ?_) (fun h121 => ?_)
          · skip
            refine k161 _ _ _ ?_
            rw [show pOne b n (5 - op) o' e' s = (false, (o' (nxt b n s)).2.1, [], fun _ => 0) from by unfold pOne; rw [if_neg h2, if_neg hnm, if_neg (by omega), if_pos htk, if_neg hfx]]
            exact MRd.bad (op2 := op) ((k3.tr (hq3.1.tr hfl.1)).tr (MFr.fld (by omega) (by omega))) hfl.2.1 hfl.2.2
          · skip
            exact absurd (show mFail Ir61 38 28 = 0 from h121) (by rw [hfl.2.1]; decide)
      · obtain ⟨hr9, k0, k1, k2⟩ := ho5 (by omega)
        subst hr9
        refine V_if_eq rfl (fun _ => ?_) (fun z => absurd rfl z)
        refine k161 _ _ _ ?_
        rw [show pOne b n (5 - op) o' e' s = pNone s from by unfold pOne; rw [if_neg h2, if_neg hnm, if_pos (by omega)]]
        exact MRd.bad (op2 := op) k2 k0 k1
  · skip
    have htk : s.1 = 45 := (b2i_eq1.mp ((b2i_or _).resolve_left h2)).2
    have hne1 : s.1 ≠ 1 := fun z => absurd (htk.symm.trans z) (by decide)
    have h2 : ¬ s.1 = 2 := fun z => absurd (htk.symm.trans z) (by decide)
    have hnm : ¬ (256 ≤ s.1 ∧ s.1 < 262) := by rw [htk]; decide
    refine V_go 1 rfl ?_
    refine cVP (mt' := mX7_opens) rfl kX7_228 fX7_opens rfl rfl rfl (Nat.le_of_ble_eq_true rfl) (Nat.le_of_ble_eq_true rfl) (by omega) (Nat.le_of_ble_eq_true rfl) (Nat.le_refl _) (c_opens hs.1 hs.2.2.2.1 hs.2.1 hs.2.2.1 hne1 hs.2.2.2.2 hop) ?_
    intro r21 Ir21 Jr21 h21
    obtain ⟨ho5, ho4⟩ := h21
    by_cases h5 : op < 5
    · obtain ⟨hr9, k0, k1, k2, k3⟩ := ho4 h5
      subst hr9
      refine V_if_eq rfl (fun z => absurd z (by decide)) (fun _ => ?_)
      have hs2 : MS t n b (op + 1) Ir21 Jr21 (nxt b n s) := ⟨hs.1.mfr k3, k0, k2, (nxt_ok hs.2.2.2.1).1, k1⟩
      refine V_go 1 rfl ?_
      refine cVP (mt' := mX7_atom) rfl kX7_232 fX7_atom rfl rfl rfl (Nat.le_of_ble_eq_true rfl) (Nat.le_of_ble_eq_true rfl) (by omega) (Nat.le_of_ble_eq_true rfl) (Nat.le_refl _) (hone h5 _ _ _ hs2) ?_
      intro r31 Ir31 Jr31 h31
      have hq3 := h31
      refine V_go 9 rfl ?_
      refine k161 _ _ _ ?_
      rw [show pOne b n (5 - op) o' e' s = ((e' (nxt b n s)).1, (e' (nxt b n s)).2.1, (e' (nxt b n s)).2.2.1 ++ [-11], fun e => -((e' (nxt b n s)).2.2.2 e)) from by unfold pOne; rw [if_neg h2, if_neg hnm, if_neg (by omega), if_neg (by rw [htk]; decide), if_pos htk]]
      exact (hq3.dec.pre k3).val (fun z => by rw [((hq3.dec.pre k3).2.1 z).2.2.2])
    · obtain ⟨hr9, k0, k1, k2⟩ := ho5 (by omega)
      subst hr9
      refine V_if_eq rfl (fun _ => ?_) (fun z => absurd rfl z)
      refine k161 _ _ _ ?_
      rw [show pOne b n (5 - op) o' e' s = pNone s from by unfold pOne; rw [if_neg h2, if_neg hnm, if_pos (by omega)]]
      exact MRd.bad (op2 := op) k2 k0 k1
