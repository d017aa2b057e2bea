def mEnv (I : I2) : Nat → Int32 := env6 (I 38 15) (I 38 16) (I 38 17) (I 38 18) (I 38 19) (I 38 20)
theorem mEnv_f {I I9 : I2} {J J9 : J2} (q : MFr I J I9 J9) : mEnv I9 = mEnv I := by
  unfold mEnv
  rw [q.2 15 (by omega), q.2 16 (by omega), q.2 17 (by omega), q.2 18 (by omega), q.2 19 (by omega), q.2 20 (by omega)]
def MS (t n : Nat) (b : Nat → Int32) (op : Nat) (I : I2) (J : J2) (s : PT) : Prop := MB t n b I ∧ I 38 28 = 0 ∧ MTk b n I J s ∧ pOk n s ∧ I 38 27 = i32 op
def MRd (b : Nat → Int32) (n op : Nat) (I : I2) (J : J2) (r : PR) : Int32 → I2 → J2 → Prop := fun x I9 J9 => MFr I J I9 J9 ∧ (r.1 = true → I9 38 28 = 0 ∧ MTk b n I9 J9 r.2.1 ∧ I9 38 27 = i32 op ∧ x = r.2.2.2 (mEnv I)) ∧ (r.1 = false → I9 38 28 = 1 ∧ I9 38 29 = i32 r.2.1.2.1)
def CMd (mt : MT) (d : Nat) (f : PT → PR) (op t n : Nat) (b : Nat → Int32) : Prop := ∀ (I : I2) (J : J2) (s : PT), MS t n b op I J s → CT mt d 58 58 [.ref 38] I J RF (RP RF (MRd b n op I J (f s)))
theorem bof {x : Bool} (h : ¬ x = true) : x = false := by
  cases x
  · rfl
  · exact absurd rfl h
theorem MRd.good {b : Nat → Int32} {n op : Nat} {I I9 : I2} {J J9 : J2} {r : PR} {x : Int32} (h : MRd b n op I J r x I9 J9) (h0 : I9 38 28 = 0) : r.1 = true := by
  refine Classical.byContradiction (fun z => ?_)
  have := (h.2.2 (bof z)).1
  rw [h0] at this
  exact absurd this (by decide)
theorem MRd.t0 {b : Nat → Int32} {n op : Nat} {I I9 : I2} {J J9 : J2} {r : PR} {x : Int32} (h : MRd b n op I J r x I9 J9) : I9 38 28 = 0 → MTk b n I9 J9 r.2.1 := fun z => (h.2.1 (h.good z)).2.1
theorem MRd.none {t n op : Nat} {b : Nat → Int32} {I : I2} {J : J2} {s : PT} {x : Int32} (h : MS t n b op I J s) : MRd b n op I J (pNone s) x (mFail I) J := by
  obtain ⟨-, h0, hT, -, -⟩ := h
  rw [show mFail I = up2 (up2 I 38 28 1) 38 29 (I 38 25) from if_pos h0]
  exact ⟨(MFr.fld (by omega) (by omega)).tr (MFr.fld (by omega) (by omega)), fun z => absurd (show false = true from z) Bool.false_ne_true, fun _ => ⟨rfl, hT.1⟩⟩
theorem MRd.bad {b : Nat → Int32} {n op op2 : Nat} {I I9 : I2} {J J9 : J2} {s : PT} {c : List Int32} {v : (Nat → Int32) → Int32} {x : Int32} (q : MFr I J I9 J9) (h1 : I9 38 28 = 1) (h2 : I9 38 29 = i32 s.2.1) : MRd b n op I J (false, s, c, v) x I9 J9 := ⟨q, fun z => absurd (show false = true from z) Bool.false_ne_true, fun _ => ⟨h1, h2⟩⟩
theorem MRd.pre {b : Nat → Int32} {n op : Nat} {I I1 I9 : I2} {J J1 J9 : J2} {r : PR} {x : Int32} (q : MFr I J I1 J1) (h : MRd b n op I1 J1 r x I9 J9) : MRd b n op I J r x I9 J9 := ⟨q.tr h.1, fun z => by
  obtain ⟨a1, a2, a3, a4⟩ := h.2.1 z
  exact ⟨a1, a2, a3, by rw [a4, mEnv_f q]⟩, h.2.2⟩
theorem MRd.val {b : Nat → Int32} {n op : Nat} {I I9 : I2} {J J9 : J2} {r : PR} {x x' : Int32} {c : List Int32} {v : (Nat → Int32) → Int32} (h : MRd b n op I J r x I9 J9) (hv : r.1 = true → x' = v (mEnv I)) : MRd b n op I J (r.1, r.2.1, c, v) x' I9 J9 := ⟨h.1, fun z => by
  obtain ⟨a1, a2, a3, a4⟩ := h.2.1 z
  exact ⟨a1, a2, a3, hv z⟩, h.2.2⟩
theorem i32_d (op : Nat) : i32 (op + 1) - 1 = i32 op := by rw [i32_s, Int32.add_sub_cancel]
theorem MRd.dec {b : Nat → Int32} {n op : Nat} {I I9 : I2} {J J9 : J2} {r : PR} {x : Int32} (h : MRd b n (op + 1) I J r x I9 J9) : MRd b n op I J r x (up2 I9 38 27 (I9 38 27 - 1)) J9 := by
  refine ⟨h.1.tr (MFr.fld (by omega) (by omega)), fun z => ?_, fun z => ?_⟩
  · obtain ⟨a1, a2, a3, a4⟩ := h.2.1 z
    refine ⟨a1, a2, ?_, a4⟩
    show I9 38 27 - 1 = i32 op
    rw [a3, i32_d]
  · exact h.2.2 z
theorem MS.next {t n op : Nat} {b : Nat → Int32} {I I1 I9 : I2} {J J1 J9 : J2} {s : PT} {r : PR} {x : Int32} (h : MS t n b op I J s) (hr : MRd b n op I J r x I1 J1) (hr1 : r.1 = true) (hg : pOk n r.2.1) (hN : NFr I1 J1 I9 J9) (hT : MTk b n I9 J9 (nxt b n r.2.1)) : MS t n b op I9 J9 (nxt b n r.2.1) := by
  obtain ⟨a1, a2, a3, a4⟩ := hr.2.1 hr1
  refine ⟨(h.1.mfr hr.1).mfr hN.mfr, ?_, hT, (nxt_ok hg).1, ?_⟩
  · rw [hN.2 28 (by omega)]; exact a1
  · rw [hN.2 27 (by omega)]; exact a3
/-- two read, one behind the other -/
theorem MRd.seq {b : Nat → Int32} {n op : Nat} {I I1 I2' I9 : I2} {J J1 J2' J9 : J2} {r r3 : PR} {v w x : Int32} {c : List Int32} {g : (Nat → Int32) → Int32} (hr : MRd b n op I J r v I1 J1) (hN : NFr I1 J1 I2' J2') (h : MRd b n op I2' J2' r3 w I9 J9) (hv : r3.1 = true → w = r3.2.2.2 (mEnv I) → x = g (mEnv I)) : MRd b n op I J (r3.1, r3.2.1, c, g) x I9 J9 := by
  have h' := h.pre (hr.1.tr hN.mfr)
  exact h'.val (fun z => hv z (h'.2.1 z).2.2.2)
theorem vB_m (a b : Int32) : vBoth (-26) a b = a * b := by unfold vBoth; rw [if_neg (by decide), if_neg (by decide), if_neg (by decide), if_neg (by decide), if_neg (by decide), if_neg (by decide)]
theorem vB_s (a b : Int32) : vBoth (-25) a b = a - b := by unfold vBoth; rw [if_neg (by decide), if_neg (by decide), if_neg (by decide), if_neg (by decide), if_neg (by decide), if_pos rfl]
theorem vB_a (a b : Int32) : vBoth (-24) a b = a + b := by unfold vBoth; rw [if_neg (by decide), if_neg (by decide), if_neg (by decide), if_neg (by decide), if_pos rfl]
theorem vB_e (a b : Int32) : vBoth (-23) a b = b2i (a = b) := by unfold vBoth; rw [if_neg (by decide), if_neg (by decide), if_neg (by decide), if_pos rfl]
theorem vB_l (a b : Int32) : vBoth (-22) a b = b2i (a < b) := by unfold vBoth; rw [if_neg (by decide), if_neg (by decide), if_pos rfl]
theorem vB_n (a b : Int32) : vBoth (-21) a b = b2i (a ≠ 0 ∧ b ≠ 0) := by unfold vBoth; rw [if_neg (by decide), if_pos rfl]
theorem vB_o (a b : Int32) : vBoth (-20) a b = b2i (a ≠ 0 ∨ b ≠ 0) := by unfold vBoth; rw [if_pos rfl]
/-- a token that isn't the end has a byte -/
theorem tk_m {n m : Nat} {s : PT} (h : pOk n s) (h0 : s.1 ≠ 0) (hm : n - s.2.1 ≤ m) : 0 < m := by
  have := h.2.2.2 h0
  have := h.2.1
  omega
theorem tk_s {b : Nat → Int32} {n m : Nat} {f : PT → PR} {s : PT} (h : pOk n s) (h0 : s.1 ≠ 0) (hf : pFn n f) (hm : n - s.2.1 ≤ m + 1) : n - (f (nxt b n s)).2.1.2.1 ≤ m := by
  obtain ⟨n1, n2, n3⟩ := nxt_ok (b := b) h
  have n4 := n3 h0
  have n5 := (hf _ n1).2.1
  omega

theorem c_term7 {d d9 op t n : Nat} {b : Nat → Int32} {f : PT → PR} (hd : 4 ≤ d) (hd9 : d9 + 1 ≤ d) (hfg : pFn n f) (hf : CMd mX7_atom d9 f op t n b) : CMd mX7_term d (fun s => pBin b n f mulC 160 (f s)) op t n b := by
  intro I J s hs
  have key : ∀ m, Hid (∀ (r : PR) (v : Int32) (I1 : I2) (J1 : J2), (MRd b n op I J r v I1 J1 ∧ pGood n s.2.1 r ∧ pBin b n f mulC m r = (pBin b n f mulC 160 (f s)) ∧ n - r.2.1.2.1 ≤ m) → V mX7_term none d 58 (RP RF (MRd b n op I J (pBin b n f mulC 160 (f s)))) 5 [(0, .ref 38), (1, .int v)] [] 58 I1 J1 RF) := by
    intro m
    induction m with
    | zero =>
      unfold Hid
      intro r v I1 J1 ⟨hr, hg, hR, hm⟩
      refine V_go 2 rfl ?_
      refine cVI (mt' := mX7_isSign) rfl kX7_225 fX7_isSign rfl rfl rfl (Nat.le_of_ble_eq_true rfl) (Nat.le_of_ble_eq_true rfl) (by omega) (Nat.le_of_ble_eq_true rfl) (Nat.le_refl _) (c_isSign7 (s := r.2.1) (b := b) (n := n) (c := 42) rfl hr.t0) ?_
      refine V_if_eq rfl (fun h2 => ?_) (fun h2 => ?_)
      · skip
        refine V_go 1 rfl ?_
        refine V_iret rfl rfl rfl ?_
        rw [show (pBin b n f mulC 160 (f s)) = r from by rw [← hR]; exact pBin_stop (fun z => (b2i_eq0.mp h2) ⟨(hr.2.1 z.1).1, Decidable.byContradiction (fun y => z.2 (if_neg y))⟩)]
        exact RP.mk hr
      · skip
        have hsg := b2i_eq1.mp ((b2i_or _).resolve_left h2)
        exact absurd (tk_m hg.1 (fun z => absurd (hsg.2.symm.trans z) (by decide)) hm) (by omega)
    | succ m ih =>
      unfold Hid
      intro r v I1 J1 ⟨hr, hg, hR, hm⟩
      refine V_go 2 rfl ?_
      refine cVI (mt' := mX7_isSign) rfl kX7_225 fX7_isSign rfl rfl rfl (Nat.le_of_ble_eq_true rfl) (Nat.le_of_ble_eq_true rfl) (by omega) (Nat.le_of_ble_eq_true rfl) (Nat.le_refl _) (c_isSign7 (s := r.2.1) (b := b) (n := n) (c := 42) rfl hr.t0) ?_
      refine V_if_eq rfl (fun h2 => ?_) (fun h2 => ?_)
      · skip
        refine V_go 1 rfl ?_
        refine V_iret rfl rfl rfl ?_
        rw [show (pBin b n f mulC 160 (f s)) = r from by rw [← hR]; exact pBin_stop (fun z => (b2i_eq0.mp h2) ⟨(hr.2.1 z.1).1, Decidable.byContradiction (fun y => z.2 (if_neg y))⟩)]
        exact RP.mk hr
      · skip
        have hsg := b2i_eq1.mp ((b2i_or _).resolve_left h2)
        have hr1 : r.1 = true := hr.good hsg.1
        have hc : mulC r.2.1.1 = -26 := if_pos hsg.2
        have ht' : mulC r.2.1.1 ≠ 0 := by rw [hc]; decide
        have ht0 : r.2.1.1 ≠ 0 := fun z => ht' (by rw [z]; rfl)
        have hg' : pGood n s.2.1 ((f (nxt b n r.2.1)).1, (f (nxt b n r.2.1)).2.1, r.2.2.1 ++ (f (nxt b n r.2.1)).2.2.1 ++ [mulC r.2.1.1], fun e => vBoth (mulC r.2.1.1) (r.2.2.2 e) ((f (nxt b n r.2.1)).2.2.2 e)) := by
          have z := pBin_good (b := b) hfg (oc := mulC) rfl s.2.1 1 r hg
          rw [pBin_go hr1 ht'] at z
          exact z
        have hR' : pBin b n f mulC m ((f (nxt b n r.2.1)).1, (f (nxt b n r.2.1)).2.1, r.2.2.1 ++ (f (nxt b n r.2.1)).2.2.1 ++ [mulC r.2.1.1], fun e => vBoth (mulC r.2.1.1) (r.2.2.2 e) ((f (nxt b n r.2.1)).2.2.2 e)) = (pBin b n f mulC 160 (f s)) := by rw [← hR, pBin_go hr1 ht']
        have hm' := tk_s (b := b) hg.1 ht0 hfg hm
        refine V_go 1 rfl ?_
        refine cVW (mt' := mX7_next) rfl kX7_200 fX7_next rfl rfl rfl (Nat.le_of_ble_eq_true rfl) (Nat.le_of_ble_eq_true rfl) (by omega) (Nat.le_of_ble_eq_true rfl) (Nat.le_refl _) (c_nextT (hs.1.mfr hr.1) (hr.2.1 hr1).2.1 (fun z => absurd (hsg.2.symm.trans z) (by decide)) hg.1) ?_
        intro Ir21 Jr21 h21
        obtain ⟨hT2, hN⟩ := h21
        have hs2 := hs.next hr hr1 hg.1 hN hT2
        refine V_go 2 rfl ?_
        refine cVP (mt' := mX7_atom) rfl kX7_232 fX7_atom rfl rfl rfl (Nat.le_of_ble_eq_true rfl) (Nat.le_of_ble_eq_true rfl) (by omega) (Nat.le_of_ble_eq_true rfl) (Nat.le_refl _) (hf _ _ _ hs2) ?_
        intro r22 Ir22 Jr22 h22
        have hq3 := h22
        have hq4 : MRd b n op I J ((f (nxt b n r.2.1)).1, (f (nxt b n r.2.1)).2.1, r.2.2.1 ++ (f (nxt b n r.2.1)).2.2.1 ++ [mulC r.2.1.1], fun e => vBoth (mulC r.2.1.1) (r.2.2.2 e) ((f (nxt b n r.2.1)).2.2.2 e)) (v * r22) Ir22 Jr22 := hr.seq hN hq3 (fun _ z => by show v * r22 = vBoth (mulC r.2.1.1) (r.2.2.2 (mEnv I)) ((f (nxt b n r.2.1)).2.2.2 (mEnv I)); rw [hc, vB_m, z, (hr.2.1 hr1).2.2.2])
        refine V_go 3 rfl ?_
        exact ih.un _ _ _ _ ⟨hq4, hg', hR', hm'⟩
  refine CT_of okX7_term (Nat.le_of_ble_eq_true rfl) ?_
  show V _ _ _ _ _ _ [(0, _)] _ _ _ _ _
  refine V_go 1 rfl ?_
  refine cVP (mt' := mX7_atom) rfl kX7_232 fX7_atom rfl rfl rfl (Nat.le_of_ble_eq_true rfl) (Nat.le_of_ble_eq_true rfl) (by omega) (Nat.le_of_ble_eq_true rfl) (Nat.le_refl _) (hf _ _ _ hs) ?_
  intro r1 Ir1 Jr1 h1
  have hq1 := h1
  refine V_go 1 rfl ?_
  exact (key 160).un _ _ _ _ ⟨hq1, hfg s hs.2.2.2.1, rfl, by have := hs.1.2.1; omega⟩
theorem c_both7 {d d9 op t n : Nat} {b : Nat → Int32} {f : PT → PR} (hd : 4 ≤ d) (hd9 : d9 + 1 ≤ d) (hfg : pFn n f) (hf : CMd mX7_not d9 f op t n b) : CMd mX7_both d (fun s => pBin b n f andC 160 (f s)) op t n b := by
  intro I J s hs
  have key : ∀ m, Hid (∀ (r : PR) (v : Int32) (I1 : I2) (J1 : J2), (MRd b n op I J r v I1 J1 ∧ pGood n s.2.1 r ∧ pBin b n f andC m r = (pBin b n f andC 160 (f s)) ∧ n - r.2.1.2.1 ≤ m) → V mX7_both none d 58 (RP RF (MRd b n op I J (pBin b n f andC 160 (f s)))) 5 [(0, .ref 38), (1, .int v)] [] 58 I1 J1 RF) := by
    intro m
    induction m with
    | zero =>
      unfold Hid
      intro r v I1 J1 ⟨hr, hg, hR, hm⟩
      refine V_go 9 rfl ?_
      refine cVI (mt' := mX7_isWord) rfl kX7_203 fX7_isWord rfl rfl rfl (Nat.le_of_ble_eq_true rfl) (Nat.le_of_ble_eq_true rfl) (by omega) (Nat.le_of_ble_eq_true rfl) (Nat.le_refl _) (c_isWord (k := 10) (s := r.2.1) (by omega) (hs.1.mfr hr.1) hg.1 hr.t0) ?_
      refine V_if_eq rfl (fun h2 => ?_) (fun h2 => ?_)
      · skip
        refine V_go 1 rfl ?_
        refine V_iret rfl rfl rfl ?_
        rw [show (pBin b n f andC 160 (f s)) = r from by rw [← hR]; exact pBin_stop (fun z => (b2i_eq0.mp h2) ⟨(hr.2.1 z.1).1, Decidable.byContradiction (fun y => z.2 (if_neg y))⟩)]
        exact RP.mk hr
      · skip
        have hsg := b2i_eq1.mp ((b2i_or _).resolve_left h2)
        exact absurd (tk_m hg.1 (fun z => absurd (hsg.2.symm.trans z) (by decide)) hm) (by omega)
    | succ m ih =>
      unfold Hid
      intro r v I1 J1 ⟨hr, hg, hR, hm⟩
      refine V_go 9 rfl ?_
      refine cVI (mt' := mX7_isWord) rfl kX7_203 fX7_isWord rfl rfl rfl (Nat.le_of_ble_eq_true rfl) (Nat.le_of_ble_eq_true rfl) (by omega) (Nat.le_of_ble_eq_true rfl) (Nat.le_refl _) (c_isWord (k := 10) (s := r.2.1) (by omega) (hs.1.mfr hr.1) hg.1 hr.t0) ?_
      refine V_if_eq rfl (fun h2 => ?_) (fun h2 => ?_)
      · skip
        refine V_go 1 rfl ?_
        refine V_iret rfl rfl rfl ?_
        rw [show (pBin b n f andC 160 (f s)) = r from by rw [← hR]; exact pBin_stop (fun z => (b2i_eq0.mp h2) ⟨(hr.2.1 z.1).1, Decidable.byContradiction (fun y => z.2 (if_neg y))⟩)]
        exact RP.mk hr
      · skip
        have hsg := b2i_eq1.mp ((b2i_or _).resolve_left h2)
        have hr1 : r.1 = true := hr.good hsg.1
        have hc : andC r.2.1.1 = -21 := if_pos hsg.2
        have ht' : andC r.2.1.1 ≠ 0 := by rw [hc]; decide
        have ht0 : r.2.1.1 ≠ 0 := fun z => ht' (by rw [z]; rfl)
        have hg' : pGood n s.2.1 ((f (nxt b n r.2.1)).1, (f (nxt b n r.2.1)).2.1, r.2.2.1 ++ (f (nxt b n r.2.1)).2.2.1 ++ [andC r.2.1.1], fun e => vBoth (andC r.2.1.1) (r.2.2.2 e) ((f (nxt b n r.2.1)).2.2.2 e)) := by
          have z := pBin_good (b := b) hfg (oc := andC) rfl s.2.1 1 r hg
          rw [pBin_go hr1 ht'] at z
          exact z
        have hR' : pBin b n f andC m ((f (nxt b n r.2.1)).1, (f (nxt b n r.2.1)).2.1, r.2.2.1 ++ (f (nxt b n r.2.1)).2.2.1 ++ [andC r.2.1.1], fun e => vBoth (andC r.2.1.1) (r.2.2.2 e) ((f (nxt b n r.2.1)).2.2.2 e)) = (pBin b n f andC 160 (f s)) := by rw [← hR, pBin_go hr1 ht']
        have hm' := tk_s (b := b) hg.1 ht0 hfg hm
        refine V_go 1 rfl ?_
        refine cVW (mt' := mX7_next) rfl kX7_200 fX7_next rfl rfl rfl (Nat.le_of_ble_eq_true rfl) (Nat.le_of_ble_eq_true rfl) (by omega) (Nat.le_of_ble_eq_true rfl) (Nat.le_refl _) (c_nextT (hs.1.mfr hr.1) (hr.2.1 hr1).2.1 (fun z => absurd (hsg.2.symm.trans z) (by decide)) hg.1) ?_
        intro Ir21 Jr21 h21
        obtain ⟨hT2, hN⟩ := h21
        have hs2 := hs.next hr hr1 hg.1 hN hT2
        refine V_go 1 rfl ?_
        refine cVP (mt' := mX7_not) rfl kX7_246 fX7_not rfl rfl rfl (Nat.le_of_ble_eq_true rfl) (Nat.le_of_ble_eq_true rfl) (by omega) (Nat.le_of_ble_eq_true rfl) (Nat.le_refl _) (hf _ _ _ hs2) ?_
        intro r22 Ir22 Jr22 h22
        have hq3 := h22
        have hq4 : ∀ x : Int32, x = b2i (v ≠ 0 ∧ r22 ≠ 0) → MRd b n op I J ((f (nxt b n r.2.1)).1, (f (nxt b n r.2.1)).2.1, r.2.2.1 ++ (f (nxt b n r.2.1)).2.2.1 ++ [andC r.2.1.1], fun e => vBoth (andC r.2.1.1) (r.2.2.2 e) ((f (nxt b n r.2.1)).2.2.2 e)) x Ir22 Jr22 := fun x hx => hr.seq hN hq3 (fun _ z => by
          show x = vBoth (andC r.2.1.1) (r.2.2.2 (mEnv I)) ((f (nxt b n r.2.1)).2.2.2 (mEnv I))
          rw [hc, hx, vB_n, z, (hr.2.1 hr1).2.2.2])
        refine V_go 2 rfl ?_
        refine V_if_eq rfl (fun h23 => ?_) (fun h23 => ?_)
        · skip
          refine V_go 3 rfl ?_
          refine V.st (L' := [(0, .ref 38), (1, _)]) (ih.un _ _ _ _ ⟨hq4 _ (b2i_0 (fun z => z.1 h23)).symm, hg', hR', hm'⟩) rfl (by simp)
        · skip
          refine V_go 1 rfl ?_
          refine V_if_eq rfl (fun h24 => ?_) (fun h24 => ?_)
          · skip
            refine V_go 3 rfl ?_
            refine V.st (L' := [(0, .ref 38), (1, _)]) (ih.un _ _ _ _ ⟨hq4 _ (b2i_0 (fun z => z.2 h24)).symm, hg', hR', hm'⟩) rfl (by simp)
          · skip
            refine V_go 4 rfl ?_
            refine V.st (L' := [(0, .ref 38), (1, _)]) (ih.un _ _ _ _ ⟨hq4 _ (b2i_1 ⟨by assumption, h24⟩).symm, hg', hR', hm'⟩) rfl (by simp)
  refine CT_of okX7_both (Nat.le_of_ble_eq_true rfl) ?_
  show V _ _ _ _ _ _ [(0, _)] _ _ _ _ _
  refine V_go 1 rfl ?_
  refine cVP (mt' := mX7_not) rfl kX7_246 fX7_not rfl rfl rfl (Nat.le_of_ble_eq_true rfl) (Nat.le_of_ble_eq_true rfl) (by omega) (Nat.le_of_ble_eq_true rfl) (Nat.le_refl _) (hf _ _ _ hs) ?_
  intro r1 Ir1 Jr1 h1
  have hq1 := h1
  refine V_go 1 rfl ?_
  exact (key 160).un _ _ _ _ ⟨hq1, hfg s hs.2.2.2.1, rfl, by have := hs.1.2.1; omega⟩
theorem c_either7 {d d9 op t n : Nat} {b : Nat → Int32} {f : PT → PR} (hd : 4 ≤ d) (hd9 : d9 + 1 ≤ d) (hfg : pFn n f) (hf : CMd mX7_both d9 f op t n b) : CMd mX7_either d (fun s => pBin b n f orC 160 (f s)) op t n b := by
  intro I J s hs
  have key : ∀ m, Hid (∀ (r : PR) (v : Int32) (I1 : I2) (J1 : J2), (MRd b n op I J r v I1 J1 ∧ pGood n s.2.1 r ∧ pBin b n f orC m r = (pBin b n f orC 160 (f s)) ∧ n - r.2.1.2.1 ≤ m) → V mX7_either none d 58 (RP RF (MRd b n op I J (pBin b n f orC 160 (f s)))) 5 [(0, .ref 38), (1, .int v)] [] 58 I1 J1 RF) := by
    intro m
    induction m with
    | zero =>
      unfold Hid
      intro r v I1 J1 ⟨hr, hg, hR, hm⟩
      refine V_go 9 rfl ?_
      refine cVI (mt' := mX7_isWord) rfl kX7_203 fX7_isWord rfl rfl rfl (Nat.le_of_ble_eq_true rfl) (Nat.le_of_ble_eq_true rfl) (by omega) (Nat.le_of_ble_eq_true rfl) (Nat.le_refl _) (c_isWord (k := 9) (s := r.2.1) (by omega) (hs.1.mfr hr.1) hg.1 hr.t0) ?_
      refine V_if_eq rfl (fun h2 => ?_) (fun h2 => ?_)
      · skip
        refine V_go 1 rfl ?_
        refine V_iret rfl rfl rfl ?_
        rw [show (pBin b n f orC 160 (f s)) = r from by rw [← hR]; exact pBin_stop (fun z => (b2i_eq0.mp h2) ⟨(hr.2.1 z.1).1, Decidable.byContradiction (fun y => z.2 (if_neg y))⟩)]
        exact RP.mk hr
      · skip
        have hsg := b2i_eq1.mp ((b2i_or _).resolve_left h2)
        exact absurd (tk_m hg.1 (fun z => absurd (hsg.2.symm.trans z) (by decide)) hm) (by omega)
    | succ m ih =>
      unfold Hid
      intro r v I1 J1 ⟨hr, hg, hR, hm⟩
      refine V_go 9 rfl ?_
      refine cVI (mt' := mX7_isWord) rfl kX7_203 fX7_isWord rfl rfl rfl (Nat.le_of_ble_eq_true rfl) (Nat.le_of_ble_eq_true rfl) (by omega) (Nat.le_of_ble_eq_true rfl) (Nat.le_refl _) (c_isWord (k := 9) (s := r.2.1) (by omega) (hs.1.mfr hr.1) hg.1 hr.t0) ?_
      refine V_if_eq rfl (fun h2 => ?_) (fun h2 => ?_)
      · skip
        refine V_go 1 rfl ?_
        refine V_iret rfl rfl rfl ?_
        rw [show (pBin b n f orC 160 (f s)) = r from by rw [← hR]; exact pBin_stop (fun z => (b2i_eq0.mp h2) ⟨(hr.2.1 z.1).1, Decidable.byContradiction (fun y => z.2 (if_neg y))⟩)]
        exact RP.mk hr
      · skip
        have hsg := b2i_eq1.mp ((b2i_or _).resolve_left h2)
        have hr1 : r.1 = true := hr.good hsg.1
        have hc : orC r.2.1.1 = -20 := if_pos hsg.2
        have ht' : orC r.2.1.1 ≠ 0 := by rw [hc]; decide
        have ht0 : r.2.1.1 ≠ 0 := fun z => ht' (by rw [z]; rfl)
        have hg' : pGood n s.2.1 ((f (nxt b n r.2.1)).1, (f (nxt b n r.2.1)).2.1, r.2.2.1 ++ (f (nxt b n r.2.1)).2.2.1 ++ [orC r.2.1.1], fun e => vBoth (orC r.2.1.1) (r.2.2.2 e) ((f (nxt b n r.2.1)).2.2.2 e)) := by
          have z := pBin_good (b := b) hfg (oc := orC) rfl s.2.1 1 r hg
          rw [pBin_go hr1 ht'] at z
          exact z
        have hR' : pBin b n f orC m ((f (nxt b n r.2.1)).1, (f (nxt b n r.2.1)).2.1, r.2.2.1 ++ (f (nxt b n r.2.1)).2.2.1 ++ [orC r.2.1.1], fun e => vBoth (orC r.2.1.1) (r.2.2.2 e) ((f (nxt b n r.2.1)).2.2.2 e)) = (pBin b n f orC 160 (f s)) := by rw [← hR, pBin_go hr1 ht']
        have hm' := tk_s (b := b) hg.1 ht0 hfg hm
        refine V_go 1 rfl ?_
        refine cVW (mt' := mX7_next) rfl kX7_200 fX7_next rfl rfl rfl (Nat.le_of_ble_eq_true rfl) (Nat.le_of_ble_eq_true rfl) (by omega) (Nat.le_of_ble_eq_true rfl) (Nat.le_refl _) (c_nextT (hs.1.mfr hr.1) (hr.2.1 hr1).2.1 (fun z => absurd (hsg.2.symm.trans z) (by decide)) hg.1) ?_
        intro Ir21 Jr21 h21
        obtain ⟨hT2, hN⟩ := h21
        have hs2 := hs.next hr hr1 hg.1 hN hT2
        refine V_go 1 rfl ?_
        refine cVP (mt' := mX7_both) rfl kX7_254 fX7_both rfl rfl rfl (Nat.le_of_ble_eq_true rfl) (Nat.le_of_ble_eq_true rfl) (by omega) (Nat.le_of_ble_eq_true rfl) (Nat.le_refl _) (hf _ _ _ hs2) ?_
        intro r22 Ir22 Jr22 h22
        have hq3 := h22
        have hq4 : ∀ x : Int32, x = b2i (v ≠ 0 ∨ r22 ≠ 0) → MRd b n op I J ((f (nxt b n r.2.1)).1, (f (nxt b n r.2.1)).2.1, r.2.2.1 ++ (f (nxt b n r.2.1)).2.2.1 ++ [orC r.2.1.1], fun e => vBoth (orC r.2.1.1) (r.2.2.2 e) ((f (nxt b n r.2.1)).2.2.2 e)) x Ir22 Jr22 := fun x hx => hr.seq hN hq3 (fun _ z => by
          show x = vBoth (orC r.2.1.1) (r.2.2.2 (mEnv I)) ((f (nxt b n r.2.1)).2.2.2 (mEnv I))
          rw [hc, hx, vB_o, z, (hr.2.1 hr1).2.2.2])
        refine V_go 2 rfl ?_
        refine V_if_ne rfl (fun h23 => ?_) (fun h23 => ?_)
        · skip
          refine V_go 4 rfl ?_
          refine V.st (L' := [(0, .ref 38), (1, _)]) (ih.un _ _ _ _ ⟨hq4 _ (b2i_1 (Or.inl h23)).symm, hg', hR', hm'⟩) rfl (by simp)
        · skip
          refine V_go 1 rfl ?_
          refine V_if_eq rfl (fun h24 => ?_) (fun h24 => ?_)
          · skip
            refine V_go 3 rfl ?_
            refine V.st (L' := [(0, .ref 38), (1, _)]) (ih.un _ _ _ _ ⟨hq4 _ (b2i_0 (fun z => z.elim (fun y => y (by assumption)) (fun y => y h24))).symm, hg', hR', hm'⟩) rfl (by simp)
          · skip
            refine V_go 4 rfl ?_
            refine V.st (L' := [(0, .ref 38), (1, _)]) (ih.un _ _ _ _ ⟨hq4 _ (b2i_1 (Or.inr h24)).symm, hg', hR', hm'⟩) rfl (by simp)
  refine CT_of okX7_either (Nat.le_of_ble_eq_true rfl) ?_
  show V _ _ _ _ _ _ [(0, _)] _ _ _ _ _
  refine V_go 1 rfl ?_
  refine cVP (mt' := mX7_both) rfl kX7_254 fX7_both rfl rfl rfl (Nat.le_of_ble_eq_true rfl) (Nat.le_of_ble_eq_true rfl) (by omega) (Nat.le_of_ble_eq_true rfl) (Nat.le_refl _) (hf _ _ _ hs) ?_
  intro r1 Ir1 Jr1 h1
  have hq1 := h1
  refine V_go 1 rfl ?_
  exact (key 160).un _ _ _ _ ⟨hq1, hfg s hs.2.2.2.1, rfl, by have := hs.1.2.1; omega⟩
theorem MTk.sgn {b : Nat → Int32} {n : Nat} {I : I2} {J : J2} {s : PT} (h : MTk b n I J s) (h1 : isSi s.1 = true) : J 38 26 = s.1.toInt64 := by
  rcases h.2 with z | z | z | z | z
  · exact absurd h1 (by rw [z.2.1]; decide)
  · exact absurd h1 (by rw [z.2.2.1]; exact wTok_ns _)
  · exact absurd h1 (by rw [z.2.1]; decide)
  · exact z.2.2.2
  · exact absurd h1 (by rw [z.2]; decide)
theorem c_added7 {d d9 op t n : Nat} {b : Nat → Int32} {f : PT → PR} (hd : 4 ≤ d) (hd9 : d9 + 1 ≤ d) (hfg : pFn n f) (hf : CMd mX7_term d9 f op t n b) : CMd mX7_added d (fun s => pBin b n f sumC 160 (f s)) op t n b := by
  intro I J s hs
  have key : ∀ m, Hid (∀ (r : PR) (v : Int32) (I1 : I2) (J1 : J2), (MRd b n op I J r v I1 J1 ∧ pGood n s.2.1 r ∧ pBin b n f sumC m r = (pBin b n f sumC 160 (f s)) ∧ n - r.2.1.2.1 ≤ m) → V mX7_added none d 58 (RP RF (MRd b n op I J (pBin b n f sumC 160 (f s)))) 5 [(0, .ref 38), (1, .int v)] [] 58 I1 J1 RF) := by
    intro m
    induction m with
    | zero =>
      unfold Hid
      intro r v I1 J1 ⟨hr, hg, hR, hm⟩
      refine V_go 2 rfl ?_
      refine cVI (mt' := mX7_isSign) rfl kX7_225 fX7_isSign rfl rfl rfl (Nat.le_of_ble_eq_true rfl) (Nat.le_of_ble_eq_true rfl) (by omega) (Nat.le_of_ble_eq_true rfl) (Nat.le_refl _) (c_isSign7 (s := r.2.1) (b := b) (n := n) (c := 43) rfl hr.t0) ?_
      refine V_if_ne rfl (fun h2 => ?_) (fun h2 => ?_)
      · skip
        have hsg := b2i_eq1.mp ((b2i_or _).resolve_left h2)
        exact absurd (tk_m hg.1 (fun z => absurd (hsg.2.symm.trans z) (by decide)) hm) (by omega)
      · skip
        have h43 := h2
        refine V_go 2 rfl ?_
        refine cVI (mt' := mX7_isSign) rfl kX7_225 fX7_isSign rfl rfl rfl (Nat.le_of_ble_eq_true rfl) (Nat.le_of_ble_eq_true rfl) (by omega) (Nat.le_of_ble_eq_true rfl) (Nat.le_refl _) (c_isSign7 (s := r.2.1) (b := b) (n := n) (c := 45) rfl hr.t0) ?_
        refine V_if_eq rfl (fun h22 => ?_) (fun h22 => ?_)
        · skip
          refine V_go 1 rfl ?_
          refine V_iret rfl rfl rfl ?_
          rw [show (pBin b n f sumC 160 (f s)) = r from by rw [← hR]; exact pBin_stop (fun z => z.2 (by unfold sumC; rw [if_neg (fun y => (b2i_eq0.mp h43) ⟨(hr.2.1 z.1).1, y⟩), if_neg (fun y => (b2i_eq0.mp h22) ⟨(hr.2.1 z.1).1, y⟩)]))]
          exact RP.mk hr
        · skip
          have hsg := b2i_eq1.mp ((b2i_or _).resolve_left h22)
          exact absurd (tk_m hg.1 (fun z => absurd (hsg.2.symm.trans z) (by decide)) hm) (by omega)
    | succ m ih =>
      unfold Hid
      intro r v I1 J1 ⟨hr, hg, hR, hm⟩
      refine V_go 2 rfl ?_
      refine cVI (mt' := mX7_isSign) rfl kX7_225 fX7_isSign rfl rfl rfl (Nat.le_of_ble_eq_true rfl) (Nat.le_of_ble_eq_true rfl) (by omega) (Nat.le_of_ble_eq_true rfl) (Nat.le_refl _) (c_isSign7 (s := r.2.1) (b := b) (n := n) (c := 43) rfl hr.t0) ?_
      refine V_if_ne rfl (fun h2 => ?_) (fun h2 => ?_)
      · skip
        have hsg := b2i_eq1.mp ((b2i_or _).resolve_left h2)
        have hr1 : r.1 = true := hr.good hsg.1
        have hne1 : r.2.1.1 ≠ 1 := fun z => absurd (hsg.2.symm.trans z) (by decide)
        have hc : sumC r.2.1.1 = -24 := if_pos hsg.2
        have ht' : sumC r.2.1.1 ≠ 0 := by rw [hc]; decide
        have ht0 : r.2.1.1 ≠ 0 := fun z => ht' (by rw [z]; rfl)
        have hg' : pGood n s.2.1 ((f (nxt b n r.2.1)).1, (f (nxt b n r.2.1)).2.1, r.2.2.1 ++ (f (nxt b n r.2.1)).2.2.1 ++ [sumC r.2.1.1], fun e => vBoth (sumC r.2.1.1) (r.2.2.2 e) ((f (nxt b n r.2.1)).2.2.2 e)) := by
          have z := pBin_good (b := b) hfg (oc := sumC) rfl s.2.1 1 r hg
          rw [pBin_go hr1 ht'] at z
          exact z
        have hR' : pBin b n f sumC m ((f (nxt b n r.2.1)).1, (f (nxt b n r.2.1)).2.1, r.2.2.1 ++ (f (nxt b n r.2.1)).2.2.1 ++ [sumC r.2.1.1], fun e => vBoth (sumC r.2.1.1) (r.2.2.2 e) ((f (nxt b n r.2.1)).2.2.2 e)) = (pBin b n f sumC 160 (f s)) := by rw [← hR, pBin_go hr1 ht']
        have hm' := tk_s (b := b) hg.1 ht0 hfg hm
        have hwr : J1 38 26 = 43 := ((hr.2.1 hr1).2.1.sgn (by rw [hsg.2]; decide)).trans (by rw [hsg.2]; decide +kernel)
        refine V_go 4 rfl ?_
        refine V_if_ne rfl (fun h31 => ?_) (fun h31 => ?_)
        · skip
          exact absurd ((lgc_eq _ _).mpr hwr) h31
        · skip
          refine V_go 2 rfl ?_
          refine V_go 2 rfl ?_
          refine cVW (mt' := mX7_next) rfl kX7_200 fX7_next rfl rfl rfl (Nat.le_of_ble_eq_true rfl) (Nat.le_of_ble_eq_true rfl) (by omega) (Nat.le_of_ble_eq_true rfl) (Nat.le_refl _) (c_nextT (hs.1.mfr hr.1) (hr.2.1 hr1).2.1 hne1 hg.1) ?_
          intro Ir41 Jr41 h41
          obtain ⟨hT2, hN⟩ := h41
          have hs2 := hs.next hr hr1 hg.1 hN hT2
          refine V_go 1 rfl ?_
          refine cVP (mt' := mX7_term) rfl kX7_241 fX7_term rfl rfl rfl (Nat.le_of_ble_eq_true rfl) (Nat.le_of_ble_eq_true rfl) (by omega) (Nat.le_of_ble_eq_true rfl) (Nat.le_refl _) (hf _ _ _ hs2) ?_
          intro r42 Ir42 Jr42 h42
          have hq3 := h42
          have hq4 : ∀ x : Int32, x = v + r42 → MRd b n op I J ((f (nxt b n r.2.1)).1, (f (nxt b n r.2.1)).2.1, r.2.2.1 ++ (f (nxt b n r.2.1)).2.2.1 ++ [sumC r.2.1.1], fun e => vBoth (sumC r.2.1.1) (r.2.2.2 e) ((f (nxt b n r.2.1)).2.2.2 e)) x Ir42 Jr42 := fun x hx => hr.seq hN hq3 (fun _ z => by
            show x = vBoth (sumC r.2.1.1) (r.2.2.2 (mEnv I)) ((f (nxt b n r.2.1)).2.2.2 (mEnv I))
            rw [hc, hx, vB_a, z, (hr.2.1 hr1).2.2.2])
          refine V_go 2 rfl ?_
          refine V_if_eq rfl (fun h43 => ?_) (fun h43 => ?_)
          · skip
            exact absurd h43 (by decide)
          · skip
            refine V_go 6 rfl ?_
            refine V.st (L' := [(0, .ref 38), (1, _)]) (ih.un _ _ _ _ ⟨hq4 _ rfl, hg', hR', hm'⟩) rfl (by simp)
      · skip
        have h43 := h2
        refine V_go 2 rfl ?_
        refine cVI (mt' := mX7_isSign) rfl kX7_225 fX7_isSign rfl rfl rfl (Nat.le_of_ble_eq_true rfl) (Nat.le_of_ble_eq_true rfl) (by omega) (Nat.le_of_ble_eq_true rfl) (Nat.le_refl _) (c_isSign7 (s := r.2.1) (b := b) (n := n) (c := 45) rfl hr.t0) ?_
        refine V_if_eq rfl (fun h22 => ?_) (fun h22 => ?_)
        · skip
          refine V_go 1 rfl ?_
          refine V_iret rfl rfl rfl ?_
          rw [show (pBin b n f sumC 160 (f s)) = r from by rw [← hR]; exact pBin_stop (fun z => z.2 (by unfold sumC; rw [if_neg (fun y => (b2i_eq0.mp h43) ⟨(hr.2.1 z.1).1, y⟩), if_neg (fun y => (b2i_eq0.mp h22) ⟨(hr.2.1 z.1).1, y⟩)]))]
          exact RP.mk hr
        · skip
          have hsg := b2i_eq1.mp ((b2i_or _).resolve_left h22)
          have hr1 : r.1 = true := hr.good hsg.1
          have hne1 : r.2.1.1 ≠ 1 := fun z => absurd (hsg.2.symm.trans z) (by decide)
          have hc : sumC r.2.1.1 = -25 := by unfold sumC; rw [if_neg (by rw [hsg.2]; decide), if_pos hsg.2]
          have ht' : sumC r.2.1.1 ≠ 0 := by rw [hc]; decide
          have ht0 : r.2.1.1 ≠ 0 := fun z => ht' (by rw [z]; rfl)
          have hg' : pGood n s.2.1 ((f (nxt b n r.2.1)).1, (f (nxt b n r.2.1)).2.1, r.2.2.1 ++ (f (nxt b n r.2.1)).2.2.1 ++ [sumC r.2.1.1], fun e => vBoth (sumC r.2.1.1) (r.2.2.2 e) ((f (nxt b n r.2.1)).2.2.2 e)) := by
            have z := pBin_good (b := b) hfg (oc := sumC) rfl s.2.1 1 r hg
            rw [pBin_go hr1 ht'] at z
            exact z
          have hR' : pBin b n f sumC m ((f (nxt b n r.2.1)).1, (f (nxt b n r.2.1)).2.1, r.2.2.1 ++ (f (nxt b n r.2.1)).2.2.1 ++ [sumC r.2.1.1], fun e => vBoth (sumC r.2.1.1) (r.2.2.2 e) ((f (nxt b n r.2.1)).2.2.2 e)) = (pBin b n f sumC 160 (f s)) := by rw [← hR, pBin_go hr1 ht']
          have hm' := tk_s (b := b) hg.1 ht0 hfg hm
          have hwr : J1 38 26 = 45 := ((hr.2.1 hr1).2.1.sgn (by rw [hsg.2]; decide)).trans (by rw [hsg.2]; decide +kernel)
          refine V_go 4 rfl ?_
          refine V_if_ne rfl (fun h61 => ?_) (fun h61 => ?_)
          · skip
            refine V_go 1 rfl ?_
            refine V_go 2 rfl ?_
            refine cVW (mt' := mX7_next) rfl kX7_200 fX7_next rfl rfl rfl (Nat.le_of_ble_eq_true rfl) (Nat.le_of_ble_eq_true rfl) (by omega) (Nat.le_of_ble_eq_true rfl) (Nat.le_refl _) (c_nextT (hs.1.mfr hr.1) (hr.2.1 hr1).2.1 hne1 hg.1) ?_
            intro Ir71 Jr71 h71
            obtain ⟨hT2, hN⟩ := h71
            have hs2 := hs.next hr hr1 hg.1 hN hT2
            refine V_go 1 rfl ?_
            refine cVP (mt' := mX7_term) rfl kX7_241 fX7_term rfl rfl rfl (Nat.le_of_ble_eq_true rfl) (Nat.le_of_ble_eq_true rfl) (by omega) (Nat.le_of_ble_eq_true rfl) (Nat.le_refl _) (hf _ _ _ hs2) ?_
            intro r72 Ir72 Jr72 h72
            have hq3 := h72
            have hq4 : ∀ x : Int32, x = v - r72 → MRd b n op I J ((f (nxt b n r.2.1)).1, (f (nxt b n r.2.1)).2.1, r.2.2.1 ++ (f (nxt b n r.2.1)).2.2.1 ++ [sumC r.2.1.1], fun e => vBoth (sumC r.2.1.1) (r.2.2.2 e) ((f (nxt b n r.2.1)).2.2.2 e)) x Ir72 Jr72 := fun x hx => hr.seq hN hq3 (fun _ z => by
              show x = vBoth (sumC r.2.1.1) (r.2.2.2 (mEnv I)) ((f (nxt b n r.2.1)).2.2.2 (mEnv I))
              rw [hc, hx, vB_s, z, (hr.2.1 hr1).2.2.2])
            refine V_go 2 rfl ?_
            refine V_if_eq rfl (fun h73 => ?_) (fun h73 => ?_)
            · skip
              refine V_go 5 rfl ?_
              refine V.st (L' := [(0, .ref 38), (1, _)]) (ih.un _ _ _ _ ⟨hq4 _ rfl, hg', hR', hm'⟩) rfl (by simp)
            · skip
              exact absurd rfl h73
          · skip
            exact absurd (hwr.symm.trans ((lgc_eq _ _).mp h61)) (by decide)
  refine CT_of okX7_added (Nat.le_of_ble_eq_true rfl) ?_
  show V _ _ _ _ _ _ [(0, _)] _ _ _ _ _
  refine V_go 1 rfl ?_
  refine cVP (mt' := mX7_term) rfl kX7_241 fX7_term rfl rfl rfl (Nat.le_of_ble_eq_true rfl) (Nat.le_of_ble_eq_true rfl) (by omega) (Nat.le_of_ble_eq_true rfl) (Nat.le_refl _) (hf _ _ _ hs) ?_
  intro r1 Ir1 Jr1 h1
  have hq1 := h1
  refine V_go 1 rfl ?_
  exact (key 160).un _ _ _ _ ⟨hq1, hfg s hs.2.2.2.1, rfl, by have := hs.1.2.1; omega⟩
