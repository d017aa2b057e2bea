/-- where a reading begins: the token ahead, how much is laid -/
def RS (t u n : Nat) (I : I2) (s : PT) : Prop := RT I n s ∧ pOk n s ∧ I 1 0 = i32 t ∧ t < 6 ∧ I 1 1 = i32 u ∧ u ≤ 160
def RFr (t u : Nat) (I I1 : I2) : Prop := (∀ o, o ≠ 1 → o ≠ 2 → o ≠ 5 → I1 o = I o) ∧ (∀ j, j ≠ 1 → I1 1 j = I 1 j) ∧ (∀ j, j < 160 * t + u → I1 2 j = I 2 j) ∧ I1 5 2 = I 5 2
theorem RFr.rf {t u : Nat} {I : I2} : RFr t u I I := ⟨fun _ _ _ _ => rfl, fun _ _ => rfl, fun _ _ => rfl, rfl⟩
theorem RFr.tr {t u u1 : Nat} {I I1 I2' : I2} (h : RFr t u I I1) (h' : RFr t u1 I1 I2') (hu : u ≤ u1) : RFr t u I I2' := ⟨fun o a b c => (h'.1 o a b c).trans (h.1 o a b c), fun j hj => (h'.2.1 j hj).trans (h.2.1 j hj), fun j hj => (h'.2.2.1 j (by omega)).trans (h.2.2.1 j hj), h'.2.2.2.trans h.2.2.2⟩
theorem R5.rfr {t u : Nat} {I I1 : I2} (h : R5 I I1) : RFr t u I I1 := ⟨fun o _ _ c => h.1 o c, fun j _ => by rw [h.1 1 (by omega)], fun j _ => by rw [h.1 2 (by omega)], h.2⟩
/-- what has been read -/
def RdP (t u n : Nat) (I : I2) (J : J2) (r : PR) : Int32 → I2 → J2 → Prop := fun x I9 J9 => J9 = J ∧ x = b2i (r.1 = true) ∧ RT I9 n r.2.1 ∧ RFr t u I I9 ∧ ∃ u9, u ≤ u9 ∧ u9 ≤ 160 ∧ I9 1 1 = i32 u9 ∧ (r.1 = true → u9 = u + r.2.2.1.length ∧ ∀ j, j < r.2.2.1.length → I9 2 (160 * t + u + j) = r.2.2.1.getD j 0)
def CRd (mt : MT) (d : Nat) (f : PT → PR) (op n : Nat) (b : Nat → Int32) : Prop := ∀ (t u : Nat) (I : I2) (J : J2) (s : PT), RS t u n I s → I 6 = b → u ≤ s.2.1 → CT mt d 58 58 [.ref 5, .int (i32 op)] I J RF (RP RF (RdP t u n I J (f s)))
theorem RdP.none {t u n : Nat} {I : I2} {J : J2} {s : PT} (h : RS t u n I s) : RdP t u n I J (pNone s) 0 I J := ⟨rfl, (b2i_0 Bool.false_ne_true).symm, h.1, RFr.rf, u, Nat.le_refl _, h.2.2.2.2.2, h.2.2.2.2.1, fun q => by cases q⟩
theorem RdP.fail {t u n : Nat} {I I9 : I2} {J J9 : J2} {r : PR} {x : Int32} {c : List Int32} {v : (Nat → Int32) → Int32} (h : RdP t u n I J r x I9 J9) : RdP t u n I J (false, r.2.1, c, v) 0 I9 J9 := by
  obtain ⟨h1, h2, h3, h4, u9, h5, h6, h7, h8⟩ := h
  exact ⟨h1, (b2i_0 Bool.false_ne_true).symm, h3, h4, u9, h5, h6, h7, fun q => by cases q⟩
theorem RdP.pre {t u n : Nat} {I I1 I9 : I2} {J J9 : J2} {r : PR} {x : Int32} (h : RdP t u n I1 J r x I9 J9) (q : R5 I I1) : RdP t u n I J r x I9 J9 := by
  obtain ⟨h1, h2, h3, h4, h5⟩ := h
  exact ⟨h1, h2, h3, q.rfr.tr h4 (Nat.le_refl _), h5⟩
/-- and the token behind it -/
theorem RdP.post {t u n : Nat} {I I1 I9 : I2} {J : J2} {r : PR} {x : Int32} {s' : PT} {v : (Nat → Int32) → Int32} (h : RdP t u n I J r x I1 J) (hr : r.1 = true) (q : R5 I1 I9) (hT : RT I9 n s') : RdP t u n I J (true, s', r.2.2.1, v) 1 I9 J := by
  obtain ⟨h1, h2, h3, h4, u9, h5, h6, h7, h8⟩ := h
  refine ⟨rfl, (b2i_1 rfl).symm, hT, h4.tr q.rfr (Nat.le_refl _), u9, h5, h6, ?_, fun _ => ?_⟩
  · rw [q.1 1 (by omega)]; exact h7
  · rw [q.1 2 (by omega)]; exact h8 hr
theorem RdP.seq {t u n : Nat} {I I1 I2' I9 : I2} {J J9 : J2} {r r3 : PR} {w x : Int32} {v : (Nat → Int32) → Int32} (h : RdP t u n I J r w I1 J) (hr : r.1 = true) (q : R5 I1 I2') (h' : RdP t (u + r.2.2.1.length) n I2' J r3 x I9 J9) : RdP t u n I J (r3.1, r3.2.1, r.2.2.1 ++ r3.2.2.1, v) x I9 J9 := by
  obtain ⟨h1, h2, h3, h4, u9, h5, h6, h7, h8⟩ := h
  obtain ⟨k1, k2, k3, k4, k9, k5, k6, k7, k8⟩ := h'
  obtain ⟨h81, h82⟩ := h8 hr
  refine ⟨k1, k2, k3, h4.tr (q.rfr.tr k4 (Nat.le_refl _)) (by omega), k9, by omega, k6, k7, fun hq => ?_⟩
  obtain ⟨k81, k82⟩ := k8 hq
  refine ⟨by rw [k81, List.length_append, Nat.add_assoc], fun j hj => ?_⟩
  show I9 2 (160 * t + u + j) = (r.2.2.1 ++ r3.2.2.1).getD j 0
  have hj' : j < r.2.2.1.length + r3.2.2.1.length := by rw [← List.length_append]; exact hj
  by_cases hl : j < r.2.2.1.length
  · rw [k4.2.2.1 _ (by omega), q.1 2 (by omega), h82 j hl]
    rw [List.getD_eq_getElem?_getD, List.getD_eq_getElem?_getD, List.getElem?_append_left hl]
  · have e := k82 (j - r.2.2.1.length) (by omega)
    rw [show 160 * t + (u + r.2.2.1.length) + (j - r.2.2.1.length) = 160 * t + u + j from by omega] at e
    rw [e, List.getD_eq_getElem?_getD, List.getD_eq_getElem?_getD, List.getElem?_append_right (by omega)]
theorem RdP.u9 {t u n : Nat} {I I9 : I2} {J J9 : J2} {r : PR} {x : Int32} (h : RdP t u n I J r x I9 J9) : ∃ u9, u ≤ u9 ∧ u9 ≤ 160 ∧ I9 1 1 = i32 u9 := by
  obtain ⟨_, _, _, _, u9, h5, h6, h7, _⟩ := h
  exact ⟨u9, h5, h6, h7⟩
theorem CT.conv {mt : MT} {d n nE : Nat} {As : List Value} {I : I2} {J : J2} {F : F2} {Q Q' : QT} (h : CT mt d n nE As I J F Q) (hq : ∀ rv I9 J9 F9, Q rv I9 J9 F9 → Q' rv I9 J9 F9) : CT mt d n nE As I J F Q' := by
  intro l D cA ad sz p e h1 h2 h3 s m args below h4 h5 h6 h7
  obtain ⟨n9, o, a1, a2, a3, ⟨hq0, hrest⟩⟩ := h l D cA ad sz p e h1 h2 h3 s m args below h4 h5 h6 h7
  refine ⟨n9, o, a1, a2, a3, ⟨?_, hrest⟩⟩
  obtain ⟨⟨rv, I', J', F', cA', ad', e1, e2, e3⟩, hz⟩ := hq0
  exact ⟨⟨rv, I', J', F', cA', ad', e1, hq _ _ _ _ e2, e3⟩, hz⟩
theorem c_putR {t u n : Nat} {I0 I : I2} {J0 J : J2} {r : PR} {x c : Int32} {v : (Nat → Int32) → Int32} (h : RdP t u n I0 J0 r x I J) (e0 : I0 1 0 = i32 t) (ht : t < 6) (hb : r.1 = true → u + r.2.2.1.length < 160) : CT mX5_put 1 58 58 [.ref 1, .int c] I J RF (RVP RF (fun I9 J9 => RdP t u n I0 J0 (r.1, r.2.1, r.2.2.1 ++ [c], v) x I9 J9)) := by
  obtain ⟨h1, h2, h3, h4, u9, h5, h6, h7, h8⟩ := h
  have hp := c_put (c := c) (I := I) (J := J) (t := t) (u := u9) ((h4.2.1 0 (by omega)).trans e0) h7 ht h6
  refine CT.conv hp (fun rv I9 J9 F9 hq => ?_)
  obtain ⟨rfl, rfl, rfl, rfl⟩ := hq
  refine RVP.mk ?_
  by_cases hu : u9 < 160
  · rw [if_pos hu]
    refine ⟨h1, h2, ?_, ?_, u9 + 1, by omega, by omega, ?_, fun hr => ?_⟩
    · exact h3
    · refine ⟨fun o a b c => ?_, fun j hj => ?_, fun j hj => ?_, h4.2.2.2⟩
      · rw [up2_ne a, up2_ne b]; exact h4.1 o a b c
      · simp only [up2_rd, reduceIte, if_neg hj, Nat.reduceEqDiff]; exact h4.2.1 j hj
      · simp only [up2_rd, reduceIte, Nat.reduceEqDiff]
        rw [if_neg (by omega)]
        exact h4.2.2.1 j hj
    · simp only [up2_rd, reduceIte]
    · obtain ⟨a1, a2⟩ := h8 hr
      refine ⟨by rw [List.length_append, List.length_singleton]; omega, fun j hj => ?_⟩
      have hj' : j < r.2.2.1.length + 1 := by rw [List.length_append, List.length_singleton] at hj; exact hj
      show (up2 (up2 I 2 (160 * t + u9) c) 1 1 (i32 (u9 + 1))) 2 (160 * t + u + j) = (r.2.2.1 ++ [c]).getD j 0
      simp only [up2_rd, reduceIte, Nat.reduceEqDiff]
      by_cases hl : j < r.2.2.1.length
      · rw [if_neg (by omega), a2 j hl, List.getD_eq_getElem?_getD, List.getD_eq_getElem?_getD, List.getElem?_append_left hl]
      · rw [if_pos (by omega), show j = r.2.2.1.length from by omega, List.getD_eq_getElem?_getD, List.getElem?_append_right (Nat.le_refl _), Nat.sub_self]
        rfl
  · rw [if_neg hu]
    refine ⟨h1, h2, h3, h4, u9, h5, h6, h7, fun hr => ?_⟩
    exact absurd (h8 hr).1 (by have := hb hr; omega)
theorem c_passT {n : Nat} {s : PT} {I : I2} {J : J2} {b : Nat → Int32} (hT : RT I n s) (hP : pOk n s) (hb : I 6 = b) : CT mX3_passToken 7 58 58 [.ref 5] I J RF (RVP RF (fun I9 J9 => J9 = J ∧ RT I9 n (nxt b n s) ∧ R5 I I9)) := by
  subst hb
  exact c_passToken hT.1 hT.2.1 hT.2.2.2.2.1 hP.2.1
theorem RS.next {t u n : Nat} {I I1 : I2} {s s' : PT} (h : RS t u n I s) (q : R5 I I1) (hT : RT I1 n s') (hP : pOk n s') : RS t u n I1 s' := by
  obtain ⟨h1, h2, h3, h4, h5, h6⟩ := h
  exact ⟨hT, hP, by rw [q.1 1 (by omega)]; exact h3, h4, by rw [q.1 1 (by omega)]; exact h5, h6⟩
/-- behind what has been read well -/
theorem RdP.rs {t u n : Nat} {I I1 I9 : I2} {J J1 : J2} {b : Nat → Int32} {s : PT} {r : PR} {w : Int32} (hR : RS t u n I s) (h : RdP t u n I J r w I1 J1) (hr : r.1 = true) (ht : r.2.1.1 ≠ 0) (hg : pGood n s.2.1 r) (hu : u ≤ s.2.1) (q : R5 I1 I9) (hT : RT I9 n (nxt b n r.2.1)) : RS t (u + r.2.2.1.length) n I9 (nxt b n r.2.1) ∧ u + r.2.2.1.length < (nxt b n r.2.1).2.1 ∧ (nxt b n r.2.1).2.1 ≤ 160 := by
  obtain ⟨h1, h2, h3, h4, u9, h5, h6, h7, h8⟩ := h
  obtain ⟨a1, a2⟩ := h8 hr
  obtain ⟨g1, g2, g3⟩ := hg
  obtain ⟨n1, n2, n3⟩ := nxt_ok (b := b) g1
  have n4 := n3 ht
  have g4 := g3 hr
  have n5 := n1.1
  have n6 := hT.2.1
  refine ⟨⟨hT, n1, ?_, hR.2.2.2.1, ?_, by omega⟩, by omega, by omega⟩
  · rw [q.1 1 (by omega)]; exact (h4.2.1 0 (by omega)).trans hR.2.2.1
  · rw [q.1 1 (by omega), h7, a1]
theorem RdP.b6 {t u n : Nat} {I I1 : I2} {J J1 : J2} {b : Nat → Int32} {r : PR} {w : Int32} (h : RdP t u n I J r w I1 J1) (hb : I 6 = b) : I1 6 = b := by
  rw [h.2.2.2.1.1 6 (by omega) (by omega) (by omega)]; exact hb
theorem pBin_stop {b : Nat → Int32} {n : Nat} {f : PT → PR} {oc : Int32 → Int32} {k : Nat} {r : PR} (h : ¬ (r.1 = true ∧ oc r.2.1.1 ≠ 0)) : pBin b n f oc k r = r := by
  cases k with
  | zero => rfl
  | succ k => rw [pBin, if_neg h]
theorem pBin_go {b : Nat → Int32} {n : Nat} {f : PT → PR} {oc : Int32 → Int32} {k : Nat} {r : PR} (h : r.1 = true) (h' : oc r.2.1.1 ≠ 0) : pBin b n f oc (k + 1) r = pBin b n f oc k ((f (nxt b n r.2.1)).1, (f (nxt b n r.2.1)).2.1, r.2.2.1 ++ (f (nxt b n r.2.1)).2.2.1 ++ [oc r.2.1.1], fun e => vBoth (oc r.2.1.1) (r.2.2.2 e) ((f (nxt b n r.2.1)).2.2.2 e)) := by rw [pBin, if_pos ⟨h, h'⟩]
/-- a contract says less, too -/
theorem i32n0 {t : Int32} {k : Nat} (h : t = i32 k) (hk : 0 < k) (hk2 : k < 1000) : t ≠ 0 := by
  rw [h]
  intro q
  have := (i32_inj (a := k) (b := 0) (by omega) (by omega)).mp q
  omega

theorem c_readTerm {d d9 op n : Nat} {b : Nat → Int32} {f : PT → PR} (hd : 8 ≤ d) (hd9 : d9 + 1 ≤ d) (hfg : pFn n f) (hf : CRd mX3_readOne d9 f op n b) : CRd mX3_readTerm d (fun s => pBin b n f mulC 160 (f s)) op n b := by
  intro t u I J s hs hb hu
  have key : ∀ m, Hid (∀ (i : Nat) (r : PR) (w : Int32) (I1 : I2), i + m = 160 → (RdP t u n I J r w I1 J ∧ pGood n s.2.1 r ∧ pBin b n f mulC m r = pBin b n f mulC 160 (f s)) → V mX3_readTerm none d 58 (RP RF (RdP t u n I J (pBin b n f mulC 160 (f s)))) 8 [(0, .ref 5), (1, .int (i32 op)), (2, .int (w)), (3, .int (i32 (i)))] [] 58 I1 J RF) := by
    intro m
    induction m with
    | zero =>
      unfold Hid
      intro i r w I1 hi0 ⟨hr, hg, hR⟩
      refine V_go 4 rfl ?_
      refine V_icmp_ge rfl (fun h1 => ?_) (fun h1 => ?_)
      · skip
        refine V_go 1 rfl ?_
        refine V_zret rfl rfl rfl (by rw [hr.2.1]; exact b2i_or _) ?_
        exact RP.mk (by rw [← hR, show pBin b n f mulC 0 r = r from rfl]; exact hr)
      · skip
        exact absurd (by rw [show i = 160 from hi0]; exact Int32.le_refl _) h1
    | succ m ih =>
      unfold Hid
      intro i r w I1 hi0 ⟨hr, hg, hR⟩
      refine V_go 4 rfl ?_
      refine V_icmp_ge rfl (fun h1 => ?_) (fun h1 => ?_)
      · skip
        exact absurd ((i32_le (by omega) (by omega)).mp h1) (by omega)
      · skip
        refine V_go 1 rfl ?_
        refine V_if_eq rfl (fun h2 => ?_) (fun h2 => ?_)
        · skip
          refine V_go 1 rfl ?_
          refine V_zret rfl rfl rfl (by rw [hr.2.1]; exact b2i_or _) ?_
          exact RP.mk (by rw [← hR, pBin_stop (fun z => absurd (b2i_1 z.1) (by rw [← hr.2.1, h2]; decide))]; exact hr)
        · skip
          refine V_go 3 rfl ?_
          refine V_icmp_ne rfl (fun h3 => ?_) (fun h3 => ?_)
          · skip
            rw [hr.2.2.1.2.2.1] at h3
            refine V_go 1 rfl ?_
            refine V_zret rfl rfl rfl (by rw [hr.2.1]; exact b2i_or _) ?_
            exact RP.mk (by rw [← hR, pBin_stop (fun z => z.2 (if_neg h3))]; exact hr)
          · skip
            have hr1 : r.1 = true := b2i_eq1.mp ((b2i_or _).resolve_left (by rw [← hr.2.1]; assumption))
            rw [hr.2.2.1.2.2.1] at h3
            have hc : mulC r.2.1.1 = (-26) := if_pos h3
            have ht' : mulC r.2.1.1 ≠ 0 := by rw [hc]; decide
            have ht0 : r.2.1.1 ≠ 0 := fun z => ht' (by rw [z]; rfl)
            have hg' : pGood n s.2.1 ((f (nxt b n r.2.1)).1, (f (nxt b n r.2.1)).2.1, r.2.2.1 ++ (f (nxt b n r.2.1)).2.2.1 ++ [mulC r.2.1.1], fun e => vBoth (mulC r.2.1.1) (r.2.2.2 e) ((f (nxt b n r.2.1)).2.2.2 e)) := by
              have z := pBin_good (b := b) hfg (oc := mulC) rfl s.2.1 1 r hg
              rw [pBin_go hr1 ht'] at z
              exact z
            have hR' : pBin b n f mulC m ((f (nxt b n r.2.1)).1, (f (nxt b n r.2.1)).2.1, r.2.2.1 ++ (f (nxt b n r.2.1)).2.2.1 ++ [mulC r.2.1.1], fun e => vBoth (mulC r.2.1.1) (r.2.2.2 e) ((f (nxt b n r.2.1)).2.2.2 e)) = (pBin b n f mulC 160 (f s)) := by rw [← hR, pBin_go hr1 ht']
            have hbud : (f (nxt b n r.2.1)).1 = true → u + (r.2.2.1 ++ (f (nxt b n r.2.1)).2.2.1).length < 160 := fun z => by
              have g := hg'.2.2 z
              have g2 := hg'.1.1
              have g3 := hr.2.2.1.2.1
              simp only [List.length_append, List.length_singleton] at g g2 ⊢
              omega
            refine V_go 1 rfl ?_
            refine cVW (mt' := mX3_passToken) rfl kX3_31 fX3_passToken rfl rfl rfl (Nat.le_of_ble_eq_true rfl) (Nat.le_of_ble_eq_true rfl) (by omega) (Nat.le_of_ble_eq_true rfl) (Nat.le_refl _) (c_passT hr.2.2.1 hg.1 (hr.b6 hb)) ?_
            intro Ir31 Jr31 h31
            obtain ⟨hJ1, hT2, q2⟩ := h31
            obtain rfl : J = Jr31 := hJ1.symm
            have hrs := hr.rs hs hr1 ht0 hg hu q2 hT2
            refine V_go 2 rfl ?_
            refine cVP (mt' := mX3_readOne) rfl kX3_73 fX3_readOne rfl rfl rfl (Nat.le_of_ble_eq_true rfl) (Nat.le_of_ble_eq_true rfl) (by omega) (Nat.le_of_ble_eq_true rfl) (Nat.le_refl _) (hf _ _ _ _ _ hrs.1 (by rw [q2.1 6 (by omega)]; exact hr.b6 hb) (by omega)) ?_
            intro r32 Ir32 Jr32 h32
            have hq3 := h32
            obtain rfl : J = Jr32 := hq3.1.symm
            refine V_go 4 rfl ?_
            refine cVW (mt' := mX5_put) rfl kX3_58 fX5_put rfl rfl rfl (Nat.le_of_ble_eq_true rfl) (Nat.le_of_ble_eq_true rfl) (by omega) (Nat.le_of_ble_eq_true rfl) (Nat.le_refl _) (c_putR (v := fun _ => 0) (hr.seq (v := fun _ => 0) hr1 q2 hq3) hs.2.2.1 hs.2.2.2.1 hbud) ?_
            intro Ir33 Jr33 h33
            have hq4 := h33
            obtain rfl : J = Jr33 := hq4.1.symm
            refine V_go 2 rfl ?_
            have hq5 : RdP t u n I J ((f (nxt b n r.2.1)).1, (f (nxt b n r.2.1)).2.1, r.2.2.1 ++ (f (nxt b n r.2.1)).2.2.1 ++ [mulC r.2.1.1], fun e => vBoth (mulC r.2.1.1) (r.2.2.2 e) ((f (nxt b n r.2.1)).2.2.2 e)) r32 Ir33 J := by
              rw [hc]
              exact hq4
            refine V.st (I' := Ir33) (L' := [(0, .ref 5), (1, .int (i32 op)), (2, .int (r32)), (3, .int (i32 (i + 1)))]) (ih.un (i + 1) ((f (nxt b n r.2.1)).1, (f (nxt b n r.2.1)).2.1, r.2.2.1 ++ (f (nxt b n r.2.1)).2.2.1 ++ [mulC r.2.1.1], fun e => vBoth (mulC r.2.1.1) (r.2.2.2 e) ((f (nxt b n r.2.1)).2.2.2 e)) r32 Ir33 (by omega) ⟨hq5, hg', hR'⟩) rfl (by rw [i32_s]; simp)
  refine CT_of okX3_readTerm (Nat.le_of_ble_eq_true rfl) ?_
  show V _ _ _ _ _ _ [(0, _), (1, _)] _ _ _ _ _
  refine V_go 2 rfl ?_
  refine cVP (mt' := mX3_readOne) rfl kX3_73 fX3_readOne rfl rfl rfl (Nat.le_of_ble_eq_true rfl) (Nat.le_of_ble_eq_true rfl) (by omega) (Nat.le_of_ble_eq_true rfl) (Nat.le_refl _) (hf _ _ _ _ _ hs hb hu) ?_
  intro r1 Ir1 Jr1 h1
  have hq1 := h1
  obtain rfl : J = Jr1 := hq1.1.symm
  refine V_go 3 rfl ?_
  exact (key 160).un 0 _ _ _ (Nat.zero_add _) ⟨hq1, hfg s hs.2.1, rfl⟩
theorem c_readAnd {d d9 op n : Nat} {b : Nat → Int32} {f : PT → PR} (hd : 8 ≤ d) (hd9 : d9 + 1 ≤ d) (hfg : pFn n f) (hf : CRd mX3_readNot d9 f op n b) : CRd mX3_readAnd d (fun s => pBin b n f andC 160 (f s)) op n b := by
  intro t u I J s hs hb hu
  have key : ∀ m, Hid (∀ (i : Nat) (r : PR) (w : Int32) (I1 : I2), i + m = 160 → (RdP t u n I J r w I1 J ∧ pGood n s.2.1 r ∧ pBin b n f andC m r = pBin b n f andC 160 (f s)) → V mX3_readAnd none d 58 (RP RF (RdP t u n I J (pBin b n f andC 160 (f s)))) 8 [(0, .ref 5), (1, .int (i32 op)), (2, .int (w)), (3, .int (i32 (i)))] [] 58 I1 J RF) := by
    intro m
    induction m with
    | zero =>
      unfold Hid
      intro i r w I1 hi0 ⟨hr, hg, hR⟩
      refine V_go 4 rfl ?_
      refine V_icmp_ge rfl (fun h1 => ?_) (fun h1 => ?_)
      · skip
        refine V_go 1 rfl ?_
        refine V_zret rfl rfl rfl (by rw [hr.2.1]; exact b2i_or _) ?_
        exact RP.mk (by rw [← hR, show pBin b n f andC 0 r = r from rfl]; exact hr)
      · skip
        exact absurd (by rw [show i = 160 from hi0]; exact Int32.le_refl _) h1
    | succ m ih =>
      unfold Hid
      intro i r w I1 hi0 ⟨hr, hg, hR⟩
      refine V_go 4 rfl ?_
      refine V_icmp_ge rfl (fun h1 => ?_) (fun h1 => ?_)
      · skip
        exact absurd ((i32_le (by omega) (by omega)).mp h1) (by omega)
      · skip
        refine V_go 1 rfl ?_
        refine V_if_eq rfl (fun h2 => ?_) (fun h2 => ?_)
        · skip
          refine V_go 1 rfl ?_
          refine V_zret rfl rfl rfl (by rw [hr.2.1]; exact b2i_or _) ?_
          exact RP.mk (by rw [← hR, pBin_stop (fun z => absurd (b2i_1 z.1) (by rw [← hr.2.1, h2]; decide))]; exact hr)
        · skip
          refine V_go 3 rfl ?_
          refine V_icmp_ne rfl (fun h3 => ?_) (fun h3 => ?_)
          · skip
            rw [hr.2.2.1.2.2.1] at h3
            refine V_go 1 rfl ?_
            refine V_zret rfl rfl rfl (by rw [hr.2.1]; exact b2i_or _) ?_
            exact RP.mk (by rw [← hR, pBin_stop (fun z => z.2 (if_neg h3))]; exact hr)
          · skip
            have hr1 : r.1 = true := b2i_eq1.mp ((b2i_or _).resolve_left (by rw [← hr.2.1]; assumption))
            rw [hr.2.2.1.2.2.1] at h3
            have hc : andC r.2.1.1 = (-21) := if_pos h3
            have ht' : andC r.2.1.1 ≠ 0 := by rw [hc]; decide
            have ht0 : r.2.1.1 ≠ 0 := fun z => ht' (by rw [z]; rfl)
            have hg' : pGood n s.2.1 ((f (nxt b n r.2.1)).1, (f (nxt b n r.2.1)).2.1, r.2.2.1 ++ (f (nxt b n r.2.1)).2.2.1 ++ [andC r.2.1.1], fun e => vBoth (andC r.2.1.1) (r.2.2.2 e) ((f (nxt b n r.2.1)).2.2.2 e)) := by
              have z := pBin_good (b := b) hfg (oc := andC) rfl s.2.1 1 r hg
              rw [pBin_go hr1 ht'] at z
              exact z
            have hR' : pBin b n f andC m ((f (nxt b n r.2.1)).1, (f (nxt b n r.2.1)).2.1, r.2.2.1 ++ (f (nxt b n r.2.1)).2.2.1 ++ [andC r.2.1.1], fun e => vBoth (andC r.2.1.1) (r.2.2.2 e) ((f (nxt b n r.2.1)).2.2.2 e)) = (pBin b n f andC 160 (f s)) := by rw [← hR, pBin_go hr1 ht']
            have hbud : (f (nxt b n r.2.1)).1 = true → u + (r.2.2.1 ++ (f (nxt b n r.2.1)).2.2.1).length < 160 := fun z => by
              have g := hg'.2.2 z
              have g2 := hg'.1.1
              have g3 := hr.2.2.1.2.1
              simp only [List.length_append, List.length_singleton] at g g2 ⊢
              omega
            refine V_go 1 rfl ?_
            refine cVW (mt' := mX3_passToken) rfl kX3_31 fX3_passToken rfl rfl rfl (Nat.le_of_ble_eq_true rfl) (Nat.le_of_ble_eq_true rfl) (by omega) (Nat.le_of_ble_eq_true rfl) (Nat.le_refl _) (c_passT hr.2.2.1 hg.1 (hr.b6 hb)) ?_
            intro Ir31 Jr31 h31
            obtain ⟨hJ1, hT2, q2⟩ := h31
            obtain rfl : J = Jr31 := hJ1.symm
            have hrs := hr.rs hs hr1 ht0 hg hu q2 hT2
            refine V_go 2 rfl ?_
            refine cVP (mt' := mX3_readNot) rfl kX3_61 fX3_readNot rfl rfl rfl (Nat.le_of_ble_eq_true rfl) (Nat.le_of_ble_eq_true rfl) (by omega) (Nat.le_of_ble_eq_true rfl) (Nat.le_refl _) (hf _ _ _ _ _ hrs.1 (by rw [q2.1 6 (by omega)]; exact hr.b6 hb) (by omega)) ?_
            intro r32 Ir32 Jr32 h32
            have hq3 := h32
            obtain rfl : J = Jr32 := hq3.1.symm
            refine V_go 4 rfl ?_
            refine cVW (mt' := mX5_put) rfl kX3_58 fX5_put rfl rfl rfl (Nat.le_of_ble_eq_true rfl) (Nat.le_of_ble_eq_true rfl) (by omega) (Nat.le_of_ble_eq_true rfl) (Nat.le_refl _) (c_putR (v := fun _ => 0) (hr.seq (v := fun _ => 0) hr1 q2 hq3) hs.2.2.1 hs.2.2.2.1 hbud) ?_
            intro Ir33 Jr33 h33
            have hq4 := h33
            obtain rfl : J = Jr33 := hq4.1.symm
            refine V_go 2 rfl ?_
            have hq5 : RdP t u n I J ((f (nxt b n r.2.1)).1, (f (nxt b n r.2.1)).2.1, r.2.2.1 ++ (f (nxt b n r.2.1)).2.2.1 ++ [andC r.2.1.1], fun e => vBoth (andC r.2.1.1) (r.2.2.2 e) ((f (nxt b n r.2.1)).2.2.2 e)) r32 Ir33 J := by
              rw [hc]
              exact hq4
            refine V.st (I' := Ir33) (L' := [(0, .ref 5), (1, .int (i32 op)), (2, .int (r32)), (3, .int (i32 (i + 1)))]) (ih.un (i + 1) ((f (nxt b n r.2.1)).1, (f (nxt b n r.2.1)).2.1, r.2.2.1 ++ (f (nxt b n r.2.1)).2.2.1 ++ [andC r.2.1.1], fun e => vBoth (andC r.2.1.1) (r.2.2.2 e) ((f (nxt b n r.2.1)).2.2.2 e)) r32 Ir33 (by omega) ⟨hq5, hg', hR'⟩) rfl (by rw [i32_s]; simp)
  refine CT_of okX3_readAnd (Nat.le_of_ble_eq_true rfl) ?_
  show V _ _ _ _ _ _ [(0, _), (1, _)] _ _ _ _ _
  refine V_go 2 rfl ?_
  refine cVP (mt' := mX3_readNot) rfl kX3_61 fX3_readNot rfl rfl rfl (Nat.le_of_ble_eq_true rfl) (Nat.le_of_ble_eq_true rfl) (by omega) (Nat.le_of_ble_eq_true rfl) (Nat.le_refl _) (hf _ _ _ _ _ hs hb hu) ?_
  intro r1 Ir1 Jr1 h1
  have hq1 := h1
  obtain rfl : J = Jr1 := hq1.1.symm
  refine V_go 3 rfl ?_
  exact (key 160).un 0 _ _ _ (Nat.zero_add _) ⟨hq1, hfg s hs.2.1, rfl⟩
theorem c_readOr {d d9 op n : Nat} {b : Nat → Int32} {f : PT → PR} (hd : 8 ≤ d) (hd9 : d9 + 1 ≤ d) (hfg : pFn n f) (hf : CRd mX3_readAnd d9 f op n b) : CRd mX3_readOr d (fun s => pBin b n f orC 160 (f s)) op n b := by
  intro t u I J s hs hb hu
  have key : ∀ m, Hid (∀ (i : Nat) (r : PR) (w : Int32) (I1 : I2), i + m = 160 → (RdP t u n I J r w I1 J ∧ pGood n s.2.1 r ∧ pBin b n f orC m r = pBin b n f orC 160 (f s)) → V mX3_readOr none d 58 (RP RF (RdP t u n I J (pBin b n f orC 160 (f s)))) 8 [(0, .ref 5), (1, .int (i32 op)), (2, .int (w)), (3, .int (i32 (i)))] [] 58 I1 J RF) := by
    intro m
    induction m with
    | zero =>
      unfold Hid
      intro i r w I1 hi0 ⟨hr, hg, hR⟩
      refine V_go 4 rfl ?_
      refine V_icmp_ge rfl (fun h1 => ?_) (fun h1 => ?_)
      · skip
        refine V_go 1 rfl ?_
        refine V_zret rfl rfl rfl (by rw [hr.2.1]; exact b2i_or _) ?_
        exact RP.mk (by rw [← hR, show pBin b n f orC 0 r = r from rfl]; exact hr)
      · skip
        exact absurd (by rw [show i = 160 from hi0]; exact Int32.le_refl _) h1
    | succ m ih =>
      unfold Hid
      intro i r w I1 hi0 ⟨hr, hg, hR⟩
      refine V_go 4 rfl ?_
      refine V_icmp_ge rfl (fun h1 => ?_) (fun h1 => ?_)
      · skip
        exact absurd ((i32_le (by omega) (by omega)).mp h1) (by omega)
      · skip
        refine V_go 1 rfl ?_
        refine V_if_eq rfl (fun h2 => ?_) (fun h2 => ?_)
        · skip
          refine V_go 1 rfl ?_
          refine V_zret rfl rfl rfl (by rw [hr.2.1]; exact b2i_or _) ?_
          exact RP.mk (by rw [← hR, pBin_stop (fun z => absurd (b2i_1 z.1) (by rw [← hr.2.1, h2]; decide))]; exact hr)
        · skip
          refine V_go 3 rfl ?_
          refine V_icmp_ne rfl (fun h3 => ?_) (fun h3 => ?_)
          · skip
            rw [hr.2.2.1.2.2.1] at h3
            refine V_go 1 rfl ?_
            refine V_zret rfl rfl rfl (by rw [hr.2.1]; exact b2i_or _) ?_
            exact RP.mk (by rw [← hR, pBin_stop (fun z => z.2 (if_neg h3))]; exact hr)
          · skip
            have hr1 : r.1 = true := b2i_eq1.mp ((b2i_or _).resolve_left (by rw [← hr.2.1]; assumption))
            rw [hr.2.2.1.2.2.1] at h3
            have hc : orC r.2.1.1 = (-20) := if_pos h3
            have ht' : orC r.2.1.1 ≠ 0 := by rw [hc]; decide
            have ht0 : r.2.1.1 ≠ 0 := fun z => ht' (by rw [z]; rfl)
            have hg' : pGood n s.2.1 ((f (nxt b n r.2.1)).1, (f (nxt b n r.2.1)).2.1, r.2.2.1 ++ (f (nxt b n r.2.1)).2.2.1 ++ [orC r.2.1.1], fun e => vBoth (orC r.2.1.1) (r.2.2.2 e) ((f (nxt b n r.2.1)).2.2.2 e)) := by
              have z := pBin_good (b := b) hfg (oc := orC) rfl s.2.1 1 r hg
              rw [pBin_go hr1 ht'] at z
              exact z
            have hR' : pBin b n f orC m ((f (nxt b n r.2.1)).1, (f (nxt b n r.2.1)).2.1, r.2.2.1 ++ (f (nxt b n r.2.1)).2.2.1 ++ [orC r.2.1.1], fun e => vBoth (orC r.2.1.1) (r.2.2.2 e) ((f (nxt b n r.2.1)).2.2.2 e)) = (pBin b n f orC 160 (f s)) := by rw [← hR, pBin_go hr1 ht']
            have hbud : (f (nxt b n r.2.1)).1 = true → u + (r.2.2.1 ++ (f (nxt b n r.2.1)).2.2.1).length < 160 := fun z => by
              have g := hg'.2.2 z
              have g2 := hg'.1.1
              have g3 := hr.2.2.1.2.1
              simp only [List.length_append, List.length_singleton] at g g2 ⊢
              omega
            refine V_go 1 rfl ?_
            refine cVW (mt' := mX3_passToken) rfl kX3_31 fX3_passToken rfl rfl rfl (Nat.le_of_ble_eq_true rfl) (Nat.le_of_ble_eq_true rfl) (by omega) (Nat.le_of_ble_eq_true rfl) (Nat.le_refl _) (c_passT hr.2.2.1 hg.1 (hr.b6 hb)) ?_
            intro Ir31 Jr31 h31
            obtain ⟨hJ1, hT2, q2⟩ := h31
            obtain rfl : J = Jr31 := hJ1.symm
            have hrs := hr.rs hs hr1 ht0 hg hu q2 hT2
            refine V_go 2 rfl ?_
            refine cVP (mt' := mX3_readAnd) rfl kX3_55 fX3_readAnd rfl rfl rfl (Nat.le_of_ble_eq_true rfl) (Nat.le_of_ble_eq_true rfl) (by omega) (Nat.le_of_ble_eq_true rfl) (Nat.le_refl _) (hf _ _ _ _ _ hrs.1 (by rw [q2.1 6 (by omega)]; exact hr.b6 hb) (by omega)) ?_
            intro r32 Ir32 Jr32 h32
            have hq3 := h32
            obtain rfl : J = Jr32 := hq3.1.symm
            refine V_go 4 rfl ?_
            refine cVW (mt' := mX5_put) rfl kX3_58 fX5_put rfl rfl rfl (Nat.le_of_ble_eq_true rfl) (Nat.le_of_ble_eq_true rfl) (by omega) (Nat.le_of_ble_eq_true rfl) (Nat.le_refl _) (c_putR (v := fun _ => 0) (hr.seq (v := fun _ => 0) hr1 q2 hq3) hs.2.2.1 hs.2.2.2.1 hbud) ?_
            intro Ir33 Jr33 h33
            have hq4 := h33
            obtain rfl : J = Jr33 := hq4.1.symm
            refine V_go 2 rfl ?_
            have hq5 : RdP t u n I J ((f (nxt b n r.2.1)).1, (f (nxt b n r.2.1)).2.1, r.2.2.1 ++ (f (nxt b n r.2.1)).2.2.1 ++ [orC r.2.1.1], fun e => vBoth (orC r.2.1.1) (r.2.2.2 e) ((f (nxt b n r.2.1)).2.2.2 e)) r32 Ir33 J := by
              rw [hc]
              exact hq4
            refine V.st (I' := Ir33) (L' := [(0, .ref 5), (1, .int (i32 op)), (2, .int (r32)), (3, .int (i32 (i + 1)))]) (ih.un (i + 1) ((f (nxt b n r.2.1)).1, (f (nxt b n r.2.1)).2.1, r.2.2.1 ++ (f (nxt b n r.2.1)).2.2.1 ++ [orC r.2.1.1], fun e => vBoth (orC r.2.1.1) (r.2.2.2 e) ((f (nxt b n r.2.1)).2.2.2 e)) r32 Ir33 (by omega) ⟨hq5, hg', hR'⟩) rfl (by rw [i32_s]; simp)
  refine CT_of okX3_readOr (Nat.le_of_ble_eq_true rfl) ?_
  show V _ _ _ _ _ _ [(0, _), (1, _)] _ _ _ _ _
  refine V_go 2 rfl ?_
  refine cVP (mt' := mX3_readAnd) rfl kX3_55 fX3_readAnd rfl rfl rfl (Nat.le_of_ble_eq_true rfl) (Nat.le_of_ble_eq_true rfl) (by omega) (Nat.le_of_ble_eq_true rfl) (Nat.le_refl _) (hf _ _ _ _ _ hs hb hu) ?_
  intro r1 Ir1 Jr1 h1
  have hq1 := h1
  obtain rfl : J = Jr1 := hq1.1.symm
  refine V_go 3 rfl ?_
  exact (key 160).un 0 _ _ _ (Nat.zero_add _) ⟨hq1, hfg s hs.2.1, rfl⟩
theorem c_readSum {d d9 op n : Nat} {b : Nat → Int32} {f : PT → PR} (hd : 8 ≤ d) (hd9 : d9 + 1 ≤ d) (hfg : pFn n f) (hf : CRd mX3_readTerm d9 f op n b) : CRd mX3_readSum d (fun s => pBin b n f sumC 160 (f s)) op n b := by
  intro t u I J s hs hb hu
  have key : ∀ m, Hid (∀ (i : Nat) (r : PR) (w : Int32) (I1 : I2), i + m = 160 → (RdP t u n I J r w I1 J ∧ pGood n s.2.1 r ∧ pBin b n f sumC m r = pBin b n f sumC 160 (f s)) → V mX3_readSum none d 58 (RP RF (RdP t u n I J (pBin b n f sumC 160 (f s)))) 8 [(0, .ref 5), (1, .int (i32 op)), (2, .int (w)), (3, .int (i32 (i)))] [] 58 I1 J RF) := by
    intro m
    induction m with
    | zero =>
      unfold Hid
      intro i r w I1 hi0 ⟨hr, hg, hR⟩
      refine V_go 4 rfl ?_
      refine V_icmp_ge rfl (fun h1 => ?_) (fun h1 => ?_)
      · skip
        refine V_go 1 rfl ?_
        refine V_zret rfl rfl rfl (by rw [hr.2.1]; exact b2i_or _) ?_
        exact RP.mk (by rw [← hR, show pBin b n f sumC 0 r = r from rfl]; exact hr)
      · skip
        exact absurd (by rw [show i = 160 from hi0]; exact Int32.le_refl _) h1
    | succ m ih =>
      unfold Hid
      intro i r w I1 hi0 ⟨hr, hg, hR⟩
      refine V_go 4 rfl ?_
      refine V_icmp_ge rfl (fun h1 => ?_) (fun h1 => ?_)
      · skip
        exact absurd ((i32_le (by omega) (by omega)).mp h1) (by omega)
      · skip
        refine V_go 1 rfl ?_
        refine V_if_eq rfl (fun h2 => ?_) (fun h2 => ?_)
        · skip
          refine V_go 1 rfl ?_
          refine V_zret rfl rfl rfl (by rw [hr.2.1]; exact b2i_or _) ?_
          exact RP.mk (by rw [← hR, pBin_stop (fun z => absurd (b2i_1 z.1) (by rw [← hr.2.1, h2]; decide))]; exact hr)
        · skip
          refine V_go 3 rfl ?_
          refine V_icmp_eq rfl (fun h3 => ?_) (fun h3 => ?_)
          · skip
            have hr1 : r.1 = true := b2i_eq1.mp ((b2i_or _).resolve_left (by rw [← hr.2.1]; assumption))
            rw [hr.2.2.1.2.2.1] at h3
            have htk : r.2.1.1 = 43 := h3
            refine V_go 3 rfl ?_
            refine V_icmp_ne rfl (fun h41 => ?_) (fun h41 => ?_)
            · skip
              exact absurd (hr.2.2.1.2.2.1.trans htk) h41
            · skip
              have hc : sumC r.2.1.1 = (-24) := if_pos htk
              have ht' : sumC r.2.1.1 ≠ 0 := by rw [hc]; decide
              have ht0 : r.2.1.1 ≠ 0 := fun z => ht' (by rw [z]; rfl)
              have hg' : pGood n s.2.1 ((f (nxt b n r.2.1)).1, (f (nxt b n r.2.1)).2.1, r.2.2.1 ++ (f (nxt b n r.2.1)).2.2.1 ++ [sumC r.2.1.1], fun e => vBoth (sumC r.2.1.1) (r.2.2.2 e) ((f (nxt b n r.2.1)).2.2.2 e)) := by
                have z := pBin_good (b := b) hfg (oc := sumC) rfl s.2.1 1 r hg
                rw [pBin_go hr1 ht'] at z
                exact z
              have hR' : pBin b n f sumC m ((f (nxt b n r.2.1)).1, (f (nxt b n r.2.1)).2.1, r.2.2.1 ++ (f (nxt b n r.2.1)).2.2.1 ++ [sumC r.2.1.1], fun e => vBoth (sumC r.2.1.1) (r.2.2.2 e) ((f (nxt b n r.2.1)).2.2.2 e)) = (pBin b n f sumC 160 (f s)) := by rw [← hR, pBin_go hr1 ht']
              have hbud : (f (nxt b n r.2.1)).1 = true → u + (r.2.2.1 ++ (f (nxt b n r.2.1)).2.2.1).length < 160 := fun z => by
                have g := hg'.2.2 z
                have g2 := hg'.1.1
                have g3 := hr.2.2.1.2.1
                simp only [List.length_append, List.length_singleton] at g g2 ⊢
                omega
              refine V_go 4 rfl ?_
              refine cVW (mt' := mX3_passToken) rfl kX3_31 fX3_passToken rfl rfl rfl (Nat.le_of_ble_eq_true rfl) (Nat.le_of_ble_eq_true rfl) (by omega) (Nat.le_of_ble_eq_true rfl) (Nat.le_refl _) (c_passT hr.2.2.1 hg.1 (hr.b6 hb)) ?_
              intro Ir61 Jr61 h61
              obtain ⟨hJ1, hT2, q2⟩ := h61
              obtain rfl : J = Jr61 := hJ1.symm
              have hrs := hr.rs hs hr1 ht0 hg hu q2 hT2
              refine V_go 2 rfl ?_
              refine cVP (mt' := mX3_readTerm) rfl kX3_70 fX3_readTerm rfl rfl rfl (Nat.le_of_ble_eq_true rfl) (Nat.le_of_ble_eq_true rfl) (by omega) (Nat.le_of_ble_eq_true rfl) (Nat.le_refl _) (hf _ _ _ _ _ hrs.1 (by rw [q2.1 6 (by omega)]; exact hr.b6 hb) (by omega)) ?_
              intro r62 Ir62 Jr62 h62
              have hq3 := h62
              obtain rfl : J = Jr62 := hq3.1.symm
              refine V_go 4 rfl ?_
              refine cVW (mt' := mX5_put) rfl kX3_58 fX5_put rfl rfl rfl (Nat.le_of_ble_eq_true rfl) (Nat.le_of_ble_eq_true rfl) (by omega) (Nat.le_of_ble_eq_true rfl) (Nat.le_refl _) (c_putR (v := fun _ => 0) (hr.seq (v := fun _ => 0) hr1 q2 hq3) hs.2.2.1 hs.2.2.2.1 hbud) ?_
              intro Ir63 Jr63 h63
              have hq4 := h63
              obtain rfl : J = Jr63 := hq4.1.symm
              refine V_go 2 rfl ?_
              have hq5 : RdP t u n I J ((f (nxt b n r.2.1)).1, (f (nxt b n r.2.1)).2.1, r.2.2.1 ++ (f (nxt b n r.2.1)).2.2.1 ++ [sumC r.2.1.1], fun e => vBoth (sumC r.2.1.1) (r.2.2.2 e) ((f (nxt b n r.2.1)).2.2.2 e)) r62 Ir63 J := by
                rw [hc]
                exact hq4
              refine V.st (I' := Ir63) (L' := [(0, .ref 5), (1, .int (i32 op)), (2, .int (r62)), (3, .int (i32 (i + 1)))]) (ih.un (i + 1) ((f (nxt b n r.2.1)).1, (f (nxt b n r.2.1)).2.1, r.2.2.1 ++ (f (nxt b n r.2.1)).2.2.1 ++ [sumC r.2.1.1], fun e => vBoth (sumC r.2.1.1) (r.2.2.2 e) ((f (nxt b n r.2.1)).2.2.2 e)) r62 Ir63 (by omega) ⟨hq5, hg', hR'⟩) rfl (by rw [i32_s]; simp)
          · skip
            have hr1 : r.1 = true := b2i_eq1.mp ((b2i_or _).resolve_left (by rw [← hr.2.1]; assumption))
            rw [hr.2.2.1.2.2.1] at h3
            have hn43 : ¬ r.2.1.1 = 43 := h3
            refine V_go 3 rfl ?_
            refine V_icmp_ne rfl (fun h36 => ?_) (fun h36 => ?_)
            · skip
              rw [hr.2.2.1.2.2.1] at h36
              refine V_go 1 rfl ?_
              refine V_zret rfl rfl rfl (by rw [hr.2.1]; exact b2i_or _) ?_
              exact RP.mk (by rw [← hR, pBin_stop (fun z => z.2 (by unfold sumC; rw [if_neg hn43, if_neg h36]))]; exact hr)
            · skip
              rw [hr.2.2.1.2.2.1] at h36
              have htk : r.2.1.1 = 45 := h36
              refine V_go 3 rfl ?_
              refine V_icmp_ne rfl (fun h61 => ?_) (fun h61 => ?_)
              · skip
                have hc : sumC r.2.1.1 = (-25) := by unfold sumC; rw [if_neg (by rw [htk]; decide), if_pos htk]
                have ht' : sumC r.2.1.1 ≠ 0 := by rw [hc]; decide
                have ht0 : r.2.1.1 ≠ 0 := fun z => ht' (by rw [z]; rfl)
                have hg' : pGood n s.2.1 ((f (nxt b n r.2.1)).1, (f (nxt b n r.2.1)).2.1, r.2.2.1 ++ (f (nxt b n r.2.1)).2.2.1 ++ [sumC r.2.1.1], fun e => vBoth (sumC r.2.1.1) (r.2.2.2 e) ((f (nxt b n r.2.1)).2.2.2 e)) := by
                  have z := pBin_good (b := b) hfg (oc := sumC) rfl s.2.1 1 r hg
                  rw [pBin_go hr1 ht'] at z
                  exact z
                have hR' : pBin b n f sumC m ((f (nxt b n r.2.1)).1, (f (nxt b n r.2.1)).2.1, r.2.2.1 ++ (f (nxt b n r.2.1)).2.2.1 ++ [sumC r.2.1.1], fun e => vBoth (sumC r.2.1.1) (r.2.2.2 e) ((f (nxt b n r.2.1)).2.2.2 e)) = (pBin b n f sumC 160 (f s)) := by rw [← hR, pBin_go hr1 ht']
                have hbud : (f (nxt b n r.2.1)).1 = true → u + (r.2.2.1 ++ (f (nxt b n r.2.1)).2.2.1).length < 160 := fun z => by
                  have g := hg'.2.2 z
                  have g2 := hg'.1.1
                  have g3 := hr.2.2.1.2.1
                  simp only [List.length_append, List.length_singleton] at g g2 ⊢
                  omega
                refine V_go 3 rfl ?_
                refine cVW (mt' := mX3_passToken) rfl kX3_31 fX3_passToken rfl rfl rfl (Nat.le_of_ble_eq_true rfl) (Nat.le_of_ble_eq_true rfl) (by omega) (Nat.le_of_ble_eq_true rfl) (Nat.le_refl _) (c_passT hr.2.2.1 hg.1 (hr.b6 hb)) ?_
                intro Ir81 Jr81 h81
                obtain ⟨hJ1, hT2, q2⟩ := h81
                obtain rfl : J = Jr81 := hJ1.symm
                have hrs := hr.rs hs hr1 ht0 hg hu q2 hT2
                refine V_go 2 rfl ?_
                refine cVP (mt' := mX3_readTerm) rfl kX3_70 fX3_readTerm rfl rfl rfl (Nat.le_of_ble_eq_true rfl) (Nat.le_of_ble_eq_true rfl) (by omega) (Nat.le_of_ble_eq_true rfl) (Nat.le_refl _) (hf _ _ _ _ _ hrs.1 (by rw [q2.1 6 (by omega)]; exact hr.b6 hb) (by omega)) ?_
                intro r82 Ir82 Jr82 h82
                have hq3 := h82
                obtain rfl : J = Jr82 := hq3.1.symm
                refine V_go 4 rfl ?_
                refine cVW (mt' := mX5_put) rfl kX3_58 fX5_put rfl rfl rfl (Nat.le_of_ble_eq_true rfl) (Nat.le_of_ble_eq_true rfl) (by omega) (Nat.le_of_ble_eq_true rfl) (Nat.le_refl _) (c_putR (v := fun _ => 0) (hr.seq (v := fun _ => 0) hr1 q2 hq3) hs.2.2.1 hs.2.2.2.1 hbud) ?_
                intro Ir83 Jr83 h83
                have hq4 := h83
                obtain rfl : J = Jr83 := hq4.1.symm
                refine V_go 2 rfl ?_
                have hq5 : RdP t u n I J ((f (nxt b n r.2.1)).1, (f (nxt b n r.2.1)).2.1, r.2.2.1 ++ (f (nxt b n r.2.1)).2.2.1 ++ [sumC r.2.1.1], fun e => vBoth (sumC r.2.1.1) (r.2.2.2 e) ((f (nxt b n r.2.1)).2.2.2 e)) r82 Ir83 J := by
                  rw [hc]
                  exact hq4
                refine V.st (I' := Ir83) (L' := [(0, .ref 5), (1, .int (i32 op)), (2, .int (r82)), (3, .int (i32 (i + 1)))]) (ih.un (i + 1) ((f (nxt b n r.2.1)).1, (f (nxt b n r.2.1)).2.1, r.2.2.1 ++ (f (nxt b n r.2.1)).2.2.1 ++ [sumC r.2.1.1], fun e => vBoth (sumC r.2.1.1) (r.2.2.2 e) ((f (nxt b n r.2.1)).2.2.2 e)) r82 Ir83 (by omega) ⟨hq5, hg', hR'⟩) rfl (by rw [i32_s]; simp)
              · skip
                exact absurd (hr.2.2.1.2.2.1.symm.trans h61) hn43
  refine CT_of okX3_readSum (Nat.le_of_ble_eq_true rfl) ?_
  show V _ _ _ _ _ _ [(0, _), (1, _)] _ _ _ _ _
  refine V_go 2 rfl ?_
  refine cVP (mt' := mX3_readTerm) rfl kX3_70 fX3_readTerm rfl rfl rfl (Nat.le_of_ble_eq_true rfl) (Nat.le_of_ble_eq_true rfl) (by omega) (Nat.le_of_ble_eq_true rfl) (Nat.le_refl _) (hf _ _ _ _ _ hs hb hu) ?_
  intro r1 Ir1 Jr1 h1
  have hq1 := h1
  obtain rfl : J = Jr1 := hq1.1.symm
  refine V_go 3 rfl ?_
  exact (key 160).un 0 _ _ _ (Nat.zero_add _) ⟨hq1, hfg s hs.2.1, rfl⟩
