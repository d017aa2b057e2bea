theorem up2_up2 {α : Type} {f : Nat → Nat → α} {o k : Nat} {v w : α} : up2 (up2 f o k v) o k w = up2 f o k w := by
  funext i j
  simp only [up2_rd]
  grind
theorem up2_0 {f : CC} {o k : Nat} {v : Int32} (h : o ≠ 0) (j : Nat) : up2 f o k v 0 j = f 0 j := by rw [up2_ne (Ne.symm h)]
theorem Th.put {I I1 : I2} {T : TV} {C : CC} {g i : Nat} {v : Int32} (h : Th I I1 T C) (hg : 1 ≤ g ∧ g ≤ 6) : Th I (up2 I1 (16 + g) i v) T (up2 C g i v) := by
  have q : Fr 15 I1 (up2 I1 (16 + g) i v) := Fr.up (by omega)
  have e : cOf (up2 I1 (16 + g) i v) 15 = up2 (cOf I1 15) g i v := cOf_row (o := 15) (g := g) (by omega) hg
  refine ⟨?_, h.2.1.fr q ?_, h.2.2.tr q.scr15⟩
  · rw [e]
    exact h.1.up
  · rw [e, up2_ne (by omega)]
theorem Th.rule {I I1 : I2} {T : TV} {C : CC} {v : Int32} (h : Th I I1 T C) (h0 : 0 ≤ v) (h1 : v < I1 1 0) : Th I (up2 I1 15 4 v) T (up2 C 0 2 v) := by
  have q : Fr 15 I1 (up2 I1 15 4 v) := Fr.up (by omega)
  have e : cOf (up2 I1 15 4 v) 15 = up2 (cOf I1 15) 0 2 v := cOf_fld (o := 15) (f := 4) (by omega)
  refine ⟨?_, ?_, h.2.2.tr q.scr15⟩
  · rw [e]
    exact h.1.up
  · obtain ⟨ho, k1, k2, k3, k4⟩ := h.2.1
    refine ⟨ho, k1.scr q.scr15, ?_, ?_, ?_⟩
    · simp only [up2_rd, reduceIte]; exact h0
    · simp only [up2_rd, reduceIte, Nat.reduceEqDiff]; exact h1
    · simp only [up2_rd, reduceIte, Nat.reduceEqDiff]; exact k4
theorem Th.sq {I I1 I9 : I2} {T : TV} {C : CC} (h : Th I I1 T C) (q : Sq 15 I1 I9) : Th I I9 T C := ⟨by rw [cOf_sq (Or.inr (Or.inl rfl)) q]; exact h.1, h.2.1.sq q, h.2.2.tr q.scr15⟩
theorem Th.n3 {I I1 : I2} {T : TV} {C : CC} (h : Th I I1 T C) : I1 15 5 = C 0 3 := h.1.1 3 (by omega)
theorem Th.go {I I1 : I2} {T : TV} {C : CC} (h : Th I I1 T C) : sGo T (cOf I1 15) = sGo T C := h.1.sGo h.n8.1
theorem Th.ls {I I1 : I2} {T : TV} {C : CC} (h : Th I I1 T C) : sLst T (cOf I1 15) = sLst T C := h.1.sLst h.n8.1
theorem Th.dw {I I1 : I2} {T : TV} {C : CC} {it : Nat} (h : Th I I1 T C) (hi : it < mC C) : sDW T it 40 (cOf I1 15) 6 it = sDW T it 40 C 6 it := (h.1.dW (by have := h.nm; omega) 40 h.n8.1 h.n8.2).2.2 6 it (by omega) (by omega) (by have := h.nm; omega)
theorem Th.i7 {I I1 : I2} {T : TV} {C : CC} (h : Th I I1 T C) (hC : Cok I 7 T) : Cok I1 7 T ∧ cOf I1 7 = cOf I 7 := ⟨hC.scr h.2.2, cOf_scr h.2.2⟩
theorem Th.bec2 {I I1 I9 : I2} {T : TV} (hC : Cok I 7 T) (s : Scr I I1) (q : Fr 15 I1 I9) (e : Cq 8 6 (cOf I9 15) (cOf I1 7)) : Th I I9 T (cOf I 7) := by
  have h := Th.bec (hC.scr s) s q e
  rwa [cOf_scr s] at h
theorem c_doneWithinX {x : Int32} {it : Nat} {o : Nat} {I : I2} {J : J2} {T : TV} (hC : Cok I o T) (e : i32 it = x) (hi : it < mC (cOf I o)) : CT mX0_doneWithin 8 58 58 [.ref o, .int 40, .int x] I J RF (RP RF (fun r I2 J2 => r = sDW T it 40 (cOf I o) 6 it ∧ cOf I2 o = sDW T it 40 (cOf I o) ∧ J2 = J ∧ Fr o I I2)) := by
  subst e
  exact c_doneWithin hC hi
theorem c_putKindX {x : Int32} {c o : Nat} {v : Int32} {I : I2} {J : J2} (ho : oC o) (e : i32 c = x) (h1 : i32 c < I o 5) (h2 : c < 8) : CT mX0_putKind 2 58 58 [.ref o, .int x, .int v] I J RF (RV RF (up2 I (o + 2) c v) J) := by
  subst e
  exact c_putKindR ho h1 h2
theorem c_putNumberX {x : Int32} {c o : Nat} {v : Int32} {I : I2} {J : J2} (ho : oC o) (e : i32 c = x) (h1 : i32 c < I o 5) (h2 : c < 8) : CT mX0_putNumber 2 58 58 [.ref o, .int x, .int v] I J RF (RV RF (up2 I (o + 3) c v) J) := by
  subst e
  exact c_putNumberR ho h1 h2
theorem c_putBribeX {x : Int32} {c o : Nat} {v : Int32} {I : I2} {J : J2} (ho : oC o) (e : i32 c = x) (h1 : i32 c < I o 5) (h2 : c < 8) : CT mX0_putBribe 2 58 58 [.ref o, .int x, .int v] I J RF (RV RF (up2 I (o + 4) c v) J) := by
  subst e
  exact c_putBribeR ho h1 h2
theorem c_isReadX {x : Int32} {o c m : Nat} {I : I2} {J : J2} {T : TV} (hC : Cok I o T) (e : i32 c = x) (hc : c < nC (cOf I o)) (hm : m < 256) : CT mX0_isRead 3 58 58 [.ref o, .int x, .int (i32 m)] I J RF (RP RF (fun r I1 J1 => r = sRd T (cOf I o) c (cnt m c) ∧ J1 = J ∧ Sq o I I1)) := by
  subst e
  exact c_isRead hC hc hm
theorem c3lt {C : CC} {c : Nat} (hn : 0 ≤ C 0 3) (h8 : nC C ≤ 8) (h : c < nC C) : i32 c < C 0 3 := by
  unfold nC at *
  generalize C 0 3 = y at *
  have h1 := tcn y hn
  grind [i32_ti]
theorem Th.lt {I I1 : I2} {T : TV} {C : CC} {c : Nat} (h : Th I I1 T C) (hc : c < nC C) : i32 c < I1 15 5 ∧ c < 8 := by
  have h1 := h.nm
  refine ⟨?_, by omega⟩
  rw [h.n3]
  refine c3lt ?_ h1.2.2.1 hc
  rw [← h.n3]
  exact h.2.1.2.2.2.2.1
def sSoo (T : TV) (C : CC) (it : Nat) : Nat → Int32 × Int32
  | 0 => (-1, sDW T it 40 C 6 it)
  | c + 1 => if sDW T it 40 (up2 C 3 c 99) 6 it ≠ -1 ∧ ((sSoo T C it c).2 = -1 ∨ sDW T it 40 (up2 C 3 c 99) 6 it < (sSoo T C it c).2) then (i32 c, sDW T it 40 (up2 C 3 c 99) 6 it) else sSoo T C it c
def sSoon (T : TV) (C : CC) (x w : Int32) : Int32 := if isIt C x ∧ (w = 0 ∨ w = 1) then (if w = 0 then (sSoo T C x.toNatClampNeg (nC C)).1 else (sSoo T C x.toNatClampNeg (nC C)).2) else -2
theorem sSoo_a (T : TV) (C : CC) {it c : Nat} (h : sDW T it 40 (up2 C 3 c 99) 6 it = -1) : sSoo T C it (c + 1) = sSoo T C it c := by rw [sSoo, if_neg (fun h' => h'.1 h)]
theorem sSoo_b (T : TV) (C : CC) {it c : Nat} (h : ¬ sDW T it 40 (up2 C 3 c 99) 6 it = -1) (h2 : (sSoo T C it c).2 = -1 ∨ sDW T it 40 (up2 C 3 c 99) 6 it < (sSoo T C it c).2) : sSoo T C it (c + 1) = (i32 c, sDW T it 40 (up2 C 3 c 99) 6 it) := by rw [sSoo, if_pos ⟨h, h2⟩]
theorem sSoo_c (T : TV) (C : CC) {it c : Nat} (h1 : ¬ (sSoo T C it c).2 = -1) (h2 : ¬ sDW T it 40 (up2 C 3 c 99) 6 it < (sSoo T C it c).2) : sSoo T C it (c + 1) = sSoo T C it c := by rw [sSoo, if_neg (fun h' => h'.2.elim h1 h2)]

theorem c_soonest {x w : Int32} {I : I2} {J : J2} {T : TV} (hC : Cok I 7 T) : CT mX6_soonest 9 58 58 [.ref 0, .int x, .int w] I J RF (RP RF (fun r I1 J1 => r = sSoon T (cOf I 7) x w ∧ J1 = J ∧ Scr I I1)) := by
  obtain ⟨hN8, hM6⟩ := nC8 hC
  obtain ⟨hev, hp, hp1⟩ := evr hC
  have k23 : (isIt (cOf I 7) x ∧ (w = 0 ∨ w = 1)) → V mX6_soonest none 9 58 (RP RF (fun r I1 J1 => r = sSoon T (cOf I 7) x w ∧ J1 = J ∧ Scr I I1)) 23 [(0, .ref 0), (1, .int x), (2, .int w)] [] 58 I J RF := by
    intro pw
    obtain ⟨e5, -⟩ := nC_i hC.2.2.2.2.1 hC.2.2.2.2.2.1
    obtain ⟨pm, px0⟩ := isIt_n pw.1
    have px := px0.symm
    have key : ∀ n, Hid (∀ (i : Nat) (I1 : I2), i + n = nC (cOf I 7) → Scr I I1 → V mX6_soonest none 9 58 (RP RF (fun r I1 J1 => r = sSoon T (cOf I 7) x w ∧ J1 = J ∧ Scr I I1)) 51 [(0, .ref 0), (1, .int x), (2, .int w), (3, .int (sSoo T (cOf I 7) x.toNatClampNeg (i)).2), (4, .int (sSoo T (cOf I 7) x.toNatClampNeg (i)).1), (5, .int (i32 (i)))] [] 58 I1 J RF) := by
      intro n
      induction n with
      | zero =>
        unfold Hid
        intro i I1 hi hq
        have e7 : I1 7 5 = i32 (nC (cOf I 7)) := by rw [hq 7 (by omega) (by omega) (by omega) (by omega) (by omega) (by omega)]; exact e5
        refine V_go 4 rfl ?_
        refine V_icmp_ge rfl (fun h1 => ?_) (fun h1 => ?_)
        · skip
          refine V_go 1 rfl ?_
          refine V_if_ne rfl (fun h2 => ?_) (fun h2 => ?_)
          · skip
            refine V_go 1 rfl ?_
            refine V_iret rfl rfl rfl ?_
            refine RP.mk ⟨?_, rfl, hq⟩
            unfold sSoon
            rw [if_pos pw, show nC (cOf I 7) = i from hi.symm]
            first
              | (rw [if_pos (by assumption)]; done)
              | (rw [if_neg (by assumption)]; done)
          · skip
            refine V_go 2 rfl ?_
            refine V_iret rfl rfl rfl ?_
            refine RP.mk ⟨?_, rfl, hq⟩
            unfold sSoon
            rw [if_pos pw, show nC (cOf I 7) = i from hi.symm]
            first
              | (rw [if_pos (by assumption)]; done)
              | (rw [if_neg (by assumption)]; done)
        · skip
          exfalso
          rw [e7] at h1
          exact h1 (lp_stop hi)
      | succ n ih =>
        unfold Hid
        intro i I1 hi hq
        have e7 : I1 7 5 = i32 (nC (cOf I 7)) := by rw [hq 7 (by omega) (by omega) (by omega) (by omega) (by omega) (by omega)]; exact e5
        refine V_go 4 rfl ?_
        refine V_icmp_ge rfl (fun h1 => ?_) (fun h1 => ?_)
        · skip
          exfalso
          rw [e7] at h1
          exact lp_more (by omega) (by omega) h1
        · skip
          refine V_go 4 rfl ?_
          refine cVW (mt' := mX0_become) rfl kX6_173 fX0_become rfl rfl rfl (Nat.le_of_ble_eq_true rfl) (Nat.le_of_ble_eq_true rfl) (Nat.le_of_ble_eq_true rfl) (Nat.le_of_ble_eq_true rfl) (Nat.le_refl _) (c_become_15_7) ?_
          intro Ir2 Jr2 h2
          obtain ⟨rfl, hc, hq2⟩ := h2
          have hi2 : i < nC (cOf I 7) := by omega
          have ht := Th.bec2 hC hq hq2 hc
          refine V_go 4 rfl ?_
          refine cVV (mt' := mX0_putBribe) rfl kX6_75 fX0_putBribe rfl rfl rfl (Nat.le_of_ble_eq_true rfl) (Nat.le_of_ble_eq_true rfl) (Nat.le_of_ble_eq_true rfl) (Nat.le_of_ble_eq_true rfl) (Nat.le_refl _) (c_putBribeR (Or.inr (Or.inl rfl)) (c := i) (ht.lt hi2).1 (ht.lt hi2).2) ?_
          have ht2 := ht.put (g := 3) (i := i) (v := 99) (by omega)
          refine V_go 4 rfl ?_
          refine cVP (mt' := mX0_doneWithin) rfl kX6_177 fX0_doneWithin rfl rfl rfl (Nat.le_of_ble_eq_true rfl) (Nat.le_of_ble_eq_true rfl) (Nat.le_of_ble_eq_true rfl) (Nat.le_of_ble_eq_true rfl) (Nat.le_refl _) (c_doneWithinX ht2.2.1 px (by rw [ht2.nm.2.1]; exact pm)) ?_
          intro r4 Ir4 Jr4 h4
          obtain ⟨hv, -, rfl, hq3⟩ := h4
          rw [ht2.dw pm] at hv
          subst hv
          refine V_go 3 rfl ?_
          refine V_icmp_eq rfl (fun h5 => ?_) (fun h5 => ?_)
          · skip
            refine V_go 2 rfl ?_
            refine V.st (I' := Ir4) (L' := [(0, .ref 0), (1, .int x), (2, .int w), (3, .int (sSoo T (cOf I 7) x.toNatClampNeg (i + 1)).2), (4, .int (sSoo T (cOf I 7) x.toNatClampNeg (i + 1)).1), (5, .int (i32 (i + 1)))]) (ih.un (i + 1) Ir4 (by omega) (ht2.2.2.tr hq3.scr15)) rfl ?_
            rw [i32_s, sSoo_a _ _ (by assumption)]
            simp
          · skip
            refine V_go 2 rfl ?_
            refine V_icmp_eq rfl (fun h6 => ?_) (fun h6 => ?_)
            · skip
              refine V_go 6 rfl ?_
              refine V.st (I' := Ir4) (L' := [(0, .ref 0), (1, .int x), (2, .int w), (3, .int (sSoo T (cOf I 7) x.toNatClampNeg (i + 1)).2), (4, .int (sSoo T (cOf I 7) x.toNatClampNeg (i + 1)).1), (5, .int (i32 (i + 1)))]) (ih.un (i + 1) Ir4 (by omega) (ht2.2.2.tr hq3.scr15)) rfl ?_
              rw [i32_s, sSoo_b _ _ (by assumption) (Or.inl (by assumption))]
              simp
            · skip
              refine V_go 2 rfl ?_
              refine V_icmp_ge rfl (fun h7 => ?_) (fun h7 => ?_)
              · skip
                refine V_go 2 rfl ?_
                refine V.st (I' := Ir4) (L' := [(0, .ref 0), (1, .int x), (2, .int w), (3, .int (sSoo T (cOf I 7) x.toNatClampNeg (i + 1)).2), (4, .int (sSoo T (cOf I 7) x.toNatClampNeg (i + 1)).1), (5, .int (i32 (i + 1)))]) (ih.un (i + 1) Ir4 (by omega) (ht2.2.2.tr hq3.scr15)) rfl ?_
                rw [i32_s, sSoo_c _ _ (by assumption) (by grind)]
                simp
              · skip
                refine V_go 6 rfl ?_
                refine V.st (I' := Ir4) (L' := [(0, .ref 0), (1, .int x), (2, .int w), (3, .int (sSoo T (cOf I 7) x.toNatClampNeg (i + 1)).2), (4, .int (sSoo T (cOf I 7) x.toNatClampNeg (i + 1)).1), (5, .int (i32 (i + 1)))]) (ih.un (i + 1) Ir4 (by omega) (ht2.2.2.tr hq3.scr15)) rfl ?_
                rw [i32_s, sSoo_b _ _ (by assumption) (Or.inr (by grind))]
                simp
    refine V_go 4 rfl ?_
    refine cVW (mt' := mX0_become) rfl kX6_173 fX0_become rfl rfl rfl (Nat.le_of_ble_eq_true rfl) (Nat.le_of_ble_eq_true rfl) (Nat.le_of_ble_eq_true rfl) (Nat.le_of_ble_eq_true rfl) (Nat.le_refl _) (c_become_15_7) ?_
    intro Ir1 Jr1 h1
    obtain ⟨rfl, hc, hq⟩ := h1
    have ht := Th.bec hC Scr.rf hq hc
    refine V_go 4 rfl ?_
    refine cVP (mt' := mX0_doneWithin) rfl kX6_177 fX0_doneWithin rfl rfl rfl (Nat.le_of_ble_eq_true rfl) (Nat.le_of_ble_eq_true rfl) (Nat.le_of_ble_eq_true rfl) (Nat.le_of_ble_eq_true rfl) (Nat.le_refl _) (c_doneWithinX ht.2.1 px (by rw [ht.nm.2.1]; exact pm)) ?_
    intro r2 Ir2 Jr2 h2
    obtain ⟨hv, -, rfl, hq3⟩ := h2
    rw [ht.dw pm] at hv
    subst hv
    refine V_go 5 rfl ?_
    exact (key _).un 0 _ (Nat.zero_add _) (ht.2.2.tr hq3.scr15)
  refine CT_of okX6_soonest (Nat.le_of_ble_eq_true rfl) ?_
  show V _ _ _ _ _ _ [(0, _), (1, _), (2, _)] _ _ _ _ _
  refine V_go 3 rfl ?_
  refine cVI (mt' := mX0_hasItem) rfl kX6_96 fX0_hasItem rfl rfl rfl (Nat.le_of_ble_eq_true rfl) (Nat.le_of_ble_eq_true rfl) (Nat.le_of_ble_eq_true rfl) (Nat.le_of_ble_eq_true rfl) (Nat.le_refl _) (c_hasItem hC.1) ?_
  refine V_if_eq rfl (fun h2 => ?_) (fun h2 => ?_)
  · skip
    refine V_go 1 rfl ?_
    refine V_iret rfl rfl rfl ?_
    refine RP.mk ⟨?_, rfl, Scr.rf⟩
    unfold sSoon
    refine (if_neg ?_).symm
    rintro ⟨k1, k2⟩
    first
      | (rcases k2 with h | h <;> contradiction)
      | exact absurd (b2i_1 ((isIt_ok hC _).mpr k1)) (by rw [show b2i _ = 0 from by assumption]; decide)
  · skip
    refine V_go 1 rfl ?_
    refine V_if_eq rfl (fun h3 => ?_) (fun h3 => ?_)
    · skip
      refine k23 ⟨(isIt_ok hC _).mp (b2i_eq1.mp ((b2i_or _).resolve_left (by assumption))), ?_⟩
      first
        | exact Or.inl (by assumption)
        | exact Or.inr (by assumption)
    · skip
      refine V_go 2 rfl ?_
      refine V_icmp_eq rfl (fun h4 => ?_) (fun h4 => ?_)
      · skip
        refine k23 ⟨(isIt_ok hC _).mp (b2i_eq1.mp ((b2i_or _).resolve_left (by assumption))), ?_⟩
        first
          | exact Or.inl (by assumption)
          | exact Or.inr (by assumption)
      · skip
        refine V_go 1 rfl ?_
        refine V_iret rfl rfl rfl ?_
        refine RP.mk ⟨?_, rfl, Scr.rf⟩
        unfold sSoon
        refine (if_neg ?_).symm
        rintro ⟨k1, k2⟩
        first
          | (rcases k2 with h | h <;> contradiction)
          | exact absurd (b2i_1 ((isIt_ok hC _).mpr k1)) (by rw [show b2i _ = 0 from by assumption]; decide)
