theorem lg_self (x : Int64) : lg_cmp x x = 0 := by unfold lg_cmp; simp
theorem p_feed0 {I I1 : I2} {x r : Int32} (a : (((0 ≤ x ∧ x ≤ 255) ∧ (((0 ≤ I 5 2 ∧ I 5 2 < 160) ∧ r = I 5 2 + 1 ∧ I1 = up2 (up2 I 6 (I 5 2).toNatClampNeg x) 5 2 (I 5 2 + 1)) ∨ (¬ (0 ≤ I 5 2 ∧ I 5 2 < 160) ∧ r = -4 ∧ I1 = I))) ∨ (¬ (0 ≤ x ∧ x ≤ 255) ∧ r = -2 ∧ I1 = I))) : I1 38 = I 38 := by
  rcases a with ⟨-, ⟨-, -, a⟩ | ⟨-, -, a⟩⟩ | ⟨-, -, a⟩
  · rw [a, up2_ne (by omega), up2_ne (by omega)]
  · rw [a]
  · rw [a]
theorem p_text0 {tc n : Nat} {I I1 : I2} {r : Int32} (a : (tc = 6 ∧ r = -4 ∧ I1 = I) ∨ (tc < 6 ∧ TxP tc n (I 6) I r I1)) : ∀ o, 38 ≤ o → I1 o = I o := by
  intro o ho
  rcases a with ⟨-, -, a⟩ | ⟨-, -, ⟨a, -, -⟩, -⟩
  · rw [a]
  · exact a o (by omega) (by omega) (by omega) (by omega)
theorem Scr.hi {I I1 : I2} (h : Scr I I1) : ∀ a, 54 ≤ a → a ≤ 57 → I1 a = I a := fun a h1 h2 => h a (by omega) (by omega) (by omega) (by omega) (by omega) (by omega)

set_option maxRecDepth 20000 in
theorem law_set {L9 i tc n : Nat} {xs : Nat → Int32} {T : TV} {I : I2} {J : J2} {Q : QT} (hI1 : inb (i32 i + 1) L9) (hI2 : inb (i32 i + 2) L9) (hI3 : inb (i32 i + 3) L9) (hI4 : inb (i32 i + 4) L9) (hI5 : inb (i32 i + 5) L9) (h : Rl tc n T I J) (kk : ∀ (I9 : I2) (J9 : J2) (tc9 n9 : Nat) (T9 : TV), Rl tc9 n9 T9 I9 J9 → V mL_law (some (L9, xs)) 53 58 Q 1002 [(0, .ref 4000), (1, .ref 0), (2, .ref 38), (3, .int (i32 i))] [] 58 I9 J9 RF) : V mL_law (some (L9, xs)) 53 58 Q 164 [(0, .ref 4000), (1, .ref 0), (2, .ref 38), (3, .int (i32 i))] [] 58 I J RF := by
  refine V_go 5 rfl ?_
  refine V_sld rfl hI1 ?_
  refine V_go 4 rfl ?_
  refine V_sld rfl hI2 ?_
  refine V_go 4 rfl ?_
  refine V_sld rfl hI3 ?_
  refine cVP (mt' := mX6_set) rfl kL_13 fX6_set rfl rfl rfl (Nat.le_of_ble_eq_true rfl) (Nat.le_of_ble_eq_true rfl) (Nat.le_of_ble_eq_true rfl) (Nat.le_of_ble_eq_true rfl) (Nat.le_refl _) (c_set h.1) ?_
  intro r1 Ir1 Jr1 h1
  obtain ⟨hj, hf, ha⟩ := h1
  subst hj
  refine V_go 5 rfl ?_
  refine V_sld rfl hI1 ?_
  refine V_go 4 rfl ?_
  refine V_sld rfl hI2 ?_
  refine V_go 4 rfl ?_
  refine V_sld rfl hI3 ?_
  refine cVP (mt' := mX7_set) rfl kL_17 fX7_set rfl rfl rfl (Nat.le_of_ble_eq_true rfl) (Nat.le_of_ble_eq_true rfl) (Nat.le_of_ble_eq_true rfl) (Nat.le_of_ble_eq_true rfl) (Nat.le_refl _) (c_set7 (h.midc hf)) ?_
  intro r2 Ir2 Jr2 h2
  obtain ⟨hq2, hb⟩ := h2
  obtain ⟨hr, h9⟩ := p_set h hf ha hq2 hb
  refine V_icmp_eq rfl (fun h3 => ?_) (fun h3 => ?_)
  · skip
    exact kk _ _ _ _ _ h9
  · skip
    exact absurd hr h3
set_option maxRecDepth 20000 in
theorem law_citizen {L9 i tc n : Nat} {xs : Nat → Int32} {T : TV} {I : I2} {J : J2} {Q : QT} (hI1 : inb (i32 i + 1) L9) (hI2 : inb (i32 i + 2) L9) (hI3 : inb (i32 i + 3) L9) (hI4 : inb (i32 i + 4) L9) (hI5 : inb (i32 i + 5) L9) (h : Rl tc n T I J) (kk : ∀ (I9 : I2) (J9 : J2) (tc9 n9 : Nat) (T9 : TV), Rl tc9 n9 T9 I9 J9 → V mL_law (some (L9, xs)) 53 58 Q 1002 [(0, .ref 4000), (1, .ref 0), (2, .ref 38), (3, .int (i32 i))] [] 58 I9 J9 RF) : V mL_law (some (L9, xs)) 53 58 Q 207 [(0, .ref 4000), (1, .ref 0), (2, .ref 38), (3, .int (i32 i))] [] 58 I J RF := by
  refine V_go 5 rfl ?_
  refine V_sld rfl hI1 ?_
  refine V_go 4 rfl ?_
  refine V_sld rfl hI2 ?_
  refine cVP (mt' := mX6_citizen) rfl kL_18 fX6_citizen rfl rfl rfl (Nat.le_of_ble_eq_true rfl) (Nat.le_of_ble_eq_true rfl) (Nat.le_of_ble_eq_true rfl) (Nat.le_of_ble_eq_true rfl) (Nat.le_refl _) (c_citizen h.1) ?_
  intro r1 Ir1 Jr1 h1
  obtain ⟨hj, hf, hr, hc⟩ := h1
  subst hj
  refine V_go 5 rfl ?_
  refine V_sld rfl hI1 ?_
  refine V_go 4 rfl ?_
  refine V_sld rfl hI2 ?_
  refine cVP (mt' := mX7_citizen) rfl kL_22 fX7_citizen rfl rfl rfl (Nat.le_of_ble_eq_true rfl) (Nat.le_of_ble_eq_true rfl) (Nat.le_of_ble_eq_true rfl) (Nat.le_of_ble_eq_true rfl) (Nat.le_refl _) (c_citizen7 (h.midc hf.sc2)) ?_
  intro r2 Ir2 Jr2 h2
  obtain ⟨hq2, hv, hM2⟩ := h2
  refine V_icmp_eq rfl (fun h3 => ?_) (fun h3 => ?_)
  · skip
    exact kk _ _ _ _ _ (h.cg hf.sc2 hc hq2 hM2 Gw.addC)
  · skip
    exact absurd (hr.trans hv.symm) h3
set_option maxRecDepth 20000 in
theorem law_business {L9 i tc n : Nat} {xs : Nat → Int32} {T : TV} {I : I2} {J : J2} {Q : QT} (hI1 : inb (i32 i + 1) L9) (hI2 : inb (i32 i + 2) L9) (hI3 : inb (i32 i + 3) L9) (hI4 : inb (i32 i + 4) L9) (hI5 : inb (i32 i + 5) L9) (h : Rl tc n T I J) (kk : ∀ (I9 : I2) (J9 : J2) (tc9 n9 : Nat) (T9 : TV), Rl tc9 n9 T9 I9 J9 → V mL_law (some (L9, xs)) 53 58 Q 1002 [(0, .ref 4000), (1, .ref 0), (2, .ref 38), (3, .int (i32 i))] [] 58 I9 J9 RF) : V mL_law (some (L9, xs)) 53 58 Q 240 [(0, .ref 4000), (1, .ref 0), (2, .ref 38), (3, .int (i32 i))] [] 58 I J RF := by
  refine V_go 5 rfl ?_
  refine V_sld rfl hI1 ?_
  refine cVP (mt' := mX6_business) rfl kL_23 fX6_business rfl rfl rfl (Nat.le_of_ble_eq_true rfl) (Nat.le_of_ble_eq_true rfl) (Nat.le_of_ble_eq_true rfl) (Nat.le_of_ble_eq_true rfl) (Nat.le_refl _) (c_business h.1) ?_
  intro r1 Ir1 Jr1 h1
  obtain ⟨hj, hf, hr, hc⟩ := h1
  subst hj
  refine V_go 5 rfl ?_
  refine V_sld rfl hI1 ?_
  refine cVP (mt' := mX7_business) rfl kL_27 fX7_business rfl rfl rfl (Nat.le_of_ble_eq_true rfl) (Nat.le_of_ble_eq_true rfl) (Nat.le_of_ble_eq_true rfl) (Nat.le_of_ble_eq_true rfl) (Nat.le_refl _) (c_business7 (h.midc hf.sc2)) ?_
  intro r2 Ir2 Jr2 h2
  obtain ⟨hq2, hv, hM2⟩ := h2
  refine V_icmp_eq rfl (fun h3 => ?_) (fun h3 => ?_)
  · skip
    exact kk _ _ _ _ _ (h.cg hf.sc2 hc hq2 hM2 Gw.addI)
  · skip
    exact absurd (hr.trans hv.symm) h3
set_option maxRecDepth 20000 in
theorem law_told {L9 i tc n : Nat} {xs : Nat → Int32} {T : TV} {I : I2} {J : J2} {Q : QT} (hI1 : inb (i32 i + 1) L9) (hI2 : inb (i32 i + 2) L9) (hI3 : inb (i32 i + 3) L9) (hI4 : inb (i32 i + 4) L9) (hI5 : inb (i32 i + 5) L9) (h : Rl tc n T I J) (kk : ∀ (I9 : I2) (J9 : J2) (tc9 n9 : Nat) (T9 : TV), Rl tc9 n9 T9 I9 J9 → V mL_law (some (L9, xs)) 53 58 Q 1002 [(0, .ref 4000), (1, .ref 0), (2, .ref 38), (3, .int (i32 i))] [] 58 I9 J9 RF) : V mL_law (some (L9, xs)) 53 58 Q 263 [(0, .ref 4000), (1, .ref 0), (2, .ref 38), (3, .int (i32 i))] [] 58 I J RF := by
  refine V_go 5 rfl ?_
  refine V_sld rfl hI1 ?_
  refine V_go 4 rfl ?_
  refine V_sld rfl hI2 ?_
  refine cVP (mt' := mX6_told) rfl kL_28 fX6_told rfl rfl rfl (Nat.le_of_ble_eq_true rfl) (Nat.le_of_ble_eq_true rfl) (Nat.le_of_ble_eq_true rfl) (Nat.le_of_ble_eq_true rfl) (Nat.le_refl _) (c_told h.1) ?_
  intro r1 Ir1 Jr1 h1
  obtain ⟨hr, hj, hf⟩ := h1
  subst hj
  have hM := h.midq hf
  refine V_go 5 rfl ?_
  refine V_sld rfl hI1 ?_
  refine V_go 4 rfl ?_
  refine V_sld rfl hI2 ?_
  refine cVP (mt' := mX7_told) rfl kL_31 fX7_told rfl rfl rfl (Nat.le_of_ble_eq_true rfl) (Nat.le_of_ble_eq_true rfl) (Nat.le_of_ble_eq_true rfl) (Nat.le_of_ble_eq_true rfl) (Nat.le_refl _) (c_told7 hM) ?_
  intro r2 Ir2 Jr2 h2
  obtain ⟨hv, hM2, hq2⟩ := h2
  refine V_icmp_eq rfl (fun h3 => ?_) (fun h3 => ?_)
  · skip
    exact kk _ _ _ _ _ (h.q hf hq2.mp hM2)
  · skip
    exact absurd (hr.trans hv.symm) h3
set_option maxRecDepth 20000 in
theorem law_feed {L9 i tc n : Nat} {xs : Nat → Int32} {T : TV} {I : I2} {J : J2} {Q : QT} (hI1 : inb (i32 i + 1) L9) (hI2 : inb (i32 i + 2) L9) (hI3 : inb (i32 i + 3) L9) (hI4 : inb (i32 i + 4) L9) (hI5 : inb (i32 i + 5) L9) (h : Rl tc n T I J) (kk : ∀ (I9 : I2) (J9 : J2) (tc9 n9 : Nat) (T9 : TV), Rl tc9 n9 T9 I9 J9 → V mL_law (some (L9, xs)) 53 58 Q 1002 [(0, .ref 4000), (1, .ref 0), (2, .ref 38), (3, .int (i32 i))] [] 58 I9 J9 RF) : V mL_law (some (L9, xs)) 53 58 Q 296 [(0, .ref 4000), (1, .ref 0), (2, .ref 38), (3, .int (i32 i))] [] 58 I J RF := by
  refine V_go 5 rfl ?_
  refine V_sld rfl hI1 ?_
  refine cVP (mt' := mX6_feed) rfl kL_32 fX6_feed rfl rfl rfl (Nat.le_of_ble_eq_true rfl) (Nat.le_of_ble_eq_true rfl) (Nat.le_of_ble_eq_true rfl) (Nat.le_of_ble_eq_true rfl) (Nat.le_refl _) (c_feed) ?_
  intro r1 Ir1 Jr1 h1
  obtain ⟨hj, ha⟩ := h1
  subst hj
  refine V_go 5 rfl ?_
  refine V_sld rfl hI1 ?_
  refine cVP (mt' := mX7_feed) rfl kL_35 fX7_feed rfl rfl rfl (Nat.le_of_ble_eq_true rfl) (Nat.le_of_ble_eq_true rfl) (Nat.le_of_ble_eq_true rfl) (Nat.le_of_ble_eq_true rfl) (Nat.le_refl _) (c_feed7 (n := n) (by rw [p_feed0 ha]; exact h.2.2.2.2.1.2.1) h.2.2.2.2.1.2.2.1) ?_
  intro r2 Ir2 Jr2 h2
  obtain ⟨hj, hb⟩ := h2
  subst hj
  obtain ⟨hr, n9, h9⟩ := p_feed h ha hb
  refine V_icmp_eq rfl (fun h3 => ?_) (fun h3 => ?_)
  · skip
    exact kk _ _ _ _ _ h9
  · skip
    exact absurd hr h3
set_option maxRecDepth 20000 in
theorem law_text {L9 i tc n : Nat} {xs : Nat → Int32} {T : TV} {I : I2} {J : J2} {Q : QT} (hI1 : inb (i32 i + 1) L9) (hI2 : inb (i32 i + 2) L9) (hI3 : inb (i32 i + 3) L9) (hI4 : inb (i32 i + 4) L9) (hI5 : inb (i32 i + 5) L9) (h : Rl tc n T I J) (kk : ∀ (I9 : I2) (J9 : J2) (tc9 n9 : Nat) (T9 : TV), Rl tc9 n9 T9 I9 J9 → V mL_law (some (L9, xs)) 53 58 Q 1002 [(0, .ref 4000), (1, .ref 0), (2, .ref 38), (3, .int (i32 i))] [] 58 I9 J9 RF) : V mL_law (some (L9, xs)) 53 58 Q 319 [(0, .ref 4000), (1, .ref 0), (2, .ref 38), (3, .int (i32 i))] [] 58 I J RF := by
  refine V_go 1 rfl ?_
  refine cVP (mt' := mX6_text) rfl kL_36 fX6_text rfl rfl rfl (Nat.le_of_ble_eq_true rfl) (Nat.le_of_ble_eq_true rfl) (Nat.le_of_ble_eq_true rfl) (Nat.le_of_ble_eq_true rfl) (Nat.le_refl _) (c_text h.2.2.2.2.1.1 h.2.2.2.2.1.2.2.1 h.2.2.1 h.2.1.2.2.2.2.1) ?_
  intro r1 Ir1 Jr1 h1
  obtain ⟨hj, ha⟩ := h1
  subst hj
  refine V_go 1 rfl ?_
  refine cVP (mt' := mX7_text) rfl kL_40 fX7_text rfl rfl rfl (Nat.le_of_ble_eq_true rfl) (Nat.le_of_ble_eq_true rfl) (Nat.le_of_ble_eq_true rfl) (Nat.le_of_ble_eq_true rfl) (Nat.le_refl _) (c_text7 (h.2.1.hi (p_text0 ha)) (n9 := n) (by rw [p_text0 ha 38 (by omega)]; exact h.2.2.2.2.1.2.1) h.2.2.2.2.1.2.2.1 (fun i hi => by rw [p_text0 ha 41 (by omega)]; exact (h.2.2.2.2.1.2.2.2 i hi).2)) ?_
  intro r2 Ir2 Jr2 h2
  obtain ⟨hr, tc9, n9, T9, h9⟩ := p_text h ha h2
  refine V_icmp_eq rfl (fun h3 => ?_) (fun h3 => ?_)
  · skip
    exact kk _ _ _ _ _ h9
  · skip
    exact absurd hr h3
set_option maxRecDepth 20000 in
theorem law_force {L9 i tc n : Nat} {xs : Nat → Int32} {T : TV} {I : I2} {J : J2} {Q : QT} (hI1 : inb (i32 i + 1) L9) (hI2 : inb (i32 i + 2) L9) (hI3 : inb (i32 i + 3) L9) (hI4 : inb (i32 i + 4) L9) (hI5 : inb (i32 i + 5) L9) (h : Rl tc n T I J) (kk : ∀ (I9 : I2) (J9 : J2) (tc9 n9 : Nat) (T9 : TV), Rl tc9 n9 T9 I9 J9 → V mL_law (some (L9, xs)) 53 58 Q 1002 [(0, .ref 4000), (1, .ref 0), (2, .ref 38), (3, .int (i32 i))] [] 58 I9 J9 RF) : V mL_law (some (L9, xs)) 53 58 Q 332 [(0, .ref 4000), (1, .ref 0), (2, .ref 38), (3, .int (i32 i))] [] 58 I J RF := by
  refine V_go 5 rfl ?_
  refine V_sld rfl hI1 ?_
  refine cVP (mt' := mX6_force) rfl kL_41 fX6_force rfl rfl rfl (Nat.le_of_ble_eq_true rfl) (Nat.le_of_ble_eq_true rfl) (Nat.le_of_ble_eq_true rfl) (Nat.le_of_ble_eq_true rfl) (Nat.le_refl _) (c_force h.1) ?_
  intro r1 Ir1 Jr1 h1
  obtain ⟨hj, hf, ha⟩ := h1
  subst hj
  refine V_go 5 rfl ?_
  refine V_sld rfl hI1 ?_
  refine cVP (mt' := mX7_force) rfl kL_44 fX7_force rfl rfl rfl (Nat.le_of_ble_eq_true rfl) (Nat.le_of_ble_eq_true rfl) (Nat.le_of_ble_eq_true rfl) (Nat.le_of_ble_eq_true rfl) (Nat.le_refl _) (c_force7 (h.midc hf.sc2)) ?_
  intro r2 Ir2 Jr2 h2
  obtain ⟨hq2, hb⟩ := h2
  obtain ⟨hr, h9⟩ := p_force h hf ha hq2 hb
  refine V_icmp_eq rfl (fun h3 => ?_) (fun h3 => ?_)
  · skip
    exact kk _ _ _ _ _ h9
  · skip
    exact absurd hr h3
set_option maxRecDepth 20000 in
theorem law_list {L9 i tc n : Nat} {xs : Nat → Int32} {T : TV} {I : I2} {J : J2} {Q : QT} (hI1 : inb (i32 i + 1) L9) (hI2 : inb (i32 i + 2) L9) (hI3 : inb (i32 i + 3) L9) (hI4 : inb (i32 i + 4) L9) (hI5 : inb (i32 i + 5) L9) (h : Rl tc n T I J) (kk : ∀ (I9 : I2) (J9 : J2) (tc9 n9 : Nat) (T9 : TV), Rl tc9 n9 T9 I9 J9 → V mL_law (some (L9, xs)) 53 58 Q 1002 [(0, .ref 4000), (1, .ref 0), (2, .ref 38), (3, .int (i32 i))] [] 58 I9 J9 RF) : V mL_law (some (L9, xs)) 53 58 Q 355 [(0, .ref 4000), (1, .ref 0), (2, .ref 38), (3, .int (i32 i))] [] 58 I J RF := by
  refine V_go 5 rfl ?_
  refine V_sld rfl hI1 ?_
  refine cVP (mt' := mX6_list) rfl kL_45 fX6_list rfl rfl rfl (Nat.le_of_ble_eq_true rfl) (Nat.le_of_ble_eq_true rfl) (Nat.le_of_ble_eq_true rfl) (Nat.le_of_ble_eq_true rfl) (Nat.le_refl _) (c_xlist h.1) ?_
  intro r1 Ir1 Jr1 h1
  obtain ⟨hr, hj, hf⟩ := h1
  subst hj
  have hM := h.midq hf
  refine V_go 5 rfl ?_
  refine V_sld rfl hI1 ?_
  refine cVP (mt' := mX7_list) rfl kL_48 fX7_list rfl rfl rfl (Nat.le_of_ble_eq_true rfl) (Nat.le_of_ble_eq_true rfl) (Nat.le_of_ble_eq_true rfl) (Nat.le_of_ble_eq_true rfl) (Nat.le_refl _) (c_list7 hM) ?_
  intro r2 Ir2 Jr2 h2
  obtain ⟨hv, hM2, hq2⟩ := h2
  refine V_icmp_eq rfl (fun h3 => ?_) (fun h3 => ?_)
  · skip
    exact kk _ _ _ _ _ (h.q hf hq2 hM2)
  · skip
    exact absurd (hr.trans hv.symm) h3
set_option maxRecDepth 20000 in
theorem law_by {L9 i tc n : Nat} {xs : Nat → Int32} {T : TV} {I : I2} {J : J2} {Q : QT} (hI1 : inb (i32 i + 1) L9) (hI2 : inb (i32 i + 2) L9) (hI3 : inb (i32 i + 3) L9) (hI4 : inb (i32 i + 4) L9) (hI5 : inb (i32 i + 5) L9) (h : Rl tc n T I J) (kk : ∀ (I9 : I2) (J9 : J2) (tc9 n9 : Nat) (T9 : TV), Rl tc9 n9 T9 I9 J9 → V mL_law (some (L9, xs)) 53 58 Q 1002 [(0, .ref 4000), (1, .ref 0), (2, .ref 38), (3, .int (i32 i))] [] 58 I9 J9 RF) : V mL_law (some (L9, xs)) 53 58 Q 378 [(0, .ref 4000), (1, .ref 0), (2, .ref 38), (3, .int (i32 i))] [] 58 I J RF := by
  refine V_go 5 rfl ?_
  refine V_sld rfl hI1 ?_
  refine cVP (mt' := mX6_by) rfl kL_49 fX6_by rfl rfl rfl (Nat.le_of_ble_eq_true rfl) (Nat.le_of_ble_eq_true rfl) (Nat.le_of_ble_eq_true rfl) (Nat.le_of_ble_eq_true rfl) (Nat.le_refl _) (c_by h.1) ?_
  intro r1 Ir1 Jr1 h1
  obtain ⟨hr, hj, hf⟩ := h1
  subst hj
  have hM := h.midq hf
  refine V_go 5 rfl ?_
  refine V_sld rfl hI1 ?_
  refine cVP (mt' := mX7_by) rfl kL_52 fX7_by rfl rfl rfl (Nat.le_of_ble_eq_true rfl) (Nat.le_of_ble_eq_true rfl) (Nat.le_of_ble_eq_true rfl) (Nat.le_of_ble_eq_true rfl) (Nat.le_refl _) (c_by7 hM) ?_
  intro r2 Ir2 Jr2 h2
  obtain ⟨hv, hM2, hq2⟩ := h2
  refine V_icmp_eq rfl (fun h3 => ?_) (fun h3 => ?_)
  · skip
    exact kk _ _ _ _ _ (h.q hf hq2 hM2)
  · skip
    exact absurd (hr.trans hv.symm) h3
set_option maxRecDepth 20000 in
theorem law_sit {L9 i tc n : Nat} {xs : Nat → Int32} {T : TV} {I : I2} {J : J2} {Q : QT} (hI1 : inb (i32 i + 1) L9) (hI2 : inb (i32 i + 2) L9) (hI3 : inb (i32 i + 3) L9) (hI4 : inb (i32 i + 4) L9) (hI5 : inb (i32 i + 5) L9) (h : Rl tc n T I J) (kk : ∀ (I9 : I2) (J9 : J2) (tc9 n9 : Nat) (T9 : TV), Rl tc9 n9 T9 I9 J9 → V mL_law (some (L9, xs)) 53 58 Q 1002 [(0, .ref 4000), (1, .ref 0), (2, .ref 38), (3, .int (i32 i))] [] 58 I9 J9 RF) : V mL_law (some (L9, xs)) 53 58 Q 401 [(0, .ref 4000), (1, .ref 0), (2, .ref 38), (3, .int (i32 i))] [] 58 I J RF := by
  refine V_go 1 rfl ?_
  refine cVP (mt' := mX6_sit) rfl kL_53 fX6_sit rfl rfl rfl (Nat.le_of_ble_eq_true rfl) (Nat.le_of_ble_eq_true rfl) (Nat.le_of_ble_eq_true rfl) (Nat.le_of_ble_eq_true rfl) (Nat.le_refl _) (c_sit h.1) ?_
  intro r1 Ir1 Jr1 h1
  obtain ⟨hr, hj, hc, hf⟩ := h1
  subst hj
  refine V_go 1 rfl ?_
  refine cVP (mt' := mX7_sit) rfl kL_56 fX7_sit rfl rfl rfl (Nat.le_of_ble_eq_true rfl) (Nat.le_of_ble_eq_true rfl) (Nat.le_of_ble_eq_true rfl) (Nat.le_of_ble_eq_true rfl) (Nat.le_refl _) (c_sit7 (h.midc hf.sc2) h.2.2.2.1) ?_
  intro r2 Ir2 Jr2 h2
  obtain ⟨hv, hM2, hq2⟩ := h2
  refine V_icmp_eq rfl (fun h3 => ?_) (fun h3 => ?_)
  · skip
    exact kk _ _ _ _ _ (h.cg hf.sc2 hc hq2 hM2 (Gw.sit h.2.1.2.1.1.1))
  · skip
    exact absurd (hr.trans hv.symm) h3
set_option maxRecDepth 20000 in
theorem law_run {L9 i tc n : Nat} {xs : Nat → Int32} {T : TV} {I : I2} {J : J2} {Q : QT} (hI1 : inb (i32 i + 1) L9) (hI2 : inb (i32 i + 2) L9) (hI3 : inb (i32 i + 3) L9) (hI4 : inb (i32 i + 4) L9) (hI5 : inb (i32 i + 5) L9) (h : Rl tc n T I J) (kk : ∀ (I9 : I2) (J9 : J2) (tc9 n9 : Nat) (T9 : TV), Rl tc9 n9 T9 I9 J9 → V mL_law (some (L9, xs)) 53 58 Q 1002 [(0, .ref 4000), (1, .ref 0), (2, .ref 38), (3, .int (i32 i))] [] 58 I9 J9 RF) : V mL_law (some (L9, xs)) 53 58 Q 414 [(0, .ref 4000), (1, .ref 0), (2, .ref 38), (3, .int (i32 i))] [] 58 I J RF := by
  refine V_go 5 rfl ?_
  refine V_sld rfl hI1 ?_
  refine V_go 4 rfl ?_
  refine V_sld rfl hI2 ?_
  refine cVP (mt' := mX6_run) rfl kL_57 fX6_run rfl rfl rfl (Nat.le_of_ble_eq_true rfl) (Nat.le_of_ble_eq_true rfl) (Nat.le_of_ble_eq_true rfl) (Nat.le_of_ble_eq_true rfl) (Nat.le_refl _) (c_run h.1) ?_
  intro r1 Ir1 Jr1 h1
  obtain ⟨hr, hj, hf⟩ := h1
  subst hj
  have hM := h.midq hf
  refine V_go 5 rfl ?_
  refine V_sld rfl hI1 ?_
  refine V_go 4 rfl ?_
  refine V_sld rfl hI2 ?_
  refine cVP (mt' := mX7_run) rfl kL_60 fX7_run rfl rfl rfl (Nat.le_of_ble_eq_true rfl) (Nat.le_of_ble_eq_true rfl) (Nat.le_of_ble_eq_true rfl) (Nat.le_of_ble_eq_true rfl) (Nat.le_refl _) (c_run7 hM h.2.2.2.1) ?_
  intro r2 Ir2 Jr2 h2
  obtain ⟨hv, hM2, hq2⟩ := h2
  refine V_icmp_eq rfl (fun h3 => ?_) (fun h3 => ?_)
  · skip
    exact kk _ _ _ _ _ (h.q hf hq2 hM2)
  · skip
    exact absurd (hr.trans hv.symm) h3
set_option maxRecDepth 20000 in
theorem law_shortest {L9 i tc n : Nat} {xs : Nat → Int32} {T : TV} {I : I2} {J : J2} {Q : QT} (hI1 : inb (i32 i + 1) L9) (hI2 : inb (i32 i + 2) L9) (hI3 : inb (i32 i + 3) L9) (hI4 : inb (i32 i + 4) L9) (hI5 : inb (i32 i + 5) L9) (h : Rl tc n T I J) (kk : ∀ (I9 : I2) (J9 : J2) (tc9 n9 : Nat) (T9 : TV), Rl tc9 n9 T9 I9 J9 → V mL_law (some (L9, xs)) 53 58 Q 1002 [(0, .ref 4000), (1, .ref 0), (2, .ref 38), (3, .int (i32 i))] [] 58 I9 J9 RF) : V mL_law (some (L9, xs)) 53 58 Q 447 [(0, .ref 4000), (1, .ref 0), (2, .ref 38), (3, .int (i32 i))] [] 58 I J RF := by
  refine V_go 5 rfl ?_
  refine V_sld rfl hI1 ?_
  refine cVP (mt' := mX6_shortest) rfl kL_61 fX6_shortest rfl rfl rfl (Nat.le_of_ble_eq_true rfl) (Nat.le_of_ble_eq_true rfl) (Nat.le_of_ble_eq_true rfl) (Nat.le_of_ble_eq_true rfl) (Nat.le_refl _) (c_shortest h.1) ?_
  intro r1 Ir1 Jr1 h1
  obtain ⟨hr, hj, hf⟩ := h1
  subst hj
  have hM := h.midq hf
  refine V_go 5 rfl ?_
  refine V_sld rfl hI1 ?_
  refine cVP (mt' := mX7_shortest) rfl kL_64 fX7_shortest rfl rfl rfl (Nat.le_of_ble_eq_true rfl) (Nat.le_of_ble_eq_true rfl) (Nat.le_of_ble_eq_true rfl) (Nat.le_of_ble_eq_true rfl) (Nat.le_refl _) (c_shortest7 hM) ?_
  intro r2 Ir2 Jr2 h2
  obtain ⟨hv, hM2, hq2⟩ := h2
  refine V_icmp_eq rfl (fun h3 => ?_) (fun h3 => ?_)
  · skip
    exact kk _ _ _ _ _ (h.q hf hq2 hM2)
  · skip
    exact absurd (hr.trans hv.symm) h3
set_option maxRecDepth 20000 in
theorem law_fewest {L9 i tc n : Nat} {xs : Nat → Int32} {T : TV} {I : I2} {J : J2} {Q : QT} (hI1 : inb (i32 i + 1) L9) (hI2 : inb (i32 i + 2) L9) (hI3 : inb (i32 i + 3) L9) (hI4 : inb (i32 i + 4) L9) (hI5 : inb (i32 i + 5) L9) (h : Rl tc n T I J) (kk : ∀ (I9 : I2) (J9 : J2) (tc9 n9 : Nat) (T9 : TV), Rl tc9 n9 T9 I9 J9 → V mL_law (some (L9, xs)) 53 58 Q 1002 [(0, .ref 4000), (1, .ref 0), (2, .ref 38), (3, .int (i32 i))] [] 58 I9 J9 RF) : V mL_law (some (L9, xs)) 53 58 Q 470 [(0, .ref 4000), (1, .ref 0), (2, .ref 38), (3, .int (i32 i))] [] 58 I J RF := by
  refine V_go 5 rfl ?_
  refine V_sld rfl hI1 ?_
  refine cVP (mt' := mX6_fewest) rfl kL_65 fX6_fewest rfl rfl rfl (Nat.le_of_ble_eq_true rfl) (Nat.le_of_ble_eq_true rfl) (Nat.le_of_ble_eq_true rfl) (Nat.le_of_ble_eq_true rfl) (Nat.le_refl _) (c_fewest h.1) ?_
  intro r1 Ir1 Jr1 h1
  obtain ⟨hr, hj, hf⟩ := h1
  subst hj
  have hM := h.midq hf
  refine V_go 5 rfl ?_
  refine V_sld rfl hI1 ?_
  refine cVP (mt' := mX7_fewest) rfl kL_68 fX7_fewest rfl rfl rfl (Nat.le_of_ble_eq_true rfl) (Nat.le_of_ble_eq_true rfl) (Nat.le_of_ble_eq_true rfl) (Nat.le_of_ble_eq_true rfl) (Nat.le_refl _) (c_fewest7 hM) ?_
  intro r2 Ir2 Jr2 h2
  obtain ⟨hv, hM2, hq2⟩ := h2
  refine V_icmp_eq rfl (fun h3 => ?_) (fun h3 => ?_)
  · skip
    exact kk _ _ _ _ _ (h.q hf hq2 hM2)
  · skip
    exact absurd (hr.trans hv.symm) h3
set_option maxRecDepth 20000 in
theorem law_soonest {L9 i tc n : Nat} {xs : Nat → Int32} {T : TV} {I : I2} {J : J2} {Q : QT} (hI1 : inb (i32 i + 1) L9) (hI2 : inb (i32 i + 2) L9) (hI3 : inb (i32 i + 3) L9) (hI4 : inb (i32 i + 4) L9) (hI5 : inb (i32 i + 5) L9) (h : Rl tc n T I J) (kk : ∀ (I9 : I2) (J9 : J2) (tc9 n9 : Nat) (T9 : TV), Rl tc9 n9 T9 I9 J9 → V mL_law (some (L9, xs)) 53 58 Q 1002 [(0, .ref 4000), (1, .ref 0), (2, .ref 38), (3, .int (i32 i))] [] 58 I9 J9 RF) : V mL_law (some (L9, xs)) 53 58 Q 493 [(0, .ref 4000), (1, .ref 0), (2, .ref 38), (3, .int (i32 i))] [] 58 I J RF := by
  refine V_go 5 rfl ?_
  refine V_sld rfl hI1 ?_
  refine V_go 4 rfl ?_
  refine V_sld rfl hI2 ?_
  refine cVP (mt' := mX6_soonest) rfl kL_69 fX6_soonest rfl rfl rfl (Nat.le_of_ble_eq_true rfl) (Nat.le_of_ble_eq_true rfl) (Nat.le_of_ble_eq_true rfl) (Nat.le_of_ble_eq_true rfl) (Nat.le_refl _) (c_soonest h.1) ?_
  intro r1 Ir1 Jr1 h1
  obtain ⟨hr, hj, hf⟩ := h1
  subst hj
  have hM := h.midq hf
  refine V_go 5 rfl ?_
  refine V_sld rfl hI1 ?_
  refine V_go 4 rfl ?_
  refine V_sld rfl hI2 ?_
  refine cVP (mt' := mX7_soonest) rfl kL_72 fX7_soonest rfl rfl rfl (Nat.le_of_ble_eq_true rfl) (Nat.le_of_ble_eq_true rfl) (Nat.le_of_ble_eq_true rfl) (Nat.le_of_ble_eq_true rfl) (Nat.le_refl _) (c_soonest7 hM h.2.2.2.1) ?_
  intro r2 Ir2 Jr2 h2
  obtain ⟨hv, hM2, hq2⟩ := h2
  refine V_icmp_eq rfl (fun h3 => ?_) (fun h3 => ?_)
  · skip
    exact kk _ _ _ _ _ (h.q hf hq2 hM2)
  · skip
    exact absurd (hr.trans hv.symm) h3
set_option maxRecDepth 20000 in
theorem law_bribe {L9 i tc n : Nat} {xs : Nat → Int32} {T : TV} {I : I2} {J : J2} {Q : QT} (hI1 : inb (i32 i + 1) L9) (hI2 : inb (i32 i + 2) L9) (hI3 : inb (i32 i + 3) L9) (hI4 : inb (i32 i + 4) L9) (hI5 : inb (i32 i + 5) L9) (h : Rl tc n T I J) (kk : ∀ (I9 : I2) (J9 : J2) (tc9 n9 : Nat) (T9 : TV), Rl tc9 n9 T9 I9 J9 → V mL_law (some (L9, xs)) 53 58 Q 1002 [(0, .ref 4000), (1, .ref 0), (2, .ref 38), (3, .int (i32 i))] [] 58 I9 J9 RF) : V mL_law (some (L9, xs)) 53 58 Q 526 [(0, .ref 4000), (1, .ref 0), (2, .ref 38), (3, .int (i32 i))] [] 58 I J RF := by
  refine V_go 5 rfl ?_
  refine V_sld rfl hI1 ?_
  refine cVP (mt' := mX6_bribe) rfl kL_73 fX6_bribe rfl rfl rfl (Nat.le_of_ble_eq_true rfl) (Nat.le_of_ble_eq_true rfl) (Nat.le_of_ble_eq_true rfl) (Nat.le_of_ble_eq_true rfl) (Nat.le_refl _) (c_bribe h.1) ?_
  intro r1 Ir1 Jr1 h1
  obtain ⟨hr, hj, hf⟩ := h1
  subst hj
  have hM := h.midq hf
  refine V_go 5 rfl ?_
  refine V_sld rfl hI1 ?_
  refine cVP (mt' := mX7_bribe) rfl kL_76 fX7_bribe rfl rfl rfl (Nat.le_of_ble_eq_true rfl) (Nat.le_of_ble_eq_true rfl) (Nat.le_of_ble_eq_true rfl) (Nat.le_of_ble_eq_true rfl) (Nat.le_refl _) (c_bribe7 hM) ?_
  intro r2 Ir2 Jr2 h2
  obtain ⟨hv, hM2, hq2⟩ := h2
  refine V_icmp_eq rfl (fun h3 => ?_) (fun h3 => ?_)
  · skip
    exact kk _ _ _ _ _ (h.q hf hq2 hM2)
  · skip
    exact absurd (hr.trans hv.symm) h3
set_option maxRecDepth 20000 in
theorem law_order {L9 i tc n : Nat} {xs : Nat → Int32} {T : TV} {I : I2} {J : J2} {Q : QT} (hI1 : inb (i32 i + 1) L9) (hI2 : inb (i32 i + 2) L9) (hI3 : inb (i32 i + 3) L9) (hI4 : inb (i32 i + 4) L9) (hI5 : inb (i32 i + 5) L9) (h : Rl tc n T I J) (kk : ∀ (I9 : I2) (J9 : J2) (tc9 n9 : Nat) (T9 : TV), Rl tc9 n9 T9 I9 J9 → V mL_law (some (L9, xs)) 53 58 Q 1002 [(0, .ref 4000), (1, .ref 0), (2, .ref 38), (3, .int (i32 i))] [] 58 I9 J9 RF) : V mL_law (some (L9, xs)) 53 58 Q 549 [(0, .ref 4000), (1, .ref 0), (2, .ref 38), (3, .int (i32 i))] [] 58 I J RF := by
  refine V_go 5 rfl ?_
  refine V_sld rfl hI1 ?_
  refine cVP (mt' := mX6_order) rfl kL_77 fX6_order rfl rfl rfl (Nat.le_of_ble_eq_true rfl) (Nat.le_of_ble_eq_true rfl) (Nat.le_of_ble_eq_true rfl) (Nat.le_of_ble_eq_true rfl) (Nat.le_refl _) (c_order h.1) ?_
  intro r1 Ir1 Jr1 h1
  obtain ⟨hr, hj, hf⟩ := h1
  subst hj
  have hM := h.midq hf
  refine V_go 5 rfl ?_
  refine V_sld rfl hI1 ?_
  refine cVP (mt' := mX7_order) rfl kL_80 fX7_order rfl rfl rfl (Nat.le_of_ble_eq_true rfl) (Nat.le_of_ble_eq_true rfl) (Nat.le_of_ble_eq_true rfl) (Nat.le_of_ble_eq_true rfl) (Nat.le_refl _) (c_order7 hM h.2.2.2.1) ?_
  intro r2 Ir2 Jr2 h2
  obtain ⟨hv, hM2, hq2⟩ := h2
  refine V_icmp_eq rfl (fun h3 => ?_) (fun h3 => ?_)
  · skip
    exact kk _ _ _ _ _ (h.q hf hq2 hM2)
  · skip
    exact absurd (hr.trans hv.symm) h3
set_option maxRecDepth 20000 in
theorem law_turned {L9 i tc n : Nat} {xs : Nat → Int32} {T : TV} {I : I2} {J : J2} {Q : QT} (hI1 : inb (i32 i + 1) L9) (hI2 : inb (i32 i + 2) L9) (hI3 : inb (i32 i + 3) L9) (hI4 : inb (i32 i + 4) L9) (hI5 : inb (i32 i + 5) L9) (h : Rl tc n T I J) (kk : ∀ (I9 : I2) (J9 : J2) (tc9 n9 : Nat) (T9 : TV), Rl tc9 n9 T9 I9 J9 → V mL_law (some (L9, xs)) 53 58 Q 1002 [(0, .ref 4000), (1, .ref 0), (2, .ref 38), (3, .int (i32 i))] [] 58 I9 J9 RF) : V mL_law (some (L9, xs)) 53 58 Q 572 [(0, .ref 4000), (1, .ref 0), (2, .ref 38), (3, .int (i32 i))] [] 58 I J RF := by
  refine V_go 5 rfl ?_
  refine V_sld rfl hI1 ?_
  refine cVP (mt' := mX6_turned) rfl kL_81 fX6_turned rfl rfl rfl (Nat.le_of_ble_eq_true rfl) (Nat.le_of_ble_eq_true rfl) (Nat.le_of_ble_eq_true rfl) (Nat.le_of_ble_eq_true rfl) (Nat.le_refl _) (c_turned h.1) ?_
  intro r1 Ir1 Jr1 h1
  obtain ⟨hr, hj, hf⟩ := h1
  subst hj
  have hM := h.midq hf
  refine V_go 5 rfl ?_
  refine V_sld rfl hI1 ?_
  refine cVP (mt' := mX7_turned) rfl kL_84 fX7_turned rfl rfl rfl (Nat.le_of_ble_eq_true rfl) (Nat.le_of_ble_eq_true rfl) (Nat.le_of_ble_eq_true rfl) (Nat.le_of_ble_eq_true rfl) (Nat.le_refl _) (c_turned7 hM) ?_
  intro r2 Ir2 Jr2 h2
  obtain ⟨hv, hM2, hq2⟩ := h2
  refine V_icmp_eq rfl (fun h3 => ?_) (fun h3 => ?_)
  · skip
    exact kk _ _ _ _ _ (h.q hf hq2 hM2)
  · skip
    exact absurd (hr.trans hv.symm) h3
set_option maxRecDepth 20000 in
theorem law_tells {L9 i tc n : Nat} {xs : Nat → Int32} {T : TV} {I : I2} {J : J2} {Q : QT} (hI1 : inb (i32 i + 1) L9) (hI2 : inb (i32 i + 2) L9) (hI3 : inb (i32 i + 3) L9) (hI4 : inb (i32 i + 4) L9) (hI5 : inb (i32 i + 5) L9) (h : Rl tc n T I J) (kk : ∀ (I9 : I2) (J9 : J2) (tc9 n9 : Nat) (T9 : TV), Rl tc9 n9 T9 I9 J9 → V mL_law (some (L9, xs)) 53 58 Q 1002 [(0, .ref 4000), (1, .ref 0), (2, .ref 38), (3, .int (i32 i))] [] 58 I9 J9 RF) : V mL_law (some (L9, xs)) 53 58 Q 595 [(0, .ref 4000), (1, .ref 0), (2, .ref 38), (3, .int (i32 i))] [] 58 I J RF := by
  refine V_go 5 rfl ?_
  refine V_sld rfl hI1 ?_
  refine V_go 4 rfl ?_
  refine V_sld rfl hI2 ?_
  refine cVP (mt' := mX6_tells) rfl kL_85 fX6_tells rfl rfl rfl (Nat.le_of_ble_eq_true rfl) (Nat.le_of_ble_eq_true rfl) (Nat.le_of_ble_eq_true rfl) (Nat.le_of_ble_eq_true rfl) (Nat.le_refl _) (c_tells h.1) ?_
  intro r1 Ir1 Jr1 h1
  obtain ⟨hr, hj, hf⟩ := h1
  subst hj
  have hM := h.midq hf
  rw [h.2.2.1, tn_of (by have := h.2.1.2.2.2.2.1; omega)] at hr
  refine V_go 5 rfl ?_
  refine V_sld rfl hI1 ?_
  refine V_go 4 rfl ?_
  refine V_sld rfl hI2 ?_
  refine cVP (mt' := mX7_tells) rfl kL_88 fX7_tells rfl rfl rfl (Nat.le_of_ble_eq_true rfl) (Nat.le_of_ble_eq_true rfl) (Nat.le_of_ble_eq_true rfl) (Nat.le_of_ble_eq_true rfl) (Nat.le_refl _) (c_tells7 hM (fun z => h.tl hf.hi z)) ?_
  intro r2 Ir2 Jr2 h2
  obtain ⟨hv, hM2, hq2⟩ := h2
  refine V_icmp_eq rfl (fun h3 => ?_) (fun h3 => ?_)
  · skip
    exact kk _ _ _ _ _ (h.q hf hq2 hM2)
  · skip
    exact absurd (hr.trans hv.symm) h3
set_option maxRecDepth 20000 in
theorem law_film {L9 i tc n : Nat} {xs : Nat → Int32} {T : TV} {I : I2} {J : J2} {Q : QT} (hI1 : inb (i32 i + 1) L9) (hI2 : inb (i32 i + 2) L9) (hI3 : inb (i32 i + 3) L9) (hI4 : inb (i32 i + 4) L9) (hI5 : inb (i32 i + 5) L9) (h : Rl tc n T I J) (kk : ∀ (I9 : I2) (J9 : J2) (tc9 n9 : Nat) (T9 : TV), Rl tc9 n9 T9 I9 J9 → V mL_law (some (L9, xs)) 53 58 Q 1002 [(0, .ref 4000), (1, .ref 0), (2, .ref 38), (3, .int (i32 i))] [] 58 I9 J9 RF) : V mL_law (some (L9, xs)) 53 58 Q 628 [(0, .ref 4000), (1, .ref 0), (2, .ref 38), (3, .int (i32 i))] [] 58 I J RF := by
  refine V_go 5 rfl ?_
  refine V_sld rfl hI1 ?_
  refine cVP (mt' := mX6_film) rfl kL_89 fX6_film rfl rfl rfl (Nat.le_of_ble_eq_true rfl) (Nat.le_of_ble_eq_true rfl) (Nat.le_of_ble_eq_true rfl) (Nat.le_of_ble_eq_true rfl) (Nat.le_refl _) (c_film h.1) ?_
  intro r1 Ir1 Jr1 h1
  obtain ⟨hj, ha⟩ := h1
  subst hj
  refine V_go 5 rfl ?_
  refine V_sld rfl hI1 ?_
  refine cVP (mt' := mX7_film) rfl kL_92 fX7_film rfl rfl rfl (Nat.le_of_ble_eq_true rfl) (Nat.le_of_ble_eq_true rfl) (Nat.le_of_ble_eq_true rfl) (Nat.le_of_ble_eq_true rfl) (Nat.le_refl _) (c_film7 (h.2.1.hi (p_film0 ha)) (h.sr1 (fun a h1 h2 => p_film0 ha a (by omega)))) ?_
  intro r2 Ir2 Jr2 h2
  obtain ⟨hM2, hq2, hb⟩ := h2
  obtain ⟨hr, h9⟩ := p_film h ha hM2 hq2 hb
  refine V_icmp_eq rfl (fun h3 => ?_) (fun h3 => ?_)
  · skip
    exact kk _ _ _ _ _ h9
  · skip
    exact absurd hr h3
set_option maxRecDepth 20000 in
theorem law_drawn {L9 i tc n : Nat} {xs : Nat → Int32} {T : TV} {I : I2} {J : J2} {Q : QT} (hI1 : inb (i32 i + 1) L9) (hI2 : inb (i32 i + 2) L9) (hI3 : inb (i32 i + 3) L9) (hI4 : inb (i32 i + 4) L9) (hI5 : inb (i32 i + 5) L9) (h : Rl tc n T I J) (kk : ∀ (I9 : I2) (J9 : J2) (tc9 n9 : Nat) (T9 : TV), Rl tc9 n9 T9 I9 J9 → V mL_law (some (L9, xs)) 53 58 Q 1002 [(0, .ref 4000), (1, .ref 0), (2, .ref 38), (3, .int (i32 i))] [] 58 I9 J9 RF) : V mL_law (some (L9, xs)) 53 58 Q 651 [(0, .ref 4000), (1, .ref 0), (2, .ref 38), (3, .int (i32 i))] [] 58 I J RF := by
  refine V_go 5 rfl ?_
  refine V_sld rfl hI1 ?_
  refine cVP (mt' := mX6_drawn) rfl kL_93 fX6_drawn rfl rfl rfl (Nat.le_of_ble_eq_true rfl) (Nat.le_of_ble_eq_true rfl) (Nat.le_of_ble_eq_true rfl) (Nat.le_of_ble_eq_true rfl) (Nat.le_refl _) (c_drawn h.1) ?_
  intro r1 Ir1 Jr1 h1
  obtain ⟨hr, hj, hf⟩ := h1
  subst hj
  have hM := h.midq hf
  refine V_go 5 rfl ?_
  refine V_sld rfl hI1 ?_
  refine cVP (mt' := mX7_drawn) rfl kL_96 fX7_drawn rfl rfl rfl (Nat.le_of_ble_eq_true rfl) (Nat.le_of_ble_eq_true rfl) (Nat.le_of_ble_eq_true rfl) (Nat.le_of_ble_eq_true rfl) (Nat.le_refl _) (c_drawn7 hM) ?_
  intro r2 Ir2 Jr2 h2
  obtain ⟨hv, hM2, hq2⟩ := h2
  refine V_icmp_eq rfl (fun h3 => ?_) (fun h3 => ?_)
  · skip
    exact kk _ _ _ _ _ (h.q hf hq2 hM2)
  · skip
    exact absurd (hr.trans hv.symm) h3
set_option maxRecDepth 20000 in
theorem law_chance {L9 i tc n : Nat} {xs : Nat → Int32} {T : TV} {I : I2} {J : J2} {Q : QT} (hI1 : inb (i32 i + 1) L9) (hI2 : inb (i32 i + 2) L9) (hI3 : inb (i32 i + 3) L9) (hI4 : inb (i32 i + 4) L9) (hI5 : inb (i32 i + 5) L9) (h : Rl tc n T I J) (kk : ∀ (I9 : I2) (J9 : J2) (tc9 n9 : Nat) (T9 : TV), Rl tc9 n9 T9 I9 J9 → V mL_law (some (L9, xs)) 53 58 Q 1002 [(0, .ref 4000), (1, .ref 0), (2, .ref 38), (3, .int (i32 i))] [] 58 I9 J9 RF) : V mL_law (some (L9, xs)) 53 58 Q 674 [(0, .ref 4000), (1, .ref 0), (2, .ref 38), (3, .int (i32 i))] [] 58 I J RF := by
  refine V_go 5 rfl ?_
  refine V_sld rfl hI1 ?_
  refine V_go 4 rfl ?_
  refine V_sld rfl hI2 ?_
  refine V_go 4 rfl ?_
  refine V_sld rfl hI3 ?_
  refine cVL (mt' := mX6_chance) rfl kL_97 fX6_chance rfl rfl rfl (Nat.le_of_ble_eq_true rfl) (Nat.le_of_ble_eq_true rfl) (Nat.le_of_ble_eq_true rfl) (Nat.le_of_ble_eq_true rfl) (Nat.le_refl _) (c_chance h.1) ?_
  intro r1 Ir1 Jr1 h1
  obtain ⟨hr, hj, hf⟩ := h1
  subst hj
  have hM := h.midq hf
  refine V_go 5 rfl ?_
  refine V_sld rfl hI1 ?_
  refine V_go 4 rfl ?_
  refine V_sld rfl hI2 ?_
  refine V_go 4 rfl ?_
  refine V_sld rfl hI3 ?_
  refine cVL (mt' := mX7_chance) rfl kL_101 fX7_chance rfl rfl rfl (Nat.le_of_ble_eq_true rfl) (Nat.le_of_ble_eq_true rfl) (Nat.le_of_ble_eq_true rfl) (Nat.le_of_ble_eq_true rfl) (Nat.le_refl _) (c_chance7 hM) ?_
  intro r2 Ir2 Jr2 h2
  obtain ⟨hv, hM2, hq2⟩ := h2
  refine V_go 1 rfl ?_
  refine V_if_eq rfl (fun h3 => ?_) (fun h3 => ?_)
  · skip
    exact kk _ _ _ _ _ (h.q hf hq2 hM2)
  · skip
    exact absurd (by rw [hr, hv]; exact lg_self _) h3
set_option maxRecDepth 20000 in
theorem law_image {L9 i tc n : Nat} {xs : Nat → Int32} {T : TV} {I : I2} {J : J2} {Q : QT} (hI1 : inb (i32 i + 1) L9) (hI2 : inb (i32 i + 2) L9) (hI3 : inb (i32 i + 3) L9) (hI4 : inb (i32 i + 4) L9) (hI5 : inb (i32 i + 5) L9) (h : Rl tc n T I J) (kk : ∀ (I9 : I2) (J9 : J2) (tc9 n9 : Nat) (T9 : TV), Rl tc9 n9 T9 I9 J9 → V mL_law (some (L9, xs)) 53 58 Q 1002 [(0, .ref 4000), (1, .ref 0), (2, .ref 38), (3, .int (i32 i))] [] 58 I9 J9 RF) : V mL_law (some (L9, xs)) 53 58 Q 718 [(0, .ref 4000), (1, .ref 0), (2, .ref 38), (3, .int (i32 i))] [] 58 I J RF := by
  refine V_go 1 rfl ?_
  refine cVP (mt' := mX6_image) rfl kL_102 fX6_image rfl rfl rfl (Nat.le_of_ble_eq_true rfl) (Nat.le_of_ble_eq_true rfl) (Nat.le_of_ble_eq_true rfl) (Nat.le_of_ble_eq_true rfl) (Nat.le_refl _) (c_image h.1) ?_
  intro r1 Ir1 Jr1 h1
  obtain ⟨hj, ha⟩ := h1
  subst hj
  refine V_go 1 rfl ?_
  refine cVP (mt' := mX7_image) rfl kL_105 fX7_image rfl rfl rfl (Nat.le_of_ble_eq_true rfl) (Nat.le_of_ble_eq_true rfl) (Nat.le_of_ble_eq_true rfl) (Nat.le_of_ble_eq_true rfl) (Nat.le_refl _) (c_image7) ?_
  intro r2 Ir2 Jr2 h2
  obtain ⟨hj, hb⟩ := h2
  subst hj
  obtain ⟨hr, h9⟩ := p_image h ha hb
  refine V_icmp_eq rfl (fun h3 => ?_) (fun h3 => ?_)
  · skip
    exact kk _ _ _ _ _ h9
  · skip
    exact absurd hr h3
set_option maxRecDepth 20000 in
theorem law_back {L9 i tc n : Nat} {xs : Nat → Int32} {T : TV} {I : I2} {J : J2} {Q : QT} (hI1 : inb (i32 i + 1) L9) (hI2 : inb (i32 i + 2) L9) (hI3 : inb (i32 i + 3) L9) (hI4 : inb (i32 i + 4) L9) (hI5 : inb (i32 i + 5) L9) (h : Rl tc n T I J) (kk : ∀ (I9 : I2) (J9 : J2) (tc9 n9 : Nat) (T9 : TV), Rl tc9 n9 T9 I9 J9 → V mL_law (some (L9, xs)) 53 58 Q 1002 [(0, .ref 4000), (1, .ref 0), (2, .ref 38), (3, .int (i32 i))] [] 58 I9 J9 RF) : V mL_law (some (L9, xs)) 53 58 Q 731 [(0, .ref 4000), (1, .ref 0), (2, .ref 38), (3, .int (i32 i))] [] 58 I J RF := by
  refine V_go 1 rfl ?_
  refine cVP (mt' := mX6_back) rfl kL_106 fX6_back rfl rfl rfl (Nat.le_of_ble_eq_true rfl) (Nat.le_of_ble_eq_true rfl) (Nat.le_of_ble_eq_true rfl) (Nat.le_of_ble_eq_true rfl) (Nat.le_refl _) (c_back h.1) ?_
  intro r1 Ir1 Jr1 h1
  obtain ⟨hj, hf, ha⟩ := h1
  subst hj
  refine V_go 1 rfl ?_
  refine cVP (mt' := mX7_back) rfl kL_109 fX7_back rfl rfl rfl (Nat.le_of_ble_eq_true rfl) (Nat.le_of_ble_eq_true rfl) (Nat.le_of_ble_eq_true rfl) (Nat.le_of_ble_eq_true rfl) (Nat.le_refl _) (c_back7) ?_
  intro r2 Ir2 Jr2 h2
  obtain ⟨hj, hb⟩ := h2
  subst hj
  obtain ⟨hr, h9⟩ := p_back h hf ha hb
  refine V_icmp_eq rfl (fun h3 => ?_) (fun h3 => ?_)
  · skip
    exact kk _ _ _ _ _ h9
  · skip
    exact absurd hr h3
set_option maxRecDepth 20000 in
theorem law_count {L9 i tc n : Nat} {xs : Nat → Int32} {T : TV} {I : I2} {J : J2} {Q : QT} (hI1 : inb (i32 i + 1) L9) (hI2 : inb (i32 i + 2) L9) (hI3 : inb (i32 i + 3) L9) (hI4 : inb (i32 i + 4) L9) (hI5 : inb (i32 i + 5) L9) (h : Rl tc n T I J) (kk : ∀ (I9 : I2) (J9 : J2) (tc9 n9 : Nat) (T9 : TV), Rl tc9 n9 T9 I9 J9 → V mL_law (some (L9, xs)) 53 58 Q 1002 [(0, .ref 4000), (1, .ref 0), (2, .ref 38), (3, .int (i32 i))] [] 58 I9 J9 RF) : V mL_law (some (L9, xs)) 53 58 Q 744 [(0, .ref 4000), (1, .ref 0), (2, .ref 38), (3, .int (i32 i))] [] 58 I J RF := by
  refine V_go 5 rfl ?_
  refine V_sld rfl hI1 ?_
  refine cVI (mt' := mX6_count) rfl kL_110 fX6_count rfl rfl rfl (Nat.le_of_ble_eq_true rfl) (Nat.le_of_ble_eq_true rfl) (Nat.le_of_ble_eq_true rfl) (Nat.le_of_ble_eq_true rfl) (Nat.le_refl _) (c_count h.1) ?_
  refine V_go 5 rfl ?_
  refine V_sld rfl hI1 ?_
  refine cVI (mt' := mX7_count) rfl kL_113 fX7_count rfl rfl rfl (Nat.le_of_ble_eq_true rfl) (Nat.le_of_ble_eq_true rfl) (Nat.le_of_ble_eq_true rfl) (Nat.le_of_ble_eq_true rfl) (Nat.le_refl _) (c_count7 h.2.1) ?_
  refine V_icmp_eq rfl (fun h3 => ?_) (fun h3 => ?_)
  · skip
    exact kk _ _ _ _ _ h
  · skip
    exact absurd (by rw [h.2.2.1, h.2.2.2.2.1.1, h.2.1.2.2.1, h.2.2.2.2.1.2.1]) h3
set_option maxRecDepth 20000 in
theorem law_sheet {L9 i tc n : Nat} {xs : Nat → Int32} {T : TV} {I : I2} {J : J2} {Q : QT} (hI1 : inb (i32 i + 1) L9) (hI2 : inb (i32 i + 2) L9) (hI3 : inb (i32 i + 3) L9) (hI4 : inb (i32 i + 4) L9) (hI5 : inb (i32 i + 5) L9) (h : Rl tc n T I J) (kk : ∀ (I9 : I2) (J9 : J2) (tc9 n9 : Nat) (T9 : TV), Rl tc9 n9 T9 I9 J9 → V mL_law (some (L9, xs)) 53 58 Q 1002 [(0, .ref 4000), (1, .ref 0), (2, .ref 38), (3, .int (i32 i))] [] 58 I9 J9 RF) : V mL_law (some (L9, xs)) 53 58 Q 767 [(0, .ref 4000), (1, .ref 0), (2, .ref 38), (3, .int (i32 i))] [] 58 I J RF := by
  refine V_go 5 rfl ?_
  refine V_sld rfl hI1 ?_
  refine V_go 4 rfl ?_
  refine V_sld rfl hI2 ?_
  refine V_go 4 rfl ?_
  refine V_sld rfl hI3 ?_
  refine cVI (mt' := mX6_sheet) rfl kL_114 fX6_sheet rfl rfl rfl (Nat.le_of_ble_eq_true rfl) (Nat.le_of_ble_eq_true rfl) (Nat.le_of_ble_eq_true rfl) (Nat.le_of_ble_eq_true rfl) (Nat.le_refl _) (c_sheet) ?_
  refine V_go 5 rfl ?_
  refine V_sld rfl hI1 ?_
  refine V_go 4 rfl ?_
  refine V_sld rfl hI2 ?_
  refine V_go 4 rfl ?_
  refine V_sld rfl hI3 ?_
  refine cVI (mt' := mX7_sheet) rfl kL_117 fX7_sheet rfl rfl rfl (Nat.le_of_ble_eq_true rfl) (Nat.le_of_ble_eq_true rfl) (Nat.le_of_ble_eq_true rfl) (Nat.le_of_ble_eq_true rfl) (Nat.le_refl _) (c_sheet7) ?_
  refine V_icmp_eq rfl (fun h3 => ?_) (fun h3 => ?_)
  · skip
    exact kk _ _ _ _ _ (p_sheet h)
  · skip
    exact absurd rfl h3
set_option maxRecDepth 20000 in
theorem law_cell {L9 i tc n : Nat} {xs : Nat → Int32} {T : TV} {I : I2} {J : J2} {Q : QT} (hI1 : inb (i32 i + 1) L9) (hI2 : inb (i32 i + 2) L9) (hI3 : inb (i32 i + 3) L9) (hI4 : inb (i32 i + 4) L9) (hI5 : inb (i32 i + 5) L9) (h : Rl tc n T I J) (kk : ∀ (I9 : I2) (J9 : J2) (tc9 n9 : Nat) (T9 : TV), Rl tc9 n9 T9 I9 J9 → V mL_law (some (L9, xs)) 53 58 Q 1002 [(0, .ref 4000), (1, .ref 0), (2, .ref 38), (3, .int (i32 i))] [] 58 I9 J9 RF) : V mL_law (some (L9, xs)) 53 58 Q 810 [(0, .ref 4000), (1, .ref 0), (2, .ref 38), (3, .int (i32 i))] [] 58 I J RF := by
  refine V_go 5 rfl ?_
  refine V_sld rfl hI1 ?_
  refine V_go 4 rfl ?_
  refine V_sld rfl hI2 ?_
  refine V_go 4 rfl ?_
  refine V_sld rfl hI3 ?_
  refine cVI (mt' := mX6_cell) rfl kL_118 fX6_cell rfl rfl rfl (Nat.le_of_ble_eq_true rfl) (Nat.le_of_ble_eq_true rfl) (Nat.le_of_ble_eq_true rfl) (Nat.le_of_ble_eq_true rfl) (Nat.le_refl _) (c_cell) ?_
  refine V_go 5 rfl ?_
  refine V_sld rfl hI1 ?_
  refine V_go 4 rfl ?_
  refine V_sld rfl hI2 ?_
  refine V_go 4 rfl ?_
  refine V_sld rfl hI3 ?_
  refine cVI (mt' := mX7_cell) rfl kL_121 fX7_cell rfl rfl rfl (Nat.le_of_ble_eq_true rfl) (Nat.le_of_ble_eq_true rfl) (Nat.le_of_ble_eq_true rfl) (Nat.le_of_ble_eq_true rfl) (Nat.le_refl _) (c_cell7 (h.sr1 (fun a h1 h2 => ceM_fr a (by omega)))) ?_
  refine V_icmp_eq rfl (fun h3 => ?_) (fun h3 => ?_)
  · skip
    exact kk _ _ _ _ _ (p_cell h)
  · skip
    exact absurd rfl h3
set_option maxRecDepth 20000 in
theorem law_copy {L9 i tc n : Nat} {xs : Nat → Int32} {T : TV} {I : I2} {J : J2} {Q : QT} (hI1 : inb (i32 i + 1) L9) (hI2 : inb (i32 i + 2) L9) (hI3 : inb (i32 i + 3) L9) (hI4 : inb (i32 i + 4) L9) (hI5 : inb (i32 i + 5) L9) (h : Rl tc n T I J) (kk : ∀ (I9 : I2) (J9 : J2) (tc9 n9 : Nat) (T9 : TV), Rl tc9 n9 T9 I9 J9 → V mL_law (some (L9, xs)) 53 58 Q 1002 [(0, .ref 4000), (1, .ref 0), (2, .ref 38), (3, .int (i32 i))] [] 58 I9 J9 RF) : V mL_law (some (L9, xs)) 53 58 Q 853 [(0, .ref 4000), (1, .ref 0), (2, .ref 38), (3, .int (i32 i))] [] 58 I J RF := by
  refine V_go 5 rfl ?_
  refine V_sld rfl hI1 ?_
  refine V_go 4 rfl ?_
  refine V_sld rfl hI2 ?_
  refine V_go 4 rfl ?_
  refine V_sld rfl hI3 ?_
  refine V_go 4 rfl ?_
  refine V_sld rfl hI4 ?_
  refine V_go 4 rfl ?_
  refine V_sld rfl hI5 ?_
  refine cVI (mt' := mX6_copy) rfl kL_122 fX6_copy rfl rfl rfl (Nat.le_of_ble_eq_true rfl) (Nat.le_of_ble_eq_true rfl) (Nat.le_of_ble_eq_true rfl) (Nat.le_of_ble_eq_true rfl) (Nat.le_refl _) (c_copy h.2.2.2.2.2.1.1) ?_
  refine V_go 5 rfl ?_
  refine V_sld rfl hI1 ?_
  refine V_go 4 rfl ?_
  refine V_sld rfl hI2 ?_
  refine V_go 4 rfl ?_
  refine V_sld rfl hI3 ?_
  refine V_go 4 rfl ?_
  refine V_sld rfl hI4 ?_
  refine V_go 4 rfl ?_
  refine V_sld rfl hI5 ?_
  refine cVI (mt' := mX7_copy) rfl kL_126 fX7_copy rfl rfl rfl (Nat.le_of_ble_eq_true rfl) (Nat.le_of_ble_eq_true rfl) (Nat.le_of_ble_eq_true rfl) (Nat.le_of_ble_eq_true rfl) (Nat.le_refl _) (c_copy7 (h.sr1 (fun a h1 h2 => coM_fr a (by omega)))) ?_
  refine V_icmp_eq rfl (fun h3 => ?_) (fun h3 => ?_)
  · skip
    exact kk _ _ _ _ _ (p_copy h)
  · skip
    exact absurd rfl h3
set_option maxRecDepth 20000 in
theorem law_citizens {L9 i tc n : Nat} {xs : Nat → Int32} {T : TV} {I : I2} {J : J2} {Q : QT} (hI1 : inb (i32 i + 1) L9) (hI2 : inb (i32 i + 2) L9) (hI3 : inb (i32 i + 3) L9) (hI4 : inb (i32 i + 4) L9) (hI5 : inb (i32 i + 5) L9) (h : Rl tc n T I J) (kk : ∀ (I9 : I2) (J9 : J2) (tc9 n9 : Nat) (T9 : TV), Rl tc9 n9 T9 I9 J9 → V mL_law (some (L9, xs)) 53 58 Q 1002 [(0, .ref 4000), (1, .ref 0), (2, .ref 38), (3, .int (i32 i))] [] 58 I9 J9 RF) : V mL_law (some (L9, xs)) 53 58 Q 916 [(0, .ref 4000), (1, .ref 0), (2, .ref 38), (3, .int (i32 i))] [] 58 I J RF := by
  refine V_go 5 rfl ?_
  refine V_sld rfl hI1 ?_
  refine V_go 4 rfl ?_
  refine V_sld rfl hI2 ?_
  refine V_go 4 rfl ?_
  refine V_sld rfl hI3 ?_
  refine V_go 4 rfl ?_
  refine V_sld rfl hI4 ?_
  refine cVP (mt' := mX6_citizens) rfl kL_127 fX6_citizens rfl rfl rfl (Nat.le_of_ble_eq_true rfl) (Nat.le_of_ble_eq_true rfl) (Nat.le_of_ble_eq_true rfl) (Nat.le_of_ble_eq_true rfl) (Nat.le_refl _) (c_citizens h.1) ?_
  intro r1 Ir1 Jr1 h1
  obtain ⟨hj, hf, ha⟩ := h1
  subst hj
  refine V_go 5 rfl ?_
  refine V_sld rfl hI1 ?_
  refine V_go 4 rfl ?_
  refine V_sld rfl hI2 ?_
  refine V_go 4 rfl ?_
  refine V_sld rfl hI3 ?_
  refine V_go 4 rfl ?_
  refine V_sld rfl hI4 ?_
  refine cVP (mt' := mX7_citizens) rfl kL_131 fX7_citizens rfl rfl rfl (Nat.le_of_ble_eq_true rfl) (Nat.le_of_ble_eq_true rfl) (Nat.le_of_ble_eq_true rfl) (Nat.le_of_ble_eq_true rfl) (Nat.le_refl _) (c_citizens7 (h.midc hf.sc2) (h.sr1 (fun a h1 h2 => hf a (by omega) (by omega)))) ?_
  intro r2 Ir2 Jr2 h2
  obtain ⟨hr, h9⟩ := p_citz h hf ha h2
  refine V_icmp_eq rfl (fun h3 => ?_) (fun h3 => ?_)
  · skip
    exact kk _ _ _ _ _ h9
  · skip
    exact absurd hr h3
set_option maxRecDepth 20000 in
theorem law_taken {L9 i tc n : Nat} {xs : Nat → Int32} {T : TV} {I : I2} {J : J2} {Q : QT} (hI1 : inb (i32 i + 1) L9) (hI2 : inb (i32 i + 2) L9) (hI3 : inb (i32 i + 3) L9) (hI4 : inb (i32 i + 4) L9) (hI5 : inb (i32 i + 5) L9) (h : Rl tc n T I J) (kk : ∀ (I9 : I2) (J9 : J2) (tc9 n9 : Nat) (T9 : TV), Rl tc9 n9 T9 I9 J9 → V mL_law (some (L9, xs)) 53 58 Q 1002 [(0, .ref 4000), (1, .ref 0), (2, .ref 38), (3, .int (i32 i))] [] 58 I9 J9 RF) : V mL_law (some (L9, xs)) 53 58 Q 969 [(0, .ref 4000), (1, .ref 0), (2, .ref 38), (3, .int (i32 i))] [] 58 I J RF := by
  refine V_go 5 rfl ?_
  refine V_sld rfl hI1 ?_
  refine V_go 4 rfl ?_
  refine V_sld rfl hI2 ?_
  refine cVI (mt' := mX6_taken) rfl kL_132 fX6_taken rfl rfl rfl (Nat.le_of_ble_eq_true rfl) (Nat.le_of_ble_eq_true rfl) (Nat.le_of_ble_eq_true rfl) (Nat.le_of_ble_eq_true rfl) (Nat.le_refl _) (c_taken h.1) ?_
  refine V_go 5 rfl ?_
  refine V_sld rfl hI1 ?_
  refine V_go 4 rfl ?_
  refine V_sld rfl hI2 ?_
  refine cVI (mt' := mX7_taken) rfl kL_135 fX7_taken rfl rfl rfl (Nat.le_of_ble_eq_true rfl) (Nat.le_of_ble_eq_true rfl) (Nat.le_of_ble_eq_true rfl) (Nat.le_of_ble_eq_true rfl) (Nat.le_refl _) (c_taken7 h.2.1) ?_
  refine V_icmp_eq rfl (fun h3 => ?_) (fun h3 => ?_)
  · skip
    exact kk _ _ _ _ _ h
  · skip
    exact absurd rfl h3
