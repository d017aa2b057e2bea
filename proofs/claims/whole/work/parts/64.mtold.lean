/-- what no asking of the model changes -/
def Mp (I I9 : I2) : Prop := (∀ o, o < 38 ∨ o = 41 ∨ 51 ≤ o → I9 o = I o) ∧ ∀ k, k = 6 ∨ 46 ≤ k ∧ k ≤ 50 → I9 38 k = I 38 k
theorem Mp.rf {I : I2} : Mp I I := ⟨fun _ _ => rfl, fun _ _ => rfl⟩
theorem Mp.tr {I I1 I9 : I2} (h : Mp I I1) (h' : Mp I1 I9) : Mp I I9 := ⟨fun o a => (h'.1 o a).trans (h.1 o a), fun k hk => (h'.2 k hk).trans (h.2 k hk)⟩
theorem Sm.mp {I I9 : I2} (h : Sm I I9) : Mp I I9 := ⟨fun o ho => h.1 o (by omega) (by omega), fun k hk => h.2 k (by omega)⟩
theorem b2i_n0 {p : Prop} [Decidable p] : (¬ b2i p = 0) ↔ p := by
  constructor
  · intro h
    exact Classical.byContradiction (fun z => h (b2i_0 z))
  · intro h z
    rw [b2i_1 h] at z
    exact absurd z (by decide)
theorem MC.f {tc : Nat} {I : I2} {J : J2} {T : TV} {C : CC} (hM : MC tc I J T C) : I 38 7 = C 0 0 ∧ I 38 8 = C 0 1 ∧ I 38 4 = C 0 2 := ⟨hM.1.1 0 (by omega), hM.1.1 1 (by omega), hM.1.1 2 (by omega)⟩
theorem MC.ci {tc : Nat} {I : I2} {J : J2} {T : TV} {C : CC} (hM : MC tc I J T C) {c : Nat} (hc : c < nC C) : I 42 c = C 1 c ∧ I 43 c = C 2 c ∧ I 44 c = C 3 c := ⟨hM.1.2.1 1 c (by omega) (by omega) hc, hM.1.2.1 2 c (by omega) (by omega) hc, hM.1.2.1 3 c (by omega) (by omega) hc⟩
theorem MC.it {tc : Nat} {I : I2} {J : J2} {T : TV} {C : CC} (hM : MC tc I J T C) {i : Nat} (hi : i < mC C) : I 45 (3 * i) = C 4 i ∧ I 45 (3 * i + 1) = C 5 i ∧ I 45 (3 * i + 2) = C 6 i := ⟨hM.1.2.2 4 i (by omega) (by omega) hi, hM.1.2.2 5 i (by omega) (by omega) hi, hM.1.2.2 6 i (by omega) (by omega) hi⟩
theorem MC.isC {tc : Nat} {I : I2} {J : J2} {T : TV} {C : CC} (hM : MC tc I J T C) {x : Int32} (h : isCi C x) : ∃ c, c < nC C ∧ c < 8 ∧ x = i32 c ∧ x.toNatClampNeg = c := by
  obtain ⟨h1, h2⟩ := isCi_n h
  exact ⟨x.toNatClampNeg, h1, by have := hM.nm.2.1; omega, h2, rfl⟩
theorem MC.isI {tc : Nat} {I : I2} {J : J2} {T : TV} {C : CC} (hM : MC tc I J T C) {x : Int32} (h : isIt C x) : ∃ c, c < mC C ∧ c < 6 ∧ x = i32 c ∧ x.toNatClampNeg = c := by
  obtain ⟨h1, h2⟩ := isIt_n h
  exact ⟨x.toNatClampNeg, h1, by have := hM.nm.2.2.2.1; omega, h2, rfl⟩
theorem i32_m3 : ∀ i, i < 8 → 3 * i32 i = i32 (3 * i) := by decide +kernel
theorem w8 {w : Int32} (h : ¬ w ≤ 7) (h2 : w ≤ 10) : w = 8 ∨ w = 9 ∨ w = 10 := by
  have i1 := Int32.lt_iff_toInt_lt.mp (Int32.not_le.mp h)
  have i2 := Int32.le_iff_toInt_le.mp h2
  rw [show (7 : Int32).toInt = 7 from rfl] at i1
  rw [show (10 : Int32).toInt = 10 from rfl] at i2
  have i3 : w.toInt = 8 ∨ w.toInt = 9 ∨ w.toInt = 10 := by omega
  rcases i3 with i | i | i
  · exact Or.inl (Int32.toInt_inj.mp i)
  · exact Or.inr (Or.inl (Int32.toInt_inj.mp i))
  · exact Or.inr (Or.inr (Int32.toInt_inj.mp i))
theorem sTold_I {T : TV} {C : CC} {x w : Int32} (h : w = 8 ∨ w = 9 ∨ w = 10) (hi : isIt C x) : sTold T C x w = sToldI C x.toNatClampNeg w := by
  unfold sTold
  rcases h with rfl | rfl | rfl
  all_goals
    rw [if_neg (by decide), if_neg (by decide), if_neg (fun z => absurd z.1 (by decide)), if_pos ⟨by decide, hi⟩]
theorem sTold_C {T : TV} {C : CC} {x w : Int32} (h : 2 ≤ w ∧ w ≤ 7) (hi : isCi C x) : sTold T C x w = sToldC T C x.toNatClampNeg w := by
  unfold sTold
  rw [if_neg (fun z => absurd h.1 (by rw [z]; decide)), if_neg (fun z => absurd h.1 (by rw [z]; decide)), if_pos ⟨h, hi⟩]
theorem sTold_9 {T : TV} {C : CC} {x w : Int32} (h : ¬ (0 ≤ w ∧ w ≤ 10)) : sTold T C x w = -2 := by
  unfold sTold
  rw [if_neg (fun z => h (by rw [z]; decide)), if_neg (fun z => h (by rw [z]; decide)), if_neg (fun z => h ⟨Int32.le_trans (by decide) z.1.1, Int32.le_trans z.1.2 (by decide)⟩), if_neg (fun z => h ⟨Int32.le_trans (by decide) z.1.1, z.1.2⟩)]
theorem sTold_8 {T : TV} {C : CC} {x w : Int32} (h : ¬ w ≤ 7) (hi : ¬ isIt C x) : sTold T C x w = -2 := by
  unfold sTold
  rw [if_neg (fun z => h (by rw [z]; decide)), if_neg (fun z => h (by rw [z]; decide)), if_neg (fun z => h z.1.2), if_neg (fun z => hi z.2)]
theorem sTold_7 {T : TV} {C : CC} {x w : Int32} (h : 2 ≤ w ∧ w ≤ 7) (hi : ¬ isCi C x) : sTold T C x w = -2 := by
  unfold sTold
  rw [if_neg (fun z => absurd h.1 (by rw [z]; decide)), if_neg (fun z => absurd h.1 (by rw [z]; decide)), if_neg (fun z => hi z.2), if_neg (fun z => absurd (Int32.le_trans z.1.1 h.2) (by decide))]
theorem tb_on : ∀ n, n < 8 → ∀ m, m < 2 ^ n → (∀ j, j < n → (m + 2 ^ n).testBit j = m.testBit j) ∧ (m + 2 ^ n).testBit n = true ∧ m.testBit n = false := by decide +kernel
theorem cnt_congr {m m' : Nat} : ∀ i, (∀ j, j < i → m.testBit j = m'.testBit j) → cnt m i = cnt m' i
  | 0, _ => rfl
  | i + 1, h => by
    rw [cnt, cnt, cnt_congr i (fun j hj => h j (by omega)), h i (by omega)]
theorem sLs_tb {T : TV} {C : CC} : ∀ n, n ≤ 8 → ∀ i, i < n → (sLs T C n).testBit i = (sLs T C (i + 1)).testBit i
  | 0, _, i, hi => absurd hi (Nat.not_lt_zero _)
  | n + 1, hn, i, hi => by
    by_cases h : i = n
    · rw [h]
    · rw [← sLs_tb n (by omega) i (by omega)]
      obtain ⟨e1, -, -⟩ := tb_on n (by omega) _ (sLs_lt T C n)
      by_cases h2 : sRd T C n (cnt (sLs T C n) n) = 0
      · rw [sLs_s0 h2]
      · rw [sLs_s1 h2]; exact e1 i (by omega)
theorem sLs_cnt {T : TV} {C : CC} {n i : Nat} (hn : n ≤ 8) (hi : i ≤ n) : cnt (sLs T C n) i = cnt (sLs T C i) i :=
  cnt_congr i (fun j hj => (sLs_tb n hn j (by omega)).trans (sLs_tb i (by omega) j hj).symm)
theorem sRd_01 (T : TV) (C : CC) (c ah : Nat) : sRd T C c ah = 0 ∨ sRd T C c ah = 1 := by
  unfold sRd sKRd
  repeat' split
  all_goals first
    | exact b2i_or _
    | exact Or.inr rfl
    | exact Or.inl rfl
theorem sLs_bit {T : TV} {C : CC} {n i : Nat} (hn : n ≤ 8) (hi : i < n) : (if (sLs T C n).testBit i then (1 : Int32) else 0) = sRd T C i (cnt (sLs T C n) i) := by
  rw [sLs_cnt hn (by omega), sLs_tb n hn i hi]
  obtain ⟨-, e2, e3⟩ := tb_on i (by omega) _ (sLs_lt T C i)
  by_cases h2 : sRd T C i (cnt (sLs T C i) i) = 0
  · rw [sLs_s0 h2, h2, e3]; rfl
  · rw [sLs_s1 h2, e2, if_pos rfl]
    exact ((sRd_01 T C i _).resolve_left h2).symm
theorem lowb : ∀ m, m < 256 → ∀ c, c < 8 → i32 m &&& ((1 : Int32) <<< (i32 c &&& 31) - 1) = i32 (m % 2 ^ c) ∧ cnt (m % 2 ^ c) 8 = cnt m c ∧ m % 2 ^ c < 256 := by decide +kernel

theorem w2p {w : Int32} (h0 : ¬ w = 0) (h1 : ¬ w = 1) (h2 : 0 ≤ w) : 2 ≤ w := by grind
theorem w4p {w : Int32} (h0 : 2 ≤ w) (h1 : ¬ 5 ≤ w) (h2 : ¬ w = 2) (h3 : ¬ w = 3) : w = 4 := by grind
theorem w7p {w : Int32} (h0 : 5 ≤ w) (h1 : w ≤ 7) (h2 : ¬ w = 5) (h3 : ¬ w = 6) : w = 7 := by grind
theorem c_told7 {tc : Nat} {I : I2} {J : J2} {T : TV} {C : CC} (hM : MC tc I J T C) {x w : Int32} : CT mX7_told 46 58 58 [.ref 38, .int x, .int w] I J RF (RP RF (fun r9 I9 J9 => r9 = sTold T C x w ∧ MC tc I9 J9 T C ∧ Sm I I9)) := by
  have k51 : (0 ≤ w ∧ w ≤ 10) → (¬ w ≤ 7 → isIt C x) → ((2 ≤ w ∧ w ≤ 7) → isCi C x) → V mX7_told none 46 58 (RP RF (fun r9 I9 J9 => r9 = sTold T C x w ∧ MC tc I9 J9 T C ∧ Sm I I9)) 51 [(0, .ref 38), (1, .int x), (2, .int w)] [] 58 I J RF := by
    intro hw hii hcc
    refine V_go 2 rfl ?_
    refine V_icmp_le rfl (fun h1 => ?_) (fun h1 => ?_)
    · skip
      have hw7 : w ≤ 7 := h1
      refine V_go 2 rfl ?_
      refine V_icmp_ge rfl (fun h31 => ?_) (fun h31 => ?_)
      · skip
        have W5 : 5 ≤ w := h31
        have W2 : 2 ≤ w := Int32.le_trans (by decide) W5
        obtain ⟨c, hc, hc8, e1, e2⟩ := hM.isC (hcc ⟨W2, hw7⟩)
        obtain ⟨v1, v2, v3⟩ := hM.ci hc
        have hT := sTold_C (T := T) (C := C) (x := x) (w := w) ⟨W2, hw7⟩ (hcc ⟨W2, hw7⟩)
        rw [e2] at hT
        refine V_go 1 rfl ?_
        refine cVP (mt' := mX7_listNow) rfl kX7_135 fX7_listNow rfl rfl rfl (Nat.le_of_ble_eq_true rfl) (Nat.le_of_ble_eq_true rfl) (Nat.le_of_ble_eq_true rfl) (Nat.le_of_ble_eq_true rfl) (Nat.le_refl _) (c_listNow7 hM) ?_
        intro r101 Ir101 Jr101 h101
        obtain ⟨hv, hM2, hq2⟩ := h101
        subst hv
        have hlb := lowb (sLst T C) hM.l256 c hc8
        refine V_go 8 rfl ?_
        refine cSI (mt' := mX7_bitsOf) rfl kX7_139 fX7_bitsOf rfl (Nat.le_of_ble_eq_true rfl) (Nat.le_of_ble_eq_true rfl) (Nat.le_refl _) ((by rw [e1, hlb.1]; exact c_bitsOf7 hlb.2.2)) ?_
        rw [hlb.2.1]
        refine V_go 3 rfl ?_
        refine V_icmp_ne rfl (fun h103 => ?_) (fun h103 => ?_)
        · skip
          have wn5 : ¬ w = 5 := h103
          refine V_go 2 rfl ?_
          refine V_icmp_ne rfl (fun h131 => ?_) (fun h131 => ?_)
          · skip
            have wv : w = 7 := w7p W5 hw7 wn5 h131
            refine V_go 3 rfl ?_
            refine cVP (mt' := mX7_timeOf) rfl kX7_145 fX7_timeOf rfl rfl rfl (Nat.le_of_ble_eq_true rfl) (Nat.le_of_ble_eq_true rfl) (Nat.le_of_ble_eq_true rfl) (Nat.le_of_ble_eq_true rfl) (Nat.le_refl _) ((by rw [e1]; exact c_timeOf7 hM2 hc (Nat.le_trans (cnt_le _ _) (by omega)))) ?_
            intro r151 Ir151 Jr151 h151
            obtain ⟨hv3, hM3, hq3⟩ := h151
            refine V_iret rfl rfl rfl ?_
            exact RP.mk ⟨by rw [hT, wv, hv3]; rfl, hM3, hq2.tr hq3⟩
          · skip
            have wv : w = 6 := h131
            refine V_go 3 rfl ?_
            refine cVP (mt' := mX7_silenceOf) rfl kX7_142 fX7_silenceOf rfl rfl rfl (Nat.le_of_ble_eq_true rfl) (Nat.le_of_ble_eq_true rfl) (Nat.le_of_ble_eq_true rfl) (Nat.le_of_ble_eq_true rfl) (Nat.le_refl _) ((by rw [e1]; exact c_silenceOf7 hM2 hc (Nat.le_trans (cnt_le _ _) (by omega)))) ?_
            intro r141 Ir141 Jr141 h141
            obtain ⟨hv3, hM3, hq3⟩ := h141
            refine V_go 1 rfl ?_
            refine V_iret rfl rfl rfl ?_
            exact RP.mk ⟨by rw [hT, wv, hv3]; rfl, hM3, hq2.tr hq3⟩
        · skip
          have wv : w = 5 := h103
          refine V_go 6 rfl ?_
          refine V_iret rfl rfl rfl ?_
          refine RP.mk ⟨?_, hM2, hq2⟩
          rw [hT, wv, e1, bit_ok _ hM.l256 c hc8]
          exact sLs_bit hM.nm.2.1 hc
      · skip
        have hw5 : ¬ 5 ≤ w := h31
        refine V_go 1 rfl ?_
        refine V_if_ne rfl (fun h35 => ?_) (fun h35 => ?_)
        · skip
          have w0 : ¬ w = 0 := h35
          refine V_go 2 rfl ?_
          refine V_icmp_ne rfl (fun h41 => ?_) (fun h41 => ?_)
          · skip
            have w1 : ¬ w = 1 := h41
            have W2 : 2 ≤ w := w2p w0 w1 hw.1
            obtain ⟨c, hc, hc8, e1, e2⟩ := hM.isC (hcc ⟨W2, hw7⟩)
            obtain ⟨v1, v2, v3⟩ := hM.ci hc
            have hT := sTold_C (T := T) (C := C) (x := x) (w := w) ⟨W2, hw7⟩ (hcc ⟨W2, hw7⟩)
            rw [e2] at hT
            refine V_go 2 rfl ?_
            refine V_icmp_ne rfl (fun h51 => ?_) (fun h51 => ?_)
            · skip
              have wn2 : ¬ w = 2 := h51
              refine V_go 2 rfl ?_
              refine V_icmp_ne rfl (fun h71 => ?_) (fun h71 => ?_)
              · skip
                have wn3 : ¬ w = 3 := h71
                have wv : w = 4 := w4p W2 hw5 wn2 wn3
                refine V_go 3 rfl ?_
                refine V_iald rfl rfl (Nat.le_of_ble_eq_true rfl) (by rw [e1]; exact inb_i32 (by omega) (by decide)) ?_
                refine V_iret rfl rfl rfl ?_
                refine RP.mk ⟨?_, hM, Sm.rf⟩
                rw [hT, e1, tn_of (by omega), wv]
                exact v1
              · skip
                have wv : w = 3 := h71
                refine V_go 3 rfl ?_
                refine V_iald rfl rfl (Nat.le_of_ble_eq_true rfl) (by rw [e1]; exact inb_i32 (by omega) (by decide)) ?_
                refine V_go 1 rfl ?_
                refine V_iret rfl rfl rfl ?_
                refine RP.mk ⟨?_, hM, Sm.rf⟩
                rw [hT, e1, tn_of (by omega), wv]
                exact v3
            · skip
              have wv : w = 2 := h51
              refine V_go 3 rfl ?_
              refine V_iald rfl rfl (Nat.le_of_ble_eq_true rfl) (by rw [e1]; exact inb_i32 (by omega) (by decide)) ?_
              refine V_go 1 rfl ?_
              refine V_iret rfl rfl rfl ?_
              refine RP.mk ⟨?_, hM, Sm.rf⟩
              rw [hT, e1, tn_of (by omega), wv]
              exact v2
          · skip
            have w1 : w = 1 := h41
            refine V_go 3 rfl ?_
            refine V_iret rfl rfl rfl ?_
            exact RP.mk ⟨by rw [w1]; exact hM.f.2.1, hM, Sm.rf⟩
        · skip
          have w0 : w = 0 := h35
          refine V_go 3 rfl ?_
          refine V_iret rfl rfl rfl ?_
          exact RP.mk ⟨by rw [w0]; exact hM.f.1, hM, Sm.rf⟩
    · skip
      obtain ⟨i, hi, hi6, e1, e2⟩ := hM.isI (hii h1)
      obtain ⟨v1, v2, v3⟩ := hM.it hi
      have hwx := w8 h1 hw.2
      have hI := hii h1
      have hk : ∃ k, k < 3 ∧ w - 8 = i32 k ∧ I 45 (3 * i + k) = sToldI C i w := by
        rcases hwx with rfl | rfl | rfl
        · exact ⟨0, by omega, rfl, v1⟩
        · exact ⟨1, by omega, rfl, v2⟩
        · exact ⟨2, by omega, rfl, v3⟩
      obtain ⟨k, hk3, hkw, hval⟩ := hk
      have hix : 3 * x + w - 8 = i32 (3 * i + k) := by
        rw [i32_add, ← hkw, ← i32_m3 i (by omega), ← e1, Int32.sub_eq_add_neg, Int32.sub_eq_add_neg, Int32.add_assoc]
      refine V_go 9 rfl ?_
      refine V_iald rfl rfl (Nat.le_of_ble_eq_true rfl) (by rw [hix]; exact inb_i32 (by omega) (by decide)) ?_
      refine V_iret rfl rfl rfl ?_
      refine RP.mk ⟨?_, hM, Sm.rf⟩
      rw [hix, tn_of (by omega), sTold_I hwx hI, e2]
      exact hval
  refine CT_of okX7_told (Nat.le_of_ble_eq_true rfl) ?_
  show V _ _ _ _ _ _ [(0, _), (1, _), (2, _)] _ _ _ _ _
  refine V_go 4 rfl ?_
  refine cSI (mt' := mX7_in) rfl kX7_89 fX7_in rfl (Nat.le_of_ble_eq_true rfl) (Nat.le_of_ble_eq_true rfl) (Nat.le_refl _) (c_inI (lo := (0)) (hi := (10)) rfl (by decide +kernel) (by decide +kernel)) ?_
  refine V_if_eq rfl (fun h2 => ?_) (fun h2 => ?_)
  · skip
    refine V_go 1 rfl ?_
    refine V_iret rfl rfl rfl ?_
    exact RP.mk ⟨(sTold_9 (b2i_eq0.mp h2)).symm, hM, Sm.rf⟩
  · skip
    have hw := b2i_n0.mp h2
    refine V_go 2 rfl ?_
    refine V_icmp_le rfl (fun h21 => ?_) (fun h21 => ?_)
    · skip
      have h7 : w ≤ 7 := h21
      refine V_go 4 rfl ?_
      refine cSI (mt' := mX7_in) rfl kX7_89 fX7_in rfl (Nat.le_of_ble_eq_true rfl) (Nat.le_of_ble_eq_true rfl) (Nat.le_refl _) (c_inI (lo := (2)) (hi := (7)) rfl (by decide +kernel) (by decide +kernel)) ?_
      refine V_if_eq rfl (fun h62 => ?_) (fun h62 => ?_)
      · skip
        exact k51 hw (fun z => absurd h7 z) (fun z => absurd z (b2i_eq0.mp h62))
      · skip
        have h27 := b2i_n0.mp h62
        refine V_go 2 rfl ?_
        refine cVI (mt' := mX7_isOne) rfl kX7_98 fX7_isOne rfl rfl rfl (Nat.le_of_ble_eq_true rfl) (Nat.le_of_ble_eq_true rfl) (Nat.le_of_ble_eq_true rfl) (Nat.le_of_ble_eq_true rfl) (Nat.le_refl _) (c_isOne7 hM) ?_
        refine V_if_ne rfl (fun h72 => ?_) (fun h72 => ?_)
        · skip
          exact k51 hw (fun z => absurd h7 z) (fun _ => b2i_n0.mp h72)
        · skip
          refine V_go 1 rfl ?_
          refine V_iret rfl rfl rfl ?_
          exact RP.mk ⟨(sTold_7 h27 (b2i_eq0.mp h72)).symm, hM, Sm.rf⟩
    · skip
      have h7 : ¬ w ≤ 7 := h21
      refine V_go 2 rfl ?_
      refine cVI (mt' := mX7_isItem) rfl kX7_128 fX7_isItem rfl rfl rfl (Nat.le_of_ble_eq_true rfl) (Nat.le_of_ble_eq_true rfl) (Nat.le_of_ble_eq_true rfl) (Nat.le_of_ble_eq_true rfl) (Nat.le_refl _) (c_isItem7 hM) ?_
      refine V_if_eq rfl (fun h32 => ?_) (fun h32 => ?_)
      · skip
        refine V_go 1 rfl ?_
        refine V_iret rfl rfl rfl ?_
        exact RP.mk ⟨(sTold_8 h7 (b2i_eq0.mp h32)).symm, hM, Sm.rf⟩
      · skip
        have hii := b2i_n0.mp h32
        refine V_go 4 rfl ?_
        refine cSI (mt' := mX7_in) rfl kX7_89 fX7_in rfl (Nat.le_of_ble_eq_true rfl) (Nat.le_of_ble_eq_true rfl) (Nat.le_refl _) (c_inI (lo := (2)) (hi := (7)) rfl (by decide +kernel) (by decide +kernel)) ?_
        refine V_if_eq rfl (fun h62 => ?_) (fun h62 => ?_)
        · skip
          exact k51 hw (fun _ => hii) (fun z => absurd z (b2i_eq0.mp h62))
        · skip
          have h27 := b2i_n0.mp h62
          refine V_go 2 rfl ?_
          refine cVI (mt' := mX7_isOne) rfl kX7_98 fX7_isOne rfl rfl rfl (Nat.le_of_ble_eq_true rfl) (Nat.le_of_ble_eq_true rfl) (Nat.le_of_ble_eq_true rfl) (Nat.le_of_ble_eq_true rfl) (Nat.le_refl _) (c_isOne7 hM) ?_
          refine V_if_ne rfl (fun h72 => ?_) (fun h72 => ?_)
          · skip
            exact k51 hw (fun _ => hii) (fun _ => b2i_n0.mp h72)
          · skip
            refine V_go 1 rfl ?_
            refine V_iret rfl rfl rfl ?_
            exact RP.mk ⟨(sTold_7 h27 (b2i_eq0.mp h72)).symm, hM, Sm.rf⟩
