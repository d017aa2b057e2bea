theorem orq : ∀ v, v < 10 → ∀ q, q < 2 ^ (9 - v) → i32 (q * 2 ^ (v + 1)) ||| (1 : Int32) <<< (i32 v &&& 31) = i32 (q * 2 ^ (v + 1) + 2 ^ v) := by decide +kernel
/-- what the answers of so many from the last on come to -/
def TI (f : Nat → Int32) (mi : Int32) (K : Nat) (sr : Int32) (n : Nat) (s a l : Int32) : Prop :=
  (sr ≠ 3 → ∃ q, fB f mi K = q * 2 ^ n + fB f mi n ∧ s = i32 (q * 2 ^ n)) ∧ (∃ p, fN f mi K = p + fN f mi n ∧ a = i32 p) ∧ fL f mi K = if fN f mi n = 0 then l else fL f mi n
theorem TI.start {f : Nat → Int32} {mi sr : Int32} {K : Nat} (hK : K < 1000) : TI f mi K sr K 0 0 (-1) := by
  refine ⟨fun _ => ⟨0, by omega, by rw [Nat.zero_mul]; rfl⟩, ⟨0, by omega, rfl⟩, ?_⟩
  by_cases h : fN f mi K = 0
  · rw [if_pos h]; exact (fL_iff f mi K hK).mpr h
  · rw [if_neg h]
theorem TI.miss {f : Nat → Int32} {mi sr s a l : Int32} {K n : Nat} (h : TI f mi K sr (n + 1) s a l) (hf : ¬ f n = mi) : TI f mi K sr n s a l := by
  obtain ⟨g1, g2, g3, g4, g5⟩ := f_n hf
  obtain ⟨a1, a2, a3⟩ := h
  rw [g2] at a2
  rw [g2, g5] at a3
  refine ⟨fun hs => ?_, a2, a3⟩
  obtain ⟨q, q1, q2⟩ := a1 hs
  rw [g1] at q1
  have e : q * 2 ^ (n + 1) = 2 * q * 2 ^ n := by rw [Nat.pow_succ, Nat.mul_comm 2 q, Nat.mul_assoc, Nat.mul_comm (2 ^ n) 2]
  rw [e] at q1 q2
  exact ⟨2 * q, q1, q2⟩
theorem TI.hit {f : Nat → Int32} {mi sr s s9 a l : Int32} {K n : Nat} (h : TI f mi K sr (n + 1) s a l) (hf : f n = mi) (hK : sr ≠ 3 → K ≤ 10) (hn : n < K) (hs9 : sr ≠ 3 → s9 = s ||| (1 : Int32) <<< (i32 n &&& 31)) : TI f mi K sr n s9 (a + 1) (i32 n) := by
  obtain ⟨g1, g2, g3, g4⟩ := f_y hf
  obtain ⟨a1, ⟨p, p1, p2⟩, a3⟩ := h
  rw [g2] at p1 a3
  rw [if_neg (by omega)] at a3
  refine ⟨fun hs => ?_, ⟨p + 1, by omega, by rw [p2, i32_s]⟩, ?_⟩
  · obtain ⟨q, q1, q2⟩ := a1 hs
    have hq : q < 2 ^ (9 - n) := by
      have b1 := fB_lt f mi K
      have b2 : 2 ^ K ≤ 2 ^ 10 := Nat.pow_le_pow_right (by omega) (hK hs)
      have b3 : (2 : Nat) ^ 10 = 2 ^ (9 - n) * 2 ^ (n + 1) := by rw [← Nat.pow_add]; congr 1; have := hK hs; omega
      refine Nat.lt_of_mul_lt_mul_right (a := 2 ^ (n + 1)) ?_
      omega
    rw [g1] at q1
    have e : q * 2 ^ (n + 1) + 2 ^ n = (2 * q + 1) * 2 ^ n := by rw [Nat.add_mul, Nat.one_mul, Nat.pow_succ, Nat.mul_comm 2 q, Nat.mul_assoc, Nat.mul_comm (2 ^ n) 2]
    refine ⟨2 * q + 1, by rw [← e]; omega, ?_⟩
    rw [hs9 hs, q2, orq n (by have := hK hs; omega) q hq, e]
  · rw [a3, fL]
    by_cases hz : fN f mi n = 0
    · rw [if_pos ⟨hf, hz⟩, if_pos hz]
    · rw [if_neg (fun z => hz z.2), if_neg hz]
theorem TI.fin {f : Nat → Int32} {mi sr s a l : Int32} {K : Nat} (h : TI f mi K sr 0 s a l) : (sr ≠ 3 → s = i32 (fB f mi K)) ∧ a = i32 (fN f mi K) ∧ l = fL f mi K := by
  obtain ⟨a1, ⟨p, p1, p2⟩, a3⟩ := h
  refine ⟨fun hs => ?_, by rw [p2]; exact congrArg i32 p1.symm, a3.symm⟩
  obtain ⟨q, q1, q2⟩ := a1 hs
  rw [q2, q1]
  rfl
/-- what is laid aside for w -/
def TG (tc : Nat) (C : CC) (sr xc : Int32) (g j K : Nat) : Prop := (sr = 5 ∧ g = 0 ∧ j = 2 ∧ K = tc) ∨ (isCi C xc ∧ j = xc.toNatClampNeg ∧ ((sr = 4 ∧ g = 1 ∧ K = 6) ∨ (sr = 2 ∧ g = 2 ∧ K = 10) ∨ (sr = 3 ∧ g = 3 ∧ K = 100)))
theorem TG.lay {sr xc : Int32} {g j K : Nat} {tc : Nat} {I : I2} {J : J2} {T : TV} {C : CC} (h : TG tc C sr xc g j K) {x y : Int32} (hM : MC tc I J T (up2 C g j x)) (y0 : 0 ≤ y) (y1 : y < i32 K) : MC tc (laysM I sr xc y) J T (up2 C g j y) ∧ Mp I (laysM I sr xc y) := by
  rcases h with ⟨rfl, rfl, rfl, rfl⟩ | ⟨hc, rfl, ⟨rfl, rfl, rfl⟩ | ⟨rfl, rfl, rfl⟩ | ⟨rfl, rfl, rfl⟩⟩
  · have e := hM.rul y0 y1
    rw [up2_up2] at e
    exact ⟨e, Mp.fld (by omega) (by omega)⟩
  · have e := hM.row (g := 1) (c := xc.toNatClampNeg) (by omega) (by omega) y0 (show y ≤ 5 by rw [show i32 6 = 6 from rfl] at y1; grind)
    rw [up2_up2] at e
    exact ⟨e, Mp.row (by omega)⟩
  · have e := hM.row (g := 2) (c := xc.toNatClampNeg) (by omega) (by omega) y0 (show y ≤ 9 by rw [show i32 10 = 10 from rfl] at y1; grind)
    rw [up2_up2] at e
    exact ⟨e, Mp.row (by omega)⟩
  · have e := hM.row (g := 3) (c := xc.toNatClampNeg) (by omega) (by omega) y0 (show y ≤ 99 by rw [show i32 100 = 100 from rfl] at y1; grind)
    rw [up2_up2] at e
    exact ⟨e, Mp.row (by omega)⟩
theorem TG.was {sr xc : Int32} {g j K : Nat} {tc : Nat} {C : CC} (h : TG tc C sr xc g j K) (h5 : ¬ sr = 5) (T : TV) : sTold T C xc sr = C g j := by
  rcases h with ⟨rfl, rfl, rfl, rfl⟩ | ⟨hc, rfl, ⟨rfl, rfl, rfl⟩ | ⟨rfl, rfl, rfl⟩ | ⟨rfl, rfl, rfl⟩⟩
  · exact absurd rfl h5
  · rw [sTold_C (by decide) hc]; rfl
  · rw [sTold_C (by decide) hc]; rfl
  · rw [sTold_C (by decide) hc]; rfl
theorem TG.here {sr xc : Int32} {g j K : Nat} {tc : Nat} {I : I2} {J : J2} {T : TV} {C : CC} (hM : MC tc I J T C) (h : TG tc C sr xc g j K) : 0 ≤ C g j ∧ C g j < i32 K ∧ 1 ≤ K ∧ K ≤ 100 ∧ (sr ≠ 3 → K ≤ 10) ∧ ((sr = 2 ∨ sr = 3 ∨ sr = 4) → inb xc 8) := by
  have hcr := hM.2.1
  have htc := hM.2.2.2.2.1
  have ht1 := hM.2.2.2.1
  rcases h with ⟨rfl, rfl, rfl, rfl⟩ | ⟨hc, rfl, h⟩
  · exact ⟨hcr.2.2.1.1, hcr.2.2.1.2, ht1, by omega, fun _ => by omega, fun z => absurd z (by decide)⟩
  · obtain ⟨c, h1, h2, h3, h4⟩ := hM.isC hc
    rw [h4]
    have hx : inb xc 8 := by rw [h3]; exact inb_i32 h2 (by decide)
    obtain ⟨k1, k2, k3⟩ := hcr.2.2.2.2.2.1 c h1
    rcases h with ⟨rfl, rfl, rfl⟩ | ⟨rfl, rfl, rfl⟩ | ⟨rfl, rfl, rfl⟩
    · exact ⟨k1.1, Int32.lt_of_le_of_lt k1.2 (by decide), by omega, by omega, fun _ => by omega, fun _ => hx⟩
    · exact ⟨k2.1, Int32.lt_of_le_of_lt k2.2 (by decide), by omega, by omega, fun _ => by omega, fun _ => hx⟩
    · exact ⟨k3.1, Int32.lt_of_le_of_lt k3.2 (by decide), by omega, by omega, fun z => absurd rfl z, fun _ => hx⟩
theorem ask_n {w : Int32} (h : 10 ≤ w ∧ w ≤ 49) : ∃ m, w = i32 m ∧ 10 ≤ m ∧ m ≤ 49 := by
  obtain ⟨m, h1, h2⟩ := nat_of (k := 49) (Int32.le_trans (by decide) h.1) h.2 (by decide)
  exact ⟨m, h2, (i32_le (a := 10) (by omega) (by omega)).mp (by rw [← h2]; exact h.1), h1⟩
theorem tell_m : ∀ m, m ≤ 49 → 10 ≤ m → i32 m / 10 = i32 (m / 10) ∧ ¬ i32 m < 4 ∧ ¬ i32 m = 4 ∧ (i32 m < 20 ↔ m < 20) ∧ (i32 m < 30 ↔ m < 30) ∧ (i32 m < 40 ↔ m < 40) := by decide +kernel
/-- which of them is asked for -/
theorem tell_v {T : TV} {C : CC} {tc : Nat} {mi w sr : Int32} {g j K : Nat} (hw : (w = 4 ∧ sr = 5) ∨ ((10 ≤ w ∧ w ≤ 49) ∧ sr = (if w < 20 then 4 else if w < 30 then 2 else 3))) (hg : TG tc C sr (w - w / 10 * 10) g j K) : sTell T C tc mi w = (if w < 30 then i32 (fB (fun k => sGo T (up2 C g j (i32 k))) mi K) else if w < 40 then i32 (fN (fun k => sGo T (up2 C g j (i32 k))) mi K) else fL (fun k => sGo T (up2 C g j (i32 k))) mi K) ∧ (w < 30 → sr ≠ 3) := by
  unfold sTell
  rcases hw with ⟨rfl, rfl⟩ | ⟨hw, hsr⟩
  · rcases hg with ⟨-, rfl, rfl, rfl⟩ | ⟨-, -, h | h | h⟩
    · exact ⟨rfl, fun _ => by decide⟩
    · exact absurd h.1 (by decide)
    · exact absurd h.1 (by decide)
    · exact absurd h.1 (by decide)
  · obtain ⟨m, rfl, m1, m2⟩ := ask_n hw
    obtain ⟨e1, e2, e3, e4, e5, e6⟩ := tell_m m m2 m1
    rw [if_neg e2, if_neg e3]
    unfold sOne
    generalize hxc : i32 m - i32 m / 10 * 10 = xc at *
    rw [e1]
    simp only [e4, e5, e6] at *
    by_cases k1 : m < 20
    · rw [if_pos k1] at hsr
      subst hsr
      have em : m / 10 = 1 := by omega
      rw [em, if_pos (show i32 1 = 1 from rfl), if_pos (show m < 30 by omega)]
      rcases hg with h | ⟨-, rfl, h | h | h⟩
      · exact absurd h.1 (by decide)
      · obtain ⟨-, rfl, rfl⟩ := h; exact ⟨rfl, fun _ => by decide⟩
      · exact absurd h.1 (by decide)
      · exact absurd h.1 (by decide)
    · rw [if_neg k1] at hsr
      by_cases k2 : m < 30
      · rw [if_pos k2] at hsr
        subst hsr
        have em : m / 10 = 2 := by omega
        rw [em, if_neg (show ¬ i32 2 = 1 by decide), if_pos (show i32 2 = 2 from rfl), if_pos k2]
        rcases hg with h | ⟨-, rfl, h | h | h⟩
        · exact absurd h.1 (by decide)
        · exact absurd h.1 (by decide)
        · obtain ⟨-, rfl, rfl⟩ := h; exact ⟨rfl, fun _ => by decide⟩
        · exact absurd h.1 (by decide)
      · rw [if_neg k2] at hsr
        subst hsr
        rw [if_neg k2]
        refine ⟨?_, fun z => absurd z k2⟩
        rcases hg with h | ⟨-, rfl, h | h | h⟩
        · exact absurd h.1 (by decide)
        · exact absurd h.1 (by decide)
        · exact absurd h.1 (by decide)
        · obtain ⟨-, rfl, rfl⟩ := h
          by_cases k3 : m < 40
          · have em : m / 10 = 3 := by omega
            rw [em, if_neg (show ¬ i32 3 = 1 by decide), if_neg (show ¬ i32 3 = 2 by decide), if_pos (show i32 3 = 3 from rfl), if_pos k3]
          · have em : m / 10 = 4 := by omega
            rw [em, if_neg (show ¬ i32 4 = 1 by decide), if_neg (show ¬ i32 4 = 2 by decide), if_neg (show ¬ i32 4 = 3 by decide), if_neg k3]

theorem TG.top {sr xc : Int32} {g j K tc : Nat} {C : CC} (h : TG tc C sr xc g j K) : (sr = 5 → K = tc ∧ g = 0 ∧ j = 2) ∧ (sr = 4 → K = 6) ∧ (¬ sr = 5 → ¬ sr = 4 → sHi sr = i32 K - 1) := by
  rcases h with ⟨rfl, rfl, rfl, rfl⟩ | ⟨hc, rfl, ⟨rfl, rfl, rfl⟩ | ⟨rfl, rfl, rfl⟩ | ⟨rfl, rfl, rfl⟩⟩
  · exact ⟨fun _ => ⟨rfl, rfl, rfl⟩, fun z => absurd z (by decide), fun z => absurd rfl z⟩
  · exact ⟨fun z => absurd z (by decide), fun _ => rfl, fun _ z => absurd rfl z⟩
  · exact ⟨fun z => absurd z (by decide), fun z => absurd z (by decide), fun _ _ => by decide⟩
  · exact ⟨fun z => absurd z (by decide), fun z => absurd z (by decide), fun _ _ => by decide⟩
theorem idx40 {s : Int32} (h : 0 ≤ s ∧ s ≤ 3) : inb s 4 ∧ inb (40 * s) 160 ∧ (40 * s).toNatClampNeg = 40 * s.toNatClampNeg := by
  rcases w03m h with rfl | rfl | rfl | rfl <;> exact ⟨by unfold inb; decide, by unfold inb; decide, by decide⟩
theorem lt4le3 {s : Int32} : (0 ≤ s ∧ s < 4) ↔ (0 ≤ s ∧ s ≤ 3) := by grind

theorem c_isSheet7 {s : Int32} {I : I2} {J : J2} : CT mX7_isSheet 2 58 58 [.int s] I J RF (RI RF (b2i (0 ≤ s ∧ s ≤ 3)) I J) := by
  refine CT_of okX7_isSheet (Nat.le_of_ble_eq_true rfl) ?_
  show V _ _ _ _ _ _ [(0, _)] _ _ _ _ _
  refine V_go 4 rfl ?_
  refine cSI (mt' := mX7_in) rfl kX7_89 fX7_in rfl (Nat.le_of_ble_eq_true rfl) (Nat.le_of_ble_eq_true rfl) (Nat.le_refl _) (c_inI (lo := (0)) (hi := (3)) rfl (by decide +kernel) (by decide +kernel)) ?_
  refine V_zret rfl rfl rfl (by first | exact Or.inl rfl | exact Or.inr rfl | exact b2i_or _ | assumption) ?_
  exact RI.mk rfl
theorem le4 {w : Int32} (h : 4 ≤ w) (h2 : w ≤ 4) : w = 4 := by grind
theorem c_tells7 {tc : Nat} {I : I2} {J : J2} {T : TV} {C : CC} (hM : MC tc I J T C) {sh w so sz mi : Int32} (hs : (0 ≤ sh ∧ sh ≤ 3) → I 54 sh.toNatClampNeg = b2i (¬ so = -1) ∧ (¬ so = -1 → I 56 sh.toNatClampNeg = sz ∧ (sz = 1 → I 57 (40 * sh.toNatClampNeg) = mi))) : CT mX7_tells 47 58 58 [.ref 38, .int sh, .int w] I J RF (RP RF (fun r9 I9 J9 => r9 = sTells T C tc so sz mi sh w ∧ MC tc I9 J9 T C ∧ Mp I I9)) := by
  have k259 : ∀ (I1 : I2) (J1 : J2) (b3 xc sr : Int32) (g j K : Nat), TG tc C sr xc g j K → MC tc I1 J1 T C → Mp I I1 → (sTells T C tc so sz mi sh w) = (if w < 30 then i32 (fB (fun k => sGo T (up2 C g j (i32 k))) mi K) else if w < 40 then i32 (fN (fun k => sGo T (up2 C g j (i32 k))) mi K) else fL (fun k => sGo T (up2 C g j (i32 k))) mi K) → (w < 30 → sr ≠ 3) → V mX7_tells none 47 58 (RP RF (fun r9 I9 J9 => r9 = sTells T C tc so sz mi sh w ∧ MC tc I9 J9 T C ∧ Mp I I9)) 259 [(0, .ref 38), (1, .int sh), (2, .int w), (3, .int b3), (4, .int mi), (5, .int xc), (6, .int sr), (7, .int (C g j)), (8, .int (i32 K - 1))] [] 58 I1 J1 RF := by
    intro I1 J1 b3 xc sr g j K hg hM1 hq1 hv hv2
    obtain ⟨g0, g1, gk1, gk100, gk, gx⟩ := hg.here hM1
    have key : ∀ n, Hid (∀ (i : Nat) (I1 : I2) (J1 : J2) (x s a l : Int32), i + n = K → (MC tc I1 J1 T (up2 C g j x) ∧ Mp I I1 ∧ TI (fun k => sGo T (up2 C g j (i32 k))) mi K sr (K - i) s a l) → V mX7_tells none 47 58 (RP RF (fun r9 I9 J9 => r9 = sTells T C tc so sz mi sh w ∧ MC tc I9 J9 T C ∧ Mp I I9)) 272 [(0, .ref 38), (1, .int sh), (2, .int w), (3, .int b3), (4, .int mi), (5, .int xc), (6, .int sr), (7, .int (C g j)), (8, .int (i32 K - 1)), (9, .int s), (10, .int a), (11, .int l), (12, .int (i32 (K - (i)) - 1))] [] 58 I1 J1 RF) := by
      intro n
      induction n with
      | zero =>
        unfold Hid
        intro i I1 J1 x s a l hi ⟨hM1, hq1, ht⟩
        have hk0 : i32 (K - i) - 1 = -1 := by rw [show K - i = 0 by omega]; rfl
        rw [show K - i = 0 by omega] at ht
        obtain ⟨t1, t2, t3⟩ := ht.fin
        obtain ⟨hMb, hqb⟩ := hg.lay hM1 g0 g1
        rw [up2_self] at hMb
        refine V_go 1 rfl ?_
        refine V_if_lt rfl (fun h1 => ?_) (fun h1 => ?_)
        · skip
          refine V_go 4 rfl ?_
          refine cVV (mt' := mX7_lays) rfl kX7_110 fX7_lays rfl rfl rfl (Nat.le_of_ble_eq_true rfl) (Nat.le_of_ble_eq_true rfl) (Nat.le_of_ble_eq_true rfl) (Nat.le_of_ble_eq_true rfl) (Nat.le_refl _) (c_lays7 gx) ?_
          refine V_go 2 rfl ?_
          refine V_icmp_ge rfl (fun h3 => ?_) (fun h3 => ?_)
          · skip
            refine V_go 2 rfl ?_
            refine V_icmp_ge rfl (fun h4 => ?_) (fun h4 => ?_)
            · skip
              refine V_go 1 rfl ?_
              refine V_iret rfl rfl rfl ?_
              refine RP.mk ⟨?_, hMb, hq1.tr hqb⟩
              rw [hv]
              first
                | (rw [if_pos (Int32.not_le.mp (show ¬ (30 : Int32) ≤ w by assumption))]; exact t1 (hv2 (Int32.not_le.mp (show ¬ (30 : Int32) ≤ w by assumption))))
                | (rw [if_neg (Int32.not_lt.mpr (show (30 : Int32) ≤ w by assumption)), if_pos (Int32.not_le.mp (show ¬ (40 : Int32) ≤ w by assumption))]; exact t2)
                | (rw [if_neg (Int32.not_lt.mpr (show (30 : Int32) ≤ w by assumption)), if_neg (Int32.not_lt.mpr (show (40 : Int32) ≤ w by assumption))]; exact t3)
            · skip
              refine V_go 2 rfl ?_
              refine V_iret rfl rfl rfl ?_
              refine RP.mk ⟨?_, hMb, hq1.tr hqb⟩
              rw [hv]
              first
                | (rw [if_pos (Int32.not_le.mp (show ¬ (30 : Int32) ≤ w by assumption))]; exact t1 (hv2 (Int32.not_le.mp (show ¬ (30 : Int32) ≤ w by assumption))))
                | (rw [if_neg (Int32.not_lt.mpr (show (30 : Int32) ≤ w by assumption)), if_pos (Int32.not_le.mp (show ¬ (40 : Int32) ≤ w by assumption))]; exact t2)
                | (rw [if_neg (Int32.not_lt.mpr (show (30 : Int32) ≤ w by assumption)), if_neg (Int32.not_lt.mpr (show (40 : Int32) ≤ w by assumption))]; exact t3)
          · skip
            refine V_go 2 rfl ?_
            refine V_iret rfl rfl rfl ?_
            refine RP.mk ⟨?_, hMb, hq1.tr hqb⟩
            rw [hv]
            first
              | (rw [if_pos (Int32.not_le.mp (show ¬ (30 : Int32) ≤ w by assumption))]; exact t1 (hv2 (Int32.not_le.mp (show ¬ (30 : Int32) ≤ w by assumption))))
              | (rw [if_neg (Int32.not_lt.mpr (show (30 : Int32) ≤ w by assumption)), if_pos (Int32.not_le.mp (show ¬ (40 : Int32) ≤ w by assumption))]; exact t2)
              | (rw [if_neg (Int32.not_lt.mpr (show (30 : Int32) ≤ w by assumption)), if_neg (Int32.not_lt.mpr (show (40 : Int32) ≤ w by assumption))]; exact t3)
        · skip
          exact absurd h1 (by rw [hk0]; decide)
      | succ n ih =>
        unfold Hid
        intro i I1 J1 x s a l hi ⟨hM1, hq1, ht⟩
        obtain ⟨m, hm⟩ : ∃ m, K - i = m + 1 := ⟨K - i - 1, by omega⟩
        have hk1 : i32 (K - i) - 1 = i32 m := by rw [hm]; exact i32_d m
        have hm0 : K - (i + 1) = m := by omega
        rw [hm] at ht
        rw [hk1]
        obtain ⟨hMb, hqb⟩ := hg.lay hM1 (y := i32 m) (i32_nn m (by omega)) ((i32_lt (by omega) (by omega)).mpr (by omega))
        refine V_go 1 rfl ?_
        refine V_if_lt rfl (fun h1 => ?_) (fun h1 => ?_)
        · skip
          exact absurd h1 (Int32.not_lt.mpr (i32_nn m (by omega)))
        · skip
          refine V_go 4 rfl ?_
          refine cVV (mt' := mX7_lays) rfl kX7_110 fX7_lays rfl rfl rfl (Nat.le_of_ble_eq_true rfl) (Nat.le_of_ble_eq_true rfl) (Nat.le_of_ble_eq_true rfl) (Nat.le_of_ble_eq_true rfl) (Nat.le_refl _) (c_lays7 gx) ?_
          refine V_go 1 rfl ?_
          refine cVP (mt' := mX7_gone) rfl kX7_285 fX7_gone rfl rfl rfl (Nat.le_of_ble_eq_true rfl) (Nat.le_of_ble_eq_true rfl) (Nat.le_of_ble_eq_true rfl) (Nat.le_of_ble_eq_true rfl) (Nat.le_refl _) (c_gone7 hMb) ?_
          intro r3 Ir3 Jr3 h3
          obtain ⟨hv3, hM2, hq2⟩ := h3
          obtain ⟨rv9, hrv9⟩ : ∃ rv9, rv9 = r3 := ⟨_, rfl⟩
          rw [← hrv9] at hv3 ⊢
          refine V_go 1 rfl ?_
          refine V_icmp_ne rfl (fun h4 => ?_) (fun h4 => ?_)
          · skip
            refine V_go 2 rfl ?_
            refine V.st (L' := [(0, .ref 38), (1, .int sh), (2, .int w), (3, .int b3), (4, .int mi), (5, .int xc), (6, .int sr), (7, .int (C g j)), (8, .int (i32 K - 1)), (9, .int s), (10, .int a), (11, .int l), (12, .int (i32 (K - (i + 1)) - 1))]) (ih.un (i + 1) _ _ (i32 m) (s) (a) (l) (by omega) ⟨hM2, (hq1.tr hqb).tr hq2.mp, by rw [hm0]; exact ht.miss (f := (fun k => sGo T (up2 C g j (i32 k)))) (fun z => h4 (hv3.trans z))⟩) rfl (by rw [hm0, show i32 m - 1 = i32 m + -1 from Int32.sub_eq_add_neg ..]; exact fun _ z => z)
          · skip
            have hhit : (fun k => sGo T (up2 C g j (i32 k))) m = mi := hv3.symm.trans h4
            refine V_go 3 rfl ?_
            refine V_icmp_ne rfl (fun h21 => ?_) (fun h21 => ?_)
            · skip
              have h3n : ¬ sr = 3 := h21
              refine V_go 10 rfl ?_
              refine V.st (L' := [(0, .ref 38), (1, .int sh), (2, .int w), (3, .int b3), (4, .int mi), (5, .int xc), (6, .int sr), (7, .int (C g j)), (8, .int (i32 K - 1)), (9, .int (s ||| (1 : Int32) <<< (i32 m &&& 31))), (10, .int (a + 1)), (11, .int (i32 m)), (12, .int (i32 (K - (i + 1)) - 1))]) (ih.un (i + 1) _ _ (i32 m) ((s ||| (1 : Int32) <<< (i32 m &&& 31))) ((a + 1)) ((i32 m)) (by omega) ⟨hM2, (hq1.tr hqb).tr hq2.mp, by rw [hm0]; exact ht.hit (f := (fun k => sGo T (up2 C g j (i32 k)))) hhit gk (by omega) (fun _ => rfl)⟩) rfl (by rw [hm0, show i32 m - 1 = i32 m + -1 from Int32.sub_eq_add_neg ..]; exact fun _ z => z)
            · skip
              have h3y : sr = 3 := h21
              refine V_go 9 rfl ?_
              refine V.st (L' := [(0, .ref 38), (1, .int sh), (2, .int w), (3, .int b3), (4, .int mi), (5, .int xc), (6, .int sr), (7, .int (C g j)), (8, .int (i32 K - 1)), (9, .int (s ||| 0)), (10, .int (a + 1)), (11, .int (i32 m)), (12, .int (i32 (K - (i + 1)) - 1))]) (ih.un (i + 1) _ _ (i32 m) ((s ||| 0)) ((a + 1)) ((i32 m)) (by omega) ⟨hM2, (hq1.tr hqb).tr hq2.mp, by rw [hm0]; exact ht.hit (f := (fun k => sGo T (up2 C g j (i32 k)))) hhit gk (by omega) (fun z => absurd h3y z)⟩) rfl (by rw [hm0, show i32 m - 1 = i32 m + -1 from Int32.sub_eq_add_neg ..]; exact fun _ z => z)
    refine V_go 8 rfl ?_
    refine V.st (L' := [(0, .ref 38), (1, .int sh), (2, .int w), (3, .int b3), (4, .int mi), (5, .int xc), (6, .int sr), (7, .int (C g j)), (8, .int (i32 K - 1)), (9, .int 0), (10, .int 0), (11, .int (-1)), (12, .int (i32 (K - (0)) - 1))]) ((key K).un 0 I1 J1 (C g j) 0 0 (-1) (Nat.zero_add _) ⟨by rw [up2_self]; exact hM1, hq1, TI.start (by omega)⟩) rfl (by rw [Nat.sub_zero]; exact fun _ z => z)
  have k227 : ∀ (I1 : I2) (J1 : J2) (b3 xc sr : Int32) (g j K : Nat), TG tc C sr xc g j K → MC tc I1 J1 T C → Mp I I1 → (sTells T C tc so sz mi sh w) = (if w < 30 then i32 (fB (fun k => sGo T (up2 C g j (i32 k))) mi K) else if w < 40 then i32 (fN (fun k => sGo T (up2 C g j (i32 k))) mi K) else fL (fun k => sGo T (up2 C g j (i32 k))) mi K) → (w < 30 → sr ≠ 3) → V mX7_tells none 47 58 (RP RF (fun r9 I9 J9 => r9 = sTells T C tc so sz mi sh w ∧ MC tc I9 J9 T C ∧ Mp I I9)) 227 [(0, .ref 38), (1, .int sh), (2, .int w), (3, .int b3), (4, .int mi), (5, .int xc), (6, .int sr), (7, .int (C g j))] [] 58 I1 J1 RF := by
    intro I1 J1 b3 xc sr g j K hg hM1 hq1 hv hv2
    refine V_go 2 rfl ?_
    refine V_icmp_ne rfl (fun h1 => ?_) (fun h1 => ?_)
    · skip
      refine V_go 2 rfl ?_
      refine V_icmp_ne rfl (fun h2 => ?_) (fun h2 => ?_)
      · skip
        refine V_go 1 rfl ?_
        refine cSI (mt' := mX7_mostOf) rfl kX7_102 fX7_mostOf rfl (Nat.le_of_ble_eq_true rfl) (Nat.le_of_ble_eq_true rfl) (Nat.le_refl _) (c_mostOf7) ?_
        refine V_go 1 rfl ?_
        first
          | (rw [show I1 38 3 = i32 K from by rw [(hg.top.1 (by assumption)).1]; exact hM1.2.2.1]; exact k259 I1 J1 b3 xc sr g j K hg hM1 hq1 hv hv2)
          | (rw [hg.top.2.2 (by assumption) (by assumption)]; exact k259 I1 J1 b3 xc sr g j K hg hM1 hq1 hv hv2)
          | (refine V.st (k259 I1 J1 b3 xc sr g j K hg hM1 hq1 hv hv2) rfl ?_
             rw [hg.top.2.1 (show sr = 4 by assumption), show i32 6 - 1 = (5 : Int32) from rfl]
             exact fun _ z => z)
      · skip
        refine V_go 3 rfl ?_
        first
          | (rw [show I1 38 3 = i32 K from by rw [(hg.top.1 (by assumption)).1]; exact hM1.2.2.1]; exact k259 I1 J1 b3 xc sr g j K hg hM1 hq1 hv hv2)
          | (rw [hg.top.2.2 (by assumption) (by assumption)]; exact k259 I1 J1 b3 xc sr g j K hg hM1 hq1 hv hv2)
          | (refine V.st (k259 I1 J1 b3 xc sr g j K hg hM1 hq1 hv hv2) rfl ?_
             rw [hg.top.2.1 (show sr = 4 by assumption), show i32 6 - 1 = (5 : Int32) from rfl]
             exact fun _ z => z)
    · skip
      refine V_go 6 rfl ?_
      first
        | (rw [show I1 38 3 = i32 K from by rw [(hg.top.1 (by assumption)).1]; exact hM1.2.2.1]; exact k259 I1 J1 b3 xc sr g j K hg hM1 hq1 hv hv2)
        | (rw [hg.top.2.2 (by assumption) (by assumption)]; exact k259 I1 J1 b3 xc sr g j K hg hM1 hq1 hv hv2)
        | (refine V.st (k259 I1 J1 b3 xc sr g j K hg hM1 hq1 hv hv2) rfl ?_
           rw [hg.top.2.1 (show sr = 4 by assumption), show i32 6 - 1 = (5 : Int32) from rfl]
           exact fun _ z => z)
  have k204 : ∀ (I1 : I2) (J1 : J2) (b3 xc sr : Int32) (g j K : Nat), TG tc C sr xc g j K → MC tc I1 J1 T C → Mp I I1 → (sTells T C tc so sz mi sh w) = (if w < 30 then i32 (fB (fun k => sGo T (up2 C g j (i32 k))) mi K) else if w < 40 then i32 (fN (fun k => sGo T (up2 C g j (i32 k))) mi K) else fL (fun k => sGo T (up2 C g j (i32 k))) mi K) → (w < 30 → sr ≠ 3) → V mX7_tells none 47 58 (RP RF (fun r9 I9 J9 => r9 = sTells T C tc so sz mi sh w ∧ MC tc I9 J9 T C ∧ Mp I I9)) 204 [(0, .ref 38), (1, .int sh), (2, .int w), (3, .int b3), (4, .int mi), (5, .int xc), (6, .int sr)] [] 58 I1 J1 RF := by
    intro I1 J1 b3 xc sr g j K hg hM1 hq1 hv hv2
    refine V_go 2 rfl ?_
    refine V_icmp_ne rfl (fun h1 => ?_) (fun h1 => ?_)
    · skip
      refine V_go 3 rfl ?_
      refine cVP (mt' := mX7_told) rfl kX7_106 fX7_told rfl rfl rfl (Nat.le_of_ble_eq_true rfl) (Nat.le_of_ble_eq_true rfl) (Nat.le_of_ble_eq_true rfl) (Nat.le_of_ble_eq_true rfl) (Nat.le_refl _) (c_told7 hM1) ?_
      intro r2 Ir2 Jr2 h2
      obtain ⟨hvt, hMt, hqt⟩ := h2
      rw [hg.was (by assumption) T] at hvt
      rw [hvt]
      refine V_go 1 rfl ?_
      first
        | exact k227 _ _ b3 xc sr g j K hg hMt (hq1.tr hqt.mp) hv hv2
        | (refine V.st (k227 _ _ b3 xc sr g j K hg hM1 hq1 hv hv2) rfl ?_
           obtain ⟨-, rfl, rfl⟩ := hg.top.1 (by assumption)
           rw [show I1 38 4 = C 0 2 from hM1.1.1 2 (by omega)]
           exact fun _ z => z)
    · skip
      refine V_go 4 rfl ?_
      first
        | exact k227 _ _ b3 xc sr g j K hg hMt (hq1.tr hqt.mp) hv hv2
        | (refine V.st (k227 _ _ b3 xc sr g j K hg hM1 hq1 hv hv2) rfl ?_
           obtain ⟨-, rfl, rfl⟩ := hg.top.1 (by assumption)
           rw [show I1 38 4 = C 0 2 from hM1.1.1 2 (by omega)]
           exact fun _ z => z)
  have k57 : ∀ b3 : Int32, (0 ≤ sh ∧ sh ≤ 3) → isAsk C w → V mX7_tells none 47 58 (RP RF (fun r9 I9 J9 => r9 = sTells T C tc so sz mi sh w ∧ MC tc I9 J9 T C ∧ Mp I I9)) 57 [(0, .ref 38), (1, .int sh), (2, .int w), (3, .int b3)] [] 58 I J RF := by
    intro b3 hsh ha
    obtain ⟨q1, q2, q3⟩ := idx40 hsh
    obtain ⟨e54, eso⟩ := hs hsh
    have hst : (sTells T C tc so sz mi sh w) = (if so = -1 then -11 else if sz = 1 then sTell T C tc mi w else -2) := if_pos ⟨lt4le3.mpr hsh, ha⟩
    refine V_go 3 rfl ?_
    refine V_zald rfl rfl (Nat.le_of_ble_eq_true rfl) (q1) ?_
    refine V_if_ne rfl (fun h41 => ?_) (fun h41 => ?_)
    · skip
      have hso : ¬ so = -1 := fun z => h41 (e54.trans (b2i_0 (fun y => y z)))
      obtain ⟨e56, e57⟩ := eso hso
      refine V_go 3 rfl ?_
      refine V_iald rfl rfl (Nat.le_of_ble_eq_true rfl) (q1) ?_
      refine V_go 1 rfl ?_
      refine V_icmp_eq rfl (fun h51 => ?_) (fun h51 => ?_)
      · skip
        have hz1 : sz = 1 := e56.symm.trans h51
        have hvs : (sTells T C tc so sz mi sh w) = sTell T C tc mi w := by rw [hst, if_neg hso, if_pos hz1]
        refine V_go 5 rfl ?_
        refine V_iald rfl rfl (Nat.le_of_ble_eq_true rfl) (q2) ?_
        rw [q3, e57 hz1]
        refine V_go 3 rfl ?_
        refine V_icmp_ge rfl (fun h61 => ?_) (fun h61 => ?_)
        · skip
          have h4w := h61
          refine V_go 2 rfl ?_
          refine V_irem0 rfl (by decide) ?_
          refine V_go 3 rfl ?_
          refine V_icmp_ne rfl (fun h91 => ?_) (fun h91 => ?_)
          · skip
            refine V_go 2 rfl ?_
            refine V_icmp_ge rfl (fun h92 => ?_) (fun h92 => ?_)
            · skip
              refine V_go 2 rfl ?_
              refine V_icmp_ge rfl (fun h93 => ?_) (fun h93 => ?_)
              · skip
                refine V_go 2 rfl ?_
                have hia := (ha.resolve_left (fun z => (show ¬ w = 4 by assumption) (le4 (show (4 : Int32) ≤ w by assumption) z.2)))
                have hia2 : 10 ≤ w ∧ w ≤ 49 := ⟨hia.1, hia.2.1⟩
                have hg : TG tc C 3 (w - w / 10 * 10) 3 (w - w / 10 * 10).toNatClampNeg 100 := Or.inr ⟨hia.2.2, rfl, Or.inr (Or.inr ⟨rfl, rfl, rfl⟩)⟩
                obtain ⟨hv, hv2⟩ := tell_v (T := T) (mi := mi) (Or.inr ⟨hia2, by rw [if_neg (Int32.not_lt.mpr (show (20 : Int32) ≤ w by assumption)), if_neg (Int32.not_lt.mpr (show (30 : Int32) ≤ w by assumption))]⟩) hg
                exact k204 I J b3 _ _ _ _ _ hg hM Mp.rf (hvs.trans hv) hv2
              · skip
                refine V_go 3 rfl ?_
                have hia := (ha.resolve_left (fun z => (show ¬ w = 4 by assumption) (le4 (show (4 : Int32) ≤ w by assumption) z.2)))
                have hia2 : 10 ≤ w ∧ w ≤ 49 := ⟨hia.1, hia.2.1⟩
                have hg : TG tc C 2 (w - w / 10 * 10) 2 (w - w / 10 * 10).toNatClampNeg 10 := Or.inr ⟨hia.2.2, rfl, Or.inr (Or.inl ⟨rfl, rfl, rfl⟩)⟩
                obtain ⟨hv, hv2⟩ := tell_v (T := T) (mi := mi) (Or.inr ⟨hia2, by rw [if_neg (Int32.not_lt.mpr (show (20 : Int32) ≤ w by assumption)), if_pos (Int32.not_le.mp (show ¬ (30 : Int32) ≤ w by assumption))]⟩) hg
                exact k204 I J b3 _ _ _ _ _ hg hM Mp.rf (hvs.trans hv) hv2
            · skip
              refine V_go 3 rfl ?_
              have hia := (ha.resolve_left (fun z => (show ¬ w = 4 by assumption) (le4 (show (4 : Int32) ≤ w by assumption) z.2)))
              have hia2 : 10 ≤ w ∧ w ≤ 49 := ⟨hia.1, hia.2.1⟩
              have hg : TG tc C 4 (w - w / 10 * 10) 1 (w - w / 10 * 10).toNatClampNeg 6 := Or.inr ⟨hia.2.2, rfl, Or.inl ⟨rfl, rfl, rfl⟩⟩
              obtain ⟨hv, hv2⟩ := tell_v (T := T) (mi := mi) (Or.inr ⟨hia2, by rw [if_pos (Int32.not_le.mp (show ¬ (20 : Int32) ≤ w by assumption))]⟩) hg
              exact k204 I J b3 _ _ _ _ _ hg hM Mp.rf (hvs.trans hv) hv2
          · skip
            refine V_go 3 rfl ?_
            have hg : TG tc C 5 (w - w / 10 * 10) 0 2 tc := Or.inl ⟨rfl, rfl, rfl, rfl⟩
            obtain ⟨hv, hv2⟩ := tell_v (T := T) (mi := mi) (Or.inl ⟨by assumption, rfl⟩) hg
            exact k204 I J b3 _ _ _ _ _ hg hM Mp.rf (hvs.trans hv) hv2
        · skip
          refine V_go 2 rfl ?_
          refine cVW (mt' := mX7_looks) rfl kX7_351 fX7_looks rfl rfl rfl (Nat.le_of_ble_eq_true rfl) (Nat.le_of_ble_eq_true rfl) (Nat.le_of_ble_eq_true rfl) (Nat.le_of_ble_eq_true rfl) (Nat.le_refl _) (c_looks7 hM) ?_
          intro Ir62 Jr62 h62
          obtain ⟨hM2, hq2, v1, v2, v3, v4⟩ := h62
          have hzz : Ir62 38 38 = 0 ↔ fN (sGone T C) mi (2 ^ nC C) = 0 := by rw [v1]; exact i32_z (by have := fN_le (sGone T C) mi (2 ^ nC C); have := hM.p2.2.1; omega)
          refine V_go 1 rfl ?_
          refine V_if_ne rfl (fun h63 => ?_) (fun h63 => ?_)
          · skip
            refine V_go 2 rfl ?_
            refine V_icmp_ne rfl (fun h64 => ?_) (fun h64 => ?_)
            · skip
              refine V_go 2 rfl ?_
              refine V_if_ne rfl (fun h65 => ?_) (fun h65 => ?_)
              · skip
                refine V_go 2 rfl ?_
                refine V_icmp_ne rfl (fun h66 => ?_) (fun h66 => ?_)
                · skip
                  refine V_go 11 rfl ?_
                  refine V_iret rfl rfl rfl ?_
                  refine RP.mk ⟨?_, hM2, hq2⟩
                  rw [hvs]
                  unfold sTell
                  rw [if_pos (Int32.not_le.mp (show ¬ (4 : Int32) ≤ w by assumption))]
                  unfold sWay
                  first
                    | (rw [if_pos (show w = 0 by assumption)]; exact v1)
                    | (rw [if_neg (show ¬ w = 0 by assumption), if_pos (show w = 1 by assumption)]; exact v2)
                    | (rw [if_neg (show ¬ w = 0 by assumption), if_neg (show ¬ w = 1 by assumption), if_pos (hzz.mp (by assumption))]; done)
                    | (rw [if_neg (show ¬ w = 0 by assumption), if_neg (show ¬ w = 1 by assumption), if_neg (mt hzz.mpr (by assumption)), if_pos (show w = 2 by assumption)]; exact v3)
                    | (rw [if_neg (show ¬ w = 0 by assumption), if_neg (show ¬ w = 1 by assumption), if_neg (mt hzz.mpr (by assumption)), if_neg (show ¬ w = 2 by assumption)]
                       rw [v4, hM2.nm.1, evr_ok _ (by have := hM.nm.2.1; omega)])
                · skip
                  refine V_go 3 rfl ?_
                  refine V_iret rfl rfl rfl ?_
                  refine RP.mk ⟨?_, hM2, hq2⟩
                  rw [hvs]
                  unfold sTell
                  rw [if_pos (Int32.not_le.mp (show ¬ (4 : Int32) ≤ w by assumption))]
                  unfold sWay
                  first
                    | (rw [if_pos (show w = 0 by assumption)]; exact v1)
                    | (rw [if_neg (show ¬ w = 0 by assumption), if_pos (show w = 1 by assumption)]; exact v2)
                    | (rw [if_neg (show ¬ w = 0 by assumption), if_neg (show ¬ w = 1 by assumption), if_pos (hzz.mp (by assumption))]; done)
                    | (rw [if_neg (show ¬ w = 0 by assumption), if_neg (show ¬ w = 1 by assumption), if_neg (mt hzz.mpr (by assumption)), if_pos (show w = 2 by assumption)]; exact v3)
                    | (rw [if_neg (show ¬ w = 0 by assumption), if_neg (show ¬ w = 1 by assumption), if_neg (mt hzz.mpr (by assumption)), if_neg (show ¬ w = 2 by assumption)]
                       rw [v4, hM2.nm.1, evr_ok _ (by have := hM.nm.2.1; omega)])
              · skip
                refine V_go 2 rfl ?_
                refine V_iret rfl rfl rfl ?_
                refine RP.mk ⟨?_, hM2, hq2⟩
                rw [hvs]
                unfold sTell
                rw [if_pos (Int32.not_le.mp (show ¬ (4 : Int32) ≤ w by assumption))]
                unfold sWay
                first
                  | (rw [if_pos (show w = 0 by assumption)]; exact v1)
                  | (rw [if_neg (show ¬ w = 0 by assumption), if_pos (show w = 1 by assumption)]; exact v2)
                  | (rw [if_neg (show ¬ w = 0 by assumption), if_neg (show ¬ w = 1 by assumption), if_pos (hzz.mp (by assumption))]; done)
                  | (rw [if_neg (show ¬ w = 0 by assumption), if_neg (show ¬ w = 1 by assumption), if_neg (mt hzz.mpr (by assumption)), if_pos (show w = 2 by assumption)]; exact v3)
                  | (rw [if_neg (show ¬ w = 0 by assumption), if_neg (show ¬ w = 1 by assumption), if_neg (mt hzz.mpr (by assumption)), if_neg (show ¬ w = 2 by assumption)]
                     rw [v4, hM2.nm.1, evr_ok _ (by have := hM.nm.2.1; omega)])
            · skip
              refine V_go 3 rfl ?_
              refine V_iret rfl rfl rfl ?_
              refine RP.mk ⟨?_, hM2, hq2⟩
              rw [hvs]
              unfold sTell
              rw [if_pos (Int32.not_le.mp (show ¬ (4 : Int32) ≤ w by assumption))]
              unfold sWay
              first
                | (rw [if_pos (show w = 0 by assumption)]; exact v1)
                | (rw [if_neg (show ¬ w = 0 by assumption), if_pos (show w = 1 by assumption)]; exact v2)
                | (rw [if_neg (show ¬ w = 0 by assumption), if_neg (show ¬ w = 1 by assumption), if_pos (hzz.mp (by assumption))]; done)
                | (rw [if_neg (show ¬ w = 0 by assumption), if_neg (show ¬ w = 1 by assumption), if_neg (mt hzz.mpr (by assumption)), if_pos (show w = 2 by assumption)]; exact v3)
                | (rw [if_neg (show ¬ w = 0 by assumption), if_neg (show ¬ w = 1 by assumption), if_neg (mt hzz.mpr (by assumption)), if_neg (show ¬ w = 2 by assumption)]
                   rw [v4, hM2.nm.1, evr_ok _ (by have := hM.nm.2.1; omega)])
          · skip
            refine V_go 3 rfl ?_
            refine V_iret rfl rfl rfl ?_
            refine RP.mk ⟨?_, hM2, hq2⟩
            rw [hvs]
            unfold sTell
            rw [if_pos (Int32.not_le.mp (show ¬ (4 : Int32) ≤ w by assumption))]
            unfold sWay
            first
              | (rw [if_pos (show w = 0 by assumption)]; exact v1)
              | (rw [if_neg (show ¬ w = 0 by assumption), if_pos (show w = 1 by assumption)]; exact v2)
              | (rw [if_neg (show ¬ w = 0 by assumption), if_neg (show ¬ w = 1 by assumption), if_pos (hzz.mp (by assumption))]; done)
              | (rw [if_neg (show ¬ w = 0 by assumption), if_neg (show ¬ w = 1 by assumption), if_neg (mt hzz.mpr (by assumption)), if_pos (show w = 2 by assumption)]; exact v3)
              | (rw [if_neg (show ¬ w = 0 by assumption), if_neg (show ¬ w = 1 by assumption), if_neg (mt hzz.mpr (by assumption)), if_neg (show ¬ w = 2 by assumption)]
                 rw [v4, hM2.nm.1, evr_ok _ (by have := hM.nm.2.1; omega)])
      · skip
        refine V_go 1 rfl ?_
        refine V_iret rfl rfl rfl ?_
        refine RP.mk ⟨?_, hM, Mp.rf⟩
        rw [hst, if_neg hso, if_neg (fun z => h51 (e56.trans z))]
    · skip
      refine V_go 1 rfl ?_
      refine V_iret rfl rfl rfl ?_
      refine RP.mk ⟨?_, hM, Mp.rf⟩
      have hso : so = -1 := Classical.byContradiction (fun z => absurd ((b2i_1 z).symm.trans (e54.symm.trans h41)) (by decide))
      rw [hst, if_pos hso]
  have k31 : ∀ b3 : Int32, (¬ b3 = 0 ↔ (10 ≤ w ∧ w ≤ 49) ∧ isCi C (w - w / 10 * 10)) → V mX7_tells none 47 58 (RP RF (fun r9 I9 J9 => r9 = sTells T C tc so sz mi sh w ∧ MC tc I9 J9 T C ∧ Mp I I9)) 31 [(0, .ref 38), (1, .int sh), (2, .int w), (3, .int b3)] [] 58 I J RF := by
    intro b3 hb
    refine V_go 1 rfl ?_
    refine cSI (mt' := mX7_isSheet) rfl kX7_348 fX7_isSheet rfl (Nat.le_of_ble_eq_true rfl) (Nat.le_of_ble_eq_true rfl) (Nat.le_refl _) (c_isSheet7) ?_
    refine V_if_eq rfl (fun h2 => ?_) (fun h2 => ?_)
    · skip
      refine V_go 1 rfl ?_
      refine V_iret rfl rfl rfl ?_
      refine RP.mk ⟨(if_neg ?_).symm, hM, Mp.rf⟩
      rintro ⟨k1, k2⟩
      first
        | exact b2i_eq0.mp (show b2i (0 ≤ sh ∧ sh ≤ 3) = 0 by assumption) (lt4le3.mp k1)
        | (rcases k2 with k2 | ⟨k2, k3, k4⟩
           · exact b2i_eq0.mp (show b2i (0 ≤ w ∧ w ≤ 4) = 0 by assumption) k2
           · exact hb.mpr ⟨⟨k2, k3⟩, k4⟩ (show b3 = 0 by assumption))
    · skip
      refine V_go 4 rfl ?_
      refine cSI (mt' := mX7_in) rfl kX7_89 fX7_in rfl (Nat.le_of_ble_eq_true rfl) (Nat.le_of_ble_eq_true rfl) (Nat.le_refl _) (c_inI (lo := (0)) (hi := (4)) rfl (by decide +kernel) (by decide +kernel)) ?_
      refine V_if_ne rfl (fun h4 => ?_) (fun h4 => ?_)
      · skip
        first
          | exact k57 b3 (b2i_n0.mp (show ¬ b2i (0 ≤ sh ∧ sh ≤ 3) = 0 by assumption)) (Or.inl (b2i_n0.mp (by assumption)))
          | exact k57 b3 (b2i_n0.mp (show ¬ b2i (0 ≤ sh ∧ sh ≤ 3) = 0 by assumption)) (Or.inr (by have z := hb.mp (by assumption); exact ⟨z.1.1, z.1.2, z.2⟩))
      · skip
        refine V_go 1 rfl ?_
        refine V_if_ne rfl (fun h5 => ?_) (fun h5 => ?_)
        · skip
          first
            | exact k57 b3 (b2i_n0.mp (show ¬ b2i (0 ≤ sh ∧ sh ≤ 3) = 0 by assumption)) (Or.inl (b2i_n0.mp (by assumption)))
            | exact k57 b3 (b2i_n0.mp (show ¬ b2i (0 ≤ sh ∧ sh ≤ 3) = 0 by assumption)) (Or.inr (by have z := hb.mp (by assumption); exact ⟨z.1.1, z.1.2, z.2⟩))
        · skip
          refine V_go 1 rfl ?_
          refine V_iret rfl rfl rfl ?_
          refine RP.mk ⟨(if_neg ?_).symm, hM, Mp.rf⟩
          rintro ⟨k1, k2⟩
          first
            | exact b2i_eq0.mp (show b2i (0 ≤ sh ∧ sh ≤ 3) = 0 by assumption) (lt4le3.mp k1)
            | (rcases k2 with k2 | ⟨k2, k3, k4⟩
               · exact b2i_eq0.mp (show b2i (0 ≤ w ∧ w ≤ 4) = 0 by assumption) k2
               · exact hb.mpr ⟨⟨k2, k3⟩, k4⟩ (show b3 = 0 by assumption))
  refine CT_of okX7_tells (Nat.le_of_ble_eq_true rfl) ?_
  show V _ _ _ _ _ _ [(0, _), (1, _), (2, _)] _ _ _ _ _
  refine V_go 4 rfl ?_
  refine cSI (mt' := mX7_in) rfl kX7_89 fX7_in rfl (Nat.le_of_ble_eq_true rfl) (Nat.le_of_ble_eq_true rfl) (Nat.le_refl _) (c_inI (lo := (10)) (hi := (49)) rfl (by decide +kernel) (by decide +kernel)) ?_
  refine V_if_eq rfl (fun h2 => ?_) (fun h2 => ?_)
  · skip
    refine V_go 2 rfl ?_
    first
      | exact k31 1 ⟨fun _ => ⟨b2i_n0.mp (by assumption), b2i_n0.mp (by assumption)⟩, fun _ => by decide⟩
      | exact k31 0 ⟨fun z => absurd rfl z, fun z => absurd z.1 (b2i_eq0.mp (by assumption))⟩
      | exact k31 0 ⟨fun z => absurd rfl z, fun z => absurd z.2 (b2i_eq0.mp (by assumption))⟩
  · skip
    refine V_go 3 rfl ?_
    refine V_irem0 rfl (by decide) ?_
    refine cVI (mt' := mX7_isOne) rfl kX7_98 fX7_isOne rfl rfl rfl (Nat.le_of_ble_eq_true rfl) (Nat.le_of_ble_eq_true rfl) (Nat.le_of_ble_eq_true rfl) (Nat.le_of_ble_eq_true rfl) (Nat.le_refl _) (c_isOne7 hM) ?_
    refine V_if_eq rfl (fun h4 => ?_) (fun h4 => ?_)
    · skip
      refine V_go 2 rfl ?_
      first
        | exact k31 1 ⟨fun _ => ⟨b2i_n0.mp (by assumption), b2i_n0.mp (by assumption)⟩, fun _ => by decide⟩
        | exact k31 0 ⟨fun z => absurd rfl z, fun z => absurd z.1 (b2i_eq0.mp (by assumption))⟩
        | exact k31 0 ⟨fun z => absurd rfl z, fun z => absurd z.2 (b2i_eq0.mp (by assumption))⟩
    · skip
      refine V_go 3 rfl ?_
      first
        | exact k31 1 ⟨fun _ => ⟨b2i_n0.mp (by assumption), b2i_n0.mp (by assumption)⟩, fun _ => by decide⟩
        | exact k31 0 ⟨fun z => absurd rfl z, fun z => absurd z.1 (b2i_eq0.mp (by assumption))⟩
        | exact k31 0 ⟨fun z => absurd rfl z, fun z => absurd z.2 (b2i_eq0.mp (by assumption))⟩
