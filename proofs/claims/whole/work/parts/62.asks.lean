/-! THE MODEL: its texts, what it keeps of its readings, its council -/
def wOf (I : I2) (r part : Nat) (a0 a1 a2 a3 a4 a5 : Int32) : Int32 := (pRd (fun i => I 39 (160 * r + i)) (I 40 r).toNatClampNeg (part + 1)).2.2.2 (env6 a0 a1 a2 a3 a4 a5)
def encT (r part nm br si rd rk as : Nat) : Nat := (((((((r * 3 + part) * 16 + nm) * 128 + br) * 2048 + si) * 16 + rd) * 16 + rk) * 16 + as) + 1
def TxM (I : I2) (r : Nat) : Prop := ∃ n, I 40 r = i32 n ∧ n ≤ 160 ∧ (∀ i, i < n → 0 ≤ I 39 (160 * r + i) ∧ I 39 (160 * r + i) ≤ 255) ∧ pOkT (fun i => I 39 (160 * r + i)) n
def Memo (tc : Nat) (I : I2) (x : Int64) (y : Int32) : Prop := x = 0 ∨ ∃ r part nm br si rd rk as : Nat, (r < tc ∧ part < 3 ∧ nm < 16 ∧ br < 128 ∧ si < 2048 ∧ rd < 16 ∧ rk < 16 ∧ as < 16) ∧ x = Int64.ofNat (encT r part nm br si rd rk as) ∧ y = wOf I r part (i32 nm) (i32 br) (i32 si) (i32 rd) (i32 rk) (i32 as)
def EvM (tc : Nat) (I : I2) (J : J2) (T : TV) : Prop := I 38 3 = i32 tc ∧ 1 ≤ tc ∧ tc ≤ 6 ∧ (∀ r, r < tc → TxM I r) ∧ (∀ (r part : Nat) (a0 a1 a2 a3 a4 a5 : Int32), r < tc → part < 3 → T (i32 r) part a0 a1 a2 a3 a4 a5 = vCl part (wOf I r part a0 a1 a2 a3 a4 a5)) ∧ ∀ p, p < 1024 → Memo tc I (J 46 p) (I 47 p)
theorem wOf_same {I I9 : I2} (h1 : I9 39 = I 39) (h2 : I9 40 = I 40) : wOf I9 = wOf I := by
  funext r part a0 a1 a2 a3 a4 a5
  unfold wOf
  rw [h1, h2]
theorem TxM.same {I I9 : I2} {r : Nat} (h : TxM I r) (h1 : I9 39 = I 39) (h2 : I9 40 = I 40) : TxM I9 r := by
  unfold TxM at *
  rw [h1, h2]
  exact h
theorem EvM.same {tc : Nat} {I I9 : I2} {J J9 : J2} {T : TV} (h : EvM tc I J T) (h0 : I9 38 3 = I 38 3) (h1 : I9 39 = I 39) (h2 : I9 40 = I 40) (h3 : ∀ p, p < 1024 → Memo tc I (J9 46 p) (I9 47 p)) : EvM tc I9 J9 T := by
  obtain ⟨a1, a2, a3, a4, a5, a6⟩ := h
  refine ⟨h0.trans a1, a2, a3, fun r hr => (a4 r hr).same h1 h2, fun r part b0 b1 b2 b3 b4 b5 hr hp => ?_, fun p hp => ?_⟩
  · rw [wOf_same h1 h2]; exact a5 r part b0 b1 b2 b3 b4 b5 hr hp
  · have z := h3 p hp
    unfold Memo at *
    rw [wOf_same h1 h2]
    exact z
def Cr (tc : Nat) (C : CC) : Prop := (0 ≤ C 0 0 ∧ C 0 0 ≤ 1100) ∧ (0 ≤ C 0 1 ∧ C 0 1 ≤ 600) ∧ (0 ≤ C 0 2 ∧ C 0 2 < i32 tc) ∧ (0 ≤ C 0 3 ∧ C 0 3 ≤ 8) ∧ (0 ≤ C 0 4 ∧ C 0 4 ≤ 6) ∧ (∀ c, c < nC C → (0 ≤ C 1 c ∧ C 1 c ≤ 5) ∧ (0 ≤ C 2 c ∧ C 2 c ≤ 9) ∧ (0 ≤ C 3 c ∧ C 3 c ≤ 99)) ∧ ∀ i, i < mC C → (1 ≤ C 4 i ∧ C 4 i ≤ 999) ∧ (0 ≤ C 5 i ∧ C 5 i ≤ C 4 i) ∧ (C 6 i = -1 ↔ C 5 i < C 4 i)
/-- the model stands for that council -/
def MC (tc : Nat) (I : I2) (J : J2) (T : TV) (C : CC) : Prop := Cq (nC C) (mC C) (cMd I) C ∧ Cr tc C ∧ EvM tc I J T
/-- but for what it works with -/
def Sm (I I9 : I2) : Prop := (∀ o, o ≠ 38 → o ≠ 47 → I9 o = I o) ∧ ∀ k, k < 15 ∨ 29 < k → I9 38 k = I 38 k
theorem Sm.rf {I : I2} : Sm I I := ⟨fun _ _ _ => rfl, fun _ _ => rfl⟩
theorem Sm.tr {I I1 I9 : I2} (h : Sm I I1) (h' : Sm I1 I9) : Sm I I9 := ⟨fun o a b => (h'.1 o a b).trans (h.1 o a b), fun k hk => (h'.2 k hk).trans (h.2 k hk)⟩
theorem cMd_sm {I I9 : I2} (q : Sm I I9) : cMd I9 = cMd I := by
  funext g j
  simp only [cMd, q.2 7 (by omega), q.2 8 (by omega), q.2 4 (by omega), q.2 12 (by omega), q.2 14 (by omega), q.1 42 (by omega) (by omega), q.1 43 (by omega) (by omega), q.1 44 (by omega) (by omega), q.1 45 (by omega) (by omega)]
theorem MC.sm {tc : Nat} {I I9 : I2} {J J9 : J2} {T : TV} {C : CC} (h : MC tc I J T C) (q : Sm I I9) (hE : EvM tc I9 J9 T) : MC tc I9 J9 T C := ⟨by rw [cMd_sm q]; exact h.1, h.2.1, hE⟩
theorem nat_of {x : Int32} {k : Nat} (h0 : 0 ≤ x) (h : x ≤ i32 k) (hk : k < 100000) : ∃ m, m ≤ k ∧ x = i32 m := by
  refine ⟨x.toNatClampNeg, ?_, (xn h0).symm⟩
  rw [← xn h0] at h
  have h1 := ti_n h0
  have h2 := Int32.le_iff_toInt_le.mp h
  rw [xn h0, Int32.toInt_ofNat_of_lt (by omega)] at h2
  omega
theorem tn_lt {x : Int32} {k : Int32} (h0 : 0 ≤ x) (h : x ≤ k) (hk : k < 1000) : x.toNatClampNeg < 100000 := by
  have h1 := ti_n h0
  have h2 := Int32.le_iff_toInt_le.mp h
  have h3 := Int32.lt_iff_toInt_lt.mp hk
  have h4 : (1000 : Int32).toInt = 1000 := rfl
  omega
theorem MC.nm {tc : Nat} {I : I2} {J : J2} {T : TV} {C : CC} (h : MC tc I J T C) : I 38 12 = i32 (nC C) ∧ nC C ≤ 8 ∧ I 38 14 = i32 (mC C) ∧ mC C ≤ 6 ∧ C 0 3 = i32 (nC C) ∧ C 0 4 = i32 (mC C) := by
  obtain ⟨h1, ⟨-, -, -, ⟨b1, b2⟩, ⟨b3, b4⟩, -⟩, -⟩ := h
  have e3 : I 38 12 = C 0 3 := h1.1 3 (by omega)
  have e4 : I 38 14 = C 0 4 := h1.1 4 (by omega)
  have e5 : C 0 3 = i32 (nC C) := (xn b1).symm
  have e6 : C 0 4 = i32 (mC C) := (xn b3).symm
  refine ⟨e3.trans e5, ?_, e4.trans e6, ?_, e5, e6⟩
  · have z := tn_lt b1 b2 (by decide)
    rw [e5] at b2
    exact (i32_le (a := nC C) (b := 8) z (by omega)).mp b2
  · have z := tn_lt b3 b4 (by decide)
    rw [e6] at b4
    exact (i32_le (a := mC C) (b := 6) z (by omega)).mp b4
theorem i2l_n {a : Nat} (h : a < 100000) : (i32 a).toInt64 = Int64.ofNat a := by
  rw [← Int64.toInt_inj, Int32.toInt_toInt64, Int32.toInt_ofNat_of_lt (by omega), Int64.toInt_ofNat_of_lt (by omega)]
theorem enc_eq {r part nm br si rd rk as : Nat} (h1 : r < 10) (h2 : part < 10) (h3 : nm < 16) (h4 : br < 128) (h5 : si < 2048) (h6 : rd < 16) (h7 : rk < 16) (h8 : as < 16) : ((((((((i32 r).toInt64 * 3 + (i32 part).toInt64) * 16 + (i32 nm).toInt64) * 128 + (i32 br).toInt64) * 2048 + (i32 si).toInt64) * 16 + (i32 rd).toInt64) * 16 + (i32 rk).toInt64) * 16 + (i32 as).toInt64 + 1 : Int64) = Int64.ofNat (encT r part nm br si rd rk as) := by
  rw [i2l_n (by omega), i2l_n (by omega), i2l_n (by omega), i2l_n (by omega), i2l_n (by omega), i2l_n (by omega), i2l_n (by omega), i2l_n (by omega)]
  unfold encT
  simp only [Int64.ofNat_add, Int64.ofNat_mul]
  rfl
theorem enc_lt {r part nm br si rd rk as : Nat} (h1 : r < 6) (h2 : part < 3) (h3 : nm < 16) (h4 : br < 128) (h5 : si < 2048) (h6 : rd < 16) (h7 : rk < 16) (h8 : as < 16) : encT r part nm br si rd rk as < 2 ^ 62 := by
  unfold encT
  omega
theorem dm16 {x y a b : Nat} (ha : a < 16) (hb : b < 16) (h : x * 16 + a = y * 16 + b) : a = b ∧ x = y := by omega
theorem dm128 {x y a b : Nat} (ha : a < 128) (hb : b < 128) (h : x * 128 + a = y * 128 + b) : a = b ∧ x = y := by omega
theorem dm2048 {x y a b : Nat} (ha : a < 2048) (hb : b < 2048) (h : x * 2048 + a = y * 2048 + b) : a = b ∧ x = y := by omega
theorem enc_inj {r part nm br si rd rk as r' part' nm' br' si' rd' rk' as' : Nat} (h2 : part < 3) (h3 : nm < 16) (h4 : br < 128) (h5 : si < 2048) (h6 : rd < 16) (h7 : rk < 16) (h8 : as < 16) (k2 : part' < 3) (k3 : nm' < 16) (k4 : br' < 128) (k5 : si' < 2048) (k6 : rd' < 16) (k7 : rk' < 16) (k8 : as' < 16) (h : encT r part nm br si rd rk as = encT r' part' nm' br' si' rd' rk' as') : r = r' ∧ part = part' ∧ nm = nm' ∧ br = br' ∧ si = si' ∧ rd = rd' ∧ rk = rk' ∧ as = as' := by
  unfold encT at h
  obtain ⟨e1, h⟩ := dm16 h8 k8 (Nat.add_right_cancel h)
  obtain ⟨e2, h⟩ := dm16 h7 k7 h
  obtain ⟨e3, h⟩ := dm16 h6 k6 h
  obtain ⟨e4, h⟩ := dm2048 h5 k5 h
  obtain ⟨e5, h⟩ := dm128 h4 k4 h
  obtain ⟨e6, h⟩ := dm16 h3 k3 h
  exact ⟨by omega, by omega, e6, e5, e4, e3, e2, e1⟩
theorem plc (z : Int64) : inb (lushrV z 54).toInt32 1024 := by
  have hu : (z.toUInt64 >>> ((54 : Int32).toInt64.toUInt64 &&& Int64.toUInt64 63)).toNat < 1024 := by
    rw [UInt64.toNat_shiftRight]
    have : ((54 : Int32).toInt64.toUInt64 &&& Int64.toUInt64 63).toNat % 64 = 54 := by decide +kernel
    rw [this, Nat.shiftRight_eq_div_pow]
    have h2 := z.toUInt64.toNat_lt
    omega
  unfold lushrV
  generalize (z.toUInt64 >>> ((54 : Int32).toInt64.toUInt64 &&& Int64.toUInt64 63)) = u at *
  have h1 : u.toInt64.toInt = u.toNat := by
    show u.toBitVec.toInt = _
    exact BitVec.toInt_eq_toNat_of_lt (by show 2 * u.toNat < 2 ^ 64; omega)
  have h2 : u.toInt64.toInt32 = i32 u.toNat := by
    rw [← Int32.toInt_inj, Int64.toInt_toInt32, h1, Int32.toInt_ofNat_of_lt (by omega), Int.bmod_eq_of_le (by omega) (by omega)]
  rw [h2]
  exact inb_i32 hu (by decide)
def sWi (x lo hi : Int32) : Int32 := if x < lo then lo else if hi < x then hi else x
theorem sWi_cl (x : Int32) {part : Nat} (hp : ¬ part = 0) : sWi x 0 60 = vCl part x := by
  unfold sWi vCl
  rw [if_neg hp]
  by_cases h1 : x < 60
  · rw [if_pos h1, if_neg (Int32.not_lt.mpr (Int32.le_of_lt h1))]
    by_cases h2 : x < 0
    · rw [if_pos h2, if_neg (Int32.not_lt.mpr (Int32.le_of_lt h2))]
    · rw [if_neg h2]
      by_cases h3 : 0 < x
      · rw [if_pos h3]
      · rw [if_neg h3]
        exact Int32.le_antisymm (Int32.not_lt.mp h3) (Int32.not_lt.mp h2)
  · have h2 : 60 ≤ x := Int32.not_lt.mp h1
    have h4 : (0 : Int32) < 60 := by decide
    rw [if_neg h1, if_pos h4, if_neg (Int32.not_lt.mpr (Int32.le_trans (show (0 : Int32) ≤ 60 by decide) h2))]
    by_cases h3 : 60 < x
    · rw [if_pos h3]
    · rw [if_neg h3]
      exact Int32.le_antisymm (Int32.not_lt.mp h3) h2

theorem c_within {x lo hi : Int32} {I : I2} {J : J2} : CT mX7_within 1 58 58 [.int x, .int lo, .int hi] I J RF (RI RF (sWi x lo hi) I J) := by
  refine CT_of okX7_within (Nat.le_of_ble_eq_true rfl) ?_
  show V _ _ _ _ _ _ [(0, _), (1, _), (2, _)] _ _ _ _ _
  refine V_go 2 rfl ?_
  refine V_icmp_ge rfl (fun h1 => ?_) (fun h1 => ?_)
  · skip
    have hl := Int32.not_lt.mpr h1
    refine V_go 2 rfl ?_
    refine V_icmp_le rfl (fun h11 => ?_) (fun h11 => ?_)
    · skip
      refine V_go 1 rfl ?_
      refine V_iret rfl rfl rfl ?_
      exact RI.mk (by unfold sWi; rw [if_neg hl, if_neg (Int32.not_lt.mpr h11)])
    · skip
      refine V_go 2 rfl ?_
      refine V_iret rfl rfl rfl ?_
      exact RI.mk (by unfold sWi; rw [if_neg hl, if_pos (Int32.not_le.mp h11)])
  · skip
    refine V_go 2 rfl ?_
    refine V_iret rfl rfl rfl ?_
    exact RI.mk (if_pos (Int32.not_le.mp h1)).symm
theorem c_asks {tc part c ah : Nat} {I : I2} {J : J2} {T : TV} {C : CC} (hM : MC tc I J T C) (hp : part < 3) (hc : c < nC C) (ha : ah ≤ 8) : CT mX7_asks 43 58 58 [.ref 38, .int (i32 part), .int (i32 c), .int (i32 ah)] I J RF (RP RF (fun r9 I9 J9 => r9 = askT T C part c ah ∧ MC tc I9 J9 T C ∧ Sm I I9)) := by
  have hE0 := hM.2.2
  have htc := hE0.2.2.1
  obtain ⟨hn1, hn8, hm1, hm6, hC3, hC4⟩ := hM.nm
  obtain ⟨hq0, hcr, -⟩ := id hM
  obtain ⟨r0, r1, r2, r3, r4, r5, -⟩ := hcr
  obtain ⟨r5a, r5b, r5c⟩ := r5 c hc
  obtain ⟨nm, hnm9, hnm⟩ := nat_of (k := 9) r5b.1 r5b.2 (by omega)
  obtain ⟨br, hbr9, hbr⟩ := nat_of (k := 99) r5c.1 r5c.2 (by omega)
  obtain ⟨si, hsi9, hsi⟩ := nat_of (k := 1100) r0.1 r0.2 (by omega)
  obtain ⟨r, hr9, hr⟩ := nat_of (k := tc) r2.1 (Int32.le_of_lt r2.2) (by omega)
  have hrt : r < tc := by
    have z := r2.2
    rw [hr] at z
    exact (i32_lt (by omega) (by omega)).mp z
  obtain ⟨as, has9, has⟩ := nat_of (k := 8) r3.1 r3.2 (by omega)
  replace hnm9 : nm < 16 := by omega
  replace hbr9 : br < 128 := by omega
  replace hsi9 : si < 2048 := by omega
  replace has9 : as < 16 := by omega
  have e2c : I 43 c = i32 nm := (hq0.2.1 2 c (by omega) (by omega) hc).trans hnm
  have e3c : I 44 c = i32 br := (hq0.2.1 3 c (by omega) (by omega) hc).trans hbr
  have e00 : I 38 7 = i32 si := (hq0.1 0 (by omega)).trans hsi
  have e02 : I 38 4 = i32 r := (hq0.1 2 (by omega)).trans hr
  have e03 : I 38 12 = i32 as := (hq0.1 3 (by omega)).trans has
  have k196 : ∀ (I1 : I2) (J1 : J2) (of : Int64) (pl : Int32), inb pl 1024 → Sm I I1 → EvM tc I1 J1 T → I1 47 pl.toNatClampNeg = wOf I1 r part (i32 nm) (i32 br) (i32 si) (i32 ah) (i32 c) (i32 as) → V mX7_asks none 43 58 (RP RF (fun r9 I9 J9 => r9 = askT T C part c ah ∧ MC tc I9 J9 T C ∧ Sm I I9)) 196 [(0, .ref 38), (1, .int (i32 part)), (2, .int (i32 c)), (3, .int (i32 ah)), (4, .long of), (6, .int pl)] [] 58 I1 J1 RF := by
    intro I1 J1 of pl hin hq hE hv
    refine V_go 1 rfl ?_
    refine V_if_ne rfl (fun h11 => ?_) (fun h11 => ?_)
    · skip
      have hp0 : ¬ part = 0 := fun z => h11 (by rw [z]; rfl)
      refine V_go 3 rfl ?_
      refine V_iald rfl rfl (Nat.le_of_ble_eq_true rfl) (hin) ?_
      refine V_go 2 rfl ?_
      refine cSI (mt' := mX7_within) rfl kX7_272 fX7_within rfl (Nat.le_of_ble_eq_true rfl) (Nat.le_of_ble_eq_true rfl) (Nat.le_refl _) (c_within) ?_
      refine V_iret rfl rfl rfl ?_
      refine RP.mk ⟨?_, hM.sm hq hE, hq⟩
      rw [hv]
      unfold askT
      rw [hr, hnm, hbr, hsi, has]
      rw [hE.2.2.2.2.1 r part _ _ _ _ _ _ hrt hp]
      exact sWi_cl _ hp0
    · skip
      have hp0 : part = 0 := (i32_inj (a := part) (b := 0) (by omega) (by omega)).mp h11
      refine V_go 3 rfl ?_
      refine V_iald rfl rfl (Nat.le_of_ble_eq_true rfl) (hin) ?_
      refine V_go 1 rfl ?_
      refine V_iret rfl rfl rfl ?_
      refine RP.mk ⟨?_, hM.sm hq hE, hq⟩
      rw [hv]
      unfold askT
      rw [hr, hnm, hbr, hsi, has]
      rw [hE.2.2.2.2.1 r part _ _ _ _ _ _ hrt hp]
      subst hp0
      rfl
  have k158 : ∀ (I1 : I2) (J1 : J2) (of : Int64) (pl : Int32), inb pl 1024 → of = Int64.ofNat (encT r part nm br si ah c as) → Sm I I1 → EvM tc I1 J1 T → I1 38 4 = i32 r → I1 38 15 = i32 nm → I1 38 16 = i32 br → I1 38 17 = i32 si → I1 38 18 = i32 ah → I1 38 19 = i32 c → I1 38 20 = i32 as → V mX7_asks none 43 58 (RP RF (fun r9 I9 J9 => r9 = askT T C part c ah ∧ MC tc I9 J9 T C ∧ Sm I I9)) 158 [(0, .ref 38), (1, .int (i32 part)), (2, .int (i32 c)), (3, .int (i32 ah)), (4, .long of), (6, .int pl)] [] 58 I1 J1 RF := by
    intro I1 J1 of pl hin hof hq hE hrl f15 f16 f17 f18 f19 f20
    obtain ⟨n, hsz, hn, hby, hok⟩ := hE.2.2.2.1 r hrt
    have hpl : pl.toNatClampNeg < 1024 := hin.2
    refine V_go 3 rfl ?_
    refine V_lald rfl rfl (Nat.le_of_ble_eq_true rfl) (hin) ?_
    refine V_go 2 rfl ?_
    refine V_if_eq rfl (fun h11 => ?_) (fun h11 => ?_)
    · skip
      have he := (lgc_eq _ _).mp h11
      refine k196 I1 J1 of pl hin hq hE ?_
      rcases hE.2.2.2.2.2 pl.toNatClampNeg hpl with z | ⟨r', part', nm', br', si', rd', rk', as', ⟨b1, b2, b3, b4, b5, b6, b7, b8⟩, z1, z2⟩
      · exfalso
        rw [he, hof] at z
        have y := congrArg Int64.toInt z
        rw [Int64.toInt_ofNat_of_lt (Nat.lt_trans (enc_lt (by omega) hp hnm9 hbr9 hsi9 (by omega) (by omega) has9) (by decide))] at y
        have y2 : (encT r part nm br si ah c as : Int) = 0 := y
        unfold encT at y2
        omega
      · rw [he, hof] at z1
        have y := congrArg Int64.toInt z1
        rw [Int64.toInt_ofNat_of_lt (Nat.lt_trans (enc_lt (by omega) hp hnm9 hbr9 hsi9 (by omega) (by omega) has9) (by decide)), Int64.toInt_ofNat_of_lt (Nat.lt_trans (enc_lt (by omega) b2 b3 b4 b5 b6 b7 b8) (by decide))] at y
        obtain ⟨e1, e2, e3, e4, e5, e6, e7, e8⟩ := enc_inj hp hnm9 hbr9 hsi9 (by omega) (by omega) has9 b2 b3 b4 b5 b6 b7 b8 (Int.ofNat_inj.mp y)
        rw [z2, e1, e2, e3, e4, e5, e6, e7, e8]
    · skip
      refine V_go 7 rfl ?_
      refine cVP (mt' := mX7_read) rfl kX7_261 fX7_read rfl rfl rfl (Nat.le_of_ble_eq_true rfl) (Nat.le_of_ble_eq_true rfl) (Nat.le_of_ble_eq_true rfl) (Nat.le_of_ble_eq_true rfl) (Nat.le_refl _) ((by rw [hrl]; exact c_read (t := r) (n := n) (w := part) (b := fun i => I1 39 (160 * r + i)) (by omega) hn hp hsz (fun _ => rfl) hby)) ?_
      intro r21 Ir21 Jr21 h21
      obtain ⟨hf, hy, -⟩ := h21
      obtain ⟨hy1, hy2⟩ := hy hok
      refine V_iast rfl rfl (Nat.le_of_ble_eq_true rfl) (hin) ?_
      refine V_go 4 rfl ?_
      refine V_last rfl rfl (Nat.le_of_ble_eq_true rfl) (hin) ?_
      have h47 : Ir21 47 = I1 47 := (hf.1 47 (by omega)).1
      have h46 : Jr21 46 = J1 46 := (hf.1 46 (by omega)).2
      have hq9 : Sm I (up2 Ir21 47 pl.toNatClampNeg r21) := hq.tr ⟨fun o o1 o2 => by rw [up2_ne o2]; exact (hf.1 o o1).1, fun k hk => by rw [up2_ne (by omega)]; exact hf.2 k (by omega)⟩
      have hw9 : r21 = wOf I1 r part (i32 nm) (i32 br) (i32 si) (i32 ah) (i32 c) (i32 as) := by
        rw [hy2]
        unfold wOf mEnv
        rw [hsz, tn_of (by omega), f15, f16, f17, f18, f19, f20]
      refine k196 _ _ of pl hin hq9 (hE.same ?_ ?_ ?_ (fun p hp9 => ?_)) ?_
      · rw [up2_ne (by omega)]; exact hf.2 3 (by omega)
      · rw [up2_ne (by omega)]; exact (hf.1 39 (by omega)).1
      · rw [up2_ne (by omega)]; exact (hf.1 40 (by omega)).1
      · simp only [up2_rd, reduceIte]
        by_cases hpp : p = pl.toNatClampNeg
        · rw [if_pos hpp, if_pos hpp]
          exact Or.inr ⟨r, part, nm, br, si, ah, c, as, ⟨hrt, hp, hnm9, hbr9, hsi9, by omega, by omega, has9⟩, hof, hw9⟩
        · rw [if_neg hpp, if_neg hpp, h46, h47]
          exact hE.2.2.2.2.2 p hp9
      · have z := wOf_same (I := I1) (I9 := up2 Ir21 47 pl.toNatClampNeg r21) (by rw [up2_ne (by omega)]; exact (hf.1 39 (by omega)).1) (by rw [up2_ne (by omega)]; exact (hf.1 40 (by omega)).1)
        rw [z, ← hw9]
        simp only [up2_rd, reduceIte]
  refine CT_of okX7_asks (Nat.le_of_ble_eq_true rfl) ?_
  show V _ _ _ _ _ _ [(0, _), (1, _), (2, _), (3, _)] _ _ _ _ _
  refine V_go 4 rfl ?_
  try simp only [up2_rd, row2_rd, reduceIte, Nat.reduceEqDiff, tn_of (show c < 2147483648 by omega), e2c, e3c, e00, e03, e02]
  refine V_iald rfl rfl (Nat.le_of_ble_eq_true rfl) (inb_i32 (by omega) (by decide)) ?_
  try simp only [up2_rd, row2_rd, reduceIte, Nat.reduceEqDiff, tn_of (show c < 2147483648 by omega), e2c, e3c, e00, e03, e02]
  refine V_go 5 rfl ?_
  try simp only [up2_rd, row2_rd, reduceIte, Nat.reduceEqDiff, tn_of (show c < 2147483648 by omega), e2c, e3c, e00, e03, e02]
  refine V_iald rfl rfl (Nat.le_of_ble_eq_true rfl) (inb_i32 (by omega) (by decide)) ?_
  try simp only [up2_rd, row2_rd, reduceIte, Nat.reduceEqDiff, tn_of (show c < 2147483648 by omega), e2c, e3c, e00, e03, e02]
  refine V_go 81 rfl ?_
  try simp only [up2_rd, row2_rd, reduceIte, Nat.reduceEqDiff, tn_of (show c < 2147483648 by omega), e2c, e3c, e00, e03, e02]
  have hof := enc_eq (r := r) (part := part) (nm := nm) (br := br) (si := si) (rd := ah) (rk := c) (as := as) (by omega) (by omega) hnm9 hbr9 hsi9 (by omega) (by omega) has9
  refine V.st (I' := (up2 (up2 (up2 (up2 (up2 (up2 I 38 15 (i32 nm)) 38 16 (i32 br)) 38 17 (i32 si)) 38 18 (i32 ah)) 38 19 (i32 c)) 38 20 (i32 as))) (L' := [(0, .ref 38), (1, .int (i32 part)), (2, .int (i32 c)), (3, .int (i32 ah)), (4, .long ((((((((i32 r).toInt64 * 3 + (i32 part).toInt64) * 16 + (i32 nm).toInt64) * 128 + (i32 br).toInt64) * 2048 + (i32 si).toInt64) * 16 + (i32 ah).toInt64) * 16 + (i32 c).toInt64) * 16 + (i32 as).toInt64 + 1)), (6, .int ((lushrV (((((((((i32 r).toInt64 * 3 + (i32 part).toInt64) * 16 + (i32 nm).toInt64) * 128 + (i32 br).toInt64) * 2048 + (i32 si).toInt64) * 16 + (i32 ah).toInt64) * 16 + (i32 c).toInt64) * 16 + (i32 as).toInt64 + 1) * 7046029254386353131) 54).toInt32))]) (k158 _ _ _ _ (plc _) hof ⟨fun o o1 o2 => by simp only [up2_ne o1], fun k hk => ?_⟩ (hE0.same rfl rfl rfl hE0.2.2.2.2.2) ?_ rfl rfl rfl rfl rfl rfl) ?_ ?_
  · have k1 : ¬ k = 15 := by omega
    have k2 : ¬ k = 16 := by omega
    have k3 : ¬ k = 17 := by omega
    have k4 : ¬ k = 18 := by omega
    have k5 : ¬ k = 19 := by omega
    have k6 : ¬ k = 20 := by omega
    simp only [up2_rd, reduceIte, if_neg k1, if_neg k2, if_neg k3, if_neg k4, if_neg k5, if_neg k6]
  · exact e02
  · first
      | rfl
      | simp only [e2c, e3c, e00, e03]
  · simp
