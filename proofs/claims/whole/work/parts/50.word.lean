section VS0
variable {mt : MT} {sc : Option (Nat × (Nat → Int32))} {d nE : Nat} {Q : QT} {pc nx t ci k n : Nat} {c32 : Int32} {c64 : Int64} {L : Lc} {st rest : List Value} {I : I2} {J : J2} {F : F2}
theorem cVSI {mt' : MT} {z i na wini winst wsel d' : Nat} {As : List Value} {r : Int32} {I1 : I2} {J1 : J2} (he : fE mt.2.2.2.2.2.2 pc = some (pc, .invokevirtual z, nx, t, c32, c64, ci, k)) (hl : lnk mt.1 z mt'.2.1) (hy : okYv mt' na wini winst wsel = true) (hst : popA na st [] = some (As, .ref (1000 + i) :: rest)) (hi : i < 12) (hcl : mt'.2.1.cls = "java/lang/String") (hd' : d' + 1 ≤ d) (hsum : (rest.map fun v => v.category).sum ≤ 8) (hn : n ≤ nE)
    (hC : CT mt' d' n n (.ref (1000 + i) :: As) I J F (RI F r I1 J1)) (kk : V mt sc d nE Q nx L (.int r :: rest) n I1 J1 F) : V mt sc d nE Q pc L st n I J F := by
  have h := popA_eq na st [] As _ hst
  simp only [List.reverse_nil, List.nil_append, List.length_nil, Nat.add_zero] at h
  exact V_callV0 he hl hy h.1 h.2 (by rw [hcl]; exact Rcv.str hi) hC hd' hsum ⟨Nat.le_refl _, hn⟩ (Or.inl rfl) (fun rv I' J' F' h => by obtain ⟨rfl, rfl, rfl, rfl⟩ := h; exact kk)
end VS0
theorem strl : ∀ i, i < 12 → i32 (sLen.getD i 0) >>> ((0 : Int32) &&& 31) = i32 (sLen.getD i 0) := by decide +kernel
theorem spl_len : ∀ i, i < 12 → sLen.getD i 0 = (spl i).length := by decide +kernel
theorem spl_le : ∀ i, i < 12 → (spl i).length ≤ 7 := by decide +kernel
theorem strc : ∀ i, i < 12 → ∀ j, j < (spl i).length → i2cV ((sByt.getD i []).getD j 0 &&& 255) = (spl i).getD j 0 := by decide +kernel
theorem strn0 : ∀ i, i < 12 → ∀ j, j < (spl i).length → ((spl i).getD j 0).toUInt32.toUInt16.toUInt32.toInt32 = (spl i).getD j 0 := by decide +kernel
theorem strn {i j : Nat} (hi : i < 12) (hj : j < (spl i).length) : narrow .char (.int ((spl i).getD j 0)) = .int ((spl i).getD j 0) := congrArg Value.int (strn0 i hi j hj)
theorem i32_add (a b : Nat) : i32 (a + b) = i32 a + i32 b := Int32.ofNat_add a b
theorem i32_lt {a b : Nat} (ha : a < 100000) (hb : b < 100000) : i32 a < i32 b ↔ a < b := by
  rw [Int32.lt_iff_toInt_lt, Int32.toInt_ofNat_of_lt (by omega), Int32.toInt_ofNat_of_lt (by omega)]
  omega
theorem i32_le {a b : Nat} (ha : a < 100000) (hb : b < 100000) : i32 a ≤ i32 b ↔ a ≤ b := by
  rw [Int32.le_iff_toInt_le, Int32.toInt_ofNat_of_lt (by omega), Int32.toInt_ofNat_of_lt (by omega)]
  omega
theorem i32_inj {a b : Nat} (ha : a < 100000) (hb : b < 100000) : i32 a = i32 b ↔ a = b := by
  rw [← Int32.toInt_inj, Int32.toInt_ofNat_of_lt (by omega), Int32.toInt_ofNat_of_lt (by omega)]
  omega
theorem i32_sub {a b : Nat} (h : b ≤ a) : i32 a - i32 b = i32 (a - b) := by
  have h1 : i32 a = i32 (a - b) + i32 b := by rw [← i32_add, Nat.sub_add_cancel h]
  rw [h1, Int32.add_sub_cancel]
theorem i32_nn (a : Nat) (ha : a < 100000) : 0 ≤ i32 a := (i32_le (a := 0) (by omega) ha).mpr (Nat.zero_le _)

theorem c_coder {i : Nat} (hi : i < 12) {I : I2} {J : J2} : CT mJ0_coder_7d493 1 58 58 [.ref (1000 + i)] I J RF (RI RF 0 I J) := by
  refine CT_of okJ0_coder_7d493 (Nat.le_of_ble_eq_true rfl) ?_
  show V _ _ _ _ _ _ [(0, _)] _ _ _ _ _
  refine V_statC rfl (by decide +kernel) ?_
  refine V_if_eq rfl (fun h1 => ?_) (fun h1 => ?_)
  · skip
    exact absurd h1 (by decide)
  · skip
    refine V_go 1 rfl ?_
    refine V_getSc rfl hi (by decide +kernel) ?_
    refine V_go 1 rfl ?_
    refine V_nret rfl rfl rfl ?_ ?_
    · rfl
    · exact RI.mk rfl
theorem c_isLatin1 {i : Nat} (hi : i < 12) {I : I2} {J : J2} : CT mJ0_isLatin1_aae02 1 58 58 [.ref (1000 + i)] I J RF (RI RF 1 I J) := by
  refine CT_of okJ0_isLatin1_aae02 (Nat.le_of_ble_eq_true rfl) ?_
  show V _ _ _ _ _ _ [(0, _)] _ _ _ _ _
  refine V_statC rfl (by decide +kernel) ?_
  refine V_if_eq rfl (fun h1 => ?_) (fun h1 => ?_)
  · skip
    exact absurd h1 (by decide)
  · skip
    refine V_go 1 rfl ?_
    refine V_getSc rfl hi (by decide +kernel) ?_
    refine V_if_ne rfl (fun h2 => ?_) (fun h2 => ?_)
    · skip
      exact absurd rfl h2
    · skip
      refine V_go 2 rfl ?_
      refine V_zret rfl rfl rfl (by first | exact Or.inl rfl | exact Or.inr rfl | exact b2i_or _ | assumption) ?_
      exact RI.mk rfl
theorem c_strLength {i : Nat} (hi : i < 12) {I : I2} {J : J2} : CT mJ0_length_8abf5 2 58 58 [.ref (1000 + i)] I J RF (RI RF (i32 (spl i).length) I J) := by
  refine CT_of okJ0_length_8abf5 (Nat.le_of_ble_eq_true rfl) ?_
  show V _ _ _ _ _ _ [(0, _)] _ _ _ _ _
  refine V_go 1 rfl ?_
  refine V_getSv rfl hi (by decide +kernel) ?_
  refine V_alenS rfl hi ?_
  refine V_go 1 rfl ?_
  refine cVSI (mt' := mJ0_coder_7d493) rfl kJ0_335 fJ0_coder_7d493 rfl hi rfl (Nat.le_of_ble_eq_true rfl) (Nat.le_of_ble_eq_true rfl) (Nat.le_refl _) (c_coder hi) ?_
  refine V_go 1 rfl ?_
  refine V_iret rfl rfl rfl ?_
  exact RI.mk (by rw [← spl_len i hi]; exact strl i hi)
theorem c_checkIndex3 {x y : Int32} {v : Value} (hv : v = .null ∨ v = .ref 3000) (h0 : 0 ≤ x) (hxy : x < y) {I : I2} {J : J2} : CT mJ3_checkIndex_8e157 1 58 58 [.int x, .int y, v] I J RF (RI RF x I J) := by
  rcases hv with rfl | rfl
  all_goals
    refine CT_of okJ3_checkIndex_8e157 (Nat.le_of_ble_eq_true rfl) ?_
    show V _ _ _ _ _ _ [(0, _), (1, _), (2, _)] _ _ _ _ _
    refine V_go 1 rfl ?_
    refine V_if_lt rfl (fun h1 => ?_) (fun h1 => ?_)
    · skip
      exact absurd h1 (Int32.not_lt.mpr h0)
    · skip
      refine V_go 2 rfl ?_
      refine V_icmp_lt rfl (fun h2 => ?_) (fun h2 => ?_)
      · skip
        refine V_go 1 rfl ?_
        refine V_iret rfl rfl rfl ?_
        exact RI.mk rfl
      · skip
        exact absurd hxy h2
theorem c_checkIndex0 {x y : Int32} (h0 : 0 ≤ x) (hxy : x < y) {I : I2} {J : J2} : CT mJ0_checkIndex_df160 2 58 58 [.int x, .int y] I J RF (RV RF I J) := by
  refine CT_of okJ0_checkIndex_df160 (Nat.le_of_ble_eq_true rfl) ?_
  show V _ _ _ _ _ _ [(0, _), (1, _)] _ _ _ _ _
  refine V_go 2 rfl ?_
  refine V_statF rfl (by decide +kernel) (fun v hv => ?_)
  have hv0 := hv
  rcases hv with rfl | rfl
  all_goals
    refine cSI (mt' := mJ3_checkIndex_8e157) rfl kJ0_1059 fJ3_checkIndex_8e157 rfl (Nat.le_of_ble_eq_true rfl) (Nat.le_of_ble_eq_true rfl) (Nat.le_refl _) (c_checkIndex3 hv0 h0 hxy) ?_
    refine V_go 1 rfl ?_
    refine V_vret rfl rfl rfl ?_
    exact RV.mk
theorem c_latinAt {i j : Nat} (hi : i < 12) (hj : j < (spl i).length) {I : I2} {J : J2} : CT mJ1_charAt_3b067 3 58 58 [.ref (2000 + i), .int (i32 j)] I J RF (RI RF ((spl i).getD j 0) I J) := by
  have hl := spl_le i hi
  refine CT_of okJ1_charAt_3b067 (Nat.le_of_ble_eq_true rfl) ?_
  show V _ _ _ _ _ _ [(0, _), (1, _)] _ _ _ _ _
  refine V_go 2 rfl ?_
  refine V_alenS rfl hi ?_
  rw [spl_len i hi]
  refine cSV (mt' := mJ0_checkIndex_df160) rfl kJ1_9 fJ0_checkIndex_df160 rfl (Nat.le_of_ble_eq_true rfl) (Nat.le_of_ble_eq_true rfl) (Nat.le_refl _) (c_checkIndex0 (i32_nn j (by omega)) ((i32_lt (by omega) (by omega)).mpr hj)) ?_
  refine V_go 2 rfl ?_
  refine V_balS rfl hi (by rw [spl_len i hi]; exact inb_i32 hj (by omega)) ?_
  refine V_go 3 rfl ?_
  rw [tn_of (show j < 2147483648 by omega), strc i hi j hj]
  refine V_nret rfl rfl rfl ?_ ?_
  · exact strn hi hj
  · exact RI.mk rfl

theorem c_strCharAt {i j : Nat} (hi : i < 12) (hj : j < (spl i).length) {I : I2} {J : J2} : CT mJ0_charAt_5068e 4 58 58 [.ref (1000 + i), .int (i32 j)] I J RF (RI RF ((spl i).getD j 0) I J) := by
  refine CT_of okJ0_charAt_5068e (Nat.le_of_ble_eq_true rfl) ?_
  show V _ _ _ _ _ _ [(0, _), (1, _)] _ _ _ _ _
  refine V_go 1 rfl ?_
  refine cVSI (mt' := mJ0_isLatin1_aae02) rfl kJ0_492 fJ0_isLatin1_aae02 rfl hi rfl (Nat.le_of_ble_eq_true rfl) (Nat.le_of_ble_eq_true rfl) (Nat.le_refl _) (c_isLatin1 hi) ?_
  refine V_if_eq rfl (fun h2 => ?_) (fun h2 => ?_)
  · skip
    exact absurd h2 (by decide)
  · skip
    refine V_go 1 rfl ?_
    refine V_getSv rfl hi (by decide +kernel) ?_
    refine V_go 1 rfl ?_
    refine cSI (mt' := mJ1_charAt_3b067) rfl kJ0_495 fJ1_charAt_3b067 rfl (Nat.le_of_ble_eq_true rfl) (Nat.le_of_ble_eq_true rfl) (Nat.le_refl _) (c_latinAt hi hj) ?_
    refine V_nret rfl rfl rfl ?_ ?_
    · exact strn hi hj
    · exact RI.mk rfl
abbrev SpK (b : Nat → Int32) (q m : Nat) (l : List Int32) (k : Nat) : Prop := m = l.length ∧ ∀ j, j < k → b (q + j) = l.getD j 0
theorem bts_len (b : Nat → Int32) : ∀ n q, (bts b q n).length = n
  | 0, _ => rfl
  | n + 1, q => by rw [bts, List.length_cons, bts_len b n]
theorem bts_get (b : Nat → Int32) : ∀ n q j, j < n → (bts b q n).getD j 0 = b (q + j)
  | n + 1, q, 0, _ => rfl
  | n + 1, q, j + 1, h => by
    rw [bts, List.getD_cons_succ, bts_get b n (q + 1) j (by omega)]
    congr 1
    omega
theorem bts_iff {b : Nat → Int32} {q m : Nat} {l : List Int32} : bts b q m = l ↔ SpK b q m l l.length := by
  constructor
  · intro h
    subst h
    refine ⟨(bts_len b m q).symm, fun j hj => ?_⟩
    rw [bts_len] at hj
    exact (bts_get b m q j hj).symm
  · rintro ⟨h1, h2⟩
    subst h1
    refine List.ext_getElem (bts_len _ _ _) (fun j h3 h4 => ?_)
    have e1 := bts_get b l.length q j h4
    have e2 := h2 j h4
    rw [List.getD_eq_getElem?_getD, List.getElem?_eq_getElem h3] at e1
    rw [List.getD_eq_getElem?_getD, List.getElem?_eq_getElem h4] at e2
    exact e1.trans e2
theorem spk_of {b : Nat → Int32} {q m k : Nat} {l : List Int32} (h : bts b q m = l) (hk : k ≤ l.length) : SpK b q m l k := ⟨(bts_iff.mp h).1, fun j hj => (bts_iff.mp h).2 j (by omega)⟩
theorem spk_s {b : Nat → Int32} {q m k : Nat} {l : List Int32} {x : Int32} (h : SpK b q m l k) (hx : x = l.getD k 0) (hb : b (q + k) = x) : SpK b q m l (k + 1) := by
  refine ⟨h.1, fun j hj => ?_⟩
  by_cases h2 : j = k
  · rw [h2, hb, hx]
  · exact h.2 j (by omega)

theorem c_isSpelt {i e q : Nat} {I : I2} {J : J2} (hi : i < 12) (e3 : I 5 3 = i32 e) (e4 : I 5 4 = i32 q) (hqe : q ≤ e) (he : e ≤ 160) : CT mX3_isSpelt 5 58 58 [.ref 5, .ref (1000 + i)] I J RF (RI RF (b2i (bts (I 6) q (e - q) = spl i)) I J) := by
  have hl := spl_le i hi
  have key : ∀ n, Hid (∀ (k : Nat) (lk : Int32), k + n = (spl i).length → lk = b2i (SpK (I 6) q (e - q) (spl i) k) → V mX3_isSpelt none 5 58 (RI RF (b2i (bts (I 6) q (e - q) = spl i)) I J) 24 [(0, .ref 5), (1, .ref (1000 + i)), (2, .int (lk)), (3, .int (i32 (k)))] [] 58 I J RF) := by
    intro n
    induction n with
    | zero =>
      unfold Hid
      intro k lk hi0 hlk
      have hi9 : k = (spl i).length := hi0
      refine V_go 1 rfl ?_
      refine V_if_eq rfl (fun h1 => ?_) (fun h1 => ?_)
      · skip
        refine V_go 1 rfl ?_
        refine V_zret rfl rfl rfl (by rw [hlk]; exact b2i_or _) ?_
        exact RI.mk (by rw [hlk] at h1; rw [hlk, h1, b2i_0]; intro hb; exact absurd (b2i_1 (spk_of (k := k) hb (by omega))) (by rw [h1]; decide))
      · skip
        refine V_go 2 rfl ?_
        refine cVSI (mt' := mJ0_length_8abf5) rfl kX3_109 fJ0_length_8abf5 rfl hi rfl (Nat.le_of_ble_eq_true rfl) (Nat.le_of_ble_eq_true rfl) (Nat.le_refl _) (c_strLength hi) ?_
        refine V_icmp_ge rfl (fun h3 => ?_) (fun h3 => ?_)
        · skip
          refine V_go 1 rfl ?_
          refine V_zret rfl rfl rfl (by first | exact Or.inl rfl | exact Or.inr rfl | exact b2i_or _ | (rw [hlk]; exact b2i_or _)) ?_
          exact RI.mk (by rw [hlk]; congr 1; rw [bts_iff, hi9])
        · skip
          exact absurd (by rw [← hi9]; exact Int32.le_refl _) h3
    | succ n ih =>
      unfold Hid
      intro k lk hi0 hlk
      have hk : k < (spl i).length := by omega
      refine V_go 1 rfl ?_
      refine V_if_eq rfl (fun h1 => ?_) (fun h1 => ?_)
      · skip
        refine V_go 1 rfl ?_
        refine V_zret rfl rfl rfl (by rw [hlk]; exact b2i_or _) ?_
        exact RI.mk (by rw [hlk] at h1; rw [hlk, h1, b2i_0]; intro hb; exact absurd (b2i_1 (spk_of (k := k) hb (by omega))) (by rw [h1]; decide))
      · skip
        have hp : SpK (I 6) q (e - q) (spl i) k := b2i_eq1.mp ((b2i_or _).resolve_left (by rw [← hlk]; exact h1))
        have hk2 : q + k < 160 := by have := hp.1; omega
        refine V_go 2 rfl ?_
        refine cVSI (mt' := mJ0_length_8abf5) rfl kX3_109 fJ0_length_8abf5 rfl hi rfl (Nat.le_of_ble_eq_true rfl) (Nat.le_of_ble_eq_true rfl) (Nat.le_refl _) (c_strLength hi) ?_
        refine V_icmp_ge rfl (fun h3 => ?_) (fun h3 => ?_)
        · skip
          exact absurd ((i32_le (by omega) (by omega)).mp h3) (by omega)
        · skip
          refine V_go 6 rfl ?_
          refine V_iald rfl rfl (Nat.le_of_ble_eq_true rfl) (by rw [e4, ← i32_add]; exact inb_i32 hk2 (by decide)) ?_
          refine V_go 2 rfl ?_
          refine cVSI (mt' := mJ0_charAt_5068e) rfl kX3_114 fJ0_charAt_5068e rfl hi rfl (Nat.le_of_ble_eq_true rfl) (Nat.le_of_ble_eq_true rfl) (Nat.le_refl _) (c_strCharAt hi hk) ?_
          refine V_icmp_ne rfl (fun h5 => ?_) (fun h5 => ?_)
          · skip
            rw [e4, ← i32_add, tn_of (show q + k < 2147483648 by omega)] at h5
            refine V_go 4 rfl ?_
            refine V.st (I' := I) (L' := [(0, .ref 5), (1, .ref (1000 + i)), (2, .int (b2i (SpK (I 6) q (e - q) (spl i) (k + 1)))), (3, .int (i32 (k + 1)))]) (ih.un (k + 1) _ (by omega) rfl) rfl ?_
            rw [i32_s]
            rw [b2i_0 (fun hb => h5 (hb.2 k (by omega)))]
            simp
          · skip
            rw [e4, ← i32_add, tn_of (show q + k < 2147483648 by omega)] at h5
            refine V_go 5 rfl ?_
            refine V.st (I' := I) (L' := [(0, .ref 5), (1, .ref (1000 + i)), (2, .int (b2i (SpK (I 6) q (e - q) (spl i) (k + 1)))), (3, .int (i32 (k + 1)))]) (ih.un (k + 1) _ (by omega) rfl) rfl ?_
            rw [i32_s]
            rw [b2i_1 (spk_s hp rfl h5)]
            simp
  refine CT_of okX3_isSpelt (Nat.le_of_ble_eq_true rfl) ?_
  show V _ _ _ _ _ _ [(0, _), (1, _)] _ _ _ _ _
  refine V_go 1 rfl ?_
  refine cVSI (mt' := mJ0_length_8abf5) rfl kX3_109 fJ0_length_8abf5 rfl hi rfl (Nat.le_of_ble_eq_true rfl) (Nat.le_of_ble_eq_true rfl) (Nat.le_refl _) (c_strLength hi) ?_
  refine V_go 5 rfl ?_
  refine V_icmp_ne rfl (fun h2 => ?_) (fun h2 => ?_)
  · skip
    rw [e3, e4, i32_sub hqe, i32_inj (by omega) (by omega)] at h2
    refine V_go 4 rfl ?_
    refine V.st (I' := I) (L' := [(0, .ref 5), (1, .ref (1000 + i)), (2, .int (b2i (SpK (I 6) q (e - q) (spl i) 0))), (3, .int (i32 (0)))]) ((key _).un 0 _ (Nat.zero_add _) rfl) rfl ?_
    rw [b2i_0 (fun hb => h2 hb.1.symm)]
    simp [show i32 0 = 0 from rfl]
  · skip
    rw [e3, e4, i32_sub hqe, i32_inj (by omega) (by omega)] at h2
    refine V_go 5 rfl ?_
    refine V.st (I' := I) (L' := [(0, .ref 5), (1, .ref (1000 + i)), (2, .int (b2i (SpK (I 6) q (e - q) (spl i) 0))), (3, .int (i32 (0)))]) ((key _).un 0 _ (Nat.zero_add _) rfl) rfl ?_
    rw [b2i_1 ⟨h2.symm, fun j hj => absurd hj (Nat.not_lt_zero _)⟩]
    simp [show i32 0 = 0 from rfl]
