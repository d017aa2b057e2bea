theorem vRun_congr {names cells cells' : Nat → Int32} : ∀ (k i : Nat) (s : Nat × (Nat → Int32)), (∀ j, j < k → cells (i + j) = cells' (i + j)) → vRun names cells k i s = vRun names cells' k i s
  | 0, _, _, _ => rfl
  | k + 1, i, s, h => by
    rw [vRun, vRun, show cells i = cells' i from h 0 (by omega)]
    exact vRun_congr k (i + 1) _ (fun j hj => by rw [show i + 1 + j = i + (j + 1) from by omega]; exact h (j + 1) (by omega))
theorem ti_n {x : Int32} (h : 0 ≤ x) : (x.toNatClampNeg : Int) = x.toInt := Int32.cast_toNatClampNeg x h
theorem vCnt_le (f e : Int32) : f.toNatClampNeg + vCnt f e ≤ 160 ∨ vCnt f e = 0 := by
  unfold vCnt
  split
  · right; rfl
  · rename_i h
    by_cases he : e < 160
    · rw [if_pos he]
      by_cases h0 : 0 ≤ e
      · have h1 := ti_n h0
        have h2 := Int32.lt_iff_toInt_lt.mp he
        have h3 : (160 : Int32).toInt = 160 := rfl
        omega
      · right
        have h1 : e.toInt < 0 := by
          have := Int32.not_le.mp h0
          exact Int32.lt_iff_toInt_lt.mp this
        have h2 : e.toNatClampNeg = 0 := by
          show e.toInt.toNat = 0
          omega
        omega
    · rw [if_neg he]
      omega
theorem vVal_congr {cells cells' ends ends' stk names : Nat → Int32} {t t9 part : Nat} (ht : t < t9) (hp : part < 3) (hc : ∀ j, j < 160 * t9 → cells j = cells' j) (he : ∀ j, j < 3 * t9 → ends j = ends' j) : vVal cells ends stk t part names = vVal cells' ends' stk t part names := by
  unfold vVal
  have e1 : vFrom ends t part = vFrom ends' t part := by
    unfold vFrom
    split
    · rfl
    · exact he _ (by omega)
  rw [e1, he (3 * t + part) (by omega)]
  rw [vRun_congr (cells' := fun i => cells' (160 * t + i))]
  intro j hj
  rcases vCnt_le (vFrom ends' t part) (ends' (3 * t + part)) with h | h
  · exact hc _ (by omega)
  · omega
theorem vStep_env {e e' : Nat → Int32} (h : ∀ j, j < 6 → e j = e' j) (c : Int32) (s : Nat × (Nat → Int32)) : vStep e c s = vStep e' c s := by
  have hn : vName e c = vName e' c := by
    unfold vName
    split
    · rename_i hc
      refine h _ ?_
      have h1 := ti_n hc.1
      have h2 := Int32.lt_iff_toInt_lt.mp hc.2
      have h3 : (6 : Int32).toInt = 6 := rfl
      omega
    · rfl
  unfold vStep
  rw [hn]
theorem EvL.env {c : List Int32} {v : (Nat → Int32) → Int32} (h : EvL c v) (hl : c.length ≤ 160) {e e' : Nat → Int32} (he : ∀ j, j < 6 → e j = e' j) : v e = v e' := by
  have h1 := (h e 0 (fun _ => 0) (by omega)).2.1
  have h2 := (h e' 0 (fun _ => 0) (by omega)).2.1
  rw [← h1, ← h2]
  rw [show (fun (s : Nat × (Nat → Int32)) x => vStep e x s) = fun s x => vStep e' x s from by funext s x; exact vStep_env he x s]
theorem pPart_say (b : Nat → Int32) (n : Nat) (key : Int32) : pSay (pPart b n key) := by
  intro s h
  unfold pPart
  split
  · obtain ⟨g1, g2⟩ := pAll_say b n 5 _ (nxt_num b n s)
    split
    · rename_i hc
      exact ⟨fun _ => g1 hc.1, nxt_num _ _ _⟩
    · exact ⟨fun q => (by cases q), g2⟩
  · exact pNone_say s h
theorem pRd_num (b : Nat → Int32) (n : Nat) : ∀ k, pNum (pRd b n k).2.1
  | 0 => tkn_num b n 0
  | k + 1 => by
    rw [pRd]
    split
    · exact (pPart_say b n _ _ (pRd_num b n k)).2
    · exact pRd_num b n k
theorem pRd_t {b : Nat → Int32} {n k : Nat} (h : (pRd b n (k + 1)).1 = true) : (pRd b n k).1 = true := by
  rw [pRd] at h
  split at h
  · assumption
  · exact h
/-- the cells of one part -/
theorem pRd_seg {b : Nat → Int32} {n k : Nat} (h : (pRd b n (k + 1)).1 = true) : ∃ c, (pRd b n (k + 1)).2.2.1 = (pRd b n k).2.2.1 ++ c ∧ EvL c (pRd b n (k + 1)).2.2.2 := by
  have h0 := pRd_t h
  have e := pRd_s h0
  rw [e] at h
  refine ⟨(pPart b n (262 + i32 k) (pRd b n k).2.1).2.2.1, by rw [e], ?_⟩
  rw [e]
  exact (pPart_say b n _ _ (pRd_num b n k)).1 h
theorem pRd_pre {b : Nat → Int32} {n k : Nat} : ∀ m, (pRd b n (k + m)).1 = true → ∀ j, j < (pRd b n k).2.2.1.length → (pRd b n k).2.2.1.length ≤ (pRd b n (k + m)).2.2.1.length ∧ (pRd b n (k + m)).2.2.1.getD j 0 = (pRd b n k).2.2.1.getD j 0
  | 0, _, j, _ => ⟨Nat.le_refl _, rfl⟩
  | m + 1, h, j, hj => by
    obtain ⟨c, hc, -⟩ := pRd_seg (k := k + m) h
    obtain ⟨h1, h2⟩ := pRd_pre m (pRd_t (k := k + m) h) j hj
    rw [← Nat.add_assoc, hc]
    refine ⟨by rw [List.length_append]; omega, ?_⟩
    rw [← h2, List.getD_eq_getElem?_getD, List.getD_eq_getElem?_getD, List.getElem?_append_left (by omega)]
def env6 (a0 a1 a2 a3 a4 a5 : Int32) : Nat → Int32 := fun j => if j = 0 then a0 else if j = 1 then a1 else if j = 2 then a2 else if j = 3 then a3 else if j = 4 then a4 else a5
theorem env6_of (e : Nat → Int32) : ∀ j, j < 6 → e j = env6 (e 0) (e 1) (e 2) (e 3) (e 4) (e 5) j
  | 0, _ => rfl
  | 1, _ => rfl
  | 2, _ => rfl
  | 3, _ => rfl
  | 4, _ => rfl
  | 5, _ => rfl
  | j + 6, h => absurd h (by omega)
/-- what a part of a text says -/
def tVal (b : Nat → Int32) (n part : Nat) (a0 a1 a2 a3 a4 a5 : Int32) : Int32 := vCl part ((pRd b n (part + 1)).2.2.2 (env6 a0 a1 a2 a3 a4 a5))
/-- one text more -/
def tAdd (T : TV) (t : Nat) (b : Nat → Int32) (n : Nat) : TV := fun r part a0 a1 a2 a3 a4 a5 => if r = i32 t then tVal b n part a0 a1 a2 a3 a4 a5 else T r part a0 a1 a2 a3 a4 a5
theorem vCnt_i {a c : Nat} (h : a ≤ c) (hc : c ≤ 160) : vCnt (i32 a) (i32 c) = c - a := by
  unfold vCnt
  rw [if_neg (Int32.not_lt.mpr (i32_nn a (by omega))), tn_of (by omega)]
  by_cases h2 : c < 160
  · rw [if_pos (show i32 c < 160 from (i32_lt (a := c) (b := 160) (by omega) (by omega)).mpr h2), tn_of (by omega)]
  · rw [if_neg (show ¬ i32 c < 160 from fun z => h2 ((i32_lt (a := c) (b := 160) (by omega) (by omega)).mp z)), tn_of (by omega)]
    omega
theorem tVal_of {cells ends stk names b : Nat → Int32} {t n part : Nat} (hok : (pRd b n 3).1 = true) (hp : part < 3) (hl : (pRd b n 3).2.2.1.length ≤ 160) (hc : ∀ j, j < (pRd b n 3).2.2.1.length → cells (160 * t + j) = (pRd b n 3).2.2.1.getD j 0) (he : ∀ k, k < 3 → ends (3 * t + k) = i32 (pRd b n (k + 1)).2.2.1.length) : vVal cells ends stk t part names = tVal b n part (names 0) (names 1) (names 2) (names 3) (names 4) (names 5) := by
  have w3 : (pRd b n (part + 1)).1 = true := by
    match part, hp with
    | 0, _ => exact pRd_t (pRd_t hok)
    | 1, _ => exact pRd_t hok
    | 2, _ => exact hok
  obtain ⟨c, e1, e2⟩ := pRd_seg w3
  have hlen : (pRd b n (part + 1)).2.2.1.length = (pRd b n part).2.2.1.length + c.length := by rw [e1, List.length_append]
  have hpre : ∀ j, j < (pRd b n (part + 1)).2.2.1.length → (pRd b n (part + 1)).2.2.1.length ≤ (pRd b n 3).2.2.1.length ∧ (pRd b n 3).2.2.1.getD j 0 = (pRd b n (part + 1)).2.2.1.getD j 0 := fun j hj => by
    have z := pRd_pre (b := b) (n := n) (k := part + 1) (2 - part) (by rw [show part + 1 + (2 - part) = 3 from by omega]; exact hok) j hj
    rw [show part + 1 + (2 - part) = 3 from by omega] at z
    exact z
  have hl2 : (pRd b n (part + 1)).2.2.1.length ≤ 160 := by
    rcases Nat.eq_zero_or_pos (pRd b n (part + 1)).2.2.1.length with z | z
    · omega
    · have := (hpre 0 z).1
      omega
  have hf : vFrom ends t part = i32 (pRd b n part).2.2.1.length := by
    unfold vFrom
    match part, hp with
    | 0, _ => rfl
    | 1, _ => exact he 0 (by omega)
    | 2, _ => exact he 1 (by omega)
  unfold vVal tVal
  rw [hf, he part hp, vCnt_i (by omega) hl2, tn_of (by omega), show (pRd b n (part + 1)).2.2.1.length - (pRd b n part).2.2.1.length = c.length from by omega]
  rw [vRun_say (c := c) e2 (by omega) (fun j hj => ?_)]
  · rw [e2.env (by omega) (env6_of names)]
  · show cells (160 * t + ((pRd b n part).2.2.1.length + j)) = c.getD j 0
    have z := hpre ((pRd b n part).2.2.1.length + j) (by omega)
    rw [hc _ (by omega), z.2, e1, List.getD_eq_getElem?_getD, List.getD_eq_getElem?_getD, List.getElem?_append_right (by omega), Nat.add_sub_cancel_left]
theorem i32_lt0 {a b : Nat} (ha : a < 100000) (hb : b < 100000) (h : i32 a < i32 b) : a < b := (i32_lt ha hb).mp h
theorem EvC.text {I I9 : I2} {T : TV} {t n : Nat} {b : Nat → Int32} {r : Int32} (h : EvC I T) (e0 : I 1 0 = i32 t) (ht : t < 6) (hx : TxP t n b I r I9) : (pOkT b n → EvC I9 (tAdd T t b n)) ∧ (¬ pOkT b n → EvC I9 T) := by
  obtain ⟨h1, h2, h3⟩ := h
  obtain ⟨-, ⟨-, c2, c3⟩, hx⟩ := hx
  rw [e0] at h1
  have ht1 : 1 ≤ t := (i32_le (a := 1) (b := t) (by omega) (by omega)).mp h1
  have old : ∀ (t' part : Nat) (stk names : Nat → Int32), t' < t → part < 3 → vVal (I9 2) (I9 3) stk t' part names = T (i32 t') part (names 0) (names 1) (names 2) (names 3) (names 4) (names 5) := fun t' part stk names ht' hp => by
    rw [vVal_congr (cells' := I 2) (ends' := I 3) ht' hp c2 c3]
    exact h3 t' part stk names (by rw [e0]; exact (i32_lt (by omega) (by omega)).mpr ht') (by omega) hp
  rcases hx with ⟨hok, -, a2, a3, a4, a5⟩ | ⟨hno, -, a2⟩
  · refine ⟨fun _ => ⟨?_, ?_, fun t' part stk names ht' ht6 hp => ?_⟩, fun z => absurd hok z⟩
    · rw [a2]; exact (i32_le (a := 1) (b := t + 1) (by omega) (by omega)).mpr (by omega)
    · rw [a2]; exact (i32_le (a := t + 1) (b := 6) (by omega) (by omega)).mpr (by omega)
    · rw [a2] at ht'
      have ht9 := i32_lt0 (by omega) (by omega) ht'
      unfold tAdd
      by_cases hte : t' = t
      · rw [if_pos (by rw [hte]), hte]
        exact tVal_of hok.1 hp a3 a4 a5
      · rw [if_neg (fun z => hte ((i32_inj (by omega) (by omega)).mp z))]
        exact old t' part stk names (by omega) hp
  · refine ⟨fun z => absurd z hno, fun _ => ⟨?_, ?_, fun t' part stk names ht' ht6 hp => ?_⟩⟩
    · rw [a2]; exact h1
    · rw [a2, ← e0]; exact h2
    · rw [a2] at ht'
      exact old t' part stk names (i32_lt0 (by omega) (by omega) ht') hp

theorem c_text {t n : Nat} {I : I2} {J : J2} (e2 : I 5 2 = i32 n) (hn : n ≤ 160) (e0 : I 1 0 = i32 t) (ht : t ≤ 6) : CT mX6_text 52 58 58 [.ref 0] I J RF (RP RF (fun r I9 J9 => J9 = J ∧ ((t = 6 ∧ r = -4 ∧ I9 = I) ∨ (t < 6 ∧ TxP t n (I 6) I r I9)))) := by
  refine CT_of okX6_text (Nat.le_of_ble_eq_true rfl) ?_
  show V _ _ _ _ _ _ [(0, _)] _ _ _ _ _
  refine V_go 2 rfl ?_
  refine cVI (mt' := mX5_isFull) rfl kX6_137 fX5_isFull rfl rfl rfl (Nat.le_of_ble_eq_true rfl) (Nat.le_of_ble_eq_true rfl) (Nat.le_of_ble_eq_true rfl) (Nat.le_of_ble_eq_true rfl) (Nat.le_refl _) (c_isFull) ?_
  refine V_if_eq rfl (fun h2 => ?_) (fun h2 => ?_)
  · skip
    have ht6 : t < 6 := Nat.lt_of_not_le (fun z => absurd (b2i_1 (show (6 : Int32) ≤ i32 t from (i32_le (a := 6) (b := t) (by omega) (by omega)).mpr z)) (by rw [← e0, h2]; decide))
    refine V_go 2 rfl ?_
    refine cVP (mt' := mX3_readTape) rfl kX6_141 fX3_readTape rfl rfl rfl (Nat.le_of_ble_eq_true rfl) (Nat.le_of_ble_eq_true rfl) (Nat.le_of_ble_eq_true rfl) (Nat.le_of_ble_eq_true rfl) (Nat.le_refl _) (c_readTape e2 hn e0 ht6) ?_
    intro r11 Ir11 Jr11 h11
    obtain ⟨hJ1, hx⟩ := h11
    obtain rfl : J = Jr11 := hJ1.symm
    refine V_iret rfl rfl rfl ?_
    exact RP.mk ⟨rfl, Or.inr ⟨ht6, hx⟩⟩
  · skip
    have ht6 : t = 6 := by
      have z := b2i_eq1.mp ((b2i_or _).resolve_left h2)
      rw [e0] at z
      have := (i32_le (a := 6) (b := t) (by omega) (by omega)).mp z
      omega
    refine V_go 2 rfl ?_
    refine V_iret rfl rfl rfl ?_
    exact RP.mk ⟨rfl, Or.inl ⟨ht6, rfl, rfl⟩⟩
