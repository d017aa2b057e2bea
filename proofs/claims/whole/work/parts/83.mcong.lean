/-! what lies behind a text is not read -/
theorem sk_c {f : Int32 → Bool} {b b' : Nat → Int32} {n : Nat} (hb : ∀ i, i < n → b i = b' i) : ∀ k p, p + k ≤ n → sk f b k p = sk f b' k p
  | 0, p, _ => rfl
  | k + 1, p, h => by
    rw [sk, sk, hb p (by omega), sk_c hb k (p + 1) (by omega)]
theorem bts_c {b b' : Nat → Int32} {n : Nat} (hb : ∀ i, i < n → b i = b' i) : ∀ k q, q + k ≤ n → bts b q k = bts b' q k
  | 0, q, _ => rfl
  | k + 1, q, h => by
    rw [bts, bts, hb q (by omega), bts_c hb k (q + 1) (by omega)]
theorem nmb_c {b b' : Nat → Int32} {n q : Nat} (hb : ∀ i, i < n → b i = b' i) : ∀ k, q + k ≤ n → nmb b q k = nmb b' q k
  | 0, _ => rfl
  | k + 1, h => by
    rw [nmb, nmb, hb (q + k) (by omega), nmb_c hb k (by omega)]
theorem tkn_c {b b' : Nat → Int32} {n : Nat} (hb : ∀ i, i < n → b i = b' i) (p : Nat) : tkn b n p = tkn b' n p := by
  have e0 : sk isBl b (n - p) p = sk isBl b' (n - p) p := by
    by_cases hp : p ≤ n
    · exact sk_c hb _ _ (by omega)
    · rw [show n - p = 0 by omega]; rfl
  unfold tkn
  rw [e0]
  generalize sk isBl b' (n - p) p = q
  dsimp only
  by_cases hq : n ≤ q
  · rw [if_pos hq, if_pos hq]
  · have h1 := sk_ge isLe b' (n - q) q
    have h2 := sk_ge isDi b' (n - q) q
    rw [if_neg hq, if_neg hq, hb q (by omega), sk_c hb (n - q) q (by omega), sk_c hb (n - q) q (by omega), bts_c hb _ _ (by omega), nmb_c hb _ (by omega)]
theorem nxt_c {b b' : Nat → Int32} {n : Nat} (hb : ∀ i, i < n → b i = b' i) : nxt b n = nxt b' n := by
  funext s
  exact tkn_c hb _
theorem pBin_k {b b' : Nat → Int32} {n : Nat} {f : PT → PR} {oc : Int32 → Int32} (h : nxt b n = nxt b' n) : ∀ k r, pBin b n f oc k r = pBin b' n f oc k r
  | 0, _ => rfl
  | k + 1, r => by rw [pBin, pBin, h, pBin_k h k]
theorem pBin_e {b b' : Nat → Int32} {n : Nat} (h : nxt b n = nxt b' n) : pBin b n = pBin b' n := by
  funext f oc k r
  exact pBin_k h k r
theorem pOne_e {b b' : Nat → Int32} {n : Nat} (h : nxt b n = nxt b' n) : pOne b n = pOne b' n := by
  funext k o1 o2 s
  unfold pOne
  rw [h]
theorem pNot_e {b b' : Nat → Int32} {n : Nat} (h : nxt b n = nxt b' n) : pNot b n = pNot b' n := by
  funext k o1 o2 s
  unfold pNot
  rw [h]
theorem pTerm_e {b b' : Nat → Int32} {n : Nat} (h : nxt b n = nxt b' n) : pTerm b n = pTerm b' n := by
  funext o s
  unfold pTerm
  rw [pBin_e h]
theorem pSum_e {b b' : Nat → Int32} {n : Nat} (h : nxt b n = nxt b' n) : pSum b n = pSum b' n := by
  funext o s
  unfold pSum
  rw [pBin_e h, pTerm_e h]
theorem pCmp_e {b b' : Nat → Int32} {n : Nat} (h : nxt b n = nxt b' n) : pCmp b n = pCmp b' n := by
  funext o s
  unfold pCmp
  rw [pBin_e h, pSum_e h]
theorem pAnd_e {b b' : Nat → Int32} {n : Nat} (h : nxt b n = nxt b' n) : pAnd b n = pAnd b' n := by
  funext o s
  unfold pAnd
  rw [pBin_e h]
theorem pOr_e {b b' : Nat → Int32} {n : Nat} (h : nxt b n = nxt b' n) : pOr b n = pOr b' n := by
  funext o s
  unfold pOr
  rw [pBin_e h, pAnd_e h]
theorem pLv_e {b b' : Nat → Int32} {n : Nat} (h : nxt b n = nxt b' n) : ∀ k, pLv b n k = pLv b' n k
  | 0 => by rw [pLv, pLv, pOne_e h, pNot_e h, pCmp_e h]
  | k + 1 => by rw [pLv, pLv, pOne_e h, pNot_e h, pCmp_e h, pOr_e h, pLv_e h k]
theorem pPart_e {b b' : Nat → Int32} {n : Nat} (h : nxt b n = nxt b' n) : pPart b n = pPart b' n := by
  funext k s
  unfold pPart pAll
  rw [h, pOr_e h, pLv_e h]
theorem pRd_c {b b' : Nat → Int32} {n : Nat} (hb : ∀ i, i < n → b i = b' i) : ∀ k, pRd b n k = pRd b' n k
  | 0 => by rw [pRd, pRd, tkn_c hb]
  | k + 1 => by rw [pRd, pRd, pPart_e (nxt_c hb), pRd_c hb k]
theorem pOkT_c {b b' : Nat → Int32} {n : Nat} (hb : ∀ i, i < n → b i = b' i) : pOkT b n ↔ pOkT b' n := by
  unfold pOkT
  rw [pRd_c hb]
/-! texts that stay -/
theorem TxM.low {I I9 : I2} {r tc : Nat} (hr : r < tc) (h : TxM I r) (h1 : ∀ j, j < 160 * tc → I9 39 j = I 39 j) (h2 : ∀ j, j < tc → I9 40 j = I 40 j) : TxM I9 r := by
  obtain ⟨n, a1, a2, a3, a4⟩ := h
  have hb : ∀ i, i < n → I9 39 (160 * r + i) = I 39 (160 * r + i) := fun i hi => h1 _ (by omega)
  refine ⟨n, (h2 r hr).trans a1, a2, fun i hi => by rw [hb i hi]; exact a3 i hi, (pOkT_c hb).mpr a4⟩
theorem wOf_low {I I9 : I2} {r tc : Nat} (hr : r < tc) (h : TxM I r) (h1 : ∀ j, j < 160 * tc → I9 39 j = I 39 j) (h2 : ∀ j, j < tc → I9 40 j = I 40 j) : wOf I9 r = wOf I r := by
  obtain ⟨n, a1, a2, a3, a4⟩ := h
  have hb : ∀ i, i < n → I9 39 (160 * r + i) = I 39 (160 * r + i) := fun i hi => h1 _ (by omega)
  funext part c0 c1 c2 c3 c4 c5
  unfold wOf
  rw [h2 r hr, a1, tn_of (by omega), pRd_c hb]
theorem Memo.low {tc : Nat} {I I9 : I2} {x : Int64} {y : Int32} (hT : ∀ r, r < tc → TxM I r) (h1 : ∀ j, j < 160 * tc → I9 39 j = I 39 j) (h2 : ∀ j, j < tc → I9 40 j = I 40 j) {tc' : Nat} (ht : tc ≤ tc') (h : Memo tc I x y) : Memo tc' I9 x y := by
  rcases h with h | ⟨r, part, nm, br, si, rd, rk, as, ⟨b1, b2⟩, b3, b4⟩
  · exact Or.inl h
  · exact Or.inr ⟨r, part, nm, br, si, rd, rk, as, ⟨by omega, b2⟩, b3, by rw [wOf_low b1 (hT r b1) h1 h2]; exact b4⟩
theorem EvM.low {tc : Nat} {I I9 : I2} {J J9 : J2} {T : TV} (h : EvM tc I J T) (h0 : I9 38 3 = I 38 3) (h1 : ∀ j, j < 160 * tc → I9 39 j = I 39 j) (h2 : ∀ j, j < tc → I9 40 j = I 40 j) (h3 : I9 47 = I 47) (h4 : J9 46 = J 46) : EvM tc I9 J9 T := by
  obtain ⟨a1, a2, a3, a4, a5, a6⟩ := h
  refine ⟨h0.trans a1, a2, a3, fun r hr => (a4 r hr).low hr h1 h2, fun r part b0 b1 b2 b3 b4 b5 hr hp => ?_, fun p hp => ?_⟩
  · rw [wOf_low hr (a4 r hr) h1 h2]; exact a5 r part b0 b1 b2 b3 b4 b5 hr hp
  · rw [h3, h4]; exact (a6 p hp).low a4 h1 h2 (Nat.le_refl _)
/-- one text more -/
theorem EvM.add {tc n : Nat} {I I9 : I2} {J J9 : J2} {T : TV} {b : Nat → Int32} (h : EvM tc I J T) (ht : tc < 6) (h0 : I9 38 3 = i32 (tc + 1)) (h1 : ∀ j, j < 160 * tc → I9 39 j = I 39 j) (h2 : ∀ j, j < tc → I9 40 j = I 40 j) (h3 : I9 47 = I 47) (h4 : J9 46 = J 46) (hn : n ≤ 160) (hsz : I9 40 tc = i32 n) (hb : ∀ i, i < n → I9 39 (160 * tc + i) = b i) (hby : ∀ i, i < n → 0 ≤ b i ∧ b i ≤ 255) (hok : pOkT b n) : EvM (tc + 1) I9 J9 (tAdd T tc b n) := by
  obtain ⟨a1, a2, a3, a4, a5, a6⟩ := h
  refine ⟨h0, by omega, by omega, fun r hr => ?_, fun r part b0 b1 b2 b3 b4 b5 hr hp => ?_, fun p hp => ?_⟩
  · by_cases hrt : r = tc
    · subst hrt
      exact ⟨n, hsz, hn, fun i hi => by rw [hb i hi]; exact hby i hi, (pOkT_c hb).mpr hok⟩
    · exact (a4 r (by omega)).low (by omega) h1 h2
  · unfold tAdd
    by_cases hrt : r = tc
    · subst hrt
      rw [if_pos rfl]
      unfold tVal wOf
      rw [hsz, tn_of (by omega), pRd_c hb]
    · rw [if_neg (fun z => hrt ((i32_inj (by omega) (by omega)).mp z)), wOf_low (by omega) (a4 r (by omega)) h1 h2]
      exact a5 r part b0 b1 b2 b3 b4 b5 (by omega) hp
  · rw [h3, h4]; exact (a6 p hp).low a4 h1 h2 (by omega)

