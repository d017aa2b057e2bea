theorem sk_all {f : Int32 → Bool} {b : Nat → Int32} : ∀ k p j, p ≤ j → j < sk f b k p → f (b j) = true
  | 0, p, j, h1, h2 => by
    rw [sk] at h2
    omega
  | k + 1, p, j, h1, h2 => by
    rw [sk] at h2
    split at h2
    · rename_i h
      by_cases hj : j = p
      · rw [hj]
        exact h
      · exact sk_all k (p + 1) j (by omega) h2
    · omega
/-- it ends at the end, or before what is of another sort -/
theorem sk_end {f : Int32 → Bool} {b : Nat → Int32} : ∀ k p, sk f b k p = p + k ∨ f (b (sk f b k p)) = false
  | 0, p => Or.inl rfl
  | k + 1, p => by
    rw [sk]
    split
    · rcases sk_end (f := f) (b := b) k (p + 1) with h | h
      · left; omega
      · right; exact h
    · rename_i h
      right
      simpa using h
def nmM : Nat → Int32
  | 0 => 1
  | 1 => 10
  | 2 => 100
  | 3 => 1000
  | _ => 10000
theorem nm_1 {x y : Int32} (h1 : 0 ≤ x) (h2 : x < 1) (h3 : 48 ≤ y) (h4 : y ≤ 57) : 0 ≤ x * 10 + y - 48 ∧ x * 10 + y - 48 < 10 := by grind
theorem nm_2 {x y : Int32} (h1 : 0 ≤ x) (h2 : x < 10) (h3 : 48 ≤ y) (h4 : y ≤ 57) : 0 ≤ x * 10 + y - 48 ∧ x * 10 + y - 48 < 100 := by grind
theorem nm_3 {x y : Int32} (h1 : 0 ≤ x) (h2 : x < 100) (h3 : 48 ≤ y) (h4 : y ≤ 57) : 0 ≤ x * 10 + y - 48 ∧ x * 10 + y - 48 < 1000 := by grind
theorem nm_4 {x y : Int32} (h1 : 0 ≤ x) (h2 : x < 1000) (h3 : 48 ≤ y) (h4 : y ≤ 57) : 0 ≤ x * 10 + y - 48 ∧ x * 10 + y - 48 < 10000 := by grind
theorem nmb_ok {b : Nat → Int32} {q : Nat} : ∀ k, (∀ j, j < k → isDi (b (q + j)) = true) → 0 ≤ nmb b q k ∧ nmb b q k < nmM k
  | 0, _ => by
    rw [nmb]
    decide
  | k + 1, h => by
    obtain ⟨h1, h2⟩ := nmb_ok k (fun j hj => h j (by omega))
    have hd := h k (by omega)
    unfold isDi at hd
    obtain ⟨h3, h4⟩ := of_decide_eq_true hd
    rw [nmb]
    split
    · rename_i hk
      match k, hk with
      | 0, _ => exact nm_1 h1 h2 h3 h4
      | 1, _ => exact nm_2 h1 h2 h3 h4
      | 2, _ => exact nm_3 h1 h2 h3 h4
      | 3, _ => exact nm_4 h1 h2 h3 h4
    · rename_i hk
      match k, hk with
      | 0, hk => exact absurd (by decide) hk
      | 1, hk => exact absurd (by decide) hk
      | 2, hk => exact absurd (by decide) hk
      | 3, hk => exact absurd (by decide) hk
      | j + 4, _ => exact ⟨h1, h2⟩
def pNum (s : PT) : Prop := s.1 = 2 → 0 ≤ s.2.2.2
theorem wTok_n2 (l : List Int32) : wTok l ≠ 2 ∧ wTok l ≠ 0 := by
  unfold wTok
  repeat' split
  all_goals decide
theorem isSi_n2 {x : Int32} (h : isSi x = true) : x ≠ 2 ∧ x ≠ 0 ∧ x ≠ 1 ∧ 40 ≤ x ∧ x ≤ 61 := by
  unfold isSi at h
  have h := of_decide_eq_true h
  rcases h with h | h | h | h | h | h | h | h <;> rw [h] <;> decide
theorem tkn_num (b : Nat → Int32) (n p : Nat) : pNum (tkn b n p) := by
  unfold tkn pNum
  simp only []
  generalize sk isBl b (n - p) p = q
  by_cases h1 : n ≤ q
  · rw [if_pos h1]
    intro h
    exact absurd (show (0 : Int32) = 2 from h) (by decide)
  · rw [if_neg h1]
    by_cases h2 : isLe (b q) = true
    · rw [if_pos h2]
      intro h
      exact absurd h (wTok_n2 _).1
    · rw [if_neg h2]
      by_cases h3 : isDi (b q) = true
      · rw [if_pos h3]
        intro _
        exact (nmb_ok _ (fun j hj => sk_all (n - q) q _ (by omega) (by omega))).1
      · rw [if_neg h3]
        intro h
        dsimp only at h ⊢
        exact Int32.le_refl _
theorem nxt_num (b : Nat → Int32) (n : Nat) (s : PT) : pNum (nxt b n s) := tkn_num _ _ _
/-- what is read has cells that say it -/
def pSay (f : PT → PR) : Prop := ∀ s, pNum s → pEv (f s) ∧ pNum (f s).2.1
theorem pNone_say : pSay pNone := fun s h => ⟨fun q => (by cases q), h⟩
theorem pBin_say {b : Nat → Int32} {n : Nat} {f : PT → PR} {oc : Int32 → Int32} (hf : pSay f) (ho : ∀ t, oc t ≠ 0 → oc t ≤ -20) : ∀ k r, pEv r → pNum r.2.1 → pEv (pBin b n f oc k r) ∧ pNum (pBin b n f oc k r).2.1
  | 0, _, h, h' => ⟨h, h'⟩
  | k + 1, r, h, h' => by
    rw [pBin]
    split
    · rename_i hc
      obtain ⟨g1, g2⟩ := hf _ (nxt_num b n r.2.1)
      exact pBin_say hf ho k _ (fun q => (h hc.1).bin (g1 q) (ho _ hc.2)) g2
    · exact ⟨h, h'⟩
theorem pOne_say {b : Nat → Int32} {n k : Nat} {o' e' : PT → PR} (ho : pSay o') (he : pSay e') : pSay (pOne b n k o' e') := by
  intro s h
  unfold pOne
  split
  · rename_i h2
    exact ⟨fun _ => EvL.num (h h2), nxt_num _ _ _⟩
  · split
    · rename_i h2
      exact ⟨fun _ => EvL.name h2, nxt_num _ _ _⟩
    · split
      · exact pNone_say s h
      · split
        · obtain ⟨g1, g2⟩ := ho _ (nxt_num b n s)
          split
          · rename_i hc
            exact ⟨fun _ => g1 hc.1, nxt_num _ _ _⟩
          · exact ⟨fun q => (by cases q), g2⟩
        · split
          · obtain ⟨g1, g2⟩ := he _ (nxt_num b n s)
            exact ⟨fun q => (g1 q).neg, g2⟩
          · exact pNone_say s h
theorem pNot_say {b : Nat → Int32} {n k : Nat} {c' n' : PT → PR} (hc : pSay c') (hn : pSay n') : pSay (pNot b n k c' n') := by
  intro s h
  unfold pNot
  split
  · split
    · exact pNone_say s h
    · obtain ⟨g1, g2⟩ := hn _ (nxt_num b n s)
      exact ⟨fun q => (g1 q).no, g2⟩
  · exact hc s h
theorem orC_20 (t : Int32) (h : orC t ≠ 0) : orC t ≤ -20 := by unfold orC at *; split <;> simp_all
theorem andC_20 (t : Int32) (h : andC t ≠ 0) : andC t ≤ -20 := by unfold andC at *; split <;> simp_all
theorem mulC_20 (t : Int32) (h : mulC t ≠ 0) : mulC t ≤ -20 := by unfold mulC at *; split <;> simp_all
theorem sumC_20 (t : Int32) (h : sumC t ≠ 0) : sumC t ≤ -20 := by
  unfold sumC at *
  split
  · decide
  · rename_i h1
    rw [if_neg h1] at h
    split
    · decide
    · rename_i h2
      rw [if_neg h2] at h
      exact absurd rfl h
theorem cmpC_20 (t : Int32) (h : cmpC t ≠ 0) : cmpC t ≤ -20 := by
  unfold cmpC at *
  split
  · decide
  · rename_i h1
    rw [if_neg h1] at h
    split
    · decide
    · rename_i h2
      rw [if_neg h2] at h
      exact absurd rfl h
theorem pTerm_say {b : Nat → Int32} {n : Nat} {f : PT → PR} (h : pSay f) : pSay (pTerm b n f) := fun s hs => pBin_say h mulC_20 _ _ (h s hs).1 (h s hs).2
theorem pSum_say {b : Nat → Int32} {n : Nat} {f : PT → PR} (h : pSay f) : pSay (pSum b n f) := fun s hs => pBin_say (pTerm_say h) sumC_20 _ _ (pTerm_say h s hs).1 (pTerm_say h s hs).2
theorem pCmp_say {b : Nat → Int32} {n : Nat} {f : PT → PR} (h : pSay f) : pSay (pCmp b n f) := fun s hs => pBin_say (pSum_say h) cmpC_20 _ _ (pSum_say h s hs).1 (pSum_say h s hs).2
theorem pAnd_say {b : Nat → Int32} {n : Nat} {f : PT → PR} (h : pSay f) : pSay (pAnd b n f) := fun s hs => pBin_say h andC_20 _ _ (h s hs).1 (h s hs).2
theorem pOr_say {b : Nat → Int32} {n : Nat} {f : PT → PR} (h : pSay f) : pSay (pOr b n f) := fun s hs => pBin_say (pAnd_say h) orC_20 _ _ (pAnd_say h s hs).1 (pAnd_say h s hs).2
theorem pLv_say (b : Nat → Int32) (n : Nat) : ∀ k, pSay (pLv b n k).1 ∧ pSay (pLv b n k).2
  | 0 => ⟨pOne_say pNone_say pNone_say, pNot_say (pCmp_say (pOne_say pNone_say pNone_say)) pNone_say⟩
  | k + 1 => by
    obtain ⟨h1, h2⟩ := pLv_say b n k
    have h3 : pSay (pOne b n (k + 1) (pOr b n (pLv b n k).2) (pLv b n k).1) := pOne_say (pOr_say h2) h1
    exact ⟨h3, pNot_say (pCmp_say h3) h2⟩
theorem pAll_say (b : Nat → Int32) (n k : Nat) : pSay (pAll b n k) := pOr_say (pLv_say b n k).2
/-! the cells of a text, run where they lie -/
theorem vRun_fold (names cells : Nat → Int32) : ∀ (c : List Int32) i s, (∀ j, j < c.length → cells (i + j) = c.getD j 0) → vRun names cells c.length i s = c.foldl (fun s x => vStep names x s) s
  | [], _, _, _ => rfl
  | x :: c, i, s, h => by
    rw [List.length_cons, vRun, List.foldl_cons, show cells i = x from h 0 (by simp)]
    refine vRun_fold names cells c (i + 1) _ (fun j hj => ?_)
    have h1 := h (j + 1) (by rw [List.length_cons]; omega)
    rw [show i + 1 + j = i + (j + 1) from by omega, h1]
    rfl
theorem vRun_say {names cells : Nat → Int32} {c : List Int32} {v : (Nat → Int32) → Int32} {i : Nat} {g : Nat → Int32} (h : EvL c v) (hl : c.length ≤ 160) (hc : ∀ j, j < c.length → cells (i + j) = c.getD j 0) : (vRun names cells c.length i (0, g)).2 0 = v names := by
  rw [vRun_fold names cells c i _ hc]
  exact (h names 0 g (by omega)).2.1

