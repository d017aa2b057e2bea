/-- read from where the token ahead stands: it doesn't go back, and has a byte for each cell -/
def pGood (n : Nat) (s0 : Nat) (r : PR) : Prop := pOk n r.2.1 ∧ s0 ≤ r.2.1.2.1 ∧ (r.1 = true → r.2.2.1.length + s0 ≤ r.2.1.2.1)
def pFn (n : Nat) (f : PT → PR) : Prop := ∀ s, pOk n s → pGood n s.2.1 (f s)
theorem pNone_good (n : Nat) : pFn n pNone := fun s h => ⟨h, Nat.le_refl _, fun q => by cases q⟩
theorem pBin_good {b : Nat → Int32} {n : Nat} {f : PT → PR} {oc : Int32 → Int32} (hf : pFn n f) (h0 : oc 0 = 0) (s0 : Nat) : ∀ k r, pGood n s0 r → pGood n s0 (pBin b n f oc k r)
  | 0, _, h => h
  | k + 1, r, h => by
    rw [pBin]
    split
    · rename_i hc
      refine pBin_good hf h0 s0 k _ ?_
      obtain ⟨h1, h2, h3⟩ := h
      have ht : r.2.1.1 ≠ 0 := fun q => hc.2 (by rw [q]; exact h0)
      obtain ⟨n1, n2, n3⟩ := nxt_ok (b := b) h1
      obtain ⟨g1, g2, g3⟩ := hf _ n1
      have n4 := n3 ht
      have h4 := h3 hc.1
      refine ⟨g1, ?_, fun q => ?_⟩
      · show s0 ≤ (f (nxt b n r.2.1)).2.1.2.1
        omega
      · have g4 := g3 q
        show (r.2.2.1 ++ (f (nxt b n r.2.1)).2.2.1 ++ [oc r.2.1.1]).length + s0 ≤ (f (nxt b n r.2.1)).2.1.2.1
        rw [List.length_append, List.length_append, List.length_singleton]
        omega
    · exact h
theorem pOne_good {b : Nat → Int32} {n k : Nat} {o' e' : PT → PR} (ho : pFn n o') (he : pFn n e') : pFn n (pOne b n k o' e') := by
  intro s h
  obtain ⟨n1, n2, n3⟩ := nxt_ok (b := b) h
  unfold pOne
  split
  · rename_i h2
    have n4 := n3 (by rw [h2]; decide)
    refine ⟨n1, n2, fun _ => ?_⟩
    show 1 + s.2.1 ≤ (nxt b n s).2.1
    omega
  · split
    · rename_i h2
      have n4 := n3 (fun q => absurd h2.1 (by rw [q]; decide))
      refine ⟨n1, n2, fun _ => ?_⟩
      show 1 + s.2.1 ≤ (nxt b n s).2.1
      omega
    · split
      · exact pNone_good n s h
      · split
        · rename_i h2
          have n4 := n3 (by rw [h2]; decide)
          obtain ⟨g1, g2, g3⟩ := ho _ n1
          split
          · rename_i hc
            obtain ⟨m1, m2, m3⟩ := nxt_ok (b := b) g1
            have g4 := g3 hc.1
            refine ⟨m1, ?_, fun _ => ?_⟩
            · show s.2.1 ≤ (nxt b n (o' (nxt b n s)).2.1).2.1
              omega
            · show (o' (nxt b n s)).2.2.1.length + s.2.1 ≤ (nxt b n (o' (nxt b n s)).2.1).2.1
              omega
          · refine ⟨g1, ?_, fun q => by cases q⟩
            show s.2.1 ≤ (o' (nxt b n s)).2.1.2.1
            omega
        · split
          · rename_i h2
            have n4 := n3 (by rw [h2]; decide)
            obtain ⟨g1, g2, g3⟩ := he _ n1
            refine ⟨g1, ?_, fun q => ?_⟩
            · show s.2.1 ≤ (e' (nxt b n s)).2.1.2.1
              omega
            · have g4 := g3 q
              show ((e' (nxt b n s)).2.2.1 ++ [-11]).length + s.2.1 ≤ (e' (nxt b n s)).2.1.2.1
              rw [List.length_append, List.length_singleton]
              omega
          · exact pNone_good n s h
theorem pNot_good {b : Nat → Int32} {n k : Nat} {c' n' : PT → PR} (hc : pFn n c') (hn : pFn n n') : pFn n (pNot b n k c' n') := by
  intro s h
  obtain ⟨n1, n2, n3⟩ := nxt_ok (b := b) h
  unfold pNot
  split
  · rename_i h2
    have n4 := n3 (by rw [h2]; decide)
    split
    · exact pNone_good n s h
    · obtain ⟨g1, g2, g3⟩ := hn _ n1
      refine ⟨g1, ?_, fun q => ?_⟩
      · show s.2.1 ≤ (n' (nxt b n s)).2.1.2.1
        omega
      · have g4 := g3 q
        show ((n' (nxt b n s)).2.2.1 ++ [-10]).length + s.2.1 ≤ (n' (nxt b n s)).2.1.2.1
        rw [List.length_append, List.length_singleton]
        omega
  · exact hc s h
theorem pTerm_good {b : Nat → Int32} {n : Nat} {f : PT → PR} (h : pFn n f) : pFn n (pTerm b n f) := fun s hs => pBin_good h rfl _ _ _ (h s hs)
theorem pSum_good {b : Nat → Int32} {n : Nat} {f : PT → PR} (h : pFn n f) : pFn n (pSum b n f) := fun s hs => pBin_good (pTerm_good h) rfl _ _ _ (pTerm_good h s hs)
theorem pCmp_good {b : Nat → Int32} {n : Nat} {f : PT → PR} (h : pFn n f) : pFn n (pCmp b n f) := fun s hs => pBin_good (pSum_good h) rfl _ _ _ (pSum_good h s hs)
theorem pAnd_good {b : Nat → Int32} {n : Nat} {f : PT → PR} (h : pFn n f) : pFn n (pAnd b n f) := fun s hs => pBin_good h rfl _ _ _ (h s hs)
theorem pOr_good {b : Nat → Int32} {n : Nat} {f : PT → PR} (h : pFn n f) : pFn n (pOr b n f) := fun s hs => pBin_good (pAnd_good h) rfl _ _ _ (pAnd_good h s hs)
theorem pLv_good (b : Nat → Int32) (n : Nat) : ∀ k, pFn n (pLv b n k).1 ∧ pFn n (pLv b n k).2
  | 0 => ⟨pOne_good (pNone_good n) (pNone_good n), pNot_good (pCmp_good (pOne_good (pNone_good n) (pNone_good n))) (pNone_good n)⟩
  | k + 1 => by
    obtain ⟨h1, h2⟩ := pLv_good b n k
    have h3 : pFn n (pOne b n (k + 1) (pOr b n (pLv b n k).2) (pLv b n k).1) := pOne_good (pOr_good h2) h1
    exact ⟨h3, pNot_good (pCmp_good h3) h2⟩
theorem pAll_good (b : Nat → Int32) (n k : Nat) : pFn n (pAll b n k) := pOr_good (pLv_good b n k).2
/-! what the cells do on the stack -/
def EvL (c : List Int32) (v : (Nat → Int32) → Int32) : Prop := ∀ (e : Nat → Int32) (t : Nat) (g : Nat → Int32), t + c.length ≤ 160 → (c.foldl (fun s x => vStep e x s) (t, g)).1 = t + 1 ∧ (c.foldl (fun s x => vStep e x s) (t, g)).2 t = v e ∧ ∀ j, j < t → (c.foldl (fun s x => vStep e x s) (t, g)).2 j = g j
def pEv (r : PR) : Prop := r.1 = true → EvL r.2.2.1 r.2.2.2
theorem EvL.num {x : Int32} (h : 0 ≤ x) : EvL [x] (fun _ => x) := by
  intro e t g ht
  have h1 : t < 160 := by
    rw [List.length_singleton] at ht
    omega
  simp only [List.foldl_cons, List.foldl_nil]
  unfold vStep
  rw [if_pos ⟨Int32.lt_of_lt_of_le (by decide) h, h1⟩, if_pos h]
  exact ⟨rfl, by simp [upd], fun j hj => by simp [upd, Nat.ne_of_lt hj]⟩
theorem nm_cases {x : Int32} (h : 256 ≤ x ∧ x < 262) : x = 256 ∨ x = 257 ∨ x = 258 ∨ x = 259 ∨ x = 260 ∨ x = 261 := by
  have i1 := Int32.le_iff_toInt_le.mp h.1
  have i2 := Int32.lt_iff_toInt_lt.mp h.2
  rw [show (256 : Int32).toInt = 256 from rfl] at i1
  rw [show (262 : Int32).toInt = 262 from rfl] at i2
  have i3 : x.toInt = 256 ∨ x.toInt = 257 ∨ x.toInt = 258 ∨ x.toInt = 259 ∨ x.toInt = 260 ∨ x.toInt = 261 := by omega
  rcases i3 with i | i | i | i | i | i
  · exact Or.inl (Int32.toInt_inj.mp i)
  · exact Or.inr (Or.inl (Int32.toInt_inj.mp i))
  · exact Or.inr (Or.inr (Or.inl (Int32.toInt_inj.mp i)))
  · exact Or.inr (Or.inr (Or.inr (Or.inl (Int32.toInt_inj.mp i))))
  · exact Or.inr (Or.inr (Or.inr (Or.inr (Or.inl (Int32.toInt_inj.mp i)))))
  · exact Or.inr (Or.inr (Or.inr (Or.inr (Or.inr (Int32.toInt_inj.mp i)))))
theorem nm_a {x : Int32} (q : x = 256 ∨ x = 257 ∨ x = 258 ∨ x = 259 ∨ x = 260 ∨ x = 261) : -10 < -1 - (x - 256) ∧ ¬ 0 ≤ -1 - (x - 256) := by rcases q with rfl | rfl | rfl | rfl | rfl | rfl <;> decide +kernel
theorem nm_b {x : Int32} (q : x = 256 ∨ x = 257 ∨ x = 258 ∨ x = 259 ∨ x = 260 ∨ x = 261) : 0 ≤ x - 256 ∧ x - 256 < 6 ∧ -1 - (-1 - (x - 256)) = x - 256 := by rcases q with rfl | rfl | rfl | rfl | rfl | rfl <;> decide +kernel
theorem vStep_nm {e : Nat → Int32} {c y : Int32} {t : Nat} {g : Nat → Int32} (a1 : -10 < c) (h1 : t < 160) (a2 : ¬ 0 ≤ c) (e1 : -1 - c = y) (a3 : 0 ≤ y ∧ y < 6) : vStep e c (t, g) = (t + 1, upd g t (e y.toNatClampNeg)) := by
  unfold vStep vName
  rw [if_pos ⟨a1, h1⟩, if_neg a2, e1, if_pos a3]
theorem EvL.one {c : Int32} {v : (Nat → Int32) → Int32} (h : ∀ e t g, t < 160 → vStep e c (t, g) = (t + 1, upd g t (v e))) : EvL [c] v := by
  intro e t g ht
  have h1 : t < 160 := by
    rw [List.length_singleton] at ht
    omega
  rw [List.foldl_cons, List.foldl_nil, h e t g h1]
  exact ⟨rfl, if_pos rfl, fun j hj => if_neg (Nat.ne_of_lt hj)⟩
theorem EvL.name {x : Int32} (h : 256 ≤ x ∧ x < 262) : EvL [-1 - (x - 256)] (fun e => e (x - 256).toNatClampNeg) := by
  have q := nm_cases h
  have k := nm_b q
  exact EvL.one (fun e t g ht => vStep_nm (nm_a q).1 ht (nm_a q).2 k.2.2 ⟨k.1, k.2.1⟩)
theorem EvL.neg {c : List Int32} {v : (Nat → Int32) → Int32} (h : EvL c v) : EvL (c ++ [-11]) (fun e => -(v e)) := by
  intro e t g ht
  rw [List.length_append, List.length_singleton] at ht
  obtain ⟨h1, h2, h3⟩ := h e t g (by omega)
  rw [List.foldl_append]
  simp only [List.foldl_cons, List.foldl_nil]
  generalize c.foldl (fun s x => vStep e x s) (t, g) = u at *
  unfold vStep
  rw [if_neg (fun q => absurd q.1 (by decide)), if_neg (fun q => absurd q.1 (by decide)), if_pos ⟨rfl, by omega⟩, h1]
  refine ⟨rfl, ?_, fun j hj => ?_⟩
  · simp [upd, h2]
  · simp [upd, Nat.ne_of_lt hj, h3 j hj]
theorem EvL.no {c : List Int32} {v : (Nat → Int32) → Int32} (h : EvL c v) : EvL (c ++ [-10]) (fun e => b2i (v e = 0)) := by
  intro e t g ht
  rw [List.length_append, List.length_singleton] at ht
  obtain ⟨h1, h2, h3⟩ := h e t g (by omega)
  rw [List.foldl_append]
  simp only [List.foldl_cons, List.foldl_nil]
  generalize c.foldl (fun s x => vStep e x s) (t, g) = u at *
  unfold vStep
  rw [if_neg (fun q => absurd q.1 (by decide)), if_pos ⟨rfl, by omega⟩, h1]
  refine ⟨rfl, ?_, fun j hj => ?_⟩
  · simp [upd, h2]
  · simp [upd, Nat.ne_of_lt hj, h3 j hj]
theorem EvL.bin {c c' : List Int32} {v v' : (Nat → Int32) → Int32} {o : Int32} (h : EvL c v) (h' : EvL c' v') (ho : o ≤ -20) : EvL (c ++ c' ++ [o]) (fun e => vBoth o (v e) (v' e)) := by
  intro e t g ht
  rw [List.length_append, List.length_append, List.length_singleton] at ht
  obtain ⟨h1, h2, h3⟩ := h e t g (by omega)
  rw [List.foldl_append, List.foldl_append]
  simp only [List.foldl_cons, List.foldl_nil]
  generalize c.foldl (fun s x => vStep e x s) (t, g) = u at *
  obtain ⟨t1, g1⟩ := u
  simp only [] at h1 h2 h3
  subst h1
  obtain ⟨k1, k2, k3⟩ := h' e (t + 1) g1 (by omega)
  generalize c'.foldl (fun s x => vStep e x s) (t + 1, g1) = u at *
  obtain ⟨t2, g2⟩ := u
  simp only [] at k1 k2 k3
  subst k1
  unfold vStep
  rw [if_neg (fun q => absurd (Int32.lt_of_lt_of_le q.1 ho) (by decide)), if_neg (fun q => absurd (q.1 ▸ ho) (by decide)), if_neg (fun q => absurd (q.1 ▸ ho) (by decide)), if_pos ⟨ho, by omega⟩]
  simp only [Nat.add_sub_cancel, Nat.reduceSubDiff]
  refine ⟨trivial, ?_, fun j hj => ?_⟩
  · simp [upd, k2, k3 t (by omega), h2]
  · simp [upd, Nat.ne_of_lt hj, k3 j (by omega), h3 j hj]

