/-! councils that are alike as far as they go -/
def Cq (n m : Nat) (C C' : CC) : Prop := (∀ j, j < 5 → C 0 j = C' 0 j) ∧ (∀ g j, 1 ≤ g → g ≤ 3 → j < n → C g j = C' g j) ∧ (∀ g j, 4 ≤ g → g ≤ 6 → j < m → C g j = C' g j)
theorem Cq.rf {n m : Nat} {C : CC} : Cq n m C C := ⟨fun _ _ => rfl, fun _ _ _ _ _ => rfl, fun _ _ _ _ _ => rfl⟩
theorem Cq.sm {n m : Nat} {C C' : CC} (h : Cq n m C C') : Cq n m C' C := ⟨fun j hj => (h.1 j hj).symm, fun g j h1 h2 h3 => (h.2.1 g j h1 h2 h3).symm, fun g j h1 h2 h3 => (h.2.2 g j h1 h2 h3).symm⟩
theorem Cq.tr {n m : Nat} {C C' C2 : CC} (h : Cq n m C C') (h' : Cq n m C' C2) : Cq n m C C2 := ⟨fun j hj => (h.1 j hj).trans (h'.1 j hj), fun g j h1 h2 h3 => (h.2.1 g j h1 h2 h3).trans (h'.2.1 g j h1 h2 h3), fun g j h1 h2 h3 => (h.2.2 g j h1 h2 h3).trans (h'.2.2 g j h1 h2 h3)⟩
theorem Cq.le {n m n' m' : Nat} {C C' : CC} (h : Cq n m C C') (hn : n' ≤ n) (hm : m' ≤ m) : Cq n' m' C C' := ⟨h.1, fun g j h1 h2 h3 => h.2.1 g j h1 h2 (by omega), fun g j h1 h2 h3 => h.2.2 g j h1 h2 (by omega)⟩
theorem Cq.nC {n m : Nat} {C C' : CC} (h : Cq n m C C') : nC C = nC C' := by unfold Jvm.Pilot.CMinuteForTheUnreadLaw_law_r6547_ff54f3.nC; rw [h.1 3 (by omega)]
theorem Cq.mC {n m : Nat} {C C' : CC} (h : Cq n m C C') : mC C = mC C' := by unfold Jvm.Pilot.CMinuteForTheUnreadLaw_law_r6547_ff54f3.mC; rw [h.1 4 (by omega)]
section CQ
variable {T : TV} {C C' : CC} {n m : Nat}
theorem Cq.askT (h : Cq n m C C') {part c ah : Nat} (hc : c < n) : askT T C part c ah = askT T C' part c ah := by
  unfold Jvm.Pilot.CMinuteForTheUnreadLaw_law_r6547_ff54f3.askT
  rw [h.1 2 (by omega), h.1 0 (by omega), h.1 3 (by omega), h.2.1 2 c (by omega) (by omega) hc, h.2.1 3 c (by omega) (by omega) hc]
theorem Cq.sRd (h : Cq n m C C') {c ah : Nat} (hc : c < n) : sRd T C c ah = sRd T C' c ah := by
  unfold Jvm.Pilot.CMinuteForTheUnreadLaw_law_r6547_ff54f3.sRd
  rw [h.askT hc, h.1 0 (by omega), h.2.1 1 c (by omega) (by omega) hc, h.2.1 2 c (by omega) (by omega) hc, h.2.1 3 c (by omega) (by omega) hc]
theorem Cq.sSl (h : Cq n m C C') {c ah : Nat} (hc : c < n) : sSl T C c ah = sSl T C' c ah := by
  unfold Jvm.Pilot.CMinuteForTheUnreadLaw_law_r6547_ff54f3.sSl
  rw [h.askT hc, h.2.1 1 c (by omega) (by omega) hc, h.2.1 2 c (by omega) (by omega) hc]
theorem Cq.sTm (h : Cq n m C C') {c ah : Nat} (hc : c < n) : sTm T C c ah = sTm T C' c ah := by
  unfold Jvm.Pilot.CMinuteForTheUnreadLaw_law_r6547_ff54f3.sTm
  rw [h.askT hc, h.1 0 (by omega), h.2.1 1 c (by omega) (by omega) hc, h.2.1 2 c (by omega) (by omega) hc]
theorem Cq.sLs (h : Cq n m C C') : ∀ i, i ≤ n → sLs T C i = sLs T C' i
  | 0, _ => rfl
  | i + 1, hi => by
    have e := Cq.sLs h i (by omega)
    unfold Jvm.Pilot.CMinuteForTheUnreadLaw_law_r6547_ff54f3.sLs
    rw [e, h.sRd (by omega)]
theorem Cq.sGn (h : Cq n m C C') {p : Nat → Bool} {q : Nat} : ∀ i, i ≤ n → sGn T C p q i = sGn T C' p q i
  | 0, _ => rfl
  | i + 1, hi => by
    have e := Cq.sGn h (p := p) (q := q) i (by omega)
    unfold Jvm.Pilot.CMinuteForTheUnreadLaw_law_r6547_ff54f3.sGn
    rw [e, h.sTm (by omega), h.sSl (by omega)]
theorem Cq.sLst (h : Cq n m C C') (hn : Jvm.Pilot.CMinuteForTheUnreadLaw_law_r6547_ff54f3.nC C ≤ n) : sLst T C = sLst T C' := by
  unfold Jvm.Pilot.CMinuteForTheUnreadLaw_law_r6547_ff54f3.sLst
  rw [h.sLs _ hn, h.nC]
theorem Cq.sGone (h : Cq n m C C') (hn : Jvm.Pilot.CMinuteForTheUnreadLaw_law_r6547_ff54f3.nC C ≤ n) {q : Nat} : sGone T C q = sGone T C' q := by
  unfold Jvm.Pilot.CMinuteForTheUnreadLaw_law_r6547_ff54f3.sGone
  rw [h.sGn _ hn, h.nC]
theorem Cq.sGo (h : Cq n m C C') (hn : Jvm.Pilot.CMinuteForTheUnreadLaw_law_r6547_ff54f3.nC C ≤ n) : sGo T C = sGo T C' := by
  unfold Jvm.Pilot.CMinuteForTheUnreadLaw_law_r6547_ff54f3.sGo
  rw [h.sLst hn, h.sGone hn]
theorem Cq.sLeft (h : Cq n m C C') (hn : Jvm.Pilot.CMinuteForTheUnreadLaw_law_r6547_ff54f3.nC C ≤ n) : sLeft T C = sLeft T C' := by
  unfold Jvm.Pilot.CMinuteForTheUnreadLaw_law_r6547_ff54f3.sLeft
  rw [h.sGo hn, h.1 1 (by omega)]
theorem Cq.up (h : Cq n m C C') {g j : Nat} {v : Int32} : Cq n m (up2 C g j v) (up2 C' g j v) := by
  refine ⟨fun k hk => ?_, fun a k h1 h2 h3 => ?_, fun a k h1 h2 h3 => ?_⟩
  · simp only [up2_rd]; rw [h.1 k hk]
  · simp only [up2_rd]; rw [h.2.1 a k h1 h2 h3]
  · simp only [up2_rd]; rw [h.2.2 a k h1 h2 h3]
theorem Cq.goOn (h : Cq n m C C') {i : Nat} {l : Int32} (hi : i < m) : Cq n m (sGoOn C i l).1 (sGoOn C' i l).1 ∧ (sGoOn C i l).2 = (sGoOn C' i l).2 := by
  have a4 := h.2.2 4 i (by omega) (by omega) hi
  have a5 := h.2.2 5 i (by omega) (by omega) hi
  have a6 := h.2.2 6 i (by omega) (by omega) hi
  have a0 := h.1 0 (by omega)
  have em : sMi C i l = sMi C' i l := by unfold sMi; rw [a4, a5]
  by_cases h1 : C 6 i = -1
  · by_cases h2 : C 4 i ≤ C 5 i + sMi C i l
    · rw [sGoOn_a h1 h2, sGoOn_a (by rw [← a6]; exact h1) (by rw [← a4, ← a5, ← em]; exact h2), em, a0, a5]
      exact ⟨h.up.up, rfl⟩
    · rw [sGoOn_b h1 h2, sGoOn_b (by rw [← a6]; exact h1) (by rw [← a4, ← a5, ← em]; exact h2), em, a5]
      exact ⟨h.up, rfl⟩
  · rw [sGoOn_c h1, sGoOn_c (by rw [← a6]; exact h1)]
    exact ⟨h, rfl⟩
theorem Cq.holdN (h : Cq n m C C') {l : Int32} : ∀ i, i ≤ m → Cq n m (sHoldN C l i).1 (sHoldN C' l i).1 ∧ (sHoldN C l i).2 = (sHoldN C' l i).2
  | 0, _ => ⟨h, rfl⟩
  | i + 1, hi => by
    obtain ⟨e1, e2⟩ := Cq.holdN h (l := l) i (by omega)
    have e3 := e1.goOn (i := i) (l := (sHoldN C' l i).2) (by omega)
    simp only [sHoldN]
    rw [e2, e3.2]
    exact ⟨e3.1, rfl⟩
theorem Cq.hold (h : Cq n m C C') (hn : Jvm.Pilot.CMinuteForTheUnreadLaw_law_r6547_ff54f3.nC C ≤ n) (hm : Jvm.Pilot.CMinuteForTheUnreadLaw_law_r6547_ff54f3.mC C ≤ m) : Cq n m (sHold T C).1 (sHold T C').1 ∧ (sHold T C).2 = (sHold T C').2 := by
  unfold sHold
  rw [h.sLeft hn, ← h.mC, h.1 0 (by omega)]
  have e := h.holdN (l := Jvm.Pilot.CMinuteForTheUnreadLaw_law_r6547_ff54f3.sLeft T C') (Jvm.Pilot.CMinuteForTheUnreadLaw_law_r6547_ff54f3.mC C) hm
  exact ⟨e.1.up, e.2⟩
theorem sHold_0 (T : TV) (C : CC) (j : Nat) (hj : j ≠ 0) : (sHold T C).1 0 j = C 0 j := by
  unfold sHold
  simp only [up2_rd, hj, if_false, sHoldN_0]
  simp
theorem sHold_nC (T : TV) (C : CC) : nC (sHold T C).1 = nC C := by unfold nC; rw [sHold_0 T C 3 (by omega)]
theorem sHold_mC (T : TV) (C : CC) : mC (sHold T C).1 = mC C := by unfold mC; rw [sHold_0 T C 4 (by omega)]
theorem Cq.dW {it : Nat} (hit : it < m) : ∀ (k : Nat) {C C' : CC} (_ : Cq n m C C') (_ : Jvm.Pilot.CMinuteForTheUnreadLaw_law_r6547_ff54f3.nC C ≤ n) (_ : Jvm.Pilot.CMinuteForTheUnreadLaw_law_r6547_ff54f3.mC C ≤ m), Cq n m (sDW T it k C) (sDW T it k C')
  | 0, _, _, h, _, _ => h
  | k + 1, C, C', h, hn, hm => by
    have a6 := h.2.2 6 it (by omega) (by omega) hit
    simp only [sDW]
    rw [a6]
    split
    · exact Cq.dW hit k (h.hold hn hm).1 (by rw [sHold_nC]; exact hn) (by rw [sHold_mC]; exact hm)
    · exact h
theorem Cq.cntD (h : Cq n m C C') : ∀ i, i ≤ m → sCntD C i = sCntD C' i
  | 0, _ => rfl
  | i + 1, hi => by
    have e := Cq.cntD h i (by omega)
    simp only [sCntD]
    rw [e, h.2.2 6 i (by omega) (by omega) (by omega)]
end CQ
