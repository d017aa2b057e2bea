abbrev FZ : F2 := F7 (row2 (F6 (row2 (fun _ _ => none) 0 fun _ => none)) 38 fun _ => none)
theorem FZ_in : ∀ o, o < 58 → ∀ k, k < 60 → FZ o k = RF o k := by decide +kernel
theorem RF_hi {o k : Nat} (h : ¬ (o < 58 ∧ k < 60)) : RF o k = none := by
  have hl : RFl.length ≤ 58 := by decide +kernel
  have hr : ∀ o, o < 58 → (RFl.getD o []).length ≤ 60 := by decide +kernel
  unfold RF
  by_cases ho : o < 58
  · rw [List.getD_eq_getElem?_getD, List.getElem?_eq_none (by have := hr o ho; omega)]; rfl
  · rw [List.getD_eq_getElem?_getD (l := RFl), List.getElem?_eq_none (l := RFl) (by omega)]
    rfl
theorem up2_hi {f : F2} {o c i j : Nat} {v : Option Nat} (h : ¬ (i < 58 ∧ j < 60)) (ho : o < 58) (hc : c < 60) : up2 f o c v i j = f i j := by
  rw [up2_rd]
  split
  · rw [if_neg (by omega)]
  · rfl
theorem row2_hi {f : F2} {o i j : Nat} (h : f i j = none) : row2 f o (fun _ => none) i j = none := by
  rw [row2_rd]
  split
  · rfl
  · exact h
theorem up2_hi2 {f : F2} {o c i j : Nat} {v : Option Nat} (h : ¬ (i < 58 ∧ j < 60)) (ho : o < 58) (hc : c < 60) (hf : f i j = none) : up2 f o c v i j = none := (up2_hi h ho hc).trans hf
theorem FZ_hi {o k : Nat} (h : ¬ (o < 58 ∧ k < 60)) : FZ o k = none := by
  unfold FZ F7
  repeat' (first | exact rfl | refine up2_hi2 h (by decide) (by decide) ?_ | refine row2_hi ?_ | (show F6 _ _ _ = _; unfold F6))
theorem FZ_RF : FZ = RF := by
  funext o k
  by_cases h : o < 58 ∧ k < 60
  · exact FZ_in o h.1 k h.2
  · rw [FZ_hi h, RF_hi h]

