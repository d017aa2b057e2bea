/-! the law's own rows, thirty at a time -/
theorem all_ck {α : Type} {f : α → Bool} {l : List α} {m c : Nat} (hm : 0 < m) (h : ∀ k, k < c → ((l.drop (m * k)).take m).all f = true) (hl : l.length ≤ m * c) : l.all f = true := by
  refine List.all_eq_true.mpr fun x hx => ?_
  obtain ⟨i, hi, rfl⟩ := List.mem_iff_getElem.mp hx
  have h0 : m * c = c * m := Nat.mul_comm m c
  have h1 : i / m < c := (Nat.div_lt_iff_lt_mul hm).mpr (by omega)
  have h2 := List.all_eq_true.mp (h (i / m) h1)
  refine h2 _ (List.mem_of_getElem? (i := i % m) ?_)
  rw [List.getElem?_take_of_lt (Nat.mod_lt _ hm), List.getElem?_drop, Nat.div_add_mod, List.getElem?_eq_getElem hi]
theorem okL_0 : ((tL_law.drop (30 * 0)).take 30).all (okE RL code 4) = true := by decide +kernel
theorem okL_1 : ((tL_law.drop (30 * 1)).take 30).all (okE RL code 4) = true := by decide +kernel
theorem okL_2 : ((tL_law.drop (30 * 2)).take 30).all (okE RL code 4) = true := by decide +kernel
theorem okL_3 : ((tL_law.drop (30 * 3)).take 30).all (okE RL code 4) = true := by decide +kernel
theorem okL_4 : ((tL_law.drop (30 * 4)).take 30).all (okE RL code 4) = true := by decide +kernel
theorem okL_5 : ((tL_law.drop (30 * 5)).take 30).all (okE RL code 4) = true := by decide +kernel
theorem okL_6 : ((tL_law.drop (30 * 6)).take 30).all (okE RL code 4) = true := by decide +kernel
theorem okL_7 : ((tL_law.drop (30 * 7)).take 30).all (okE RL code 4) = true := by decide +kernel
theorem okL_8 : ((tL_law.drop (30 * 8)).take 30).all (okE RL code 4) = true := by decide +kernel
theorem okL_9 : ((tL_law.drop (30 * 9)).take 30).all (okE RL code 4) = true := by decide +kernel
theorem okL_10 : ((tL_law.drop (30 * 10)).take 30).all (okE RL code 4) = true := by decide +kernel
theorem okL_11 : ((tL_law.drop (30 * 11)).take 30).all (okE RL code 4) = true := by decide +kernel
theorem okL_12 : ((tL_law.drop (30 * 12)).take 30).all (okE RL code 4) = true := by decide +kernel
theorem okL_13 : ((tL_law.drop (30 * 13)).take 30).all (okE RL code 4) = true := by decide +kernel
theorem okL_14 : ((tL_law.drop (30 * 14)).take 30).all (okE RL code 4) = true := by decide +kernel
theorem okL_15 : ((tL_law.drop (30 * 15)).take 30).all (okE RL code 4) = true := by decide +kernel
theorem okL_16 : ((tL_law.drop (30 * 16)).take 30).all (okE RL code 4) = true := by decide +kernel
theorem okL_17 : ((tL_law.drop (30 * 17)).take 30).all (okE RL code 4) = true := by decide +kernel
theorem okL_18 : ((tL_law.drop (30 * 18)).take 30).all (okE RL code 4) = true := by decide +kernel
theorem okL_19 : ((tL_law.drop (30 * 19)).take 30).all (okE RL code 4) = true := by decide +kernel
theorem okL_20 : ((tL_law.drop (30 * 20)).take 30).all (okE RL code 4) = true := by decide +kernel
theorem okL_21 : ((tL_law.drop (30 * 21)).take 30).all (okE RL code 4) = true := by decide +kernel
theorem okL_22 : ((tL_law.drop (30 * 22)).take 30).all (okE RL code 4) = true := by decide +kernel
theorem okL_len : tL_law.length ≤ 30 * 23 := by decide +kernel
theorem okA_law : okA mL_law = true := by
  show tL_law.all (okE RL code 4) = true
  refine all_ck (m := 30) (c := 23) (by decide) (fun k hk => ?_) okL_len
  match k, hk with
  | 0, _ => exact okL_0
  | 1, _ => exact okL_1
  | 2, _ => exact okL_2
  | 3, _ => exact okL_3
  | 4, _ => exact okL_4
  | 5, _ => exact okL_5
  | 6, _ => exact okL_6
  | 7, _ => exact okL_7
  | 8, _ => exact okL_8
  | 9, _ => exact okL_9
  | 10, _ => exact okL_10
  | 11, _ => exact okL_11
  | 12, _ => exact okL_12
  | 13, _ => exact okL_13
  | 14, _ => exact okL_14
  | 15, _ => exact okL_15
  | 16, _ => exact okL_16
  | 17, _ => exact okL_17
  | 18, _ => exact okL_18
  | 19, _ => exact okL_19
  | 20, _ => exact okL_20
  | 21, _ => exact okL_21
  | 22, _ => exact okL_22
  | k + 23, hk => exact absurd hk (by omega)
