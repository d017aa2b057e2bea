theorem c_isSign {x : Int32} {I : I2} {J : J2} : CT mX3_isSign 1 58 58 [.int x] I J RF (RI RF (if isSi x then 1 else 0) I J) := by
  refine CT_of okX3_isSign (Nat.le_of_ble_eq_true rfl) ?_
  show V _ _ _ _ _ _ [(0, _)] _ _ _ _ _
  refine V_go 1 rfl ?_
  refine V_tswC (v := 40) rfl (by decide) (by decide) rfl (fun h2 => ?_) (fun h2 => ?_)
  · skip
    refine V_go 1 rfl ?_
    refine V_zret rfl rfl rfl (by first | exact Or.inl rfl | exact Or.inr rfl | exact b2i_or _ | assumption) ?_
    refine RI.mk ?_
    unfold isSi
    first
      | (rw [if_pos (by simp only [decide_eq_true_eq]; simp only [*, true_or, or_true])]; done)
      | (rw [if_neg (by simp only [decide_eq_true_eq]; simp [*])]; done)
  refine V_tswC (v := 41) rfl (by decide) (by decide) rfl (fun h3 => ?_) (fun h3 => ?_)
  · skip
    refine V_go 1 rfl ?_
    refine V_zret rfl rfl rfl (by first | exact Or.inl rfl | exact Or.inr rfl | exact b2i_or _ | assumption) ?_
    refine RI.mk ?_
    unfold isSi
    first
      | (rw [if_pos (by simp only [decide_eq_true_eq]; simp only [*, true_or, or_true])]; done)
      | (rw [if_neg (by simp only [decide_eq_true_eq]; simp [*])]; done)
  refine V_tswC (v := 42) rfl (by decide) (by decide) rfl (fun h4 => ?_) (fun h4 => ?_)
  · skip
    refine V_go 1 rfl ?_
    refine V_zret rfl rfl rfl (by first | exact Or.inl rfl | exact Or.inr rfl | exact b2i_or _ | assumption) ?_
    refine RI.mk ?_
    unfold isSi
    first
      | (rw [if_pos (by simp only [decide_eq_true_eq]; simp only [*, true_or, or_true])]; done)
      | (rw [if_neg (by simp only [decide_eq_true_eq]; simp [*])]; done)
  refine V_tswC (v := 43) rfl (by decide) (by decide) rfl (fun h5 => ?_) (fun h5 => ?_)
  · skip
    refine V_go 1 rfl ?_
    refine V_zret rfl rfl rfl (by first | exact Or.inl rfl | exact Or.inr rfl | exact b2i_or _ | assumption) ?_
    refine RI.mk ?_
    unfold isSi
    first
      | (rw [if_pos (by simp only [decide_eq_true_eq]; simp only [*, true_or, or_true])]; done)
      | (rw [if_neg (by simp only [decide_eq_true_eq]; simp [*])]; done)
  refine V_tswC (v := 44) rfl (by decide) (by decide) rfl (fun h6 => ?_) (fun h6 => ?_)
  · skip
    refine V_go 1 rfl ?_
    refine V_zret rfl rfl rfl (by first | exact Or.inl rfl | exact Or.inr rfl | exact b2i_or _ | assumption) ?_
    refine RI.mk ?_
    unfold isSi
    first
      | (rw [if_pos (by simp only [decide_eq_true_eq]; simp only [*, true_or, or_true])]; done)
      | (rw [if_neg (by simp only [decide_eq_true_eq]; simp [*])]; done)
  refine V_tswC (v := 45) rfl (by decide) (by decide) rfl (fun h7 => ?_) (fun h7 => ?_)
  · skip
    refine V_go 1 rfl ?_
    refine V_zret rfl rfl rfl (by first | exact Or.inl rfl | exact Or.inr rfl | exact b2i_or _ | assumption) ?_
    refine RI.mk ?_
    unfold isSi
    first
      | (rw [if_pos (by simp only [decide_eq_true_eq]; simp only [*, true_or, or_true])]; done)
      | (rw [if_neg (by simp only [decide_eq_true_eq]; simp [*])]; done)
  refine V_tswC (v := 46) rfl (by decide) (by decide) rfl (fun h8 => ?_) (fun h8 => ?_)
  · skip
    refine V_go 1 rfl ?_
    refine V_zret rfl rfl rfl (by first | exact Or.inl rfl | exact Or.inr rfl | exact b2i_or _ | assumption) ?_
    refine RI.mk ?_
    unfold isSi
    first
      | (rw [if_pos (by simp only [decide_eq_true_eq]; simp only [*, true_or, or_true])]; done)
      | (rw [if_neg (by simp only [decide_eq_true_eq]; simp [*])]; done)
  refine V_tswC (v := 47) rfl (by decide) (by decide) rfl (fun h9 => ?_) (fun h9 => ?_)
  · skip
    refine V_go 1 rfl ?_
    refine V_zret rfl rfl rfl (by first | exact Or.inl rfl | exact Or.inr rfl | exact b2i_or _ | assumption) ?_
    refine RI.mk ?_
    unfold isSi
    first
      | (rw [if_pos (by simp only [decide_eq_true_eq]; simp only [*, true_or, or_true])]; done)
      | (rw [if_neg (by simp only [decide_eq_true_eq]; simp [*])]; done)
  refine V_tswC (v := 48) rfl (by decide) (by decide) rfl (fun h10 => ?_) (fun h10 => ?_)
  · skip
    refine V_go 1 rfl ?_
    refine V_zret rfl rfl rfl (by first | exact Or.inl rfl | exact Or.inr rfl | exact b2i_or _ | assumption) ?_
    refine RI.mk ?_
    unfold isSi
    first
      | (rw [if_pos (by simp only [decide_eq_true_eq]; simp only [*, true_or, or_true])]; done)
      | (rw [if_neg (by simp only [decide_eq_true_eq]; simp [*])]; done)
  refine V_tswC (v := 49) rfl (by decide) (by decide) rfl (fun h11 => ?_) (fun h11 => ?_)
  · skip
    refine V_go 1 rfl ?_
    refine V_zret rfl rfl rfl (by first | exact Or.inl rfl | exact Or.inr rfl | exact b2i_or _ | assumption) ?_
    refine RI.mk ?_
    unfold isSi
    first
      | (rw [if_pos (by simp only [decide_eq_true_eq]; simp only [*, true_or, or_true])]; done)
      | (rw [if_neg (by simp only [decide_eq_true_eq]; simp [*])]; done)
  refine V_tswC (v := 50) rfl (by decide) (by decide) rfl (fun h12 => ?_) (fun h12 => ?_)
  · skip
    refine V_go 1 rfl ?_
    refine V_zret rfl rfl rfl (by first | exact Or.inl rfl | exact Or.inr rfl | exact b2i_or _ | assumption) ?_
    refine RI.mk ?_
    unfold isSi
    first
      | (rw [if_pos (by simp only [decide_eq_true_eq]; simp only [*, true_or, or_true])]; done)
      | (rw [if_neg (by simp only [decide_eq_true_eq]; simp [*])]; done)
  refine V_tswC (v := 51) rfl (by decide) (by decide) rfl (fun h13 => ?_) (fun h13 => ?_)
  · skip
    refine V_go 1 rfl ?_
    refine V_zret rfl rfl rfl (by first | exact Or.inl rfl | exact Or.inr rfl | exact b2i_or _ | assumption) ?_
    refine RI.mk ?_
    unfold isSi
    first
      | (rw [if_pos (by simp only [decide_eq_true_eq]; simp only [*, true_or, or_true])]; done)
      | (rw [if_neg (by simp only [decide_eq_true_eq]; simp [*])]; done)
  refine V_tswC (v := 52) rfl (by decide) (by decide) rfl (fun h14 => ?_) (fun h14 => ?_)
  · skip
    refine V_go 1 rfl ?_
    refine V_zret rfl rfl rfl (by first | exact Or.inl rfl | exact Or.inr rfl | exact b2i_or _ | assumption) ?_
    refine RI.mk ?_
    unfold isSi
    first
      | (rw [if_pos (by simp only [decide_eq_true_eq]; simp only [*, true_or, or_true])]; done)
      | (rw [if_neg (by simp only [decide_eq_true_eq]; simp [*])]; done)
  refine V_tswC (v := 53) rfl (by decide) (by decide) rfl (fun h15 => ?_) (fun h15 => ?_)
  · skip
    refine V_go 1 rfl ?_
    refine V_zret rfl rfl rfl (by first | exact Or.inl rfl | exact Or.inr rfl | exact b2i_or _ | assumption) ?_
    refine RI.mk ?_
    unfold isSi
    first
      | (rw [if_pos (by simp only [decide_eq_true_eq]; simp only [*, true_or, or_true])]; done)
      | (rw [if_neg (by simp only [decide_eq_true_eq]; simp [*])]; done)
  refine V_tswC (v := 54) rfl (by decide) (by decide) rfl (fun h16 => ?_) (fun h16 => ?_)
  · skip
    refine V_go 1 rfl ?_
    refine V_zret rfl rfl rfl (by first | exact Or.inl rfl | exact Or.inr rfl | exact b2i_or _ | assumption) ?_
    refine RI.mk ?_
    unfold isSi
    first
      | (rw [if_pos (by simp only [decide_eq_true_eq]; simp only [*, true_or, or_true])]; done)
      | (rw [if_neg (by simp only [decide_eq_true_eq]; simp [*])]; done)
  refine V_tswC (v := 55) rfl (by decide) (by decide) rfl (fun h17 => ?_) (fun h17 => ?_)
  · skip
    refine V_go 1 rfl ?_
    refine V_zret rfl rfl rfl (by first | exact Or.inl rfl | exact Or.inr rfl | exact b2i_or _ | assumption) ?_
    refine RI.mk ?_
    unfold isSi
    first
      | (rw [if_pos (by simp only [decide_eq_true_eq]; simp only [*, true_or, or_true])]; done)
      | (rw [if_neg (by simp only [decide_eq_true_eq]; simp [*])]; done)
  refine V_tswC (v := 56) rfl (by decide) (by decide) rfl (fun h18 => ?_) (fun h18 => ?_)
  · skip
    refine V_go 1 rfl ?_
    refine V_zret rfl rfl rfl (by first | exact Or.inl rfl | exact Or.inr rfl | exact b2i_or _ | assumption) ?_
    refine RI.mk ?_
    unfold isSi
    first
      | (rw [if_pos (by simp only [decide_eq_true_eq]; simp only [*, true_or, or_true])]; done)
      | (rw [if_neg (by simp only [decide_eq_true_eq]; simp [*])]; done)
  refine V_tswC (v := 57) rfl (by decide) (by decide) rfl (fun h19 => ?_) (fun h19 => ?_)
  · skip
    refine V_go 1 rfl ?_
    refine V_zret rfl rfl rfl (by first | exact Or.inl rfl | exact Or.inr rfl | exact b2i_or _ | assumption) ?_
    refine RI.mk ?_
    unfold isSi
    first
      | (rw [if_pos (by simp only [decide_eq_true_eq]; simp only [*, true_or, or_true])]; done)
      | (rw [if_neg (by simp only [decide_eq_true_eq]; simp [*])]; done)
  refine V_tswC (v := 58) rfl (by decide) (by decide) rfl (fun h20 => ?_) (fun h20 => ?_)
  · skip
    refine V_go 1 rfl ?_
    refine V_zret rfl rfl rfl (by first | exact Or.inl rfl | exact Or.inr rfl | exact b2i_or _ | assumption) ?_
    refine RI.mk ?_
    unfold isSi
    first
      | (rw [if_pos (by simp only [decide_eq_true_eq]; simp only [*, true_or, or_true])]; done)
      | (rw [if_neg (by simp only [decide_eq_true_eq]; simp [*])]; done)
  refine V_tswC (v := 59) rfl (by decide) (by decide) rfl (fun h21 => ?_) (fun h21 => ?_)
  · skip
    refine V_go 1 rfl ?_
    refine V_zret rfl rfl rfl (by first | exact Or.inl rfl | exact Or.inr rfl | exact b2i_or _ | assumption) ?_
    refine RI.mk ?_
    unfold isSi
    first
      | (rw [if_pos (by simp only [decide_eq_true_eq]; simp only [*, true_or, or_true])]; done)
      | (rw [if_neg (by simp only [decide_eq_true_eq]; simp [*])]; done)
  refine V_tswC (v := 60) rfl (by decide) (by decide) rfl (fun h22 => ?_) (fun h22 => ?_)
  · skip
    refine V_go 1 rfl ?_
    refine V_zret rfl rfl rfl (by first | exact Or.inl rfl | exact Or.inr rfl | exact b2i_or _ | assumption) ?_
    refine RI.mk ?_
    unfold isSi
    first
      | (rw [if_pos (by simp only [decide_eq_true_eq]; simp only [*, true_or, or_true])]; done)
      | (rw [if_neg (by simp only [decide_eq_true_eq]; simp [*])]; done)
  refine V_tswC (v := 61) rfl (by decide) (by decide) rfl (fun h23 => ?_) (fun h23 => ?_)
  · skip
    refine V_go 1 rfl ?_
    refine V_zret rfl rfl rfl (by first | exact Or.inl rfl | exact Or.inr rfl | exact b2i_or _ | assumption) ?_
    refine RI.mk ?_
    unfold isSi
    first
      | (rw [if_pos (by simp only [decide_eq_true_eq]; simp only [*, true_or, or_true])]; done)
      | (rw [if_neg (by simp only [decide_eq_true_eq]; simp [*])]; done)
  refine V_tswD rfl (by decide) (by decide) (t9 := 106) rfl (by have q0 := lv_neT h2 (a := 40) (by decide); have q1 := lv_neT h3 (a := 41) (by decide); have q2 := lv_neT h4 (a := 42) (by decide); have q3 := lv_neT h5 (a := 43) (by decide); have q4 := lv_neT h6 (a := 44) (by decide); have q5 := lv_neT h7 (a := 45) (by decide); have q6 := lv_neT h8 (a := 46) (by decide); have q7 := lv_neT h9 (a := 47) (by decide); have q8 := lv_neT h10 (a := 48) (by decide); have q9 := lv_neT h11 (a := 49) (by decide); have q10 := lv_neT h12 (a := 50) (by decide); have q11 := lv_neT h13 (a := 51) (by decide); have q12 := lv_neT h14 (a := 52) (by decide); have q13 := lv_neT h15 (a := 53) (by decide); have q14 := lv_neT h16 (a := 54) (by decide); have q15 := lv_neT h17 (a := 55) (by decide); have q16 := lv_neT h18 (a := 56) (by decide); have q17 := lv_neT h19 (a := 57) (by decide); have q18 := lv_neT h20 (a := 58) (by decide); have q19 := lv_neT h21 (a := 59) (by decide); have q20 := lv_neT h22 (a := 60) (by decide); have q21 := lv_neT h23 (a := 61) (by decide); omega) ?_
  refine V_go 1 rfl ?_
  refine V_zret rfl rfl rfl (by first | exact Or.inl rfl | exact Or.inr rfl | exact b2i_or _ | assumption) ?_
  refine RI.mk ?_
  unfold isSi
  first
    | (rw [if_pos (by simp only [decide_eq_true_eq]; simp only [*, true_or, or_true])]; done)
    | (rw [if_neg (by simp only [decide_eq_true_eq]; simp [*])]; done)
theorem sp110 : ∀ k, k < 12 → k = 11 ∨ i32 k = 0 ∨ i32 k = 1 ∨ i32 k = 2 ∨ i32 k = 3 ∨ i32 k = 4 ∨ i32 k = 5 ∨ i32 k = 6 ∨ i32 k = 7 ∨ i32 k = 8 ∨ i32 k = 9 ∨ i32 k = 10 := by decide +kernel
theorem sp11 (k : Nat) (hk : k < 12) (h0 : ¬ i32 k = 0) (h1 : ¬ i32 k = 1) (h2 : ¬ i32 k = 2) (h3 : ¬ i32 k = 3) (h4 : ¬ i32 k = 4) (h5 : ¬ i32 k = 5) (h6 : ¬ i32 k = 6) (h7 : ¬ i32 k = 7) (h8 : ¬ i32 k = 8) (h9 : ¬ i32 k = 9) (h10 : ¬ i32 k = 10) : k = 11 := by
  rcases sp110 k hk with h | h | h | h | h | h | h | h | h | h | h | h
  · exact h
  all_goals contradiction
theorem wTok_at : ∀ k, k < 12 → wTok (spl k) = 256 + i32 k := by decide +kernel
theorem wTok_no {l : List Int32} (h : ∀ j, j < 12 → l ≠ spl j) : wTok l = 1 := by
  unfold wTok
  rw [if_neg (h 0 (by omega)), if_neg (h 1 (by omega)), if_neg (h 2 (by omega)), if_neg (h 3 (by omega)), if_neg (h 4 (by omega)), if_neg (h 5 (by omega)), if_neg (h 6 (by omega)), if_neg (h 7 (by omega)), if_neg (h 8 (by omega)), if_neg (h 9 (by omega)), if_neg (h 10 (by omega)), if_neg (h 11 (by omega))]
theorem sk_s {f : Int32 → Bool} {b : Nat → Int32} {m p : Nat} (h : f (b p) = true) : sk f b (m + 1) p = sk f b m (p + 1) := by rw [sk, if_pos h]
theorem sk_x {f : Int32 → Bool} {b : Nat → Int32} {m p : Nat} (h : ¬ f (b p) = true) : sk f b (m + 1) p = p := by rw [sk, if_neg h]

theorem c_spelling {k : Nat} {I : I2} {J : J2} (hk : k < 12) : CT mX3_spelling 1 58 58 [.int (i32 k)] I J RF (RA RF (1000 + k) I J) := by
  refine CT_of okX3_spelling (Nat.le_of_ble_eq_true rfl) ?_
  show V _ _ _ _ _ _ [(0, _)] _ _ _ _ _
  refine V_go 1 rfl ?_
  refine V_tswC (v := 0) rfl (by decide) (by decide) rfl (fun h2 => ?_) (fun h2 => ?_)
  · skip
    refine V_go 1 rfl ?_
    refine V_aret rfl rfl rfl ?_
    obtain rfl : k = 0 := (i32_inj (by omega) (by omega)).mp (by assumption)
    exact ⟨rfl, rfl, rfl, rfl⟩
  refine V_tswC (v := 1) rfl (by decide) (by decide) rfl (fun h3 => ?_) (fun h3 => ?_)
  · skip
    refine V_go 1 rfl ?_
    refine V_aret rfl rfl rfl ?_
    obtain rfl : k = 1 := (i32_inj (by omega) (by omega)).mp (by assumption)
    exact ⟨rfl, rfl, rfl, rfl⟩
  refine V_tswC (v := 2) rfl (by decide) (by decide) rfl (fun h4 => ?_) (fun h4 => ?_)
  · skip
    refine V_go 1 rfl ?_
    refine V_aret rfl rfl rfl ?_
    obtain rfl : k = 2 := (i32_inj (by omega) (by omega)).mp (by assumption)
    exact ⟨rfl, rfl, rfl, rfl⟩
  refine V_tswC (v := 3) rfl (by decide) (by decide) rfl (fun h5 => ?_) (fun h5 => ?_)
  · skip
    refine V_go 1 rfl ?_
    refine V_aret rfl rfl rfl ?_
    obtain rfl : k = 3 := (i32_inj (by omega) (by omega)).mp (by assumption)
    exact ⟨rfl, rfl, rfl, rfl⟩
  refine V_tswC (v := 4) rfl (by decide) (by decide) rfl (fun h6 => ?_) (fun h6 => ?_)
  · skip
    refine V_go 1 rfl ?_
    refine V_aret rfl rfl rfl ?_
    obtain rfl : k = 4 := (i32_inj (by omega) (by omega)).mp (by assumption)
    exact ⟨rfl, rfl, rfl, rfl⟩
  refine V_tswC (v := 5) rfl (by decide) (by decide) rfl (fun h7 => ?_) (fun h7 => ?_)
  · skip
    refine V_go 1 rfl ?_
    refine V_aret rfl rfl rfl ?_
    obtain rfl : k = 5 := (i32_inj (by omega) (by omega)).mp (by assumption)
    exact ⟨rfl, rfl, rfl, rfl⟩
  refine V_tswC (v := 6) rfl (by decide) (by decide) rfl (fun h8 => ?_) (fun h8 => ?_)
  · skip
    refine V_go 1 rfl ?_
    refine V_aret rfl rfl rfl ?_
    obtain rfl : k = 6 := (i32_inj (by omega) (by omega)).mp (by assumption)
    exact ⟨rfl, rfl, rfl, rfl⟩
  refine V_tswC (v := 7) rfl (by decide) (by decide) rfl (fun h9 => ?_) (fun h9 => ?_)
  · skip
    refine V_go 1 rfl ?_
    refine V_aret rfl rfl rfl ?_
    obtain rfl : k = 7 := (i32_inj (by omega) (by omega)).mp (by assumption)
    exact ⟨rfl, rfl, rfl, rfl⟩
  refine V_tswC (v := 8) rfl (by decide) (by decide) rfl (fun h10 => ?_) (fun h10 => ?_)
  · skip
    refine V_go 1 rfl ?_
    refine V_aret rfl rfl rfl ?_
    obtain rfl : k = 8 := (i32_inj (by omega) (by omega)).mp (by assumption)
    exact ⟨rfl, rfl, rfl, rfl⟩
  refine V_tswC (v := 9) rfl (by decide) (by decide) rfl (fun h11 => ?_) (fun h11 => ?_)
  · skip
    refine V_go 1 rfl ?_
    refine V_aret rfl rfl rfl ?_
    obtain rfl : k = 9 := (i32_inj (by omega) (by omega)).mp (by assumption)
    exact ⟨rfl, rfl, rfl, rfl⟩
  refine V_tswC (v := 10) rfl (by decide) (by decide) rfl (fun h12 => ?_) (fun h12 => ?_)
  · skip
    refine V_go 1 rfl ?_
    refine V_aret rfl rfl rfl ?_
    obtain rfl : k = 10 := (i32_inj (by omega) (by omega)).mp (by assumption)
    exact ⟨rfl, rfl, rfl, rfl⟩
  refine V_tswD rfl (by decide) (by decide) (t9 := 93) rfl (by have q0 := lv_neT h2 (a := 0) (by decide); have q1 := lv_neT h3 (a := 1) (by decide); have q2 := lv_neT h4 (a := 2) (by decide); have q3 := lv_neT h5 (a := 3) (by decide); have q4 := lv_neT h6 (a := 4) (by decide); have q5 := lv_neT h7 (a := 5) (by decide); have q6 := lv_neT h8 (a := 6) (by decide); have q7 := lv_neT h9 (a := 7) (by decide); have q8 := lv_neT h10 (a := 8) (by decide); have q9 := lv_neT h11 (a := 9) (by decide); have q10 := lv_neT h12 (a := 10) (by decide); omega) ?_
  obtain rfl := sp11 k hk (by assumption) (by assumption) (by assumption) (by assumption) (by assumption) (by assumption) (by assumption) (by assumption) (by assumption) (by assumption) (by assumption)
  refine V_go 1 rfl ?_
  refine V_aret rfl rfl rfl ?_
  exact ⟨rfl, rfl, rfl, rfl⟩
theorem c_passWord {n q : Nat} {I : I2} {J : J2} (e2 : I 5 2 = i32 n) (hn : n ≤ 160) (e4 : I 5 4 = i32 q) (hq : q ≤ n) (e3 : I 5 3 = i32 q) : CT mX3_passWord 6 58 58 [.ref 5] I J RF (RI RF (wTok (bts (I 6) q (sk isLe (I 6) (n - q) q - q))) (up2 I 5 3 (i32 (sk isLe (I 6) (n - q) q))) J) := by
  have hb := sk_ge isLe (I 6) (n - q) q
  obtain ⟨e, he0⟩ : ∃ e, e = sk isLe (I 6) (n - q) q := ⟨_, rfl⟩
  rw [← he0] at hb ⊢
  have hqe : q ≤ e := hb.1
  have hen : e ≤ n := by omega
  have key1 : ∀ n, Hid (∀ (k : Nat), k + n = 12 → (∀ j, j < k → bts (I 6) q (e - q) ≠ spl j) → V mX3_passWord none 6 58 (RI RF (wTok (bts (I 6) q (e - q))) (up2 I 5 3 (i32 e)) J) 41 [(0, .ref 5), (1, .int (i32 k))] [] 58 (up2 I 5 3 (i32 e)) J RF) := by
    intro n
    induction n with
    | zero =>
      unfold Hid
      intro k hi0 hno
      have hk9 : k = 12 := hi0
      refine V_go 2 rfl ?_
      refine V_icmp_ge rfl (fun h1 => ?_) (fun h1 => ?_)
      · skip
        refine V_go 1 rfl ?_
        refine V_iret rfl rfl rfl ?_
        exact RI.mk (wTok_no (fun j hj => hno j (by omega))).symm
      · skip
        exact absurd ((i32_le (by omega) (by omega)).mpr (Nat.le_of_eq hk9.symm)) h1
    | succ n ih =>
      unfold Hid
      intro k hi0 hno
      refine V_go 2 rfl ?_
      refine V_icmp_ge rfl (fun h1 => ?_) (fun h1 => ?_)
      · skip
        exact absurd ((i32_le (a := 12) (b := k) (by omega) (by omega)).mp h1) (by omega)
      · skip
        refine V_go 2 rfl ?_
        refine cSA (mt' := mX3_spelling) rfl kX3_101 fX3_spelling rfl (Nat.le_of_ble_eq_true rfl) (Nat.le_of_ble_eq_true rfl) (Nat.le_refl _) (c_spelling (by omega)) ?_
        refine cVI (mt' := mX3_isSpelt) rfl kX3_105 fX3_isSpelt rfl rfl rfl (Nat.le_of_ble_eq_true rfl) (Nat.le_of_ble_eq_true rfl) (Nat.le_of_ble_eq_true rfl) (Nat.le_of_ble_eq_true rfl) (Nat.le_refl _) (c_isSpelt (I := (up2 I 5 3 (i32 e))) (i := k) (e := e) (q := q) (by omega) rfl e4 hqe (by omega)) ?_
        refine V_if_eq rfl (fun h4 => ?_) (fun h4 => ?_)
        · skip
          refine V_go 2 rfl ?_
          refine V.st (I' := (up2 I 5 3 (i32 e))) (L' := [(0, .ref 5), (1, .int (i32 (k + 1)))]) (ih.un (k + 1) (by omega) (fun j hj => ?_)) rfl (by rw [i32_s]; simp)
          by_cases hj2 : j = k
          · rw [hj2]; exact b2i_eq0.mp h4
          · exact hno j (by omega)
        · skip
          refine V_go 3 rfl ?_
          refine V_iret rfl rfl rfl ?_
          exact RI.mk (by rw [show bts (I 6) q (e - q) = spl k from b2i_eq1.mp ((b2i_or _).resolve_left (by assumption)), wTok_at k (by omega)])
  have k39 : V mX3_passWord none 6 58 (RI RF (wTok (bts (I 6) q (e - q))) (up2 I 5 3 (i32 e)) J) 39 [(0, .ref 5)] [] 58 (up2 I 5 3 (i32 e)) J RF := by
    refine V_go 2 rfl ?_
    exact (key1 12).un 0 (Nat.zero_add _) (fun j hj => absurd hj (Nat.not_lt_zero _))
  have key0 : ∀ m, Hid (∀ (p : Nat), p + m = n → sk isLe (I 6) (n - p) p = e → V mX3_passWord none 6 58 (RI RF (wTok (bts (I 6) q (e - q))) (up2 I 5 3 (i32 e)) J) 0 [(0, .ref 5)] [] 58 (up2 I 5 3 (i32 p)) J RF) := by
    intro m
    induction m with
    | zero =>
      unfold Hid
      intro p hi0 he
      have hp9 : p = n := hi0
      refine V_go 4 rfl ?_
      try simp only [up2_rd, row2_rd, reduceIte, Nat.reduceEqDiff]
      refine V_icmp_ge rfl (fun h1 => ?_) (fun h1 => ?_)
      · skip
        obtain rfl : e = p := by rw [← he, hp9, Nat.sub_self]; rfl
        exact k39
      · skip
        exact absurd ((i32_le (by omega) (by omega)).mpr (Nat.le_of_eq hp9.symm)) (by rw [← e2]; exact h1)
    | succ m ih =>
      unfold Hid
      intro p hi0 he
      have hp8 : p < n := by omega
      refine V_go 4 rfl ?_
      try simp only [up2_rd, row2_rd, reduceIte, Nat.reduceEqDiff]
      refine V_icmp_ge rfl (fun h1 => ?_) (fun h1 => ?_)
      · skip
        exact absurd ((i32_le (a := n) (b := p) (by omega) (by omega)).mp (by rw [← e2]; exact h1)) (by omega)
      · skip
        refine V_go 4 rfl ?_
        try simp only [up2_rd, row2_rd, reduceIte, Nat.reduceEqDiff]
        refine V_iald rfl rfl (Nat.le_of_ble_eq_true rfl) (inb_i32 (by omega) (by decide)) ?_
        try simp only [up2_rd, row2_rd, reduceIte, Nat.reduceEqDiff]
        refine cSI (mt' := mX3_isLetter) rfl kX3_86 fX3_isLetter rfl (Nat.le_of_ble_eq_true rfl) (Nat.le_of_ble_eq_true rfl) (Nat.le_refl _) (c_isLetter) ?_
        refine V_if_eq rfl (fun h3 => ?_) (fun h3 => ?_)
        · skip
          have hf : ¬ isLe (I 6 p) = true := fun q => by rw [tn_of (show p < 2147483648 by omega), if_pos q] at h3; exact absurd h3 (by decide)
          obtain rfl : e = p := by rw [← he, show n - p = (n - p - 1) + 1 from by omega, sk_x hf]
          exact k39
        · skip
          have hf : isLe (I 6 p) = true := by
            cases hq : isLe (I 6 p)
            · exfalso; apply h3; rw [tn_of (show p < 2147483648 by omega), hq]; rfl
            · rfl
          refine V_go 7 rfl ?_
          simp only [up2_rd, reduceIte]
          refine V.st (I' := up2 I 5 3 (i32 (p + 1))) (L' := [(0, .ref 5)]) (ih.un (p + 1) (by omega) ?_) (by rw [up2_up2, i32_s]) (by simp)
          rw [← he, show n - p = (n - (p + 1)) + 1 from by omega, sk_s hf]
  refine CT_of okX3_passWord (Nat.le_of_ble_eq_true rfl) ?_
  show V _ _ _ _ _ _ [(0, _)] _ _ _ _ _
  have hs := (key0 (n - q)).un q (by omega) he0.symm
  rw [← e3, up2_self] at hs
  exact hs

theorem up2_sw {α : Type} {f : Nat → Nat → α} {o k k' : Nat} {v w z : α} (h : k ≠ k' := by decide) : up2 (up2 (up2 f o k v) o k' w) o k z = up2 (up2 (up2 f o k v) o k z) o k' w := by
  funext i j
  simp only [up2_rd]
  by_cases h1 : i = o
  · by_cases h2 : j = k
    · have h3 : ¬ j = k' := fun h4 => h (h2.symm.trans h4)
      simp [h1, h2, h]
    · simp [h1, h2]
  · simp [h1]
theorem up2_id {α : Type} {f : Nat → Nat → α} {o k : Nat} {v : α} (h : f o k = v) : up2 f o k v = f := by rw [← h, up2_self]
theorem c_passNumber {n q : Nat} {I : I2} {J : J2} (e2 : I 5 2 = i32 n) (hn : n ≤ 160) (e4 : I 5 4 = i32 q) (hq : q ≤ n) (e3 : I 5 3 = i32 q) : CT mX3_passNumber 2 58 58 [.ref 5] I J RF (RI RF (if sk isDi (I 6) (n - q) q - q ≤ 4 then 2 else 1) (up2 (up2 I 5 6 (nmb (I 6) q (sk isDi (I 6) (n - q) q - q))) 5 3 (i32 (sk isDi (I 6) (n - q) q))) J) := by
  have hb := sk_ge isDi (I 6) (n - q) q
  obtain ⟨e, he0⟩ : ∃ e, e = sk isDi (I 6) (n - q) q := ⟨_, rfl⟩
  rw [← he0] at hb ⊢
  have hqe : q ≤ e := hb.1
  have hen : e ≤ n := by omega
  have k81 : V mX3_passNumber none 2 58 (RI RF (if e - q ≤ 4 then 2 else 1) (up2 (up2 I 5 6 (nmb (I 6) q (e - q))) 5 3 (i32 e)) J) 81 [(0, .ref 5)] [] 58 (up2 (up2 I 5 6 (nmb (I 6) q (e - q))) 5 3 (i32 e)) J RF := by
    refine V_go 6 rfl ?_
    try simp only [up2_rd, row2_rd, reduceIte, Nat.reduceEqDiff]
    refine V_icmp_gt rfl (fun h1 => ?_) (fun h1 => ?_)
    · skip
      rw [e4, i32_sub hqe, show (4 : Int32) = i32 4 from rfl] at h1
      refine V_go 1 rfl ?_
      refine V_iret rfl rfl rfl ?_
      exact RI.mk (if_neg (fun h => absurd ((i32_lt (by omega) (by omega)).mp h1) (by omega))).symm
    · skip
      rw [e4, i32_sub hqe, show (4 : Int32) = i32 4 from rfl] at h1
      refine V_go 2 rfl ?_
      refine V_iret rfl rfl rfl ?_
      exact RI.mk (if_pos (Nat.le_of_not_lt (fun h => h1 ((i32_lt (by omega) (by omega)).mpr h)))).symm
  have key0 : ∀ m, Hid (∀ (j : Nat), q + j + m = n → sk isDi (I 6) (n - (q + j)) (q + j) = e → V mX3_passNumber none 2 58 (RI RF (if e - q ≤ 4 then 2 else 1) (up2 (up2 I 5 6 (nmb (I 6) q (e - q))) 5 3 (i32 e)) J) 5 [(0, .ref 5)] [] 58 (up2 (up2 I 5 6 (nmb (I 6) q (j))) 5 3 (i32 (q + (j)))) J RF) := by
    intro m
    induction m with
    | zero =>
      unfold Hid
      intro j hi0 he
      have hp9 : q + j = n := hi0
      refine V_go 4 rfl ?_
      try simp only [up2_rd, row2_rd, reduceIte, Nat.reduceEqDiff]
      refine V_icmp_ge rfl (fun h1 => ?_) (fun h1 => ?_)
      · skip
        obtain rfl : e = q + j := by rw [← he, hp9, Nat.sub_self, sk]
        refine V.st (L' := [(0, .ref 5)]) k81 (by rw [Nat.add_sub_cancel_left]) (by simp)
      · skip
        exact absurd ((i32_le (by omega) (by omega)).mpr (Nat.le_of_eq hp9.symm)) (by rw [← e2]; exact h1)
    | succ m ih =>
      unfold Hid
      intro j hi0 he
      have hp8 : q + j < n := by omega
      refine V_go 4 rfl ?_
      try simp only [up2_rd, row2_rd, reduceIte, Nat.reduceEqDiff]
      refine V_icmp_ge rfl (fun h1 => ?_) (fun h1 => ?_)
      · skip
        exact absurd ((i32_le (a := n) (b := q + j) (by omega) (by omega)).mp (by rw [← e2]; exact h1)) (by omega)
      · skip
        refine V_go 4 rfl ?_
        try simp only [up2_rd, row2_rd, reduceIte, Nat.reduceEqDiff]
        refine V_iald rfl rfl (Nat.le_of_ble_eq_true rfl) (inb_i32 (by omega) (by decide)) ?_
        try simp only [up2_rd, row2_rd, reduceIte, Nat.reduceEqDiff]
        refine cSI (mt' := mX3_isDigit) rfl kX3_92 fX3_isDigit rfl (Nat.le_of_ble_eq_true rfl) (Nat.le_of_ble_eq_true rfl) (Nat.le_refl _) (c_isDigit) ?_
        refine V_if_eq rfl (fun h3 => ?_) (fun h3 => ?_)
        · skip
          have hf : ¬ isDi (I 6 (q + j)) = true := fun z => by rw [tn_of (show q + j < 2147483648 by omega), if_pos z] at h3; exact absurd h3 (by decide)
          obtain rfl : e = q + j := by rw [← he, show n - (q + j) = (n - (q + j) - 1) + 1 from by omega, sk_x hf]
          refine V.st (L' := [(0, .ref 5)]) k81 (by rw [Nat.add_sub_cancel_left]) (by simp)
        · skip
          have hf : isDi (I 6 (q + j)) = true := by
            cases hz : isDi (I 6 (q + j))
            · exfalso; apply h3; rw [tn_of (show q + j < 2147483648 by omega), hz]; rfl
            · rfl
          refine V_go 6 rfl ?_
          try simp only [up2_rd, row2_rd, reduceIte, Nat.reduceEqDiff]
          refine V_icmp_ge rfl (fun h11 => ?_) (fun h11 => ?_)
          · skip
            rw [e4, i32_sub (by omega), Nat.add_sub_cancel_left, show (4 : Int32) = i32 4 from rfl] at h11
            have hj : ¬ j < 4 := fun h => absurd ((i32_le (by omega) (by omega)).mp h11) (by omega)
            refine V_go 7 rfl ?_
            simp only [up2_rd, reduceIte, Nat.reduceEqDiff]
            refine V.st (I' := (up2 (up2 I 5 6 (nmb (I 6) q (j + 1))) 5 3 (i32 (q + (j + 1))))) (L' := [(0, .ref 5)]) (ih.un (j + 1) (by omega) ?_) ?_ (by simp)
            · rw [← he, show n - (q + j) = (n - (q + (j + 1))) + 1 from by omega, sk_s hf]
              rfl
            · rw [up2_up2]
              simp only [nmb, if_neg hj]
              rw [show q + (j + 1) = q + j + 1 from rfl, i32_s]
            
          · skip
            rw [e4, i32_sub (by omega), Nat.add_sub_cancel_left, show (4 : Int32) = i32 4 from rfl] at h11
            have hj : j < 4 := Nat.lt_of_not_le (fun h => h11 ((i32_le (by omega) (by omega)).mpr h))
            refine V_go 9 rfl ?_
            try simp only [up2_rd, row2_rd, reduceIte, Nat.reduceEqDiff]
            refine V_iald rfl rfl (Nat.le_of_ble_eq_true rfl) (inb_i32 (by omega) (by decide)) ?_
            try simp only [up2_rd, row2_rd, reduceIte, Nat.reduceEqDiff]
            refine V_go 4 rfl ?_
            try simp only [up2_rd, row2_rd, reduceIte, Nat.reduceEqDiff]
            refine V_go 7 rfl ?_
            simp only [up2_rd, reduceIte, Nat.reduceEqDiff]
            refine V.st (I' := (up2 (up2 I 5 6 (nmb (I 6) q (j + 1))) 5 3 (i32 (q + (j + 1))))) (L' := [(0, .ref 5)]) (ih.un (j + 1) (by omega) ?_) ?_ (by simp)
            · rw [← he, show n - (q + j) = (n - (q + (j + 1))) + 1 from by omega, sk_s hf]
              rfl
            · rw [tn_of (show q + j < 2147483648 by omega), up2_sw, up2_up2, up2_sw, up2_up2]
              simp only [nmb, if_pos hj]
              rw [show q + (j + 1) = q + j + 1 from rfl, i32_s]
            
  refine CT_of okX3_passNumber (Nat.le_of_ble_eq_true rfl) ?_
  show V _ _ _ _ _ _ [(0, _)] _ _ _ _ _
  refine V_go 3 rfl ?_
  refine V.st (I' := (up2 (up2 I 5 6 (nmb (I 6) q (0))) 5 3 (i32 (q + (0))))) (L' := [(0, .ref 5)]) ((key0 (n - q)).un 0 (by omega) he0.symm) ?_ (by simp)
  rw [Nat.add_zero, ← e3]
  exact (up2_id rfl).symm

/-- what stands in the reader: the token ahead -/
def RT (I : I2) (n : Nat) (s : PT) : Prop := I 5 2 = i32 n ∧ n ≤ 160 ∧ I 5 5 = s.1 ∧ I 5 4 = i32 s.2.1 ∧ I 5 3 = i32 s.2.2.1 ∧ (s.1 = 2 → I 5 6 = s.2.2.2)
/-- only the token ahead is another -/
def R5 (I I1 : I2) : Prop := (∀ o, o ≠ 5 → I1 o = I o) ∧ I1 5 2 = I 5 2
theorem R5.rf {I : I2} : R5 I I := ⟨fun _ _ => rfl, rfl⟩
theorem tkn_0 {b : Nat → Int32} {n p q : Nat} (h : sk isBl b (n - p) p = q) (h1 : n ≤ q) : tkn b n p = (0, q, q, 0) := by
  unfold tkn
  simp only [h]
  rw [if_pos h1]
theorem tkn_1 {b : Nat → Int32} {n p q : Nat} (h : sk isBl b (n - p) p = q) (h1 : q < n) (h2 : isLe (b q) = true) : tkn b n p = (wTok (bts b q (sk isLe b (n - q) q - q)), q, sk isLe b (n - q) q, 0) := by
  unfold tkn
  simp only [h]
  rw [if_neg (by omega), if_pos h2]
theorem tkn_2 {b : Nat → Int32} {n p q : Nat} (h : sk isBl b (n - p) p = q) (h1 : q < n) (h2 : ¬ isLe (b q) = true) (h3 : isDi (b q) = true) : tkn b n p = (if sk isDi b (n - q) q - q ≤ 4 then 2 else 1, q, sk isDi b (n - q) q, nmb b q (sk isDi b (n - q) q - q)) := by
  unfold tkn
  simp only [h]
  rw [if_neg (by omega), if_neg h2, if_pos h3]
theorem tkn_3 {b : Nat → Int32} {n p q : Nat} (h : sk isBl b (n - p) p = q) (h1 : q < n) (h2 : ¬ isLe (b q) = true) (h3 : ¬ isDi (b q) = true) : tkn b n p = (if isSi (b q) then b q else 1, q, q + 1, 0) := by
  unfold tkn
  simp only [h]
  rw [if_neg (by omega), if_neg h2, if_neg h3]
theorem ifb {b : Bool} (h : ¬ (if b = true then (1 : Int32) else 0) = 0) : b = true := by
  cases b
  · exact absurd rfl h
  · rfl
theorem ifn {b : Bool} (h : (if b = true then (1 : Int32) else 0) = 0) : ¬ b = true := by
  cases b
  · decide
  · exact absurd h (by decide)

theorem c_passToken {n p0 : Nat} {I : I2} {J : J2} (e2 : I 5 2 = i32 n) (hn : n ≤ 160) (e3 : I 5 3 = i32 p0) (hp : p0 ≤ n) : CT mX3_passToken 7 58 58 [.ref 5] I J RF (RVP RF (fun I9 J9 => J9 = J ∧ RT I9 n (tkn (I 6) n p0) ∧ R5 I I9)) := by
  have hb := sk_ge isBl (I 6) (n - p0) p0
  obtain ⟨q, hsk⟩ : ∃ q, sk isBl (I 6) (n - p0) p0 = q := ⟨_, rfl⟩
  rw [hsk] at hb
  have hqn : q ≤ n := by omega
  have k39 : V mX3_passToken none 7 58 (RVP RF (fun I9 J9 => J9 = J ∧ RT I9 n (tkn (I 6) n p0) ∧ R5 I I9)) 39 [(0, .ref 5)] [] 58 (up2 I 5 3 (i32 q)) J RF := by
    refine V_go 8 rfl ?_
    try simp only [up2_rd, row2_rd, reduceIte, Nat.reduceEqDiff]
    refine V_icmp_lt rfl (fun h1 => ?_) (fun h1 => ?_)
    · skip
      have hq2 : q < n := by rw [e2] at h1; exact (i32_lt (by omega) (by omega)).mp h1
      refine V_go 4 rfl ?_
      try simp only [up2_rd, row2_rd, reduceIte, Nat.reduceEqDiff]
      refine V_iald rfl rfl (Nat.le_of_ble_eq_true rfl) (inb_i32 (by omega) (by decide)) ?_
      try simp only [up2_rd, row2_rd, reduceIte, Nat.reduceEqDiff]
      refine cSI (mt' := mX3_isLetter) rfl kX3_86 fX3_isLetter rfl (Nat.le_of_ble_eq_true rfl) (Nat.le_of_ble_eq_true rfl) (Nat.le_refl _) (c_isLetter) ?_
      refine V_if_eq rfl (fun h32 => ?_) (fun h32 => ?_)
      · skip
        have hl2 : ¬ isLe (I 6 q) = true := by rw [tn_of (show q < 2147483648 by omega)] at h32; exact ifn h32
        refine V_go 4 rfl ?_
        try simp only [up2_rd, row2_rd, reduceIte, Nat.reduceEqDiff]
        refine V_iald rfl rfl (Nat.le_of_ble_eq_true rfl) (inb_i32 (by omega) (by decide)) ?_
        try simp only [up2_rd, row2_rd, reduceIte, Nat.reduceEqDiff]
        refine cSI (mt' := mX3_isDigit) rfl kX3_92 fX3_isDigit rfl (Nat.le_of_ble_eq_true rfl) (Nat.le_of_ble_eq_true rfl) (Nat.le_refl _) (c_isDigit) ?_
        refine V_if_eq rfl (fun h42 => ?_) (fun h42 => ?_)
        · skip
          have hd2 : ¬ isDi (I 6 q) = true := by rw [tn_of (show q < 2147483648 by omega)] at h42; exact ifn h42
          refine V_go 5 rfl ?_
          try simp only [up2_rd, row2_rd, reduceIte, Nat.reduceEqDiff]
          refine V_iald rfl rfl (Nat.le_of_ble_eq_true rfl) (inb_i32 (by omega) (by decide)) ?_
          try simp only [up2_rd, row2_rd, reduceIte, Nat.reduceEqDiff]
          refine cSI (mt' := mX3_isSign) rfl kX3_98 fX3_isSign rfl (Nat.le_of_ble_eq_true rfl) (Nat.le_of_ble_eq_true rfl) (Nat.le_refl _) (c_isSign) ?_
          refine V_if_eq rfl (fun h52 => ?_) (fun h52 => ?_)
          · skip
            have hs2 : ¬ isSi (I 6 q) = true := by rw [tn_of (show q < 2147483648 by omega)] at h52; exact ifn h52
            refine V_go 8 rfl ?_
            try simp only [up2_rd, row2_rd, reduceIte, Nat.reduceEqDiff]
            refine V_vret rfl rfl rfl ?_
            refine RVP.mk ⟨rfl, ?_, ⟨fun o ho => by funext j; simp only [up2_rd, if_neg ho], rfl⟩⟩
            rw [tkn_3 hsk hq2 hl2 hd2, if_neg hs2]
            exact ⟨e2, hn, rfl, rfl, i32_s q ▸ rfl, fun h => absurd (show (1 : Int32) = 2 from h) (by decide)⟩
          · skip
            have hs1 : isSi (I 6 q) = true := by rw [tn_of (show q < 2147483648 by omega)] at h52; exact ifb h52
            refine V_go 4 rfl ?_
            try simp only [up2_rd, row2_rd, reduceIte, Nat.reduceEqDiff]
            refine V_iald rfl rfl (Nat.le_of_ble_eq_true rfl) (inb_i32 (by omega) (by decide)) ?_
            try simp only [up2_rd, row2_rd, reduceIte, Nat.reduceEqDiff]
            refine V_go 8 rfl ?_
            try simp only [up2_rd, row2_rd, reduceIte, Nat.reduceEqDiff]
            refine V_vret rfl rfl rfl ?_
            refine RVP.mk ⟨rfl, ?_, ⟨fun o ho => by funext j; simp only [up2_rd, if_neg ho], rfl⟩⟩
            rw [tkn_3 hsk hq2 hl2 hd2, if_pos hs1]
            refine ⟨e2, hn, ?_, rfl, i32_s q ▸ rfl, fun h => absurd h (isSi_n2 hs1).1⟩
            simp only [up2_rd, reduceIte, Nat.reduceEqDiff, tn_of (show q < 2147483648 by omega)]
        · skip
          have hd1 : isDi (I 6 q) = true := by rw [tn_of (show q < 2147483648 by omega)] at h42; exact ifb h42
          refine V_go 2 rfl ?_
          try simp only [up2_rd, row2_rd, reduceIte, Nat.reduceEqDiff]
          refine cVI (mt' := mX3_passNumber) rfl kX3_95 fX3_passNumber rfl rfl rfl (Nat.le_of_ble_eq_true rfl) (Nat.le_of_ble_eq_true rfl) (Nat.le_of_ble_eq_true rfl) (Nat.le_of_ble_eq_true rfl) (Nat.le_refl _) (c_passNumber (I := (up2 (up2 I 5 3 (i32 q)) 5 4 (i32 q))) (n := n) (q := q) e2 hn rfl (by omega) rfl) ?_
          refine V_go 2 rfl ?_
          try simp only [up2_rd, row2_rd, reduceIte, Nat.reduceEqDiff]
          refine V_vret rfl rfl rfl ?_
          refine RVP.mk ⟨rfl, ?_, ⟨fun o ho => by funext j; simp only [up2_rd, if_neg ho], rfl⟩⟩
          rw [tkn_2 hsk hq2 hl2 hd1]
          exact ⟨e2, hn, rfl, rfl, rfl, fun _ => rfl⟩
      · skip
        have hl1 : isLe (I 6 q) = true := by rw [tn_of (show q < 2147483648 by omega)] at h32; exact ifb h32
        refine V_go 2 rfl ?_
        try simp only [up2_rd, row2_rd, reduceIte, Nat.reduceEqDiff]
        refine cVI (mt' := mX3_passWord) rfl kX3_89 fX3_passWord rfl rfl rfl (Nat.le_of_ble_eq_true rfl) (Nat.le_of_ble_eq_true rfl) (Nat.le_of_ble_eq_true rfl) (Nat.le_of_ble_eq_true rfl) (Nat.le_refl _) (c_passWord (I := (up2 (up2 I 5 3 (i32 q)) 5 4 (i32 q))) (n := n) (q := q) e2 hn rfl (by omega) rfl) ?_
        refine V_go 2 rfl ?_
        try simp only [up2_rd, row2_rd, reduceIte, Nat.reduceEqDiff]
        refine V_vret rfl rfl rfl ?_
        refine RVP.mk ⟨rfl, ?_, ⟨fun o ho => by funext j; simp only [up2_rd, if_neg ho], rfl⟩⟩
        rw [tkn_1 hsk hq2 hl1]
        exact ⟨e2, hn, rfl, rfl, rfl, fun h => absurd h (wTok_n2 _).1⟩
    · skip
      have hq1 : n ≤ q := Nat.le_of_not_lt (fun h => h1 (by rw [e2]; exact (i32_lt (by omega) (by omega)).mpr h))
      refine V_go 4 rfl ?_
      refine V_vret rfl rfl rfl ?_
      refine RVP.mk ⟨rfl, ?_, ⟨fun o ho => by funext j; simp only [up2_rd, if_neg ho], rfl⟩⟩
      rw [tkn_0 hsk hq1]
      exact ⟨e2, hn, rfl, rfl, rfl, fun h => absurd (show (0 : Int32) = 2 from h) (by decide)⟩
  have key0 : ∀ m, Hid (∀ (p : Nat), p + m = n → sk isBl (I 6) (n - p) p = q → V mX3_passToken none 7 58 (RVP RF (fun I9 J9 => J9 = J ∧ RT I9 n (tkn (I 6) n p0) ∧ R5 I I9)) 0 [(0, .ref 5)] [] 58 (up2 I 5 3 (i32 p)) J RF) := by
    intro m
    induction m with
    | zero =>
      unfold Hid
      intro p hi0 he
      have hp9 : p = n := hi0
      refine V_go 4 rfl ?_
      try simp only [up2_rd, row2_rd, reduceIte, Nat.reduceEqDiff]
      refine V_icmp_ge rfl (fun h1 => ?_) (fun h1 => ?_)
      · skip
        obtain rfl : q = p := by rw [← he, hp9, Nat.sub_self]; rfl
        exact k39
      · skip
        exact absurd ((i32_le (by omega) (by omega)).mpr (Nat.le_of_eq hp9.symm)) (by rw [← e2]; exact h1)
    | succ m ih =>
      unfold Hid
      intro p hi0 he
      have hp8 : p < n := by omega
      refine V_go 4 rfl ?_
      try simp only [up2_rd, row2_rd, reduceIte, Nat.reduceEqDiff]
      refine V_icmp_ge rfl (fun h1 => ?_) (fun h1 => ?_)
      · skip
        exact absurd ((i32_le (a := n) (b := p) (by omega) (by omega)).mp (by rw [← e2]; exact h1)) (by omega)
      · skip
        refine V_go 4 rfl ?_
        try simp only [up2_rd, row2_rd, reduceIte, Nat.reduceEqDiff]
        refine V_iald rfl rfl (Nat.le_of_ble_eq_true rfl) (inb_i32 (by omega) (by decide)) ?_
        try simp only [up2_rd, row2_rd, reduceIte, Nat.reduceEqDiff]
        refine cSI (mt' := mX3_isBlank) rfl kX3_83 fX3_isBlank rfl (Nat.le_of_ble_eq_true rfl) (Nat.le_of_ble_eq_true rfl) (Nat.le_refl _) (c_isBlank) ?_
        refine V_if_eq rfl (fun h3 => ?_) (fun h3 => ?_)
        · skip
          have hf : ¬ isBl (I 6 p) = true := by rw [tn_of (show p < 2147483648 by omega)] at h3; exact ifn h3
          obtain rfl : q = p := by rw [← he, show n - p = (n - p - 1) + 1 from by omega, sk_x hf]
          exact k39
        · skip
          have hf : isBl (I 6 p) = true := by rw [tn_of (show p < 2147483648 by omega)] at h3; exact ifb h3
          refine V_go 7 rfl ?_
          simp only [up2_rd, reduceIte]
          refine V.st (I' := up2 I 5 3 (i32 (p + 1))) (L' := [(0, .ref 5)]) (ih.un (p + 1) (by omega) ?_) (by rw [up2_up2, i32_s]) (by simp)
          rw [← he, show n - p = (n - (p + 1)) + 1 from by omega, sk_s hf]
  refine CT_of okX3_passToken (Nat.le_of_ble_eq_true rfl) ?_
  show V _ _ _ _ _ _ [(0, _)] _ _ _ _ _
  have hs := (key0 (n - p0)).un p0 (by omega) hsk
  rw [← e3, up2_self] at hs
  exact hs

