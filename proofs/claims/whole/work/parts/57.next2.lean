theorem nmM_3 (j : Nat) (h : j < 4) : nmM j ≤ 1000 := by
  match j, h with
  | 0, _ => decide
  | 1, _ => decide
  | 2, _ => decide
  | 3, _ => decide
theorem c_next {t n p0 : Nat} {b : Nat → Int32} {I : I2} {J : J2} (hB : MB t n b I) (e3 : I 38 23 = i32 p0) (hp : p0 ≤ n) : CT mX7_next 2 58 58 [.ref 38] I J RF (RVP RF (fun I9 J9 => MTk b n I9 J9 (tkn b n p0) ∧ NFr I J I9 J9)) := by
  have hn := hB.2.1
  have hb := sk_ge isBl b (n - p0) p0
  obtain ⟨q, hsk⟩ : ∃ q, sk isBl b (n - p0) p0 = q := ⟨_, rfl⟩
  rw [hsk] at hb
  have hqn0 : q ≤ n := by omega
  have k39 : V mX7_next none 2 58 (RVP RF (fun I9 J9 => MTk b n I9 J9 (tkn b n p0) ∧ NFr I J I9 J9)) 39 [(0, .ref 38)] [] 58 (up2 I 38 23 (i32 (q))) J RF := by
    refine V_go 7 rfl ?_
    try simp only [up2_rd, row2_rd, reduceIte, Nat.reduceEqDiff]
    refine cVI (mt' := mX7_byteAt) rfl kX7_162 fX7_byteAt rfl rfl rfl (Nat.le_of_ble_eq_true rfl) (Nat.le_of_ble_eq_true rfl) (Nat.le_of_ble_eq_true rfl) (Nat.le_of_ble_eq_true rfl) (Nat.le_refl _) (c_byteAt (I := (up2 (up2 I 38 23 (i32 (q))) 38 25 (i32 q))) (t := t) (n := n) (b := b) (p := q) hB (by omega)) ?_
    refine V_go 5 rfl ?_
    try simp only [up2_rd, row2_rd, reduceIte, Nat.reduceEqDiff]
    refine V_if_ge rfl (fun h2 => ?_) (fun h2 => ?_)
    · skip
      have hqn : q < n := by
        refine Classical.byContradiction (fun z => ?_)
        rw [mBt_n z] at h2
        exact absurd h2 (by decide)
      rw [mBt_p hqn]
      refine V_go 4 rfl ?_
      try simp only [up2_rd, row2_rd, reduceIte, Nat.reduceEqDiff]
      refine cSI (mt' := mX7_in) rfl kX7_89 fX7_in rfl (Nat.le_of_ble_eq_true rfl) (Nat.le_of_ble_eq_true rfl) (Nat.le_refl _) (c_inI (lo := (97)) (hi := (122)) rfl (by decide +kernel) (by decide +kernel)) ?_
      refine V_if_eq rfl (fun h22 => ?_) (fun h22 => ?_)
      · skip
        have hl2 : ¬ isLe (b q) = true := fun z => by
          rw [b2i_1 (of_decide_eq_true z)] at h22
          exact absurd h22 (by decide)
        refine V_go 4 rfl ?_
        try simp only [up2_rd, row2_rd, reduceIte, Nat.reduceEqDiff]
        refine cSI (mt' := mX7_in) rfl kX7_89 fX7_in rfl (Nat.le_of_ble_eq_true rfl) (Nat.le_of_ble_eq_true rfl) (Nat.le_refl _) (c_inI (lo := (48)) (hi := (57)) rfl (by decide +kernel) (by decide +kernel)) ?_
        refine V_if_eq rfl (fun h32 => ?_) (fun h32 => ?_)
        · skip
          have hd2 : ¬ isDi (b q) = true := fun z => by
            rw [b2i_1 (of_decide_eq_true z)] at h32
            exact absurd h32 (by decide)
          have k300 : isSi (b q) = true → V mX7_next none 2 58 (RVP RF (fun I9 J9 => MTk b n I9 J9 (tkn b n p0) ∧ NFr I J I9 J9)) 300 [(0, .ref 38), (1, .int (b q))] [] 58 (up2 (up2 (up2 I 38 23 (i32 (q))) 38 25 (i32 q)) 38 24 4) J RF := by
            intro hs1
            refine V_go 13 rfl ?_
            try simp only [up2_rd, row2_rd, reduceIte, Nat.reduceEqDiff]
            refine V_vret rfl rfl rfl ?_
            refine RVP.mk ⟨?_, ⟨fun o ho => ⟨by simp only [up2_ne ho], by first | rfl | exact up2_ne ho⟩, fun k hk => by
              have k1 : ¬ k = 23 := by omega
              have k2 : ¬ k = 24 := by omega
              have k3 : ¬ k = 25 := by omega
              simp only [up2_rd, reduceIte, if_neg k1, if_neg k2, if_neg k3]⟩⟩
            rw [tkn_3 hsk hqn hl2 hd2, if_pos hs1]
            exact ⟨rfl, Or.inr (Or.inr (Or.inr (Or.inl ⟨rfl, hs1, i32_s q ▸ rfl, rfl⟩)))⟩
          refine V_go 2 rfl ?_
          refine V_icmp_eq rfl (fun h => k300 (by unfold isSi; rw [h]; decide)) (fun g0 => ?_)
          refine V_go 2 rfl ?_
          refine V_icmp_eq rfl (fun h => k300 (by unfold isSi; rw [h]; decide)) (fun g1 => ?_)
          refine V_go 2 rfl ?_
          refine V_icmp_eq rfl (fun h => k300 (by unfold isSi; rw [h]; decide)) (fun g2 => ?_)
          refine V_go 2 rfl ?_
          refine V_icmp_eq rfl (fun h => k300 (by unfold isSi; rw [h]; decide)) (fun g3 => ?_)
          refine V_go 2 rfl ?_
          refine V_icmp_eq rfl (fun h => k300 (by unfold isSi; rw [h]; decide)) (fun g4 => ?_)
          refine V_go 2 rfl ?_
          refine V_icmp_eq rfl (fun h => k300 (by unfold isSi; rw [h]; decide)) (fun g5 => ?_)
          refine V_go 2 rfl ?_
          refine V_icmp_eq rfl (fun h => k300 (by unfold isSi; rw [h]; decide)) (fun g6 => ?_)
          refine V_go 2 rfl ?_
          refine V_icmp_ne rfl (fun g7 => ?_) (fun h => k300 (by unfold isSi; rw [h]; decide))
          have hs2 : ¬ isSi (b q) = true := by
            unfold isSi
            rw [decide_eq_true_eq]
            rintro (h | h | h | h | h | h | h | h)
            · exact g0 h
            · exact g1 h
            · exact g2 h
            · exact g3 h
            · exact g4 h
            · exact g5 h
            · exact g6 h
            · exact g7 h
          refine V_vret rfl rfl rfl ?_
          refine RVP.mk ⟨?_, ⟨fun o ho => ⟨by simp only [up2_ne ho], by first | rfl | exact up2_ne ho⟩, fun k hk => by
            have k1 : ¬ k = 23 := by omega
            have k2 : ¬ k = 24 := by omega
            have k3 : ¬ k = 25 := by omega
            simp only [up2_rd, reduceIte, if_neg k1, if_neg k2, if_neg k3]⟩⟩
          rw [tkn_3 hsk hqn hl2 hd2, if_neg hs2]
          exact ⟨rfl, Or.inr (Or.inr (Or.inr (Or.inr ⟨rfl, rfl⟩)))⟩
        · skip
          have hd1 : isDi (b q) = true := decide_eq_true (b2i_eq1.mp ((b2i_or _).resolve_left h32))
          have k235 : ∀ j, q + j ≤ n → sk isDi b (n - q) q = q + j → V mX7_next none 2 58 (RVP RF (fun I9 J9 => MTk b n I9 J9 (tkn b n p0) ∧ NFr I J I9 J9)) 235 [(0, .ref 38), (1, .int (b q)), (2, .int (i32 (j)))] [] 58 (up2 (up2 (up2 (up2 (up2 I 38 23 (i32 (q))) 38 25 (i32 q)) 38 24 4) 38 24 2) 38 23 (i32 (q + j))) (up2 J 38 26 (nmb b q (j)).toInt64) RF := by
            intro j hjn hj9
            have hE : tkn b n p0 = (if j ≤ 4 then 2 else 1, q, q + j, nmb b q j) := by rw [tkn_2 hsk hqn hl2 hd1, hj9, Nat.add_sub_cancel_left]
            refine V_go 3 rfl ?_
            try simp only [up2_rd, row2_rd, reduceIte, Nat.reduceEqDiff]
            refine V_icmp_le rfl (fun h1 => ?_) (fun h1 => ?_)
            · skip
              have hj4 : j ≤ 4 := (i32_le (a := j) (b := 4) (by omega) (by omega)).mp h1
              refine V_go 3 rfl ?_
              refine V_vret rfl rfl rfl ?_
              refine RVP.mk ⟨?_, ⟨fun o ho => ⟨by simp only [up2_ne ho], by first | rfl | exact up2_ne ho⟩, fun k hk => by
                have k1 : ¬ k = 23 := by omega
                have k2 : ¬ k = 24 := by omega
                have k3 : ¬ k = 25 := by omega
                simp only [up2_rd, reduceIte, if_neg k1, if_neg k2, if_neg k3]⟩⟩
              rw [hE, if_pos hj4]
              exact ⟨rfl, Or.inr (Or.inr (Or.inl ⟨rfl, rfl, rfl, rfl⟩))⟩
            · skip
              have hj4 : ¬ j ≤ 4 := fun z => h1 ((i32_le (a := j) (b := 4) (by omega) (by omega)).mpr z)
              refine V_go 4 rfl ?_
              refine V_vret rfl rfl rfl ?_
              refine RVP.mk ⟨?_, ⟨fun o ho => ⟨by simp only [up2_ne ho], by first | rfl | exact up2_ne ho⟩, fun k hk => by
                have k1 : ¬ k = 23 := by omega
                have k2 : ¬ k = 24 := by omega
                have k3 : ¬ k = 25 := by omega
                simp only [up2_rd, reduceIte, if_neg k1, if_neg k2, if_neg k3]⟩⟩
              rw [hE, if_neg hj4]
              exact ⟨rfl, Or.inr (Or.inr (Or.inr (Or.inr ⟨rfl, rfl⟩)))⟩
          have keyD : ∀ m, Hid (∀ (j : Nat), q + j + m = n → (sk isDi b (n - (q + j)) (q + j) = sk isDi b (n - q) q ∧ ∀ i, i < j → isDi (b (q + i)) = true) → V mX7_next none 2 58 (RVP RF (fun I9 J9 => MTk b n I9 J9 (tkn b n p0) ∧ NFr I J I9 J9)) 160 [(0, .ref 38), (1, .int (b q)), (2, .int (i32 (j)))] [] 58 (up2 (up2 (up2 (up2 (up2 I 38 23 (i32 (q))) 38 25 (i32 q)) 38 24 4) 38 24 2) 38 23 (i32 (q + j))) (up2 J 38 26 (nmb b q (j)).toInt64) RF) := by
            intro m
            induction m with
            | zero =>
              unfold Hid
              intro j hi0 ⟨he, hd0⟩
              refine V_go 3 rfl ?_
              try simp only [up2_rd, row2_rd, reduceIte, Nat.reduceEqDiff]
              refine cVI (mt' := mX7_byteAt) rfl kX7_162 fX7_byteAt rfl rfl rfl (Nat.le_of_ble_eq_true rfl) (Nat.le_of_ble_eq_true rfl) (Nat.le_of_ble_eq_true rfl) (Nat.le_of_ble_eq_true rfl) (Nat.le_refl _) (c_byteAt (I := (up2 (up2 (up2 (up2 (up2 I 38 23 (i32 (q))) 38 25 (i32 q)) 38 24 4) 38 24 2) 38 23 (i32 (q + j)))) (t := t) (n := n) (b := b) (p := q + j) hB (by omega)) ?_
              refine V_go 3 rfl ?_
              try simp only [up2_rd, row2_rd, reduceIte, Nat.reduceEqDiff]
              refine cSI (mt' := mX7_in) rfl kX7_89 fX7_in rfl (Nat.le_of_ble_eq_true rfl) (Nat.le_of_ble_eq_true rfl) (Nat.le_refl _) (c_inI (lo := (48)) (hi := (57)) rfl (by decide +kernel) (by decide +kernel)) ?_
              refine V_if_eq rfl (fun h3 => ?_) (fun h3 => ?_)
              · skip
                refine k235 j (by omega) ?_
                rw [← he, show n - (q + j) = 0 from by omega]
                rfl
              · skip
                exact absurd ((mBt_in (by decide)).mp (b2i_eq1.mp ((b2i_or _).resolve_left h3))).1 (by omega)
            | succ m ih =>
              unfold Hid
              intro j hi0 ⟨he, hd0⟩
              refine V_go 3 rfl ?_
              try simp only [up2_rd, row2_rd, reduceIte, Nat.reduceEqDiff]
              refine cVI (mt' := mX7_byteAt) rfl kX7_162 fX7_byteAt rfl rfl rfl (Nat.le_of_ble_eq_true rfl) (Nat.le_of_ble_eq_true rfl) (Nat.le_of_ble_eq_true rfl) (Nat.le_of_ble_eq_true rfl) (Nat.le_refl _) (c_byteAt (I := (up2 (up2 (up2 (up2 (up2 I 38 23 (i32 (q))) 38 25 (i32 q)) 38 24 4) 38 24 2) 38 23 (i32 (q + j)))) (t := t) (n := n) (b := b) (p := q + j) hB (by omega)) ?_
              refine V_go 3 rfl ?_
              try simp only [up2_rd, row2_rd, reduceIte, Nat.reduceEqDiff]
              refine cSI (mt' := mX7_in) rfl kX7_89 fX7_in rfl (Nat.le_of_ble_eq_true rfl) (Nat.le_of_ble_eq_true rfl) (Nat.le_refl _) (c_inI (lo := (48)) (hi := (57)) rfl (by decide +kernel) (by decide +kernel)) ?_
              refine V_if_eq rfl (fun h3 => ?_) (fun h3 => ?_)
              · skip
                have hx : ¬ (q + j < n ∧ isDi (b (q + j)) = true) := fun z => by
                  rw [b2i_1] at h3
                  · exact absurd h3 (by decide)
                  · exact (mBt_in (by decide)).mpr ⟨z.1, of_decide_eq_true z.2⟩
                refine k235 j (by omega) ?_
                by_cases hqj : q + j < n
                · rw [← he, show n - (q + j) = (n - (q + j) - 1) + 1 from by omega, sk_x (fun z => hx ⟨hqj, z⟩)]
                · rw [← he, show n - (q + j) = 0 from by omega]
                  rfl
              · skip
                have hx := (mBt_in (by decide)).mp (b2i_eq1.mp ((b2i_or _).resolve_left h3))
                have hf : isDi (b (q + j)) = true := decide_eq_true hx.2
                have hnx : sk isDi b (n - (q + (j + 1))) (q + (j + 1)) = sk isDi b (n - q) q := by
                  rw [← he, show n - (q + j) = (n - (q + (j + 1))) + 1 from by omega, sk_s hf]
                  rfl
                have hall : ∀ i, i < j + 1 → isDi (b (q + i)) = true := fun i hi => by
                  by_cases hij : i = j
                  · rw [hij]; exact hf
                  · exact hd0 i (by omega)
                have k216 : ∀ x : Int64, x = (nmb b q (j + 1)).toInt64 → V mX7_next none 2 58 (RVP RF (fun I9 J9 => MTk b n I9 J9 (tkn b n p0) ∧ NFr I J I9 J9)) 216 [(0, .ref 38), (1, .int (b q)), (2, .int (i32 (j)))] [.long x, .ref 38] 58 (up2 (up2 (up2 (up2 (up2 I 38 23 (i32 (q))) 38 25 (i32 q)) 38 24 4) 38 24 2) 38 23 (i32 (q + j))) (up2 J 38 26 (nmb b q (j)).toInt64) RF := by
                  intro x hx9
                  refine V_go 9 rfl ?_
                  simp only [up2_rd, reduceIte, Nat.reduceEqDiff]
                  rw [up2_up2, up2_up2, hx9, ← i32_s, ← i32_s]
                  exact ih.un (j + 1) (by omega) ⟨hnx, hall⟩
                refine V_go 3 rfl ?_
                try simp only [up2_rd, row2_rd, reduceIte, Nat.reduceEqDiff]
                refine V_icmp_ge rfl (fun h11 => ?_) (fun h11 => ?_)
                · skip
                  have hj4 : ¬ j < 4 := fun z => absurd ((i32_le (a := 4) (b := j) (by omega) (by omega)).mp h11) (by omega)
                  refine V_go 2 rfl ?_
                  try simp only [up2_rd, reduceIte, Nat.reduceEqDiff]
                  exact k216 _ (by rw [nmb, if_neg hj4])
                · skip
                  have hj4 : j < 4 := Nat.lt_of_not_le (fun z => h11 ((i32_le (a := 4) (b := j) (by omega) (by omega)).mpr z))
                  refine V_go 7 rfl ?_
                  try simp only [up2_rd, row2_rd, reduceIte, Nat.reduceEqDiff]
                  refine cVI (mt' := mX7_byteAt) rfl kX7_162 fX7_byteAt rfl rfl rfl (Nat.le_of_ble_eq_true rfl) (Nat.le_of_ble_eq_true rfl) (Nat.le_of_ble_eq_true rfl) (Nat.le_of_ble_eq_true rfl) (Nat.le_refl _) (c_byteAt (I := (up2 (up2 (up2 (up2 (up2 I 38 23 (i32 (q))) 38 25 (i32 q)) 38 24 4) 38 24 2) 38 23 (i32 (q + j)))) (t := t) (n := n) (b := b) (p := q + j) hB (by omega)) ?_
                  refine V_go 5 rfl ?_
                  try simp only [up2_rd, row2_rd, reduceIte, Nat.reduceEqDiff]
                  rw [mBt_p hx.1]
                  refine k216 _ ?_
                  have hnm := nmb_ok j hd0
                  have hd9 := of_decide_eq_true hf
                  rw [nmb, if_pos hj4]
                  exact wrt_s hnm.1 (Int32.lt_of_lt_of_le hnm.2 (nmM_3 j hj4)) hd9.1 hd9.2
          refine V_go 8 rfl ?_
          try simp only [up2_rd, reduceIte, Nat.reduceEqDiff]
          have z := (keyD (n - q)).un 0 (by omega) ⟨rfl, fun i hi => absurd hi (Nat.not_lt_zero _)⟩
          rw [show (up2 (up2 (up2 (up2 (up2 I 38 23 (i32 (q))) 38 25 (i32 q)) 38 24 4) 38 24 2) 38 23 (i32 (q + 0))) = up2 (up2 (up2 (up2 I 38 23 (i32 (q))) 38 25 (i32 q)) 38 24 4) 38 24 2 from up2_id rfl] at z
          exact z
      · skip
        have hl1 : isLe (b q) = true := decide_eq_true (b2i_eq1.mp ((b2i_or _).resolve_left h22))
        have keyL : ∀ m, Hid (∀ (p : Nat), p + m = n → (q ≤ p ∧ sk isLe b (n - p) p = sk isLe b (n - q) q) → V mX7_next none 2 58 (RVP RF (fun I9 J9 => MTk b n I9 J9 (tkn b n p0) ∧ NFr I J I9 J9)) 100 [(0, .ref 38), (1, .int (b q))] [] 58 (up2 (up2 (up2 (up2 (up2 I 38 23 (i32 (q))) 38 25 (i32 q)) 38 24 4) 38 24 1) 38 23 (i32 (p))) J RF) := by
          intro m
          induction m with
          | zero =>
            unfold Hid
            intro p hi0 ⟨hqp, he⟩
            refine V_go 3 rfl ?_
            try simp only [up2_rd, row2_rd, reduceIte, Nat.reduceEqDiff]
            refine cVI (mt' := mX7_byteAt) rfl kX7_162 fX7_byteAt rfl rfl rfl (Nat.le_of_ble_eq_true rfl) (Nat.le_of_ble_eq_true rfl) (Nat.le_of_ble_eq_true rfl) (Nat.le_of_ble_eq_true rfl) (Nat.le_refl _) (c_byteAt (I := (up2 (up2 (up2 (up2 (up2 I 38 23 (i32 (q))) 38 25 (i32 q)) 38 24 4) 38 24 1) 38 23 (i32 (p)))) (t := t) (n := n) (b := b) (p := p) hB (by omega)) ?_
            refine V_go 3 rfl ?_
            try simp only [up2_rd, row2_rd, reduceIte, Nat.reduceEqDiff]
            refine cSI (mt' := mX7_in) rfl kX7_89 fX7_in rfl (Nat.le_of_ble_eq_true rfl) (Nat.le_of_ble_eq_true rfl) (Nat.le_refl _) (c_inI (lo := (97)) (hi := (122)) rfl (by decide +kernel) (by decide +kernel)) ?_
            refine V_if_eq rfl (fun h3 => ?_) (fun h3 => ?_)
            · skip
              have hp9 : sk isLe b (n - q) q = p := by
                rw [← he, show n - p = 0 from by omega]
                rfl
              refine V_vret rfl rfl rfl ?_
              refine RVP.mk ⟨?_, ⟨fun o ho => ⟨by simp only [up2_ne ho], by first | rfl | exact up2_ne ho⟩, fun k hk => by
                have k1 : ¬ k = 23 := by omega
                have k2 : ¬ k = 24 := by omega
                have k3 : ¬ k = 25 := by omega
                simp only [up2_rd, reduceIte, if_neg k1, if_neg k2, if_neg k3]⟩⟩
              rw [tkn_1 hsk hqn hl1, hp9]
              exact ⟨rfl, Or.inr (Or.inl ⟨rfl, rfl, rfl, by omega, fun j a1 a2 => sk_all (n - q) q j a1 (by rw [hp9]; exact a2)⟩)⟩
            · skip
              exact absurd ((mBt_in (by decide)).mp (b2i_eq1.mp ((b2i_or _).resolve_left h3))).1 (by omega)
          | succ m ih =>
            unfold Hid
            intro p hi0 ⟨hqp, he⟩
            refine V_go 3 rfl ?_
            try simp only [up2_rd, row2_rd, reduceIte, Nat.reduceEqDiff]
            refine cVI (mt' := mX7_byteAt) rfl kX7_162 fX7_byteAt rfl rfl rfl (Nat.le_of_ble_eq_true rfl) (Nat.le_of_ble_eq_true rfl) (Nat.le_of_ble_eq_true rfl) (Nat.le_of_ble_eq_true rfl) (Nat.le_refl _) (c_byteAt (I := (up2 (up2 (up2 (up2 (up2 I 38 23 (i32 (q))) 38 25 (i32 q)) 38 24 4) 38 24 1) 38 23 (i32 (p)))) (t := t) (n := n) (b := b) (p := p) hB (by omega)) ?_
            refine V_go 3 rfl ?_
            try simp only [up2_rd, row2_rd, reduceIte, Nat.reduceEqDiff]
            refine cSI (mt' := mX7_in) rfl kX7_89 fX7_in rfl (Nat.le_of_ble_eq_true rfl) (Nat.le_of_ble_eq_true rfl) (Nat.le_refl _) (c_inI (lo := (97)) (hi := (122)) rfl (by decide +kernel) (by decide +kernel)) ?_
            refine V_if_eq rfl (fun h3 => ?_) (fun h3 => ?_)
            · skip
              have hx : ¬ (p < n ∧ isLe (b p) = true) := fun z => by
                rw [b2i_1] at h3
                · exact absurd h3 (by decide)
                · exact (mBt_in (by decide)).mpr ⟨z.1, of_decide_eq_true z.2⟩
              have hp9 : sk isLe b (n - q) q = p := by rw [← he, show n - p = (n - p - 1) + 1 from by omega, sk_x (fun z => hx ⟨by omega, z⟩)]
              refine V_vret rfl rfl rfl ?_
              refine RVP.mk ⟨?_, ⟨fun o ho => ⟨by simp only [up2_ne ho], by first | rfl | exact up2_ne ho⟩, fun k hk => by
                have k1 : ¬ k = 23 := by omega
                have k2 : ¬ k = 24 := by omega
                have k3 : ¬ k = 25 := by omega
                simp only [up2_rd, reduceIte, if_neg k1, if_neg k2, if_neg k3]⟩⟩
              rw [tkn_1 hsk hqn hl1, hp9]
              exact ⟨rfl, Or.inr (Or.inl ⟨rfl, rfl, rfl, by omega, fun j a1 a2 => sk_all (n - q) q j a1 (by rw [hp9]; exact a2)⟩)⟩
            · skip
              have hx := (mBt_in (by decide)).mp (b2i_eq1.mp ((b2i_or _).resolve_left h3))
              refine V_go 7 rfl ?_
              try simp only [up2_rd, reduceIte, Nat.reduceEqDiff]
              rw [up2_up2, ← i32_s]
              refine ih.un (p + 1) (by omega) ⟨by omega, ?_⟩
              rw [← he, show n - p = (n - (p + 1)) + 1 from by omega, sk_s (f := isLe) (decide_eq_true hx.2)]
        refine V_go 3 rfl ?_
        try simp only [up2_rd, reduceIte, Nat.reduceEqDiff]
        have z := (keyL (n - q)).un q (by omega) ⟨Nat.le_refl _, rfl⟩
        rw [show (up2 (up2 (up2 (up2 (up2 I 38 23 (i32 (q))) 38 25 (i32 q)) 38 24 4) 38 24 1) 38 23 (i32 q)) = up2 (up2 (up2 (up2 I 38 23 (i32 (q))) 38 25 (i32 q)) 38 24 4) 38 24 1 from up2_id rfl] at z
        exact z
    · skip
      have hqn : n ≤ q := Nat.le_of_not_lt (fun z => h2 (by rw [mBt_p z]; exact (hB.2.2.2.2.2 q z).1))
      refine V_go 8 rfl ?_
      try simp only [up2_rd, reduceIte, Nat.reduceEqDiff]
      refine V_vret rfl rfl rfl ?_
      refine RVP.mk ⟨?_, ⟨fun o ho => ⟨by simp only [up2_ne ho], by first | rfl | exact up2_ne ho⟩, fun k hk => by
        have k1 : ¬ k = 23 := by omega
        have k2 : ¬ k = 24 := by omega
        have k3 : ¬ k = 25 := by omega
        simp only [up2_rd, reduceIte, if_neg k1, if_neg k2, if_neg k3]⟩⟩
      rw [tkn_0 hsk hqn]
      refine ⟨?_, Or.inl ⟨rfl, rfl, rfl⟩⟩
      show I 38 22 = i32 q
      rw [hB.2.2.2.1, show n = q from by omega]
  have keyB : ∀ m, Hid (∀ (p : Nat), p + m = n → sk isBl b (n - p) p = q → V mX7_next none 2 58 (RVP RF (fun I9 J9 => MTk b n I9 J9 (tkn b n p0) ∧ NFr I J I9 J9)) 0 [(0, .ref 38)] [] 58 (up2 I 38 23 (i32 (p))) J RF) := by
    intro m
    induction m with
    | zero =>
      unfold Hid
      intro p hi0 he
      have hp9 : p = n := hi0
      refine V_go 3 rfl ?_
      try simp only [up2_rd, row2_rd, reduceIte, Nat.reduceEqDiff]
      refine cVI (mt' := mX7_byteAt) rfl kX7_162 fX7_byteAt rfl rfl rfl (Nat.le_of_ble_eq_true rfl) (Nat.le_of_ble_eq_true rfl) (Nat.le_of_ble_eq_true rfl) (Nat.le_of_ble_eq_true rfl) (Nat.le_refl _) (c_byteAt (I := (up2 I 38 23 (i32 (p)))) (t := t) (n := n) (b := b) (p := p) hB (by omega)) ?_
      refine V_go 1 rfl ?_
      try simp only [up2_rd, row2_rd, reduceIte, Nat.reduceEqDiff]
      refine V_icmp_eq rfl (fun h2 => ?_) (fun h2 => ?_)
      · skip
        rw [mBt_n (by omega)] at h2
        exact absurd h2 (by decide)
      · skip
        refine V_go 3 rfl ?_
        try simp only [up2_rd, row2_rd, reduceIte, Nat.reduceEqDiff]
        refine cVI (mt' := mX7_byteAt) rfl kX7_162 fX7_byteAt rfl rfl rfl (Nat.le_of_ble_eq_true rfl) (Nat.le_of_ble_eq_true rfl) (Nat.le_of_ble_eq_true rfl) (Nat.le_of_ble_eq_true rfl) (Nat.le_refl _) (c_byteAt (I := (up2 I 38 23 (i32 (p)))) (t := t) (n := n) (b := b) (p := p) hB (by omega)) ?_
        refine V_go 1 rfl ?_
        try simp only [up2_rd, row2_rd, reduceIte, Nat.reduceEqDiff]
        refine V_icmp_ne rfl (fun h4 => ?_) (fun h4 => ?_)
        · skip
          obtain rfl : q = p := by rw [← he, hp9, Nat.sub_self]; rfl
          exact k39
        · skip
          rw [mBt_n (by omega)] at h4
          exact absurd h4 (by decide)
    | succ m ih =>
      unfold Hid
      intro p hi0 he
      have hp8 : p < n := by omega
      refine V_go 3 rfl ?_
      try simp only [up2_rd, row2_rd, reduceIte, Nat.reduceEqDiff]
      refine cVI (mt' := mX7_byteAt) rfl kX7_162 fX7_byteAt rfl rfl rfl (Nat.le_of_ble_eq_true rfl) (Nat.le_of_ble_eq_true rfl) (Nat.le_of_ble_eq_true rfl) (Nat.le_of_ble_eq_true rfl) (Nat.le_refl _) (c_byteAt (I := (up2 I 38 23 (i32 (p)))) (t := t) (n := n) (b := b) (p := p) hB (by omega)) ?_
      refine V_go 1 rfl ?_
      try simp only [up2_rd, row2_rd, reduceIte, Nat.reduceEqDiff]
      refine V_icmp_eq rfl (fun h2 => ?_) (fun h2 => ?_)
      · skip
        rw [mBt_p hp8] at h2
        have hbl : isBl (b p) = true := decide_eq_true (Or.inl h2)
        refine V_go 7 rfl ?_
        try simp only [up2_rd, reduceIte, Nat.reduceEqDiff]
        rw [up2_up2, ← i32_s]
        refine ih.un (p + 1) (by omega) ?_
        rw [← he, show n - p = (n - (p + 1)) + 1 from by omega, sk_s (f := isBl) hbl]
      · skip
        rw [mBt_p hp8] at h2
        have hnb := h2
        refine V_go 3 rfl ?_
        try simp only [up2_rd, row2_rd, reduceIte, Nat.reduceEqDiff]
        refine cVI (mt' := mX7_byteAt) rfl kX7_162 fX7_byteAt rfl rfl rfl (Nat.le_of_ble_eq_true rfl) (Nat.le_of_ble_eq_true rfl) (Nat.le_of_ble_eq_true rfl) (Nat.le_of_ble_eq_true rfl) (Nat.le_refl _) (c_byteAt (I := (up2 I 38 23 (i32 (p)))) (t := t) (n := n) (b := b) (p := p) hB (by omega)) ?_
        refine V_go 1 rfl ?_
        try simp only [up2_rd, row2_rd, reduceIte, Nat.reduceEqDiff]
        refine V_icmp_ne rfl (fun h22 => ?_) (fun h22 => ?_)
        · skip
          rw [mBt_p hp8] at h22
          have hbl : ¬ isBl (b p) = true := fun z => by
            rcases of_decide_eq_true z with y | y
            · exact hnb y
            · exact h22 y
          obtain rfl : q = p := by rw [← he, show n - p = (n - p - 1) + 1 from by omega, sk_x hbl]
          exact k39
        · skip
          rw [mBt_p hp8] at h22
          have hbl : isBl (b p) = true := decide_eq_true (Or.inr h22)
          refine V_go 7 rfl ?_
          try simp only [up2_rd, reduceIte, Nat.reduceEqDiff]
          rw [up2_up2, ← i32_s]
          refine ih.un (p + 1) (by omega) ?_
          rw [← he, show n - p = (n - (p + 1)) + 1 from by omega, sk_s (f := isBl) hbl]
  refine CT_of okX7_next (Nat.le_of_ble_eq_true rfl) ?_
  show V _ _ _ _ _ _ [(0, _)] _ _ _ _ _
  have hs := (keyB (n - p0)).un p0 (by omega) hsk
  rw [← e3, up2_self] at hs
  exact hs

