theorem law_go {L9 i : Nat} (hL : L9 ≤ 3072) (hi : i < 10000) : (i32 L9 - 6 < i32 i) ↔ L9 < i + 6 := by
  have a1 : (i32 L9).toInt = (L9 : Int) := Int32.toInt_ofNat_of_lt (by omega)
  have a2 : (i32 i).toInt = (i : Int) := Int32.toInt_ofNat_of_lt (by omega)
  have a3 : (6 : Int32).toInt = 6 := rfl
  rw [Int32.lt_iff_toInt_lt, sub_i (by omega) (by omega) (by omega) (by omega), a1, a2, a3]
  omega
set_option maxRecDepth 20000 in
theorem law_loop {L9 : Nat} {xs : Nat → Int32} {Q : QT} (hL : L9 ≤ 3072) (hQ : ∀ (I : I2) (J : J2), Q (some (.int 1)) I J RF) : ∀ (m i : Nat) (I : I2) (J : J2) (tc n : Nat) (T : TV), L9 < i + 6 * m → i < 4000 → Rl tc n T I J → V mL_law (some (L9, xs)) 53 58 Q 18 [(0, .ref 4000), (1, .ref 0), (2, .ref 38), (3, .int (i32 (i)))] [] 58 I J RF := by
  intro m
  induction m with
  | zero =>
    intro i I J tc n T hm hi h
    refine V_go 2 rfl ?_
    refine V_slen rfl ?_
    refine V_go 2 rfl ?_
    refine V_icmp_gt rfl (fun h1 => ?_) (fun h1 => ?_)
    · refine V_go 1 rfl ?_
      refine V_zret rfl rfl rfl (Or.inr rfl) ?_
      exact hQ I J
    · exact absurd ((law_go hL (by omega)).mpr (by omega)) h1
  | succ m ih =>
    intro i I J tc n T hm hi h
    refine V_go 2 rfl ?_
    refine V_slen rfl ?_
    refine V_go 2 rfl ?_
    refine V_icmp_gt rfl (fun h1 => ?_) (fun h1 => ?_)
    · refine V_go 1 rfl ?_
      refine V_zret rfl rfl rfl (Or.inr rfl) ?_
      exact hQ I J
    have hi6 : ¬ L9 < i + 6 := fun z => h1 ((law_go hL (by omega)).mpr z)
    have kk : ∀ (I9 : I2) (J9 : J2) (tc9 n9 : Nat) (T9 : TV), Rl tc9 n9 T9 I9 J9 → V mL_law (some (L9, xs)) 53 58 Q 1002 [(0, .ref 4000), (1, .ref 0), (2, .ref 38), (3, .int (i32 (i)))] [] 58 I9 J9 RF := fun I9 J9 tc9 n9 T9 h9 => by
      refine V_go 2 rfl ?_
      refine V.st (L' := [(0, .ref 4000), (1, .ref 0), (2, .ref 38), (3, .int (i32 (i + 6)))]) (ih (i + 6) I9 J9 tc9 n9 T9 (by omega) (by omega) h9) rfl ?_
      rw [i32_add]
      exact fun _ z => z
    have hI0 : inb (i32 i) L9 := inb_i32 (by omega) (by omega)
    have hI1 : inb (i32 i + 1) L9 := by
      have z := inb_i32 (k := i + 1) (len := L9) (by omega) (by omega)
      rw [i32_add] at z
      exact z
    have hI2 : inb (i32 i + 2) L9 := by
      have z := inb_i32 (k := i + 2) (len := L9) (by omega) (by omega)
      rw [i32_add] at z
      exact z
    have hI3 : inb (i32 i + 3) L9 := by
      have z := inb_i32 (k := i + 3) (len := L9) (by omega) (by omega)
      rw [i32_add] at z
      exact z
    have hI4 : inb (i32 i + 4) L9 := by
      have z := inb_i32 (k := i + 4) (len := L9) (by omega) (by omega)
      rw [i32_add] at z
      exact z
    have hI5 : inb (i32 i + 5) L9 := by
      have z := inb_i32 (k := i + 5) (len := L9) (by omega) (by omega)
      rw [i32_add] at z
      exact z
    refine V_go 2 rfl ?_
    refine V_sld rfl hI0 ?_
    refine V_go 2 rfl ?_
    refine V_tswC (v := 0) rfl (by decide) (by decide) rfl (fun _ => ?_) (fun hv0 => ?_)
    · exact law_set hI1 hI2 hI3 hI4 hI5 h kk
    refine V_tswC (v := 1) rfl (by decide) (by decide) rfl (fun _ => ?_) (fun hv1 => ?_)
    · exact law_citizen hI1 hI2 hI3 hI4 hI5 h kk
    refine V_tswC (v := 2) rfl (by decide) (by decide) rfl (fun _ => ?_) (fun hv2 => ?_)
    · exact law_business hI1 hI2 hI3 hI4 hI5 h kk
    refine V_tswC (v := 3) rfl (by decide) (by decide) rfl (fun _ => ?_) (fun hv3 => ?_)
    · exact law_told hI1 hI2 hI3 hI4 hI5 h kk
    refine V_tswC (v := 4) rfl (by decide) (by decide) rfl (fun _ => ?_) (fun hv4 => ?_)
    · exact law_feed hI1 hI2 hI3 hI4 hI5 h kk
    refine V_tswC (v := 5) rfl (by decide) (by decide) rfl (fun _ => ?_) (fun hv5 => ?_)
    · exact law_text hI1 hI2 hI3 hI4 hI5 h kk
    refine V_tswC (v := 6) rfl (by decide) (by decide) rfl (fun _ => ?_) (fun hv6 => ?_)
    · exact law_force hI1 hI2 hI3 hI4 hI5 h kk
    refine V_tswC (v := 7) rfl (by decide) (by decide) rfl (fun _ => ?_) (fun hv7 => ?_)
    · exact law_list hI1 hI2 hI3 hI4 hI5 h kk
    refine V_tswC (v := 8) rfl (by decide) (by decide) rfl (fun _ => ?_) (fun hv8 => ?_)
    · exact law_by hI1 hI2 hI3 hI4 hI5 h kk
    refine V_tswC (v := 9) rfl (by decide) (by decide) rfl (fun _ => ?_) (fun hv9 => ?_)
    · exact law_sit hI1 hI2 hI3 hI4 hI5 h kk
    refine V_tswC (v := 10) rfl (by decide) (by decide) rfl (fun _ => ?_) (fun hv10 => ?_)
    · exact law_run hI1 hI2 hI3 hI4 hI5 h kk
    refine V_tswC (v := 11) rfl (by decide) (by decide) rfl (fun _ => ?_) (fun hv11 => ?_)
    · exact law_shortest hI1 hI2 hI3 hI4 hI5 h kk
    refine V_tswC (v := 12) rfl (by decide) (by decide) rfl (fun _ => ?_) (fun hv12 => ?_)
    · exact law_fewest hI1 hI2 hI3 hI4 hI5 h kk
    refine V_tswC (v := 13) rfl (by decide) (by decide) rfl (fun _ => ?_) (fun hv13 => ?_)
    · exact law_soonest hI1 hI2 hI3 hI4 hI5 h kk
    refine V_tswC (v := 14) rfl (by decide) (by decide) rfl (fun _ => ?_) (fun hv14 => ?_)
    · exact law_bribe hI1 hI2 hI3 hI4 hI5 h kk
    refine V_tswC (v := 15) rfl (by decide) (by decide) rfl (fun _ => ?_) (fun hv15 => ?_)
    · exact law_order hI1 hI2 hI3 hI4 hI5 h kk
    refine V_tswC (v := 16) rfl (by decide) (by decide) rfl (fun _ => ?_) (fun hv16 => ?_)
    · exact law_turned hI1 hI2 hI3 hI4 hI5 h kk
    refine V_tswC (v := 17) rfl (by decide) (by decide) rfl (fun _ => ?_) (fun hv17 => ?_)
    · exact law_tells hI1 hI2 hI3 hI4 hI5 h kk
    refine V_tswC (v := 18) rfl (by decide) (by decide) rfl (fun _ => ?_) (fun hv18 => ?_)
    · exact law_film hI1 hI2 hI3 hI4 hI5 h kk
    refine V_tswC (v := 19) rfl (by decide) (by decide) rfl (fun _ => ?_) (fun hv19 => ?_)
    · exact law_drawn hI1 hI2 hI3 hI4 hI5 h kk
    refine V_tswC (v := 20) rfl (by decide) (by decide) rfl (fun _ => ?_) (fun hv20 => ?_)
    · exact law_chance hI1 hI2 hI3 hI4 hI5 h kk
    refine V_tswC (v := 21) rfl (by decide) (by decide) rfl (fun _ => ?_) (fun hv21 => ?_)
    · exact law_image hI1 hI2 hI3 hI4 hI5 h kk
    refine V_tswC (v := 22) rfl (by decide) (by decide) rfl (fun _ => ?_) (fun hv22 => ?_)
    · exact law_back hI1 hI2 hI3 hI4 hI5 h kk
    refine V_tswC (v := 23) rfl (by decide) (by decide) rfl (fun _ => ?_) (fun hv23 => ?_)
    · exact law_count hI1 hI2 hI3 hI4 hI5 h kk
    refine V_tswC (v := 24) rfl (by decide) (by decide) rfl (fun _ => ?_) (fun hv24 => ?_)
    · exact law_sheet hI1 hI2 hI3 hI4 hI5 h kk
    refine V_tswC (v := 25) rfl (by decide) (by decide) rfl (fun _ => ?_) (fun hv25 => ?_)
    · exact law_cell hI1 hI2 hI3 hI4 hI5 h kk
    refine V_tswC (v := 26) rfl (by decide) (by decide) rfl (fun _ => ?_) (fun hv26 => ?_)
    · exact law_copy hI1 hI2 hI3 hI4 hI5 h kk
    refine V_tswC (v := 27) rfl (by decide) (by decide) rfl (fun _ => ?_) (fun hv27 => ?_)
    · exact law_citizens hI1 hI2 hI3 hI4 hI5 h kk
    refine V_tswC (v := 28) rfl (by decide) (by decide) rfl (fun _ => ?_) (fun hv28 => ?_)
    · exact law_taken hI1 hI2 hI3 hI4 hI5 h kk
    refine V_tswD rfl (by decide) (by decide) (t9 := 1002) rfl (by have q0 := lv_neT hv0 (a := 0) (by decide); have q1 := lv_neT hv1 (a := 1) (by decide); have q2 := lv_neT hv2 (a := 2) (by decide); have q3 := lv_neT hv3 (a := 3) (by decide); have q4 := lv_neT hv4 (a := 4) (by decide); have q5 := lv_neT hv5 (a := 5) (by decide); have q6 := lv_neT hv6 (a := 6) (by decide); have q7 := lv_neT hv7 (a := 7) (by decide); have q8 := lv_neT hv8 (a := 8) (by decide); have q9 := lv_neT hv9 (a := 9) (by decide); have q10 := lv_neT hv10 (a := 10) (by decide); have q11 := lv_neT hv11 (a := 11) (by decide); have q12 := lv_neT hv12 (a := 12) (by decide); have q13 := lv_neT hv13 (a := 13) (by decide); have q14 := lv_neT hv14 (a := 14) (by decide); have q15 := lv_neT hv15 (a := 15) (by decide); have q16 := lv_neT hv16 (a := 16) (by decide); have q17 := lv_neT hv17 (a := 17) (by decide); have q18 := lv_neT hv18 (a := 18) (by decide); have q19 := lv_neT hv19 (a := 19) (by decide); have q20 := lv_neT hv20 (a := 20) (by decide); have q21 := lv_neT hv21 (a := 21) (by decide); have q22 := lv_neT hv22 (a := 22) (by decide); have q23 := lv_neT hv23 (a := 23) (by decide); have q24 := lv_neT hv24 (a := 24) (by decide); have q25 := lv_neT hv25 (a := 25) (by decide); have q26 := lv_neT hv26 (a := 26) (by decide); have q27 := lv_neT hv27 (a := 27) (by decide); have q28 := lv_neT hv28 (a := 28) (by decide); omega) ?_
    exact kk I J tc n T h

