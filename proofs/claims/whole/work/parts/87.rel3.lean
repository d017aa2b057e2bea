theorem n8_le {x : Int32} (h : 0 ≤ x ∧ x ≤ 8) : x.toNatClampNeg ≤ 8 := by
  have a1 := ti_n h.1
  have a2 := Int32.le_iff_toInt_le.mp h.2
  rw [show (8 : Int32).toInt = 8 from rfl] at a2
  omega
theorem n6_le {x : Int32} (h : 0 ≤ x ∧ x ≤ 6) : x.toNatClampNeg ≤ 6 := by
  have a1 := ti_n h.1
  have a2 := Int32.le_iff_toInt_le.mp h.2
  rw [show (6 : Int32).toInt = 6 from rfl] at a2
  omega
theorem Cr.cq {tc : Nat} {C K : CC} (h : Cr tc C) (q : Cq 8 6 K C) : Cr tc K := by
  obtain ⟨r0, r1, r2, r3, r4, r5, r6⟩ := h
  have hn : nC C ≤ 8 := by have := n8_le r3; exact this
  have hm : mC C ≤ 6 := by have := n6_le r4; exact this
  have en : nC K = nC C := q.nC
  have em : mC K = mC C := q.mC
  refine ⟨by rw [q.1 0 (by omega)]; exact r0, by rw [q.1 1 (by omega)]; exact r1, by rw [q.1 2 (by omega)]; exact r2, by rw [q.1 3 (by omega)]; exact r3, by rw [q.1 4 (by omega)]; exact r4, fun c hc => ?_, fun i hi => ?_⟩
  · rw [en] at hc
    rw [q.2.1 1 c (by omega) (by omega) (by omega), q.2.1 2 c (by omega) (by omega) (by omega), q.2.1 3 c (by omega) (by omega) (by omega)]
    exact r5 c hc
  · rw [em] at hi
    rw [q.2.2 4 i (by omega) (by omega) (by omega), q.2.2 5 i (by omega) (by omega) (by omega), q.2.2 6 i (by omega) (by omega) (by omega)]
    exact r6 i hi
theorem MC.fed {I9 : I2} {tc : Nat} {I : I2} {J : J2} {T : TV} {C : CC} (hM : MC tc I J T C) (h : ∀ o, 38 ≤ o → o ≠ 41 → o ≠ 38 → I9 o = I o) (h38 : ∀ k, k ≠ 6 → I9 38 k = I 38 k) : MC tc I9 J T C := by
  refine ⟨?_, hM.2.1, hM.2.2.same (h38 3 (by omega)) (h 39 (by omega) (by omega) (by omega)) (h 40 (by omega) (by omega) (by omega)) (fun p hp => by have z := hM.2.2.2.2.2.2.2 p hp; rw [h 47 (by omega) (by omega) (by omega)]; exact z)⟩
  rw [cMd_x (fun o h1 h2 => h o (by omega) (by omega) (by omega)) (fun k hk => h38 k (by omega))]
  exact hM.1
theorem p_feed {tc n : Nat} {T : TV} {I I1 I9 : I2} {J : J2} {x r r9 : Int32} (h : Rl tc n T I J) (a : (((0 ≤ x ∧ x ≤ 255) ∧ (((0 ≤ I 5 2 ∧ I 5 2 < 160) ∧ r = I 5 2 + 1 ∧ I1 = up2 (up2 I 6 (I 5 2).toNatClampNeg x) 5 2 (I 5 2 + 1)) ∨ (¬ (0 ≤ I 5 2 ∧ I 5 2 < 160) ∧ r = -4 ∧ I1 = I))) ∨ (¬ (0 ≤ x ∧ x ≤ 255) ∧ r = -2 ∧ I1 = I))) (b : (((0 ≤ x ∧ x ≤ 255) ∧ ((n < 160 ∧ r9 = i32 (n + 1) ∧ I9 = up2 (up2 I1 41 n x) 38 6 (i32 (n + 1))) ∨ (n = 160 ∧ r9 = -4 ∧ I9 = I1))) ∨ (¬ (0 ≤ x ∧ x ≤ 255) ∧ r9 = -2 ∧ I9 = I1))) : r = r9 ∧ ∃ n9, Rl tc n9 T I9 J := by
  obtain ⟨a1, a2, a3, a4, ⟨a5, a6, a7, a8⟩, a9, b1⟩ := id h
  have hn160 : (0 ≤ I 5 2 ∧ I 5 2 < 160) ↔ n < 160 := by
    rw [a5]
    exact ⟨fun z => (i32_lt (b := 160) (by omega) (by omega)).mp z.2, fun z => ⟨i32_nn n (by omega), (i32_lt (b := 160) (by omega) (by omega)).mpr z⟩⟩
  rcases a with ⟨hx, a⟩ | ⟨hx, e1, e2⟩
  · have b := (b.resolve_right (fun z => z.1 hx)).2
    rcases a with ⟨k1, k2, k3⟩ | ⟨k1, k2, k3⟩
    · have hn := hn160.mp k1
      obtain ⟨-, c2, c3⟩ := b.resolve_right (fun z => by omega)
      rw [a5, tn_of (by omega), ← i32_s] at k3
      rw [a5, ← i32_s] at k2
      subst k3
      subst c3
      refine ⟨k2.trans c2.symm, n + 1, ?_⟩
      have f (o : Nat) (ho : o ≠ 5 ∧ o ≠ 6 ∧ o ≠ 41 ∧ o ≠ 38) : up2 (up2 (up2 (up2 I 6 n x) 5 2 (i32 (n + 1))) 41 n x) 38 6 (i32 (n + 1)) o = I o := by
        rw [up2_ne (by omega), up2_ne (by omega), up2_ne (by omega), up2_ne (by omega)]
      have f38 (k : Nat) (hk : k ≠ 6) : up2 (up2 (up2 (up2 I 6 n x) 5 2 (i32 (n + 1))) 41 n x) 38 6 (i32 (n + 1)) 38 k = I 38 k := by
        simp only [up2_rd, reduceIte, Nat.reduceEqDiff]
        rw [if_neg hk]
      have e7 : cOf (up2 (up2 (up2 (up2 I 6 n x) 5 2 (i32 (n + 1))) 41 n x) 38 6 (i32 (n + 1))) 7 = cOf I 7 := cOf_eq (fun c h1 h2 => f c (by omega))
      have h1 := (f 1 (by omega))
      refine ⟨Cok.of (by rw [e7]; exact a2.2.1) (a1.2.1.rows h1 (f 2 (by omega)) (f 3 (by omega))) (by rw [h1]; exact a3), by rw [e7]; exact a2.fed (fun o h1 h2 h3 => f o (by omega)) f38, by rw [h1]; exact a3, by rw [e7]; exact a4, ⟨rfl, rfl, by omega, fun j hj => ?_⟩, a9.fr (fun o h1 h2 => f o (by omega)) (fun o h1 h2 => f o (by omega)), ?_⟩
      · simp only [up2_rd, reduceIte, Nat.reduceEqDiff]
        by_cases hj2 : j = n
        · rw [if_pos hj2, if_pos hj2]; exact ⟨rfl, hx⟩
        · rw [if_neg hj2, if_neg hj2]; exact a8 j (by omega)
      · rw [e7]
        exact b1.fr (f 0 (by omega)) (cOf_eq (fun c h1 h2 => f c (by omega))) (fun k h1 h2 => f38 k (by omega)) (fun o h1 h2 => f o (by omega)) (fun u v => ⟨u, v⟩)
    · have hn : ¬ n < 160 := fun z => k1 (hn160.mpr z)
      obtain ⟨-, c2, c3⟩ := b.resolve_left (fun z => hn z.1)
      subst k3
      subst c3
      exact ⟨k2.trans c2.symm, n, h⟩
  · obtain ⟨-, c2, c3⟩ := b.resolve_left (fun z => hx z.1)
    subst e2
    subst c3
    exact ⟨e1.trans c2.symm, n, h⟩
theorem tAdd_c {T : TV} {t n : Nat} {b b' : Nat → Int32} (hb : ∀ i, i < n → b i = b' i) : tAdd T t b n = tAdd T t b' n := by
  funext r part c0 c1 c2 c3 c4 c5
  unfold tAdd tVal
  rw [pRd_c hb]
theorem p_text {tc n : Nat} {T : TV} {I I1 I9 : I2} {J J9 : J2} {r r9 : Int32} (h : Rl tc n T I J) (a : (tc = 6 ∧ r = -4 ∧ I1 = I) ∨ (tc < 6 ∧ TxP tc n (I 6) I r I1)) (b : TxM7 tc n I1 T (cOf I 7) r9 I9 J9) : r = r9 ∧ ∃ tc9 n9 T9, Rl tc9 n9 T9 I9 J9 := by
  obtain ⟨a1, a2, a3, a4, ⟨a5, a6, a7, a8⟩, a9, b1⟩ := id h
  obtain ⟨m1, m2⟩ := b
  rcases a with ⟨t6, e1, e2⟩ | ⟨t6, hx⟩
  · obtain ⟨-, c2, c3, c4⟩ := m2.resolve_right (fun z => by omega)
    subst e2
    refine ⟨e1.trans c2.symm, tc, n, T, ?_⟩
    refine h.go (I1 := I1) (fun _ _ => rfl) ⟨fun o ho => m1.1 o (by omega), fun k hk => ?_⟩ c4 (a9.fr (fun o h1 h2 => m1.1 o (by omega)) (fun o h1 h2 => m1.1 o (by omega))) a4 (fun u v => ⟨u, v⟩)
    rcases hk with rfl | hk
    · exact c3
    · exact m1.2 k hk
  · obtain ⟨-, d6, d7⟩ := m2.resolve_left (fun z => by omega)
    have hev := a1.2.1.text a3 t6 hx
    obtain ⟨x1, ⟨x2, -, -⟩, x3⟩ := hx
    have e41 : I1 41 = I 41 := x2 41 (by omega) (by omega) (by omega) (by omega)
    rw [e41] at d7
    have hbc : ∀ i, i < n → I 6 i = I 41 i := fun i hi => (a8 i hi).1
    have fo (o : Nat) (h1 : o ≠ 1 ∧ o ≠ 2 ∧ o ≠ 3 ∧ o ≠ 5) (h2 : o < 38 ∨ o = 41 ∨ 51 ≤ o) : I9 o = I o := (m1.1 o h2).trans (x2 o h1.1 h1.2.1 h1.2.2.1 h1.2.2.2)
    have f38 (k : Nat) (h1 : 46 ≤ k) (h2 : k ≤ 50) : I9 38 k = I 38 k := (m1.2 k ⟨h1, h2⟩).trans (by rw [x2 38 (by omega) (by omega) (by omega) (by omega)])
    have e7 : cOf I9 7 = cOf I 7 := cOf_eq (fun c h1 h2 => fo c (by omega) (by omega))
    have k9 : Kept tc I9 (cOf I 7) := b1.fr (fo 0 (by omega) (by omega)) (cOf_eq (fun c h1 h2 => fo c (by omega) (by omega))) (fun k h1 h2 => f38 k h1 h2) (fun o h1 h2 => fo o (by omega) (by omega)) (fun u v => ⟨u, v⟩)
    have s9 : SR I9 I9 := a9.fr (fun o h1 h2 => fo o (by omega) (by omega)) (fun o h1 h2 => fo o (by omega) (by omega))
    have h52 : I9 5 2 = i32 0 := by rw [m1.1 5 (by omega)]; exact x1
    rcases d7 with ⟨y1, y2, y3⟩ | ⟨y1, y2, y3⟩
    · have z1 := (pOkT_c hbc).mpr y1
      obtain ⟨-, w2, w3, -⟩ := x3.resolve_right (fun z => z.1 z1)
      have hE := hev.1 z1
      rw [tAdd_c hbc] at hE
      refine ⟨w2.trans y2.symm, tc + 1, 0, tAdd T tc (I 41) n, ?_⟩
      have h10 : I9 1 0 = i32 (tc + 1) := by rw [m1.1 1 (by omega)]; exact w3
      refine ⟨Cok.of (by rw [e7]; exact y3.2.1) (hE.rows (m1.1 1 (by omega)) (m1.1 2 (by omega)) (m1.1 3 (by omega))) h10, by rw [e7]; exact y3, h10, by rw [e7]; exact a4, ⟨h52, d6, by omega, fun j hj => by omega⟩, s9, by rw [e7]; exact k9.add t6⟩
    · have z1 : ¬ pOkT (I 6) n := fun z => y1 ((pOkT_c hbc).mp z)
      obtain ⟨-, w2, w3⟩ := x3.resolve_left (fun z => z1 z.1)
      have hE := hev.2 z1
      refine ⟨by rw [w2, y2, pRd_c hbc], tc, 0, T, ?_⟩
      have h10 : I9 1 0 = i32 tc := by rw [m1.1 1 (by omega)]; exact w3
      exact ⟨Cok.of (by rw [e7]; exact y3.2.1) (hE.rows (m1.1 1 (by omega)) (m1.1 2 (by omega)) (m1.1 3 (by omega))) h10, by rw [e7]; exact y3, h10, by rw [e7]; exact a4, ⟨h52, d6, by omega, fun j hj => by omega⟩, s9, by rw [e7]; exact k9⟩

