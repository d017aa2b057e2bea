theorem MC.x {I9 : I2} {tc : Nat} {I : I2} {J : J2} {T : TV} {C : CC} (hM : MC tc I J T C) (h : ∀ o, 39 ≤ o → o ≤ 47 → o ≠ 41 → I9 o = I o) (h38 : ∀ k, k < 46 → I9 38 k = I 38 k) : MC tc I9 J T C := by
  refine ⟨?_, hM.2.1, hM.2.2.same (h38 3 (by omega)) (h 39 (by omega) (by omega) (by omega)) (h 40 (by omega) (by omega) (by omega)) (fun p hp => by have z := hM.2.2.2.2.2.2.2 p hp; rw [h 47 (by omega) (by omega) (by omega)]; exact z)⟩
  rw [cMd_x (fun o h1 h2 => h o (by omega) (by omega) (by omega)) (fun k hk => h38 k (by omega))]
  exact hM.1
theorem p_image {tc n : Nat} {T : TV} {I I1 I9 : I2} {J : J2} {r r9 : Int32} (h : Rl tc n T I J) (a : r = cOf I 7 0 3 ∧ Cq 8 6 (cOf I1 23) (cOf I 7) ∧ I1 0 5 = 1 ∧ ∀ a, a ≠ 0 → a ≠ 4 → (a < 23 ∨ 31 ≤ a) → I1 a = I a) (b : r9 = I1 38 12 ∧ (∀ o, o ≠ 38 → o ≠ 51 → o ≠ 52 → o ≠ 53 → I9 o = I1 o) ∧ (∀ k, k < 46 ∨ 50 < k → I9 38 k = I1 38 k) ∧ (∀ j, j < 8 → I9 51 j = I1 43 j ∧ I9 52 j = I1 44 j) ∧ (∀ j, j < 18 → I9 53 j = I1 45 j) ∧ I9 38 46 = I1 38 12 ∧ I9 38 47 = I1 38 14 ∧ I9 38 48 = I1 38 7 ∧ I9 38 49 = I1 38 8 ∧ I9 38 50 = I1 38 4) : r = r9 ∧ Rl tc n T I9 J := by
  obtain ⟨a1, a2, a3, a4, ⟨a5, a6, a7, a8⟩, a9, -⟩ := id h
  obtain ⟨c1, c2, c3, c4⟩ := a
  obtain ⟨b1, b2, b3, b4, b5, b6, b7, b8, b9, b10⟩ := b
  have e38 : I1 38 = I 38 := c4 38 (by omega) (by omega) (by omega)
  have e43 : I1 43 = I 43 := c4 43 (by omega) (by omega) (by omega)
  have e44 : I1 44 = I 44 := c4 44 (by omega) (by omega) (by omega)
  have e45 : I1 45 = I 45 := c4 45 (by omega) (by omega) (by omega)
  rw [e38] at b1 b6 b7 b8 b9 b10
  rw [e43, e44] at b4
  rw [e45] at b5
  have fo (o : Nat) (h1 : o ≠ 0 ∧ o ≠ 4 ∧ (o < 23 ∨ 31 ≤ o)) (h2 : o ≠ 38 ∧ o ≠ 51 ∧ o ≠ 52 ∧ o ≠ 53) : I9 o = I o := (b2 o h2.1 h2.2.1 h2.2.2.1 h2.2.2.2).trans (c4 o h1.1 h1.2.1 h1.2.2)
  have f38 (k : Nat) (hk : k < 46) : I9 38 k = I 38 k := (b3 k (by omega)).trans (by rw [e38])
  have e7 : cOf I9 7 = cOf I 7 := cOf_eq (fun c h1 h2 => fo c (by omega) (by omega))
  have h1 := fo 1 (by omega) (by omega)
  obtain ⟨n1, n2, n3, n4, n5, n6⟩ := a2.nm
  have q := a2.1
  have e23 : cOf I9 23 = cOf I1 23 := cOf_eq (fun c h1 h2 => b2 c (by omega) (by omega) (by omega) (by omega))
  have f12 : I 38 12 = cOf I 7 0 3 := q.1 3 (by omega)
  have f14 : I 38 14 = cOf I 7 0 4 := q.1 4 (by omega)
  have f7 : I 38 7 = cOf I 7 0 0 := q.1 0 (by omega)
  have f8 : I 38 8 = cOf I 7 0 1 := q.1 1 (by omega)
  have f4 : I 38 4 = cOf I 7 0 2 := q.1 2 (by omega)
  refine ⟨c1.trans (f12.symm.trans b1.symm), Cok.of (by rw [e7]; exact a2.2.1) (a1.2.1.rows h1 (fo 2 (by omega) (by omega)) (fo 3 (by omega) (by omega))) (by rw [h1]; exact a3), by rw [e7]; exact a2.x (fun o h1 h2 h3 => fo o (by omega) (by omega)) f38, by rw [h1]; exact a3, by rw [e7]; exact a4, ⟨by rw [fo 5 (by omega) (by omega)]; exact a5, (f38 6 (by omega)).trans a6, a7, fun j hj => by rw [fo 6 (by omega) (by omega), fo 41 (by omega) (by omega)]; exact a8 j hj⟩, a9.fr (fun o h1 h2 => fo o (by omega) (by omega)) (fun o h1 h2 => fo o (by omega) (by omega)), ?_⟩
  unfold Kept
  rw [e7, e23, b2 0 (by omega) (by omega) (by omega) (by omega)]
  have en : nC (cOf I1 23) = nC (cOf I 7) := c2.nC
  have em : mC (cOf I1 23) = mC (cOf I 7) := c2.mC
  refine Or.inr ⟨by rw [c3]; decide, ⟨?_, ?_, ?_, ?_, ?_⟩, fun j hj => ?_, fun j hj => ?_, a2.2.1.cq c2, by rw [c2.1 0 (by omega)]; exact a4, by omega, fun j hj => c2.2.1 1 j (by omega) (by omega) (by omega)⟩
  · rw [b6, f12, c2.1 3 (by omega)]
  · rw [b7, f14, c2.1 4 (by omega)]
  · rw [b8, f7, c2.1 0 (by omega)]
  · rw [b9, f8, c2.1 1 (by omega)]
  · rw [b10, f4, c2.1 2 (by omega)]
  · rw [en] at hj
    rw [(b4 j (by omega)).1, (b4 j (by omega)).2, c2.2.1 2 j (by omega) (by omega) (by omega), c2.2.1 3 j (by omega) (by omega) (by omega)]
    exact ⟨q.2.1 2 j (by omega) (by omega) hj, q.2.1 3 j (by omega) (by omega) hj⟩
  · rw [em] at hj
    rw [b5 (3 * j) (by omega), b5 (3 * j + 1) (by omega), b5 (3 * j + 2) (by omega), c2.2.2 4 j (by omega) (by omega) (by omega), c2.2.2 5 j (by omega) (by omega) (by omega), c2.2.2 6 j (by omega) (by omega) (by omega)]
    exact ⟨q.2.2 4 j (by omega) (by omega) hj, q.2.2 5 j (by omega) (by omega) hj, q.2.2 6 j (by omega) (by omega) hj⟩
theorem p_back {tc n : Nat} {T : TV} {I I1 I9 : I2} {J : J2} {r r9 : Int32} (h : Rl tc n T I J) (f : Fr 7 I I1) (a : (I 0 5 = 0 ∧ r = -3 ∧ I1 = I) ∨ (¬ I 0 5 = 0 ∧ r = cOf I1 7 0 3 ∧ Cq 8 6 (cOf I1 7) (cOf I 23))) (b : (I1 38 46 = -1 ∧ r9 = -3 ∧ I9 = I1) ∨ (¬ I1 38 46 = -1 ∧ r9 = I1 38 46 ∧ (∀ o, o ≠ 38 → o ≠ 43 → o ≠ 44 → o ≠ 45 → I9 o = I1 o) ∧ (∀ k, k ≠ 12 → k ≠ 14 → k ≠ 7 → k ≠ 8 → k ≠ 4 → I9 38 k = I1 38 k) ∧ (∀ j, j < 8 → I9 43 j = I1 51 j ∧ I9 44 j = I1 52 j) ∧ (∀ j, j < 18 → I9 45 j = I1 53 j) ∧ I9 38 12 = I1 38 46 ∧ I9 38 14 = I1 38 47 ∧ I9 38 7 = I1 38 48 ∧ I9 38 8 = I1 38 49 ∧ I9 38 4 = I1 38 50)) : r = r9 ∧ Rl tc n T I9 J := by
  obtain ⟨a1, a2, a3, a4, a5, a9, hk⟩ := id h
  have e38 : I1 38 = I 38 := f 38 (by omega) (by omega)
  rcases hk with ⟨k1, k2⟩ | ⟨k1, ⟨k2, k3, k4, k5, k6⟩, k7, k8, k9, m1, m2, m3⟩
  · obtain ⟨-, x2, x3⟩ := a.resolve_right (fun z => z.1 k1)
    subst x3
    obtain ⟨-, y2, y3⟩ := b.resolve_right (fun z => z.1 k2)
    subst y3
    exact ⟨x2.trans y2.symm, h⟩
  · obtain ⟨-, x2, x3⟩ := a.resolve_left (fun z => k1 z.1)
    have h46 : ¬ I1 38 46 = -1 := by
      rw [e38, k2]
      exact fun z => absurd k9.2.2.2.1.1 (by rw [z]; decide)
    obtain ⟨-, y2, y3, y4, y5, y6, y7, y8, y9, z1, z2⟩ := b.resolve_left (fun z => h46 z.1)
    rw [e38] at y2 y7 y8 y9 z1 z2
    have e51 : I1 51 = I 51 := f 51 (by omega) (by omega)
    have e52 : I1 52 = I 52 := f 52 (by omega) (by omega)
    have e53 : I1 53 = I 53 := f 53 (by omega) (by omega)
    rw [e51, e52] at y5
    rw [e53] at y6
    have en : nC (cOf I1 7) = nC (cOf I 23) := x3.nC
    have em : mC (cOf I1 7) = mC (cOf I 23) := x3.mC
    have c9 : Cr tc (cOf I1 7) := k9.cq x3
    have n8 : nC (cOf I 23) ≤ 8 := n8_le k9.2.2.2.1
    have n6 : mC (cOf I 23) ≤ 6 := n6_le k9.2.2.2.2.1
    obtain ⟨n1, n2, n3, n4, n5, n6'⟩ := a2.nm
    have hM9 : MC tc I9 J T (cOf I1 7) := by
      refine ⟨⟨fun j hj => ?_, fun g j g1 g2 hj => ?_, fun g j g1 g2 hj => ?_⟩, c9, a2.2.2.same ((y4 3 (by omega) (by omega) (by omega) (by omega) (by omega)).trans (by rw [e38])) ((y3 39 (by omega) (by omega) (by omega) (by omega)).trans (f 39 (by omega) (by omega))) ((y3 40 (by omega) (by omega) (by omega) (by omega)).trans (f 40 (by omega) (by omega))) (fun p hp => by have z := a2.2.2.2.2.2.2.2 p hp; rw [y3 47 (by omega) (by omega) (by omega) (by omega), f 47 (by omega) (by omega)]; exact z)⟩
      · rw [x3.1 j hj]
        match j, hj with
        | 0, _ => exact y9.trans k4
        | 1, _ => exact z1.trans k5
        | 2, _ => exact z2.trans k6
        | 3, _ => exact y7.trans k2
        | 4, _ => exact y8.trans k3
      · rw [en] at hj
        rw [x3.2.1 g j g1 g2 (by omega)]
        have hg : g = 1 ∨ g = 2 ∨ g = 3 := by omega
        rcases hg with rfl | rfl | rfl
        · show I9 42 j = _
          rw [y3 42 (by omega) (by omega) (by omega) (by omega), f 42 (by omega) (by omega), m3 j hj]
          exact a2.1.2.1 1 j (by omega) (by omega) (by omega)
        · exact (y5 j (by omega)).1.trans (k7 j hj).1
        · exact (y5 j (by omega)).2.trans (k7 j hj).2
      · rw [em] at hj
        rw [x3.2.2 g j g1 g2 (by omega)]
        have hg : g = 4 ∨ g = 5 ∨ g = 6 := by omega
        rcases hg with rfl | rfl | rfl
        · exact (y6 (3 * j) (by omega)).trans (k8 j hj).1
        · exact (y6 (3 * j + 1) (by omega)).trans (k8 j hj).2.1
        · exact (y6 (3 * j + 2) (by omega)).trans (k8 j hj).2.2
    refine ⟨?_, h.go f.sc2.frA ⟨fun o ho => y3 o (by omega) (by omega) (by omega) (by omega), fun k hk => y4 k (by omega) (by omega) (by omega) (by omega) (by omega)⟩ hM9 ?_ (by rw [x3.1 0 (by omega)]; exact m1) (fun u v => ⟨by omega, fun j hj => (x3.2.1 1 j (by omega) (by omega) (by omega)).symm⟩)⟩
    · rw [x2, y2, k2, x3.1 3 (by omega)]
    · exact a9.fr (fun o h1 h2 => (y3 o (by omega) (by omega) (by omega) (by omega)).trans (f o (by omega) (by omega))) (fun o h1 h2 => (y3 o (by omega) (by omega) (by omega) (by omega)).trans (f o (by omega) (by omega)))
/-- film, on the way -/
theorem p_film0 {T : TV} {I I1 : I2} {s r : Int32} (a : if 0 ≤ s ∧ s < 4 then r = sGo T (cOf I 7) ∧ ∃ I4, Sq 7 I I4 ∧ I1 = sFilm I4 s.toNatClampNeg r else r = -2 ∧ I1 = I) : ∀ o, 38 ≤ o → I1 o = I o := by
  intro o ho
  by_cases hs : 0 ≤ s ∧ s < 4
  · rw [if_pos hs] at a
    obtain ⟨-, I4, a2, a3⟩ := a
    subst a3
    unfold sFilm fLay
    rw [up2_ne (by omega), row2_ne (by omega), up2_ne (by omega), up2_ne (by omega)]
    exact a2 o (by omega) (by omega)
  · rw [if_neg hs] at a
    rw [a.2]
theorem p_citz {tc n : Nat} {T : TV} {I I1 I9 : I2} {J J9 : J2} {s k fr mm r r9 : Int32} (h : Rl tc n T I J) (f : Fr 7 I I1) (a : r = (sCitz (I 35 s.toNatClampNeg) (I 36 s.toNatClampNeg) (ceOf I s) (cOf I 7) s k fr mm).1 ∧ cOf I1 7 = (sCitz (I 35 s.toNatClampNeg) (I 36 s.toNatClampNeg) (ceOf I s) (cOf I 7) s k fr mm).2) (b : r9 = (sCitz (I 35 s.toNatClampNeg) (I 36 s.toNatClampNeg) (ceOf I s) (cOf I 7) s k fr mm).1 ∧ MC tc I9 J9 T (sCitz (I 35 s.toNatClampNeg) (I 36 s.toNatClampNeg) (ceOf I s) (cOf I 7) s k fr mm).2 ∧ Mp I1 I9) : r = r9 ∧ Rl tc n T I9 J9 := ⟨a.1.trans b.1.symm, h.cg f.sc2 a.2 b.2.2 b.2.1 Gw.citz⟩
theorem Rl.tl {tc n : Nat} {T : TV} {I I1 : I2} {J : J2} (h : Rl tc n T I J) (f : ∀ a, 54 ≤ a → a ≤ 57 → I1 a = I a) {sh : Int32} (hs : 0 ≤ sh ∧ sh ≤ 3) : I1 54 sh.toNatClampNeg = b2i (¬ I 35 sh.toNatClampNeg = -1) ∧ (¬ I 35 sh.toNatClampNeg = -1 → I1 56 sh.toNatClampNeg = I 36 sh.toNatClampNeg ∧ (I 36 sh.toNatClampNeg = 1 → I1 57 (40 * sh.toNatClampNeg) = I 37 (40 * sh.toNatClampNeg))) := by
  obtain ⟨-, c1, c2⟩ := (h.sr1 f).at (lt4le3.mpr hs)
  refine ⟨c1, fun z => ⟨(c2 z).2.1, fun y => ?_⟩⟩
  have e := (c2 z).2.2 0 (by rw [y]; decide)
  rw [Nat.add_zero] at e
  exact e

