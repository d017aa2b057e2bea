/-! THE TWO SIDE BY SIDE: the class at 0 .. 37, the model at 38 .. 57 -/
theorem cOf_eq {I I9 : I2} {o : Nat} (h : ∀ a, o ≤ a → a ≤ o + 7 → I9 a = I a) : cOf I9 o = cOf I o := by
  funext g j
  simp only [cOf, h o (by omega) (by omega), h (o + 2) (by omega) (by omega), h (o + 3) (by omega) (by omega), h (o + 4) (by omega) (by omega), h (o + 5) (by omega) (by omega), h (o + 6) (by omega) (by omega), h (o + 7) (by omega) (by omega)]
/-- the image of the class and that of the model -/
def Kept (tc : Nat) (I : I2) (C : CC) : Prop := (I 0 5 = 0 ∧ I 38 46 = -1) ∨ (¬ I 0 5 = 0 ∧ (I 38 46 = cOf I 23 0 3 ∧ I 38 47 = cOf I 23 0 4 ∧ I 38 48 = cOf I 23 0 0 ∧ I 38 49 = cOf I 23 0 1 ∧ I 38 50 = cOf I 23 0 2) ∧ (∀ j, j < nC (cOf I 23) → I 51 j = cOf I 23 2 j ∧ I 52 j = cOf I 23 3 j) ∧ (∀ j, j < mC (cOf I 23) → I 53 (3 * j) = cOf I 23 4 j ∧ I 53 (3 * j + 1) = cOf I 23 5 j ∧ I 53 (3 * j + 2) = cOf I 23 6 j) ∧ Cr tc (cOf I 23) ∧ cOf I 23 0 0 ≤ 999 ∧ nC (cOf I 23) ≤ nC C ∧ ∀ j, j < nC (cOf I 23) → cOf I 23 1 j = C 1 j)
theorem Kept.fr {tc : Nat} {I I9 : I2} {C C9 : CC} (h : Kept tc I C) (e0 : I9 0 = I 0) (e23 : cOf I9 23 = cOf I 23) (e38 : ∀ k, 46 ≤ k → k ≤ 50 → I9 38 k = I 38 k) (e5 : ∀ o, 51 ≤ o → o ≤ 53 → I9 o = I o) (hn : nC (cOf I 23) ≤ nC C → (∀ j, j < nC (cOf I 23) → cOf I 23 1 j = C 1 j) → nC (cOf I 23) ≤ nC C9 ∧ ∀ j, j < nC (cOf I 23) → cOf I 23 1 j = C9 1 j) : Kept tc I9 C9 := by
  unfold Kept
  rw [e0, e23, e38 46 (by omega) (by omega), e38 47 (by omega) (by omega), e38 48 (by omega) (by omega), e38 49 (by omega) (by omega), e38 50 (by omega) (by omega), e5 51 (by omega) (by omega), e5 52 (by omega) (by omega), e5 53 (by omega) (by omega)]
  rcases h with h | ⟨a1, a2, a3, a4, a5, a6, a7, a8⟩
  · exact Or.inl h
  · obtain ⟨b1, b2⟩ := hn a7 a8
    exact Or.inr ⟨a1, a2, a3, a4, a5, a6, b1, b2⟩
theorem Kept.add {tc : Nat} {I : I2} {C : CC} (h : Kept tc I C) (ht : tc < 6) : Kept (tc + 1) I C := by
  rcases h with h | ⟨a1, a2, a3, a4, a5, a6⟩
  · exact Or.inl h
  · exact Or.inr ⟨a1, a2, a3, a4, a5.add ht, a6⟩
/-- they agree -/
def Rl (tc n : Nat) (T : TV) (I : I2) (J : J2) : Prop := Cok I 7 T ∧ MC tc I J T (cOf I 7) ∧ I 1 0 = i32 tc ∧ cOf I 7 0 0 ≤ 999 ∧ (I 5 2 = i32 n ∧ I 38 6 = i32 n ∧ n ≤ 160 ∧ ∀ j, j < n → I 6 j = I 41 j ∧ 0 ≤ I 41 j ∧ I 41 j ≤ 255) ∧ SR I I ∧ Kept tc I (cOf I 7)
def FrA (I I1 : I2) : Prop := ∀ a, a < 4 ∨ a = 5 ∨ a = 6 ∨ (23 ≤ a ∧ a ≤ 30) ∨ 38 ≤ a → I1 a = I a
theorem MC.hi {tc : Nat} {I I1 : I2} {J : J2} {T : TV} {C : CC} (hM : MC tc I J T C) (h : ∀ a, 38 ≤ a → I1 a = I a) : MC tc I1 J T C := by
  refine hM.re (hM.2.2.same (by rw [h 38 (by omega)]) (h 39 (by omega)) (h 40 (by omega)) (fun p hp => by have z := hM.2.2.2.2.2.2.2 p hp; rw [h 47 (by omega)]; exact z)) (fun j hj => by rw [h 45 (by omega)]) (fun o h1 h2 => h o (by omega)) (fun k hk => by rw [h 38 (by omega)])
theorem Rl.mid {tc n : Nat} {T : TV} {I I1 : I2} {J : J2} (h : Rl tc n T I J) (f : FrA I I1) : MC tc I1 J T (cOf I 7) := h.2.1.hi (fun a ha => f a (by omega))
theorem Cok.of {tc : Nat} {T : TV} {I : I2} (h : Cr tc (cOf I 7)) (hE : EvC I T) (h1 : I 1 0 = i32 tc) : Cok I 7 T := ⟨Or.inl rfl, hE, h.2.2.1.1, by rw [h1]; exact h.2.2.1.2, h.2.2.2.1.1, h.2.2.2.1.2, h.2.2.2.2.1.1, h.2.2.2.2.1.2⟩
theorem Rl.go {tc n : Nat} {T : TV} {I I1 I9 : I2} {J J9 : J2} (h : Rl tc n T I J) (f : FrA I I1) (q : Mq I1 I9) (hM : MC tc I9 J9 T (cOf I1 7)) (hS : SR I9 I9) (h9 : cOf I1 7 0 0 ≤ 999) (hk : nC (cOf I 23) ≤ nC (cOf I 7) → (∀ j, j < nC (cOf I 23) → cOf I 23 1 j = cOf I 7 1 j) → nC (cOf I 23) ≤ nC (cOf I1 7) ∧ ∀ j, j < nC (cOf I 23) → cOf I 23 1 j = cOf I1 7 1 j) : Rl tc n T I9 J9 := by
  obtain ⟨a1, a2, a3, a4, ⟨a5, a6, a7, a8⟩, a9, b1⟩ := h
  have e7 : cOf I9 7 = cOf I1 7 := cOf_eq (fun a h1 h2 => q.1 a (by omega))
  have e (a : Nat) (ha : a < 4 ∨ a = 5 ∨ a = 6 ∨ (23 ≤ a ∧ a ≤ 30) ∨ a = 41 ∨ (51 ≤ a ∧ a ≤ 53)) : I9 a = I a := (q.1 a (by omega)).trans (f a (by omega))
  have e38 (k : Nat) (hk : k = 6 ∨ 46 ≤ k ∧ k ≤ 50) : I9 38 k = I 38 k := (q.2 k hk).trans (by rw [f 38 (by omega)])
  have h1 : I9 1 0 = i32 tc := by rw [e 1 (by omega)]; exact a3
  refine ⟨Cok.of (by rw [e7]; exact hM.2.1) (a1.2.1.rows (e 1 (by omega)) (e 2 (by omega)) (e 3 (by omega))) h1, by rw [e7]; exact hM, h1, by rw [e7]; exact h9, ⟨by rw [e 5 (by omega)]; exact a5, (e38 6 (by omega)).trans a6, a7, fun j hj => by rw [e 6 (by omega), e 41 (by omega)]; exact a8 j hj⟩, hS, ?_⟩
  rw [e7]
  exact b1.fr (e 0 (by omega)) (cOf_eq (fun a h1 h2 => e a (by omega))) (fun k h1 h2 => e38 k (by omega)) (fun o h1 h2 => e o (by omega)) hk
theorem Sc2.frA {I I1 : I2} (h : Sc2 I I1) : FrA I I1 := fun a ha => h a (by omega) (by omega) (by omega) (by omega) (by omega)
theorem Rl.c {tc n : Nat} {T : TV} {I I1 I9 : I2} {J J9 : J2} {C9 : CC} (h : Rl tc n T I J) (f : Sc2 I I1) (e : cOf I1 7 = C9) (q : Mp I1 I9) (hM : MC tc I9 J9 T C9) (h9 : C9 0 0 ≤ 999) (hn : nC (cOf I 7) ≤ nC C9) (hk : ∀ j, j < nC (cOf I 7) → C9 1 j = cOf I 7 1 j) : Rl tc n T I9 J9 := by
  subst e
  refine h.go f.frA q.mq hM ?_ h9 (fun k1 k2 => ⟨by omega, fun j hj => (k2 j hj).trans (hk j (by omega)).symm⟩)
  exact h.2.2.2.2.2.1.fr (fun o h1 h2 => (q.1 o (by omega)).trans (f o (by omega) (by omega) (by omega) (by omega) (by omega))) (fun o h1 h2 => (q.1 o (by omega)).trans (f o (by omega) (by omega) (by omega) (by omega) (by omega)))
/-- what is only asked -/
theorem Rl.q {tc n : Nat} {T : TV} {I I1 I9 : I2} {J J9 : J2} (h : Rl tc n T I J) (f : Scr I I1) (q : Mp I1 I9) (hM : MC tc I9 J9 T (cOf I 7)) : Rl tc n T I9 J9 := by
  have e : cOf I1 7 = cOf I 7 := by
    funext g j
    simp only [cOf, f 7 (by omega) (by omega) (by omega) (by omega) (by omega) (by omega), f (7 + 2) (by omega) (by omega) (by omega) (by omega) (by omega) (by omega), f (7 + 3) (by omega) (by omega) (by omega) (by omega) (by omega) (by omega), f (7 + 4) (by omega) (by omega) (by omega) (by omega) (by omega) (by omega), f (7 + 5) (by omega) (by omega) (by omega) (by omega) (by omega) (by omega), f (7 + 6) (by omega) (by omega) (by omega) (by omega) (by omega) (by omega), f (7 + 7) (by omega) (by omega) (by omega) (by omega) (by omega) (by omega)]
  exact h.c f.sc2 e q hM h.2.2.2.1 (Nat.le_refl _) (fun _ _ => rfl)
theorem Rl.midq {tc n : Nat} {T : TV} {I I1 : I2} {J : J2} (h : Rl tc n T I J) (f : Scr I I1) : MC tc I1 J T (cOf I 7) := h.mid f.sc2.frA
theorem Rl.midc {tc n : Nat} {T : TV} {I I1 : I2} {J : J2} (h : Rl tc n T I J) (f : Sc2 I I1) : MC tc I1 J T (cOf I 7) := h.mid f.frA
/-- of the sheets -/
theorem Rl.s {tc n : Nat} {T : TV} {I I1 I9 : I2} {J J9 : J2} (h : Rl tc n T I J) (f : ∀ a, a ≠ 4 → a ≠ 8 → a < 35 ∨ 37 < a → I1 a = I a) (q : Mq I1 I9) (hM : MC tc I9 J9 T (cOf I 7)) (hS : SR I9 I1) : Rl tc n T I9 J9 := by
  have e : cOf I1 7 = cOf I 7 := by
    funext g j
    simp only [cOf, f 7 (by omega) (by omega) (by omega), f (7 + 2) (by omega) (by omega) (by omega), f (7 + 3) (by omega) (by omega) (by omega), f (7 + 4) (by omega) (by omega) (by omega), f (7 + 5) (by omega) (by omega) (by omega), f (7 + 6) (by omega) (by omega) (by omega), f (7 + 7) (by omega) (by omega) (by omega)]
  refine h.go (fun a ha => f a (by omega) (by omega) (by omega)) q (by rw [e]; exact hM) (hS.fr (fun _ _ _ => rfl) (fun o h1 h2 => q.1 o (by omega))) (by rw [e]; exact h.2.2.2.1) (fun k1 k2 => by rw [e]; exact ⟨k1, k2⟩)

