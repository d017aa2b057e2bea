/-- of one council the other has grown -/
def Gw (C C9 : CC) : Prop := (0 ≤ C 0 3 ∧ C 0 3 ≤ 8) → (0 ≤ C9 0 3 ∧ C9 0 3 ≤ 8) ∧ (C 0 0 ≤ 999 → C9 0 0 ≤ 999) ∧ nC C ≤ nC C9 ∧ ∀ j, j < nC C → C9 1 j = C 1 j
theorem Gw.rf {C : CC} : Gw C C := fun h => ⟨h, id, Nat.le_refl _, fun _ _ => rfl⟩
theorem Gw.tr {C C1 C9 : CC} (h : Gw C C1) (h' : Gw C1 C9) : Gw C C9 := fun k => by
  obtain ⟨a1, a2, a3, a4⟩ := h k
  obtain ⟨b1, b2, b3, b4⟩ := h' a1
  exact ⟨b1, fun z => b2 (a2 z), by omega, fun j hj => (b4 j (by omega)).trans (a4 j hj)⟩
theorem Gw.same {C C9 : CC} (h0 : C 0 0 ≤ 999 → C9 0 0 ≤ 999) (h3 : C9 0 3 = C 0 3) (h1 : ∀ j, C9 1 j = C 1 j) : Gw C C9 := fun k => by
  refine ⟨by rw [h3]; exact k, h0, ?_, fun j _ => h1 j⟩
  unfold nC
  rw [h3]
  exact Nat.le_refl _
theorem Gw.addC {C : CC} {k x : Int32} : Gw C (sAddC C k x).2 := fun h => by
  unfold sAddC
  split
  · split
    · rename_i h1 h2
      have e3 : C 0 3 = i32 (nC C) := (xn h.1).symm
      have hn : nC C < 8 := (i32_lt (a := nC C) (b := 8) (by have := n40 h.1 (Int32.le_trans h.2 (by decide)); unfold nC; omega) (by omega)).mp (by rw [← e3]; exact h2)
      have e4 : C 0 3 + 1 = i32 (nC C + 1) := by rw [e3, i32_s, ← e3]
      dsimp only
      refine ⟨?_, fun z => ?_, ?_, fun j hj => ?_⟩
      · simp only [up2_rd, reduceIte, Nat.reduceEqDiff]
        rw [e4]
        exact ⟨i32_nn _ (by omega), (i32_le (b := 8) (by omega) (by omega)).mpr (by omega)⟩
      · simp only [up2_rd, reduceIte, Nat.reduceEqDiff]
        exact z
      · have e5 : nC (up2 (up2 (up2 (up2 C 1 (nC C) k) 2 (nC C) x) 3 (nC C) 0) 0 3 (C 0 3 + 1)) = nC C + 1 := by
          show ((up2 (up2 (up2 (up2 C 1 (nC C) k) 2 (nC C) x) 3 (nC C) 0) 0 3 (C 0 3 + 1)) 0 3).toNatClampNeg = _
          simp only [up2_rd, reduceIte, Nat.reduceEqDiff]
          rw [e4, tn_of (by omega)]
        omega
      · simp only [up2_rd, reduceIte, Nat.reduceEqDiff]
        rw [if_neg (by omega)]
    · exact Gw.rf h
  · exact Gw.rf h
theorem Gw.addI {C : CC} {x : Int32} : Gw C (sAddI C x).2 := by
  unfold sAddI
  split
  · split
    · exact Gw.same id rfl (fun _ => rfl)
    · exact Gw.rf
  · exact Gw.rf
theorem Gw.put {T : TV} {C : CC} {w x v : Int32} (h : isSet T C w x v) : Gw C (sPut C w x v) := by
  obtain ⟨h1, h2, h3, h4⟩ := h
  unfold sPut
  rcases w03m h1 with rfl | rfl | rfl | rfl
  · exact Gw.same (fun _ => h4) rfl (fun _ => rfl)
  · exact Gw.same id rfl (fun _ => rfl)
  · exact Gw.same id rfl (fun _ => rfl)
  · exact Gw.same id rfl (fun _ => rfl)
theorem Gw.rule {C : CC} {x : Int32} : Gw C (up2 C 0 2 x) := Gw.same id rfl (fun _ => rfl)
theorem Gw.sit {T : TV} {C : CC} (h0 : 0 ≤ C 0 0) : Gw C (sSit T C).1 := by
  unfold sSit
  split
  · rename_i h
    refine Gw.same (fun _ => ?_) (sHold_0 T C 3 (by omega)) (fun j => ?_)
    · show C 0 0 + 1 ≤ 999
      grind
    · show (up2 (sHoldN C (sLeft T C) (mC C)).1 0 0 (C 0 0 + 1)) 1 j = _
      rw [up2_ne (by omega), hN_unt _ _ _ (by omega)]
  · exact Gw.rf
theorem Gw.ct {ce : Int32 → Int32} {sz fr : Int32} : ∀ (n i : Nat) (C : CC) (came : Int32), Gw C (sCt ce sz fr n i C came).2
  | 0, _, _, _ => Gw.rf
  | n + 1, i, C, came => by
    rw [sCt]
    split
    · exact Gw.addC.tr (Gw.ct n (i + 1) _ _)
    · exact Gw.rf
theorem Gw.citz {so sz : Int32} {ce : Int32 → Int32} {C : CC} {s k fr n : Int32} : Gw C (sCitz so sz ce C s k fr n).2 := by
  unfold sCitz
  split
  · split
    · exact Gw.rf
    · split
      · exact Gw.ct _ _ _ _
      · exact Gw.rf
  · exact Gw.rf
theorem Rl.cg {tc n : Nat} {T : TV} {I I1 I9 : I2} {J J9 : J2} {C9 : CC} (h : Rl tc n T I J) (f : Sc2 I I1) (e : cOf I1 7 = C9) (q : Mp I1 I9) (hM : MC tc I9 J9 T C9) (hg : Gw (cOf I 7) C9) : Rl tc n T I9 J9 := by
  obtain ⟨g1, g2, g3, g4⟩ := hg h.2.1.2.1.2.2.2.1
  exact h.c f e q hM (g2 h.2.2.2.1) g3 g4
theorem p_set {tc n : Nat} {T : TV} {I I1 I9 : I2} {J J9 : J2} {w x v r r9 : Int32} (h : Rl tc n T I J) (f : Sc2 I I1) (a : (isSet T (cOf I 7) w x v ∧ r = sTold T (cOf I 7) x w ∧ cOf I1 7 = sPut (cOf I 7) w x v) ∨ (¬ isSet T (cOf I 7) w x v ∧ r = -2 ∧ cOf I1 7 = cOf I 7)) (q : Mp I1 I9) (b : (isSet T (cOf I 7) w x v ∧ r9 = sTold T (cOf I 7) x w ∧ MC tc I9 J9 T (sPut (cOf I 7) w x v)) ∨ (¬ isSet T (cOf I 7) w x v ∧ r9 = -2 ∧ MC tc I9 J9 T (cOf I 7))) : r = r9 ∧ Rl tc n T I9 J9 := by
  rcases a with ⟨a1, a2, a3⟩ | ⟨a1, a2, a3⟩
  · rcases b with ⟨b1, b2, b3⟩ | ⟨b1, b2, b3⟩
    · exact ⟨a2.trans b2.symm, h.cg f a3 q b3 (Gw.put a1)⟩
    · exact absurd a1 b1
  · rcases b with ⟨b1, b2, b3⟩ | ⟨b1, b2, b3⟩
    · exact absurd b1 a1
    · exact ⟨a2.trans b2.symm, h.cg f a3 q b3 Gw.rf⟩
theorem p_force {tc n : Nat} {T : TV} {I I1 I9 : I2} {J J9 : J2} {x r r9 : Int32} (h : Rl tc n T I J) (f : Fr 7 I I1) (a : ((0 ≤ x ∧ x < I 1 0) ∧ r = cOf I 7 0 2 ∧ cOf I1 7 = up2 (cOf I 7) 0 2 x) ∨ (¬ (0 ≤ x ∧ x < I 1 0) ∧ r = -2 ∧ cOf I1 7 = cOf I 7)) (q : Mp I1 I9) (b : ((0 ≤ x ∧ x < i32 tc) ∧ r9 = cOf I 7 0 2 ∧ MC tc I9 J9 T (up2 (cOf I 7) 0 2 x)) ∨ (¬ (0 ≤ x ∧ x < i32 tc) ∧ r9 = -2 ∧ MC tc I9 J9 T (cOf I 7))) : r = r9 ∧ Rl tc n T I9 J9 := by
  rw [h.2.2.1] at a
  rcases a with ⟨a1, a2, a3⟩ | ⟨a1, a2, a3⟩
  · rcases b with ⟨b1, b2, b3⟩ | ⟨b1, b2, b3⟩
    · exact ⟨a2.trans b2.symm, h.cg f.sc2 a3 q b3 Gw.rule⟩
    · exact absurd a1 b1
  · rcases b with ⟨b1, b2, b3⟩ | ⟨b1, b2, b3⟩
    · exact absurd b1 a1
    · exact ⟨a2.trans b2.symm, h.cg f.sc2 a3 q b3 Gw.rf⟩
/-- the sheets after sheet, cell and copy -/
theorem shM_fr {I : I2} {s k n : Int32} : ∀ a, a < 35 ∨ 37 < a → shM I s k n a = I a := by
  intro a ha
  unfold shM fLay
  split
  · split
    · rw [row2_ne (by omega), up2_ne (by omega), up2_ne (by omega)]
    · split
      · split
        · rfl
        · rw [row2_ne (by omega), up2_ne (by omega), up2_ne (by omega)]
      · rfl
  · rfl
theorem ceM_fr {I : I2} {s i v : Int32} : ∀ a, a < 35 ∨ 37 < a → ceM I s i v a = I a := by
  intro a ha
  unfold ceM
  split
  · split
    · rfl
    · split
      · rw [up2_ne (by omega)]
      · rfl
  · rfl
theorem coM_fr {I : I2} {s i o j n : Int32} : ∀ a, a < 35 ∨ 37 < a → coM I s i o j n a = I a := by
  intro a ha
  unfold coM
  split
  · split
    · rfl
    · split
      · split
        · rw [row2_ne (by omega)]
        · rfl
      · rfl
  · rfl
theorem p_sheet {tc n : Nat} {T : TV} {I : I2} {J : J2} {s k m : Int32} (h : Rl tc n T I J) : Rl tc n T (mSh (shM I s k m) s k m) J := by
  have f : ∀ a, 38 ≤ a → shM I s k m a = I a := fun a ha => shM_fr a (by omega)
  refine h.s (fun a _ _ ha => shM_fr a ha) (Mq.of (fun o ho => mSh_fr o ho)) (MC.sh (h.2.1.hi f) (fun o ho => mSh_fr o ho)) ?_
  exact (h.2.2.2.2.2.1.fr (I9 := shM I s k m) (fun o h1 h2 => f o (by omega)) (fun _ _ _ => rfl)).sheet
theorem p_cell {tc n : Nat} {T : TV} {I : I2} {J : J2} {s i v : Int32} (h : Rl tc n T I J) : Rl tc n T (mCe (ceM I s i v) I s i v) J := by
  have f : ∀ a, 38 ≤ a → ceM I s i v a = I a := fun a ha => ceM_fr a (by omega)
  refine h.s (fun a _ _ ha => ceM_fr a ha) (Mq.of (fun o ho => mCe_fr o ho)) (MC.sh (h.2.1.hi f) (fun o ho => mCe_fr o ho)) ?_
  exact (h.2.2.2.2.2.1.fr (I9 := ceM I s i v) (fun o h1 h2 => f o (by omega)) (fun _ _ _ => rfl)).ce
theorem p_copy {tc n : Nat} {T : TV} {I : I2} {J : J2} {s i o j m : Int32} (h : Rl tc n T I J) : Rl tc n T (mCo (coM I s i o j m) I s i o j m) J := by
  have f : ∀ a, 38 ≤ a → coM I s i o j m a = I a := fun a ha => coM_fr a (by omega)
  refine h.s (fun a _ _ ha => coM_fr a ha) (Mq.of (fun o ho => mCo_fr o ho)) (MC.sh (h.2.1.hi f) (fun o ho => mCo_fr o ho)) ?_
  exact (h.2.2.2.2.2.1.fr (I9 := coM I s i o j m) (fun o h1 h2 => f o (by omega)) (fun _ _ _ => rfl)).co
/-- for what the model looks up: the sheets as they were -/
theorem Rl.sr1 {tc n : Nat} {T : TV} {I I1 : I2} {J : J2} (h : Rl tc n T I J) (f : ∀ a, 54 ≤ a → a ≤ 57 → I1 a = I a) : SR I1 I := h.2.2.2.2.2.1.fr f (fun _ _ _ => rfl)
theorem p_film {tc n : Nat} {T : TV} {I I1 I9 : I2} {J J9 : J2} {s r r9 : Int32} (h : Rl tc n T I J) (a : if 0 ≤ s ∧ s < 4 then r = sGo T (cOf I 7) ∧ ∃ I4, Sq 7 I I4 ∧ I1 = sFilm I4 s.toNatClampNeg r else r = -2 ∧ I1 = I) (hM : MC tc I9 J9 T (cOf I 7)) (q : Mq I1 I9) (b : if 0 ≤ s ∧ s < 4 then r9 = sGo T (cOf I 7) ∧ SR I9 (sFilm I s.toNatClampNeg (sGo T (cOf I 7))) else r9 = -2 ∧ SR I9 I) : r = r9 ∧ Rl tc n T I9 J9 := by
  by_cases hs : 0 ≤ s ∧ s < 4
  · rw [if_pos hs] at a b
    obtain ⟨a1, I4, a2, a3⟩ := a
    obtain ⟨b1, b2⟩ := b
    subst a3
    refine ⟨a1.trans b1.symm, h.s (fun c h1 h2 h3 => ?_) q hM ?_⟩
    · unfold sFilm fLay
      rw [up2_ne (by omega), row2_ne (by omega), up2_ne (by omega), up2_ne (by omega)]
      exact a2 c h1 h2
    · rw [a1]
      refine b2.fr (fun _ _ _ => rfl) (fun o h1 h2 => ?_)
      unfold sFilm fLay
      rw [a2 37 (by omega) (by omega)]
      funext j
      simp only [up2_rd, row2_rd]
      rw [a2 o (by omega) (by omega)]
  · rw [if_neg hs] at a b
    obtain ⟨a1, a2⟩ := a
    obtain ⟨b1, b2⟩ := b
    subst a2
    exact ⟨a1.trans b1.symm, h.s (fun _ _ _ _ => rfl) q hM b2⟩

