theorem c_hasText {x : Int32} {I : I2} {J : J2} : CT mX5_hasText 1 58 58 [.ref 1, .int x] I J RF (RI RF (b2i (0 ≤ x ∧ x < I 1 0 ∧ x < 6)) I J) := by
  refine CT_of okX5_hasText (Nat.le_of_ble_eq_true rfl) ?_
  show V _ _ _ _ _ _ [(0, _), (1, _)] _ _ _ _ _
  refine V_go 1 rfl ?_
  refine V_if_lt rfl (fun h1 => ?_) (fun h1 => ?_)
  · skip
    refine V_go 1 rfl ?_
    refine V_zret rfl rfl rfl (by first | exact Or.inl rfl | exact Or.inr rfl | exact b2i_or _ | assumption) ?_
    exact RI.mk (by grind [b2i, i32_ti, tcn])
  · skip
    refine V_go 3 rfl ?_
    refine V_icmp_ge rfl (fun h2 => ?_) (fun h2 => ?_)
    · skip
      refine V_go 1 rfl ?_
      refine V_zret rfl rfl rfl (by first | exact Or.inl rfl | exact Or.inr rfl | exact b2i_or _ | assumption) ?_
      exact RI.mk (by grind [b2i, i32_ti, tcn])
    · skip
      refine V_go 2 rfl ?_
      refine V_icmp_ge rfl (fun h3 => ?_) (fun h3 => ?_)
      · skip
        refine V_go 1 rfl ?_
        refine V_zret rfl rfl rfl (by first | exact Or.inl rfl | exact Or.inr rfl | exact b2i_or _ | assumption) ?_
        exact RI.mk (by grind [b2i, i32_ti, tcn])
      · skip
        refine V_go 2 rfl ?_
        refine V_zret rfl rfl rfl (by first | exact Or.inl rfl | exact Or.inr rfl | exact b2i_or _ | assumption) ?_
        exact RI.mk (by grind [b2i, i32_ti, tcn])
theorem c_isFull {I : I2} {J : J2} : CT mX5_isFull 1 58 58 [.ref 1] I J RF (RI RF (b2i (6 ≤ I 1 0)) I J) := by
  refine CT_of okX5_isFull (Nat.le_of_ble_eq_true rfl) ?_
  show V _ _ _ _ _ _ [(0, _)] _ _ _ _ _
  refine V_go 3 rfl ?_
  refine V_icmp_lt rfl (fun h1 => ?_) (fun h1 => ?_)
  · skip
    refine V_go 1 rfl ?_
    refine V_zret rfl rfl rfl (by first | exact Or.inl rfl | exact Or.inr rfl | exact b2i_or _ | assumption) ?_
    exact RI.mk (by grind [b2i, i32_ti, tcn])
  · skip
    refine V_go 2 rfl ?_
    refine V_zret rfl rfl rfl (by first | exact Or.inl rfl | exact Or.inr rfl | exact b2i_or _ | assumption) ?_
    exact RI.mk (by grind [b2i, i32_ti, tcn])
def vBoth (c a b : Int32) : Int32 := if c = -20 then b2i (a ≠ 0 ∨ b ≠ 0) else if c = -21 then b2i (a ≠ 0 ∧ b ≠ 0) else if c = -22 then b2i (a < b) else if c = -23 then b2i (a = b) else if c = -24 then a + b else if c = -25 then a - b else a * b
def vName (names : Nat → Int32) (c : Int32) : Int32 := if 0 ≤ -1 - c ∧ -1 - c < 6 then names (-1 - c).toNatClampNeg else 0
def vStep (names : Nat → Int32) (c : Int32) (s : Nat × (Nat → Int32)) : Nat × (Nat → Int32) :=
  if -10 < c ∧ s.1 < 160 then (s.1 + 1, upd s.2 s.1 (if 0 ≤ c then c else vName names c))
  else if c = -10 ∧ 1 ≤ s.1 then (s.1, upd s.2 (s.1 - 1) (b2i (s.2 (s.1 - 1) = 0)))
  else if c = -11 ∧ 1 ≤ s.1 then (s.1, upd s.2 (s.1 - 1) (-(s.2 (s.1 - 1))))
  else if c ≤ -20 ∧ 2 ≤ s.1 then (s.1 - 1, upd s.2 (s.1 - 2) (vBoth c (s.2 (s.1 - 2)) (s.2 (s.1 - 1))))
  else s
def vRun (names cells : Nat → Int32) : Nat → Nat → (Nat × (Nat → Int32)) → (Nat × (Nat → Int32))
  | 0, _, s => s
  | n + 1, i, s => vRun names cells n (i + 1) (vStep names (cells i) s)
def vCl (part : Nat) (x : Int32) : Int32 := if part = 0 then x else if 0 < (if x < 60 then x else 60) then (if x < 60 then x else 60) else 0
def vFrom (ends : Nat → Int32) (t part : Nat) : Int32 := if part = 0 then 0 else ends (3 * t + part - 1)
def vCnt (f e : Int32) : Nat := if f < 0 then 0 else (if e < 160 then e.toNatClampNeg else 160) - f.toNatClampNeg
/-- what a text answers, out of its cells (many: how many texts there are) -/
def vVal (cells ends stk : Nat → Int32) (t part : Nat) (names : Nat → Int32) : Int32 :=
  vCl part ((vRun names (fun i => cells (160 * t + i)) (vCnt (vFrom ends t part) (ends (3 * t + part))) (vFrom ends t part).toNatClampNeg (0, stk)).2 0)
theorem up2_row2 {I : I2} {o k : Nat} {g : Nat → Int32} {v : Int32} : up2 (row2 I o g) o k v = row2 I o (upd g k v) := by
  funext i j
  simp only [up2, row2, upd]
  split <;> simp
theorem row2_row2 {I : I2} {o : Nat} {g g' : Nat → Int32} : row2 (row2 I o g) o g' = row2 I o g' := by
  funext i j
  simp only [row2]
  split <;> rfl
theorem row2_self {I : I2} {o : Nat} : row2 I o (I o) = I := by
  funext i j
  simp only [row2]
  split
  · rename_i h; rw [h]
  · rfl
theorem c_ofBoth {c a b : Int32} {I : I2} {J : J2} : CT mX5_ofBoth 1 58 58 [.int c, .int a, .int b] I J RF (RI RF (vBoth c a b) I J) := by
  refine CT_of okX5_ofBoth (Nat.le_of_ble_eq_true rfl) ?_
  show V _ _ _ _ _ _ [(0, _), (1, _), (2, _)] _ _ _ _ _
  refine V_go 1 rfl ?_
  refine V_tswC (v := (-25)) rfl (by decide) (by decide) rfl (fun h2 => ?_) (fun h2 => ?_)
  · skip
    refine V_go 3 rfl ?_
    refine V_iret rfl rfl rfl ?_
    exact RI.mk (by grind [vBoth, b2i])
  refine V_tswC (v := (-24)) rfl (by decide) (by decide) rfl (fun h3 => ?_) (fun h3 => ?_)
  · skip
    refine V_go 3 rfl ?_
    refine V_iret rfl rfl rfl ?_
    exact RI.mk (by grind [vBoth, b2i])
  refine V_tswC (v := (-23)) rfl (by decide) (by decide) rfl (fun h4 => ?_) (fun h4 => ?_)
  · skip
    refine V_go 2 rfl ?_
    refine V_icmp_ne rfl (fun h5 => ?_) (fun h5 => ?_)
    · skip
      refine V_go 1 rfl ?_
      refine V_iret rfl rfl rfl ?_
      exact RI.mk (by grind [vBoth, b2i])
    · skip
      refine V_go 2 rfl ?_
      refine V_iret rfl rfl rfl ?_
      exact RI.mk (by grind [vBoth, b2i])
  refine V_tswC (v := (-22)) rfl (by decide) (by decide) rfl (fun h6 => ?_) (fun h6 => ?_)
  · skip
    refine V_go 2 rfl ?_
    refine V_icmp_ge rfl (fun h7 => ?_) (fun h7 => ?_)
    · skip
      refine V_go 1 rfl ?_
      refine V_iret rfl rfl rfl ?_
      exact RI.mk (by grind [vBoth, b2i])
    · skip
      refine V_go 2 rfl ?_
      refine V_iret rfl rfl rfl ?_
      exact RI.mk (by grind [vBoth, b2i])
  refine V_tswC (v := (-21)) rfl (by decide) (by decide) rfl (fun h8 => ?_) (fun h8 => ?_)
  · skip
    refine V_go 1 rfl ?_
    refine V_if_eq rfl (fun h9 => ?_) (fun h9 => ?_)
    · skip
      refine V_go 1 rfl ?_
      refine V_iret rfl rfl rfl ?_
      exact RI.mk (by grind [vBoth, b2i])
    · skip
      refine V_go 1 rfl ?_
      refine V_if_eq rfl (fun h10 => ?_) (fun h10 => ?_)
      · skip
        refine V_go 1 rfl ?_
        refine V_iret rfl rfl rfl ?_
        exact RI.mk (by grind [vBoth, b2i])
      · skip
        refine V_go 2 rfl ?_
        refine V_iret rfl rfl rfl ?_
        exact RI.mk (by grind [vBoth, b2i])
  refine V_tswC (v := (-20)) rfl (by decide) (by decide) rfl (fun h11 => ?_) (fun h11 => ?_)
  · skip
    refine V_go 1 rfl ?_
    refine V_if_ne rfl (fun h12 => ?_) (fun h12 => ?_)
    · skip
      refine V_go 2 rfl ?_
      refine V_iret rfl rfl rfl ?_
      exact RI.mk (by grind [vBoth, b2i])
    · skip
      refine V_go 1 rfl ?_
      refine V_if_eq rfl (fun h13 => ?_) (fun h13 => ?_)
      · skip
        refine V_go 1 rfl ?_
        refine V_iret rfl rfl rfl ?_
        exact RI.mk (by grind [vBoth, b2i])
      · skip
        refine V_go 2 rfl ?_
        refine V_iret rfl rfl rfl ?_
        exact RI.mk (by grind [vBoth, b2i])
  refine V_tswD rfl (by decide) (by decide) (t9 := 98) rfl (by have q0 := lv_neT h2 (a := -25) (by decide); have q1 := lv_neT h3 (a := -24) (by decide); have q2 := lv_neT h4 (a := -23) (by decide); have q3 := lv_neT h6 (a := -22) (by decide); have q4 := lv_neT h8 (a := -21) (by decide); have q5 := lv_neT h11 (a := -20) (by decide); omega) ?_
  refine V_go 3 rfl ?_
  refine V_iret rfl rfl rfl ?_
  exact RI.mk (by grind [vBoth, b2i])
theorem c_valueOfName {c : Int32} {nm : Nat} {I : I2} {J : J2} (hn : nm = 8 ∨ nm = 16 ∨ nm = 24) : CT mX5_valueOfName 1 58 58 [.int c, .ref nm] I J RF (RI RF (vName (I nm) c) I J) := by
  rcases hn with rfl | rfl | rfl
  all_goals
    refine CT_of okX5_valueOfName (Nat.le_of_ble_eq_true rfl) ?_
    show V _ _ _ _ _ _ [(0, _), (1, _)] _ _ _ _ _
    refine V_go 5 rfl ?_
    refine V_if_lt rfl (fun h1 => ?_) (fun h1 => ?_)
    · skip
      refine V_go 1 rfl ?_
      refine V_iret rfl rfl rfl ?_
      exact RI.mk (by unfold vName; first | rw [if_pos (by grind)] | rw [if_neg (by grind)])
    · skip
      refine V_go 3 rfl ?_
      refine V_icmp_ge rfl (fun h2 => ?_) (fun h2 => ?_)
      · skip
        refine V_go 1 rfl ?_
        refine V_iret rfl rfl rfl ?_
        exact RI.mk (by unfold vName; first | rw [if_pos (by grind)] | rw [if_neg (by grind)])
      · skip
        refine V_go 2 rfl ?_
        refine V_iald rfl rfl (Nat.le_of_ble_eq_true rfl) (inb_ofN (by decide) (by grind [b2i, i32_ti, tcn]) (by grind [b2i, i32_ti, tcn])) ?_
        refine V_go 1 rfl ?_
        refine V_iret rfl rfl rfl ?_
        exact RI.mk (by unfold vName; first | rw [if_pos (by grind)] | rw [if_neg (by grind)])
theorem vCnt_0 {e : Int32} {i : Nat} (hi : i < 161) (hf : i32 i < 0 ∨ e ≤ i32 i ∨ 160 ≤ i32 i) : (if e < 160 then e.toNatClampNeg else 160) - i = 0 := by
  by_cases h : 0 ≤ e
  · grind [i32_ti, tcn]
  · have h1 : e.toNatClampNeg = 0 := by simp [Int32.toNatClampNeg_eq_zero_iff]; grind
    grind [i32_ti]
theorem vCnt_g {f0 e : Int32} (hf : ¬ f0 < 0) (hg : 160 ≤ f0) : vCnt f0 e = 0 := by
  unfold vCnt
  rw [if_neg hf]
  by_cases h : 0 ≤ e
  · grind [tcn]
  · have h1 : e.toNatClampNeg = 0 := by simp [Int32.toNatClampNeg_eq_zero_iff]; grind
    grind [tcn]
theorem vCnt_s {e : Int32} {i : Nat} (hi : i < 161) (h1 : i32 i < e) (h2 : i32 i < 160) : (if e < 160 then e.toNatClampNeg else 160) - i = (if e < 160 then e.toNatClampNeg else 160) - (i + 1) + 1 ∧ i < 160 := by
  grind [i32_ti, tcn]
def Hid (p : Prop) : Prop := p
theorem Hid.un {p : Prop} (h : Hid p) : p := h
theorem i32_ne {p : Nat} (hp : p < 3) (h : ¬ i32 p = 0) : ¬ p = 0 := fun e => h (by rw [e]; rfl)
theorem i32_eq {p : Nat} (hp : p < 3) (h : i32 p = 0) : p = 0 := by grind [i32_ti]
theorem i32_s (i : Nat) : i32 (i + 1) = i32 i + 1 := Int32.ofNat_add i 1
theorem t160 {t i : Nat} (ht : t < 6) (hi : i < 161) : (i32 t * 160 + i32 i).toNatClampNeg = 160 * t + i := by
  have e2 : i32 t * 160 + i32 i = i32 (160 * t + i) := by
    have : t = 0 ∨ t = 1 ∨ t = 2 ∨ t = 3 ∨ t = 4 ∨ t = 5 := by omega
    rcases this with rfl | rfl | rfl | rfl | rfl | rfl <;> grind [i32_ti]
  rw [e2]
  exact Int32.toNatClampNeg_ofNat_of_lt (by omega)
theorem tnx {x : Int32} {n : Nat} (h : x = i32 n) (h2 : n < 2147483648) : x.toNatClampNeg = n := by
  rw [h]
  exact Int32.toNatClampNeg_ofNat_of_lt (by omega)
theorem tn_sub {tp k : Nat} (h : k ≤ tp) (h2 : tp < 161) (h3 : k < 5) : (i32 tp - i32 k).toNatClampNeg = tp - k ∧ i32 tp - i32 k = i32 (tp - k) := by
  have e : i32 tp - i32 k = i32 (tp - k) := by grind [i32_ti]
  exact ⟨by rw [e]; exact Int32.toNatClampNeg_ofNat_of_lt (by omega), e⟩
theorem tn_of {n : Nat} (h : n < 2147483648) : (i32 n).toNatClampNeg = n := Int32.toNatClampNeg_ofNat_of_lt (by omega)
theorem V.st {mt : MT} {sc : Option (Nat × (Nat → Int32))} {d nE : Nat} {Q : QT} {pc : Nat} {L L' : Lc} {st : List Value} {n : Nat} {I I' : I2} {J : J2} {F : F2} (h : V mt sc d nE Q pc L' st n I' J F) (hI : I = I') (hs : ∀ q ∈ L', q ∈ L) : V mt sc d nE Q pc L st n I J F := by
  subst hI
  exact h.weak hs
theorem c_value0 {t part nm : Nat} {I : I2} {J : J2} (ht : t < 6) (hp : part < 3) (hnm : nm = 8 ∨ nm = 16 ∨ nm = 24) (hm : i32 t < I 1 0) : CT mX5_value 2 58 58 [.ref 1, .int (i32 t), .int (i32 part), .ref nm] I J RF (RP RF (fun r I1 J1 => r = vVal (I 2) (I 3) (I 4) t part (I nm) ∧ J1 = J ∧ ∃ g, I1 = row2 I 4 g)) := by
  refine CT_of okX5_value (Nat.le_of_ble_eq_true rfl) ?_
  show V _ _ _ _ _ _ [(0, _), (1, _), (2, _), (3, _)] _ _ _ _ _
  have hnm2 : nm ≠ 4 := by omega
  have last0 : Hid (∀ (f0 e : Int32)(i tp : Nat) (z : Int32) (stk : Nat → Int32), V mX5_value none 2 58 (RP RF (fun r I1 J1 => r = vCl part ((vRun (I nm) (fun i => I 2 (160 * t + i)) 0 i (tp, stk)).2 0) ∧ J1 = J ∧ ∃ g, I1 = row2 I 4 g)) 268 [(0, .ref 1), (1, .int (i32 t)), (2, .int (i32 part)), (3, .ref nm), (4, .int f0), (5, .int e), (6, .int (i32 tp)), (7, .int z)] [] 58 (row2 I 4 stk) J RF) := by
      unfold Hid
      intro f0 e i tp z stk
      refine V_go 1 rfl ?_
      refine V_if_ne rfl (fun h1 => ?_) (fun h1 => ?_)
      · skip
        refine V_go 5 rfl ?_
        refine V_iald rfl rfl (Nat.le_of_ble_eq_true rfl) (inb_ofN (by decide) (by decide) (by decide)) ?_
        refine V_mmin (wl1 := 384) (wst := 385) (wi1 := 119) (wc1 := 386) rfl (by decide +kernel) (by decide +kernel) (by decide +kernel) (by decide +kernel) (Nat.le_of_ble_eq_true rfl) (Nat.le_of_ble_eq_true rfl) ?_
        refine V_mmax (wl1 := 387) (wst := 388) (wi1 := 119) (wc1 := 389) rfl (by decide +kernel) (by decide +kernel) (by decide +kernel) (by decide +kernel) (Nat.le_of_ble_eq_true rfl) (Nat.le_of_ble_eq_true rfl) ?_
        refine V_iret rfl rfl rfl ?_
        refine RP.mk ⟨?_, rfl, _, rfl⟩
        first | (simp only [vRun, vCl, row2_rd, reduceIte]; rw [if_pos (i32_eq hp h1)]; rfl) | (simp only [vRun, vCl, row2_rd, reduceIte]; rw [if_neg (i32_ne hp h1)]; rfl)
      · skip
        refine V_go 3 rfl ?_
        refine V_iald rfl rfl (Nat.le_of_ble_eq_true rfl) (inb_ofN (by decide) (by decide) (by decide)) ?_
        refine V_go 1 rfl ?_
        refine V_iret rfl rfl rfl ?_
        refine RP.mk ⟨?_, rfl, _, rfl⟩
        first | (simp only [vRun, vCl, row2_rd, reduceIte]; rw [if_pos (i32_eq hp h1)]; rfl) | (simp only [vRun, vCl, row2_rd, reduceIte]; rw [if_neg (i32_ne hp h1)]; rfl)
  have key : Hid (∀ (f0 e : Int32) (n : Nat), Hid (∀ (i tp : Nat) (stk : Nat → Int32), (if e < 160 then e.toNatClampNeg else 160) - i = n → i < 161 → tp < 161 → V mX5_value none 2 58 (RP RF (fun r I1 J1 => r = vCl part ((vRun (I nm) (fun i => I 2 (160 * t + i)) n i (tp, stk)).2 0) ∧ J1 = J ∧ ∃ g, I1 = row2 I 4 g)) 60 [(0, .ref 1), (1, .int (i32 t)), (2, .int (i32 part)), (3, .ref nm), (4, .int f0), (5, .int e), (6, .int (i32 tp)), (7, .int (i32 i))] [] 58 (row2 I 4 stk) J RF)) := by
    show ∀ _ _ _, Hid _
    intro f0 e n
    have last : Hid _ := last0.un f0 e
    induction n with
    | zero =>
      unfold Hid
      intro i tp stk hn hi htp
      have hz : i32 i < 0 ∨ e ≤ i32 i ∨ 160 ≤ i32 i := by
        rcases Decidable.em (i32 i < 0 ∨ e ≤ i32 i ∨ 160 ≤ i32 i) with h | h
        · exact h
        · exfalso
          have := vCnt_s (e := e) hi (by grind) (by grind)
          omega
      refine V_go 1 rfl ?_
      refine V_if_lt rfl (fun h1 => ?_) (fun h1 => ?_)
      · skip
        exact last.un i tp _ stk
      · skip
        refine V_go 2 rfl ?_
        refine V_icmp_ge rfl (fun h2 => ?_) (fun h2 => ?_)
        · skip
          exact last.un i tp _ stk
        · skip
          refine V_go 2 rfl ?_
          refine V_icmp_ge rfl (fun h3 => ?_) (fun h3 => ?_)
          · skip
            exact last.un i tp _ stk
          · skip
            exfalso
            grind
    | succ n ih =>
      show ∀ _ _ _, _
      intro i tp stk hn hi htp
      have step : Hid (∀ (tp2 : Nat) (g : Nat → Int32) (I9 : I2) (L9 : Lc), vStep (I nm) (I 2 (160 * t + i)) (tp, stk) = (tp2, g) → tp2 < 161 → i < 160 → I9 = row2 I 4 g → (∀ q ∈ ([(0, .ref 1), (1, .int (i32 t)), (2, .int (i32 part)), (3, .ref nm), (4, .int f0), (5, .int e), (6, .int (i32 tp2)), (7, .int (i32 (i + 1)))] : Lc), q ∈ L9) → V mX5_value none 2 58 (RP RF (fun r I1 J1 => r = vCl part ((vRun (I nm) (fun i => I 2 (160 * t + i)) (n + 1) i (tp, stk)).2 0) ∧ J1 = J ∧ ∃ g, I1 = row2 I 4 g)) 60 L9 [] 58 I9 J RF) := by
        unfold Hid
        intro tp2 g I9 L9 h1 h2 h2b h3 h4
        refine V.st ?_ h3 h4
        have e9 := ih.un (i + 1) tp2 g (by omega) (by omega) h2
        have e8 : vRun (I nm) (fun i => I 2 (160 * t + i)) (n + 1) i (tp, stk) = vRun (I nm) (fun i => I 2 (160 * t + i)) n (i + 1) (tp2, g) := by
          simp only [vRun]
          rw [h1]
        rw [e8]
        exact e9
      have ei := i32_s i
      have hidx := t160 ht hi
      have j95 : Hid (∀ c : Int32, c = I 2 (160 * t + i) → i < 160 → V mX5_value none 2 58 (RP RF (fun r I1 J1 => r = vCl part ((vRun (I nm) (fun i => I 2 (160 * t + i)) (n + 1) i (tp, stk)).2 0) ∧ J1 = J ∧ ∃ g, I1 = row2 I 4 g)) 95 [(0, .ref 1), (1, .int (i32 t)), (2, .int (i32 part)), (3, .ref nm), (4, .int f0), (5, .int e), (6, .int (i32 tp)), (7, .int (i32 i)), (8, .int c)] [] 58 (row2 I 4 stk) J RF) := by
        unfold Hid
        intro c hc h2b
        have j262 : Hid (∀ (tp2 : Nat) (g : Nat → Int32) (I9 : I2), vStep (I nm) c (tp, stk) = (tp2, g) → tp2 < 161 → I9 = row2 I 4 g → V mX5_value none 2 58 (RP RF (fun r I1 J1 => r = vCl part ((vRun (I nm) (fun i => I 2 (160 * t + i)) (n + 1) i (tp, stk)).2 0) ∧ J1 = J ∧ ∃ g, I1 = row2 I 4 g)) 262 [(0, .ref 1), (1, .int (i32 t)), (2, .int (i32 part)), (3, .ref nm), (4, .int f0), (5, .int e), (6, .int (i32 tp2)), (7, .int (i32 i)), (8, .int c)] [] 58 I9 J RF) := by
          unfold Hid
          intro tp2 g I9 h1 h2 h3
          rw [hc] at h1
          refine V_go 2 rfl ?_
          exact step.un tp2 g _ _ h1 h2 h2b h3 (by rw [ei]; simp)
        have j216 : Hid (¬ (-10 < c ∧ tp < 160) → ¬ (c = -10 ∧ 1 ≤ tp) → ¬ (c = -11 ∧ 1 ≤ tp) → V mX5_value none 2 58 (RP RF (fun r I1 J1 => r = vCl part ((vRun (I nm) (fun i => I 2 (160 * t + i)) (n + 1) i (tp, stk)).2 0) ∧ J1 = J ∧ ∃ g, I1 = row2 I 4 g)) 216 [(0, .ref 1), (1, .int (i32 t)), (2, .int (i32 part)), (3, .ref nm), (4, .int f0), (5, .int e), (6, .int (i32 tp)), (7, .int (i32 i)), (8, .int c)] [] 58 (row2 I 4 stk) J RF) := by
          unfold Hid
          intro q1 q2 q3
          refine V_go 2 rfl ?_
          refine V_icmp_gt rfl (fun h1 => ?_) (fun h1 => ?_)
          · skip
            exact j262.un tp stk _ (by unfold vStep; rw [if_neg q1, if_neg q2, if_neg q3, if_neg (by grind [i32_ti])]) htp rfl
          · skip
            refine V_go 2 rfl ?_
            refine V_icmp_lt rfl (fun h2 => ?_) (fun h2 => ?_)
            · skip
              exact j262.un tp stk _ (by unfold vStep; rw [if_neg q1, if_neg q2, if_neg q3, if_neg (by grind [i32_ti])]) htp rfl
            · skip
              refine V_go 12 rfl ?_
              refine V_iald rfl rfl (Nat.le_of_ble_eq_true rfl) (inb_ofN (by decide) (by grind [i32_ti]) (by grind [i32_ti])) ?_
              refine V_go 3 rfl ?_
              refine V_iald rfl rfl (Nat.le_of_ble_eq_true rfl) (inb_ofN (by decide) (by grind [i32_ti]) (by grind [i32_ti])) ?_
              refine cSI (mt' := mX5_ofBoth) rfl kX5_52 fX5_ofBoth rfl (Nat.le_of_ble_eq_true rfl) (Nat.le_of_ble_eq_true rfl) (Nat.le_refl _) (c_ofBoth) ?_
              refine V_iast rfl rfl (Nat.le_of_ble_eq_true rfl) (inb_ofN (by decide) (by grind [i32_ti]) (by grind [i32_ti])) ?_
              have a1 : (i32 tp + -1).toNatClampNeg = tp - 1 := tnx (by grind [i32_ti]) (by omega)
              have a2 : (i32 tp + -1 - 1).toNatClampNeg = tp - 2 := tnx (by grind [i32_ti]) (by omega)
              have a3 : i32 tp + -1 = i32 (tp - 1) := by grind [i32_ti]
              simp only [a1, a2, row2_rd, reduceIte]
              rw [a3]
              exact j262.un (tp - 1) _ _ (by unfold vStep; rw [if_neg q1, if_neg q2, if_neg q3, if_pos (by grind [i32_ti])]) (by omega) up2_row2
        have j181 : Hid (¬ (-10 < c ∧ tp < 160) → ¬ (c = -10 ∧ 1 ≤ tp) → V mX5_value none 2 58 (RP RF (fun r I1 J1 => r = vCl part ((vRun (I nm) (fun i => I 2 (160 * t + i)) (n + 1) i (tp, stk)).2 0) ∧ J1 = J ∧ ∃ g, I1 = row2 I 4 g)) 181 [(0, .ref 1), (1, .int (i32 t)), (2, .int (i32 part)), (3, .ref nm), (4, .int f0), (5, .int e), (6, .int (i32 tp)), (7, .int (i32 i)), (8, .int c)] [] 58 (row2 I 4 stk) J RF) := by
          unfold Hid
          intro q1 q2
          refine V_go 2 rfl ?_
          refine V_icmp_ne rfl (fun h1 => ?_) (fun h1 => ?_)
          · skip
            exact j216.un q1 q2 (by grind [i32_ti])
          · skip
            refine V_go 2 rfl ?_
            refine V_icmp_lt rfl (fun h2 => ?_) (fun h2 => ?_)
            · skip
              exact j216.un q1 q2 (by grind [i32_ti])
            · skip
              refine V_go 10 rfl ?_
              refine V_iald rfl rfl (Nat.le_of_ble_eq_true rfl) (inb_ofN (by decide) (by grind [i32_ti]) (by grind [i32_ti])) ?_
              refine V_go 1 rfl ?_
              refine V_iast rfl rfl (Nat.le_of_ble_eq_true rfl) (inb_ofN (by decide) (by grind [i32_ti]) (by grind [i32_ti])) ?_
              refine V_go 1 rfl ?_
              have a1 : (i32 tp - 1).toNatClampNeg = tp - 1 := tnx (by grind [i32_ti]) (by grind [i32_ti])
              simp only [a1, row2_rd, reduceIte]
              exact j262.un tp _ _ (by unfold vStep; rw [if_neg q1, if_neg q2, if_pos (by grind [i32_ti])]) htp up2_row2
        have j139 : Hid (¬ (-10 < c ∧ tp < 160) → V mX5_value none 2 58 (RP RF (fun r I1 J1 => r = vCl part ((vRun (I nm) (fun i => I 2 (160 * t + i)) (n + 1) i (tp, stk)).2 0) ∧ J1 = J ∧ ∃ g, I1 = row2 I 4 g)) 139 [(0, .ref 1), (1, .int (i32 t)), (2, .int (i32 part)), (3, .ref nm), (4, .int f0), (5, .int e), (6, .int (i32 tp)), (7, .int (i32 i)), (8, .int c)] [] 58 (row2 I 4 stk) J RF) := by
          unfold Hid
          intro q1
          refine V_go 2 rfl ?_
          refine V_icmp_ne rfl (fun h1 => ?_) (fun h1 => ?_)
          · skip
            exact j181.un q1 (by grind [i32_ti])
          · skip
            refine V_go 2 rfl ?_
            refine V_icmp_lt rfl (fun h2 => ?_) (fun h2 => ?_)
            · skip
              exact j181.un q1 (by grind [i32_ti])
            · skip
              refine V_go 10 rfl ?_
              refine V_iald rfl rfl (Nat.le_of_ble_eq_true rfl) (inb_ofN (by decide) (by grind [i32_ti]) (by grind [i32_ti])) ?_
              refine V_if_ne rfl (fun h3 => ?_) (fun h3 => ?_)
              · skip
                refine V_go 1 rfl ?_
                refine V_iast rfl rfl (Nat.le_of_ble_eq_true rfl) (inb_ofN (by decide) (by grind [i32_ti]) (by grind [i32_ti])) ?_
                refine V_go 1 rfl ?_
                have a1 : (i32 tp - 1).toNatClampNeg = tp - 1 := tnx (by grind [i32_ti]) (by grind [i32_ti])
                simp only [a1, row2_rd, reduceIte] at *
                exact j262.un tp _ _ (by unfold vStep; rw [if_neg q1, if_pos (by grind [i32_ti])]; simp [b2i, *]) htp up2_row2
              · skip
                refine V_go 2 rfl ?_
                refine V_iast rfl rfl (Nat.le_of_ble_eq_true rfl) (inb_ofN (by decide) (by grind [i32_ti]) (by grind [i32_ti])) ?_
                refine V_go 1 rfl ?_
                have a1 : (i32 tp - 1).toNatClampNeg = tp - 1 := tnx (by grind [i32_ti]) (by grind [i32_ti])
                simp only [a1, row2_rd, reduceIte] at *
                exact j262.un tp _ _ (by unfold vStep; rw [if_neg q1, if_pos (by grind [i32_ti])]; simp [b2i, *]) htp up2_row2
        refine V_go 2 rfl ?_
        refine V_icmp_le rfl (fun h1 => ?_) (fun h1 => ?_)
        · skip
          exact j139.un (by grind [i32_ti])
        · skip
          refine V_go 2 rfl ?_
          refine V_icmp_ge rfl (fun h2 => ?_) (fun h2 => ?_)
          · skip
            exact j139.un (by grind [i32_ti])
          · skip
            refine V_go 4 rfl ?_
            refine V_if_lt rfl (fun h3 => ?_) (fun h3 => ?_)
            · skip
              refine V_go 2 rfl ?_
              refine cSI (mt' := mX5_valueOfName) rfl kX5_48 fX5_valueOfName rfl (Nat.le_of_ble_eq_true rfl) (Nat.le_of_ble_eq_true rfl) (Nat.le_refl _) (c_valueOfName hnm) ?_
              refine V_iast rfl rfl (Nat.le_of_ble_eq_true rfl) (inb_ofN (by decide) (by grind [i32_ti]) (by grind [i32_ti])) ?_
              refine V_go 2 rfl ?_
              have a1 : (i32 tp).toNatClampNeg = tp := tn_of (by omega)
              have a3 : i32 tp + 1 = i32 (tp + 1) := (i32_s tp).symm
              simp only [a1]
              rw [a3]
              first
                | exact j262.un (tp + 1) _ _ (by unfold vStep; rw [if_pos (by grind [i32_ti]), if_pos (by grind)]) (by grind [i32_ti]) up2_row2
                | exact j262.un (tp + 1) _ _ (by unfold vStep; rw [if_pos (by grind [i32_ti]), if_neg (by grind)]) (by grind [i32_ti]) (by rw [up2_row2, row2_ne hnm2])
            · skip
              refine V_go 2 rfl ?_
              refine V_iast rfl rfl (Nat.le_of_ble_eq_true rfl) (inb_ofN (by decide) (by grind [i32_ti]) (by grind [i32_ti])) ?_
              refine V_go 2 rfl ?_
              have a1 : (i32 tp).toNatClampNeg = tp := tn_of (by omega)
              have a3 : i32 tp + 1 = i32 (tp + 1) := (i32_s tp).symm
              simp only [a1]
              rw [a3]
              first
                | exact j262.un (tp + 1) _ _ (by unfold vStep; rw [if_pos (by grind [i32_ti]), if_pos (by grind)]) (by grind [i32_ti]) up2_row2
                | exact j262.un (tp + 1) _ _ (by unfold vStep; rw [if_pos (by grind [i32_ti]), if_neg (by grind)]) (by grind [i32_ti]) (by rw [up2_row2, row2_ne hnm2])
      refine V_go 1 rfl ?_
      refine V_if_lt rfl (fun h1 => ?_) (fun h1 => ?_)
      · skip
        exfalso
        have := vCnt_0 (e := e) hi (by grind)
        omega
      · skip
        refine V_go 2 rfl ?_
        refine V_icmp_ge rfl (fun h2 => ?_) (fun h2 => ?_)
        · skip
          exfalso
          have := vCnt_0 (e := e) hi (by grind)
          omega
        · skip
          refine V_go 2 rfl ?_
          refine V_icmp_ge rfl (fun h3 => ?_) (fun h3 => ?_)
          · skip
            exfalso
            have := vCnt_0 (e := e) hi (by grind)
            omega
          · skip
            refine V_go 7 rfl ?_
            refine V_iald rfl rfl (Nat.le_of_ble_eq_true rfl) (inb_ofN (by decide) (by grind [i32_ti]) (by grind [i32_ti])) ?_
            refine V_go 1 rfl ?_
            exact j95.un _ (by rw [hidx]; rfl) (by grind [i32_ti])
  have head : Hid (∀ f0 e : Int32, f0 = vFrom (I 3) t part → e = I 3 (3 * t + part) → V mX5_value none 2 58 (RP RF (fun r I1 J1 => r = vVal (I 2) (I 3) (I 4) t part (I nm) ∧ J1 = J ∧ ∃ g, I1 = row2 I 4 g)) 60 [(0, .ref 1), (1, .int (i32 t)), (2, .int (i32 part)), (3, .ref nm), (4, .int f0), (5, .int e), (6, .int 0), (7, .int f0)] [] 58 I J RF) := by
    unfold Hid
    intro f0 e q1 q2
    unfold vVal
    rw [← q1, ← q2]
    have hI : I = row2 I 4 (I 4) := row2_self.symm
    by_cases hf : f0 < 0
    · rw [show vCnt f0 e = 0 by unfold vCnt; rw [if_pos hf]]
      have e1 := last0.un f0 e f0.toNatClampNeg 0 f0 (I 4)
      rw [← hI] at e1
      refine V_go 1 rfl ?_
      exact V_if_lt rfl (fun _ => e1) (fun h => absurd hf h)
    · by_cases hg : 160 ≤ f0
      · rw [show vCnt f0 e = 0 by exact vCnt_g hf hg]
        have e1 := last0.un f0 e f0.toNatClampNeg 0 f0 (I 4)
        rw [← hI] at e1
        refine V_go 1 rfl ?_
        refine V_if_lt rfl (fun h => absurd h hf) (fun _ => ?_)
        refine V_go 2 rfl ?_
        refine V_icmp_ge rfl (fun _ => e1) (fun _ => ?_)
        refine V_go 2 rfl ?_
        exact V_icmp_ge rfl (fun _ => e1) (fun h => absurd hg h)
      · have e1 := (key.un f0 e (vCnt f0 e)).un f0.toNatClampNeg 0 (I 4) (by unfold vCnt; rw [if_neg hf]) (by grind [tcn]) (by omega)
        have e0 : i32 f0.toNatClampNeg = f0 := Int32.ofNat_toNatClampNeg _ (by grind)
        rw [← hI, e0] at e1
        exact e1
  refine V_go 2 rfl ?_
  refine cVI (mt' := mX5_hasText) rfl kX5_44 fX5_hasText rfl rfl rfl (Nat.le_of_ble_eq_true rfl) (Nat.le_of_ble_eq_true rfl) (Nat.le_of_ble_eq_true rfl) (Nat.le_of_ble_eq_true rfl) (Nat.le_refl _) (c_hasText) ?_
  refine V_if_eq rfl (fun h2 => ?_) (fun h2 => ?_)
  · skip
    refine V_go 1 rfl ?_
    refine V_iret rfl rfl rfl ?_
    exfalso
    grind [b2i, i32_ti]
  · skip
    refine V_go 1 rfl ?_
    refine V_if_lt rfl (fun h3 => ?_) (fun h3 => ?_)
    · skip
      refine V_go 1 rfl ?_
      refine V_iret rfl rfl rfl ?_
      exfalso
      grind [b2i, i32_ti]
    · skip
      refine V_go 2 rfl ?_
      refine V_icmp_le rfl (fun h4 => ?_) (fun h4 => ?_)
      · skip
        refine V_go 1 rfl ?_
        refine V_if_ne rfl (fun h5 => ?_) (fun h5 => ?_)
        · skip
          refine V_go 9 rfl ?_
          refine V_iald rfl rfl (Nat.le_of_ble_eq_true rfl) (inb_ofN (by decide) (by grind [i32_ti]) (by grind [i32_ti])) ?_
          refine V_go 8 rfl ?_
          refine V_iald rfl rfl (Nat.le_of_ble_eq_true rfl) (inb_ofN (by decide) (by grind [i32_ti]) (by grind [i32_ti])) ?_
          refine V_go 5 rfl ?_
          exact head.un _ _ (by unfold vFrom; first | rw [if_pos (i32_eq hp ‹_›)] | (rw [if_neg (i32_ne hp ‹_›)]; congr 1; exact tnx (by grind [i32_ti]) (by omega))) (by congr 1; exact tnx (by grind [i32_ti]) (by omega))
        · skip
          refine V_go 10 rfl ?_
          refine V_iald rfl rfl (Nat.le_of_ble_eq_true rfl) (inb_ofN (by decide) (by grind [i32_ti]) (by grind [i32_ti])) ?_
          refine V_go 5 rfl ?_
          exact head.un _ _ (by unfold vFrom; first | rw [if_pos (i32_eq hp ‹_›)] | (rw [if_neg (i32_ne hp ‹_›)]; congr 1; exact tnx (by grind [i32_ti]) (by omega))) (by congr 1; exact tnx (by grind [i32_ti]) (by omega))
      · skip
        refine V_go 1 rfl ?_
        refine V_iret rfl rfl rfl ?_
        exfalso
        grind [b2i, i32_ti]
