/-! calls, by the shape of the answer; the arguments are read off the stack -/
def popA : Nat → List Value → List Value → Option (List Value × List Value)
  | 0, st, acc => some (acc, st)
  | n + 1, .int x :: st, acc => popA n st (.int x :: acc)
  | n + 1, .long x :: st, acc => popA n st (.long x :: acc)
  | n + 1, .ref x :: st, acc => popA n st (.ref x :: acc)
  | n + 1, .null :: st, acc => popA n st (.null :: acc)
  | _ + 1, _, _ => none
theorem popA_eq : ∀ (n : Nat) (st acc As rest : List Value), popA n st acc = some (As, rest) → acc.reverse ++ st = As.reverse ++ rest ∧ As.length = n + acc.length
  | 0, st, acc, As, rest, h => by
    simp only [popA] at h
    cases h
    simp
  | n + 1, [], acc, As, rest, h => by simp [popA] at h
  | n + 1, v :: st, acc, As, rest, h => by
    have key : ∀ w, popA n st (w :: acc) = some (As, rest) → w = v → acc.reverse ++ v :: st = As.reverse ++ rest ∧ As.length = n + 1 + acc.length := by
      intro w hw e
      have h1 := popA_eq n st (w :: acc) As rest hw
      subst e
      simp only [List.reverse_cons, List.append_assoc, List.singleton_append, List.length_cons] at h1
      exact ⟨h1.1, by omega⟩
    cases v with
    | int x => exact key _ h rfl
    | long x => exact key _ h rfl
    | ref x => exact key _ h rfl
    | null => exact key _ h rfl
    | float x => simp [popA] at h
    | double x => simp [popA] at h
    | retAddr x => simp [popA] at h
def RFq (F0 : F2) (P : Option Value → I2 → J2 → Prop) : QT := fun rv I J F => P rv I J ∧ F = F0
/-- the answer is that int, the world these numbers -/
def RI (F0 : F2) (r : Int32) (I1 : I2) (J1 : J2) : QT := fun rv I J F => rv = some (.int r) ∧ I = I1 ∧ J = J1 ∧ F = F0
def RV (F0 : F2) (I1 : I2) (J1 : J2) : QT := fun rv I J F => rv = none ∧ I = I1 ∧ J = J1 ∧ F = F0
def RP (F0 : F2) (P : Int32 → I2 → J2 → Prop) : QT := fun rv I J F => ∃ r, rv = some (.int r) ∧ P r I J ∧ F = F0
def RVP (F0 : F2) (P : I2 → J2 → Prop) : QT := fun rv I J F => rv = none ∧ P I J ∧ F = F0
def RLg (F0 : F2) (P : Int64 → I2 → J2 → Prop) : QT := fun rv I J F => ∃ r, rv = some (.long r) ∧ P r I J ∧ F = F0
def RA (F0 : F2) (r : Nat) (I1 : I2) (J1 : J2) : QT := fun rv I J F => rv = some (.ref r) ∧ I = I1 ∧ J = J1 ∧ F = F0
theorem RI.mk {F0 : F2} {x r : Int32} {I : I2} {J : J2} (h : x = r) : RI F0 r I J (some (.int x)) I J F0 := ⟨by rw [h], rfl, rfl, rfl⟩
theorem RP.mk {F0 : F2} {x : Int32} {P : Int32 → I2 → J2 → Prop} {I : I2} {J : J2} (h : P x I J) : RP F0 P (some (.int x)) I J F0 := ⟨x, rfl, h, rfl⟩
theorem RLg.mk {F0 : F2} {x : Int64} {P : Int64 → I2 → J2 → Prop} {I : I2} {J : J2} (h : P x I J) : RLg F0 P (some (.long x)) I J F0 := ⟨x, rfl, h, rfl⟩
theorem RV.mk {F0 : F2} {I : I2} {J : J2} : RV F0 I J none I J F0 := ⟨rfl, rfl, rfl, rfl⟩
theorem RVP.mk {F0 : F2} {P : I2 → J2 → Prop} {I : I2} {J : J2} (h : P I J) : RVP F0 P none I J F0 := ⟨rfl, h, rfl⟩
section V2
variable {mt : MT} {sc : Option (Nat × (Nat → Int32))} {d nE : Nat} {Q : QT} {pc nx t ci k n : Nat} {c32 : Int32} {c64 : Int64} {L : Lc} {st rest : List Value} {I : I2} {J : J2} {F : F2}
theorem cV {mt' : MT} {z o na wini winst wsel d' ci' : Nat} {As : List Value} {Q' : QT} (he : fE mt.2.2.2.2.2.2 pc = some (pc, .invokevirtual z, nx, t, c32, c64, ci, k)) (hl : lnk mt.1 z mt'.2.1) (hy : okYv mt' na wini winst wsel = true) (hst : popA na st [] = some (As, .ref o :: rest)) (hKD : KD o = .inl ci') (hcl : (nCl ci').1 = mt'.2.1.cls) (h7 : ci' < 7) (hon : o < n)
    (hC : CT mt' d' n n (.ref o :: As) I J F Q') (hd' : d' + 1 ≤ d) (hsum : (rest.map fun v => v.category).sum ≤ 8)
    (kk : ∀ rv I' J' F', Q' rv I' J' F' → V mt sc d nE Q nx L (rv.toList ++ rest) n I' J' F') (hn : n ≤ nE) : V mt sc d nE Q pc L st n I J F := by
  have h := popA_eq na st [] As _ hst
  simp only [List.reverse_nil, List.nil_append, List.length_nil, Nat.add_zero] at h
  exact V_callV he hl hy h.1 h.2 hKD hcl h7 hon hC hd' hsum ⟨Nat.le_refl _, hn⟩ (Or.inl rfl) kk
theorem cS {mt' : MT} {z na wini wstat d' : Nat} {As : List Value} {Q' : QT} (he : fE mt.2.2.2.2.2.2 pc = some (pc, .invokestatic z, nx, t, c32, c64, ci, k)) (hl : lnk mt.1 z mt'.2.1) (hy : okYs mt' na wini wstat = true) (hst : popA na st [] = some (As, rest))
    (hC : CT mt' d' n n As I J F Q') (hd' : d' + 1 ≤ d) (hsum : (rest.map fun v => v.category).sum ≤ 8)
    (kk : ∀ rv I' J' F', Q' rv I' J' F' → V mt sc d nE Q nx L (rv.toList ++ rest) n I' J' F') (hn : n ≤ nE) : V mt sc d nE Q pc L st n I J F := by
  have h := popA_eq na st [] As _ hst
  simp only [List.reverse_nil, List.nil_append, List.length_nil, Nat.add_zero] at h
  exact V_callS he hl hy h.1 h.2 hC hd' hsum ⟨Nat.le_refl _, hn⟩ (Or.inl rfl) kk
theorem cVI {mt' : MT} {z o na wini winst wsel d' ci' : Nat} {As : List Value} {r : Int32} {I1 : I2} {J1 : J2} (he : fE mt.2.2.2.2.2.2 pc = some (pc, .invokevirtual z, nx, t, c32, c64, ci, k)) (hl : lnk mt.1 z mt'.2.1) (hy : okYv mt' na wini winst wsel = true) (hst : popA na st [] = some (As, .ref o :: rest)) (hKD : KD o = .inl ci') (hcl : (nCl ci').1 = mt'.2.1.cls) (h7 : ci' < 7) (hon : o < n) (hd' : d' + 1 ≤ d) (hsum : (rest.map fun v => v.category).sum ≤ 8) (hn : n ≤ nE)
    (hC : CT mt' d' n n (.ref o :: As) I J F (RI F r I1 J1)) (kk : V mt sc d nE Q nx L (.int r :: rest) n I1 J1 F) : V mt sc d nE Q pc L st n I J F := cV he hl hy hst hKD hcl h7 hon hC hd' hsum (fun rv I' J' F' h => by obtain ⟨rfl, rfl, rfl, rfl⟩ := h; exact kk) hn
theorem cSI {mt' : MT} {z na wini wstat d' : Nat} {As : List Value} {r : Int32} {I1 : I2} {J1 : J2} (he : fE mt.2.2.2.2.2.2 pc = some (pc, .invokestatic z, nx, t, c32, c64, ci, k)) (hl : lnk mt.1 z mt'.2.1) (hy : okYs mt' na wini wstat = true) (hst : popA na st [] = some (As, rest)) (hd' : d' + 1 ≤ d) (hsum : (rest.map fun v => v.category).sum ≤ 8) (hn : n ≤ nE)
    (hC : CT mt' d' n n As I J F (RI F r I1 J1)) (kk : V mt sc d nE Q nx L (.int r :: rest) n I1 J1 F) : V mt sc d nE Q pc L st n I J F := cS he hl hy hst hC hd' hsum (fun rv I' J' F' h => by obtain ⟨rfl, rfl, rfl, rfl⟩ := h; exact kk) hn
theorem cVV {mt' : MT} {z o na wini winst wsel d' ci' : Nat} {As : List Value} {I1 : I2} {J1 : J2} (he : fE mt.2.2.2.2.2.2 pc = some (pc, .invokevirtual z, nx, t, c32, c64, ci, k)) (hl : lnk mt.1 z mt'.2.1) (hy : okYv mt' na wini winst wsel = true) (hst : popA na st [] = some (As, .ref o :: rest)) (hKD : KD o = .inl ci') (hcl : (nCl ci').1 = mt'.2.1.cls) (h7 : ci' < 7) (hon : o < n) (hd' : d' + 1 ≤ d) (hsum : (rest.map fun v => v.category).sum ≤ 8) (hn : n ≤ nE)
    (hC : CT mt' d' n n (.ref o :: As) I J F (RV F I1 J1)) (kk : V mt sc d nE Q nx L rest n I1 J1 F) : V mt sc d nE Q pc L st n I J F := cV he hl hy hst hKD hcl h7 hon hC hd' hsum (fun rv I' J' F' h => by obtain ⟨rfl, rfl, rfl, rfl⟩ := h; exact kk) hn
theorem cSV {mt' : MT} {z na wini wstat d' : Nat} {As : List Value} {I1 : I2} {J1 : J2} (he : fE mt.2.2.2.2.2.2 pc = some (pc, .invokestatic z, nx, t, c32, c64, ci, k)) (hl : lnk mt.1 z mt'.2.1) (hy : okYs mt' na wini wstat = true) (hst : popA na st [] = some (As, rest)) (hd' : d' + 1 ≤ d) (hsum : (rest.map fun v => v.category).sum ≤ 8) (hn : n ≤ nE)
    (hC : CT mt' d' n n As I J F (RV F I1 J1)) (kk : V mt sc d nE Q nx L rest n I1 J1 F) : V mt sc d nE Q pc L st n I J F := cS he hl hy hst hC hd' hsum (fun rv I' J' F' h => by obtain ⟨rfl, rfl, rfl, rfl⟩ := h; exact kk) hn
theorem cVP {mt' : MT} {z o na wini winst wsel d' ci' : Nat} {As : List Value} {P : Int32 → I2 → J2 → Prop} (he : fE mt.2.2.2.2.2.2 pc = some (pc, .invokevirtual z, nx, t, c32, c64, ci, k)) (hl : lnk mt.1 z mt'.2.1) (hy : okYv mt' na wini winst wsel = true) (hst : popA na st [] = some (As, .ref o :: rest)) (hKD : KD o = .inl ci') (hcl : (nCl ci').1 = mt'.2.1.cls) (h7 : ci' < 7) (hon : o < n) (hd' : d' + 1 ≤ d) (hsum : (rest.map fun v => v.category).sum ≤ 8) (hn : n ≤ nE)
    (hC : CT mt' d' n n (.ref o :: As) I J F (RP F P)) (kk : ∀ r I1 J1, P r I1 J1 → V mt sc d nE Q nx L (.int r :: rest) n I1 J1 F) : V mt sc d nE Q pc L st n I J F := cV he hl hy hst hKD hcl h7 hon hC hd' hsum (fun rv I' J' F' h => by obtain ⟨r, rfl, h, rfl⟩ := h; exact kk r _ _ h) hn
theorem cSP {mt' : MT} {z na wini wstat d' : Nat} {As : List Value} {P : Int32 → I2 → J2 → Prop} (he : fE mt.2.2.2.2.2.2 pc = some (pc, .invokestatic z, nx, t, c32, c64, ci, k)) (hl : lnk mt.1 z mt'.2.1) (hy : okYs mt' na wini wstat = true) (hst : popA na st [] = some (As, rest)) (hd' : d' + 1 ≤ d) (hsum : (rest.map fun v => v.category).sum ≤ 8) (hn : n ≤ nE)
    (hC : CT mt' d' n n As I J F (RP F P)) (kk : ∀ r I1 J1, P r I1 J1 → V mt sc d nE Q nx L (.int r :: rest) n I1 J1 F) : V mt sc d nE Q pc L st n I J F := cS he hl hy hst hC hd' hsum (fun rv I' J' F' h => by obtain ⟨r, rfl, h, rfl⟩ := h; exact kk r _ _ h) hn
theorem cVW {mt' : MT} {z o na wini winst wsel d' ci' : Nat} {As : List Value} {P : I2 → J2 → Prop} (he : fE mt.2.2.2.2.2.2 pc = some (pc, .invokevirtual z, nx, t, c32, c64, ci, k)) (hl : lnk mt.1 z mt'.2.1) (hy : okYv mt' na wini winst wsel = true) (hst : popA na st [] = some (As, .ref o :: rest)) (hKD : KD o = .inl ci') (hcl : (nCl ci').1 = mt'.2.1.cls) (h7 : ci' < 7) (hon : o < n) (hd' : d' + 1 ≤ d) (hsum : (rest.map fun v => v.category).sum ≤ 8) (hn : n ≤ nE)
    (hC : CT mt' d' n n (.ref o :: As) I J F (RVP F P)) (kk : ∀ I1 J1, P I1 J1 → V mt sc d nE Q nx L rest n I1 J1 F) : V mt sc d nE Q pc L st n I J F := cV he hl hy hst hKD hcl h7 hon hC hd' hsum (fun rv I' J' F' h => by obtain ⟨rfl, h, rfl⟩ := h; exact kk _ _ h) hn
theorem cSW {mt' : MT} {z na wini wstat d' : Nat} {As : List Value} {P : I2 → J2 → Prop} (he : fE mt.2.2.2.2.2.2 pc = some (pc, .invokestatic z, nx, t, c32, c64, ci, k)) (hl : lnk mt.1 z mt'.2.1) (hy : okYs mt' na wini wstat = true) (hst : popA na st [] = some (As, rest)) (hd' : d' + 1 ≤ d) (hsum : (rest.map fun v => v.category).sum ≤ 8) (hn : n ≤ nE)
    (hC : CT mt' d' n n As I J F (RVP F P)) (kk : ∀ I1 J1, P I1 J1 → V mt sc d nE Q nx L rest n I1 J1 F) : V mt sc d nE Q pc L st n I J F := cS he hl hy hst hC hd' hsum (fun rv I' J' F' h => by obtain ⟨rfl, h, rfl⟩ := h; exact kk _ _ h) hn
theorem cVL {mt' : MT} {z o na wini winst wsel d' ci' : Nat} {As : List Value} {P : Int64 → I2 → J2 → Prop} (he : fE mt.2.2.2.2.2.2 pc = some (pc, .invokevirtual z, nx, t, c32, c64, ci, k)) (hl : lnk mt.1 z mt'.2.1) (hy : okYv mt' na wini winst wsel = true) (hst : popA na st [] = some (As, .ref o :: rest)) (hKD : KD o = .inl ci') (hcl : (nCl ci').1 = mt'.2.1.cls) (h7 : ci' < 7) (hon : o < n) (hd' : d' + 1 ≤ d) (hsum : (rest.map fun v => v.category).sum ≤ 8) (hn : n ≤ nE)
    (hC : CT mt' d' n n (.ref o :: As) I J F (RLg F P)) (kk : ∀ r I1 J1, P r I1 J1 → V mt sc d nE Q nx L (.long r :: rest) n I1 J1 F) : V mt sc d nE Q pc L st n I J F := cV he hl hy hst hKD hcl h7 hon hC hd' hsum (fun rv I' J' F' h => by obtain ⟨r, rfl, h, rfl⟩ := h; exact kk r _ _ h) hn
theorem cSL {mt' : MT} {z na wini wstat d' : Nat} {As : List Value} {P : Int64 → I2 → J2 → Prop} (he : fE mt.2.2.2.2.2.2 pc = some (pc, .invokestatic z, nx, t, c32, c64, ci, k)) (hl : lnk mt.1 z mt'.2.1) (hy : okYs mt' na wini wstat = true) (hst : popA na st [] = some (As, rest)) (hd' : d' + 1 ≤ d) (hsum : (rest.map fun v => v.category).sum ≤ 8) (hn : n ≤ nE)
    (hC : CT mt' d' n n As I J F (RLg F P)) (kk : ∀ r I1 J1, P r I1 J1 → V mt sc d nE Q nx L (.long r :: rest) n I1 J1 F) : V mt sc d nE Q pc L st n I J F := cS he hl hy hst hC hd' hsum (fun rv I' J' F' h => by obtain ⟨r, rfl, h, rfl⟩ := h; exact kk r _ _ h) hn
theorem cVA {mt' : MT} {z o na wini winst wsel d' ci' : Nat} {As : List Value} {r : Nat} {I1 : I2} {J1 : J2} (he : fE mt.2.2.2.2.2.2 pc = some (pc, .invokevirtual z, nx, t, c32, c64, ci, k)) (hl : lnk mt.1 z mt'.2.1) (hy : okYv mt' na wini winst wsel = true) (hst : popA na st [] = some (As, .ref o :: rest)) (hKD : KD o = .inl ci') (hcl : (nCl ci').1 = mt'.2.1.cls) (h7 : ci' < 7) (hon : o < n) (hd' : d' + 1 ≤ d) (hsum : (rest.map fun v => v.category).sum ≤ 8) (hn : n ≤ nE)
    (hC : CT mt' d' n n (.ref o :: As) I J F (RA F r I1 J1)) (kk : V mt sc d nE Q nx L (.ref r :: rest) n I1 J1 F) : V mt sc d nE Q pc L st n I J F := cV he hl hy hst hKD hcl h7 hon hC hd' hsum (fun rv I' J' F' h => by obtain ⟨rfl, rfl, rfl, rfl⟩ := h; exact kk) hn
theorem cSA {mt' : MT} {z na wini wstat d' : Nat} {As : List Value} {r : Nat} {I1 : I2} {J1 : J2} (he : fE mt.2.2.2.2.2.2 pc = some (pc, .invokestatic z, nx, t, c32, c64, ci, k)) (hl : lnk mt.1 z mt'.2.1) (hy : okYs mt' na wini wstat = true) (hst : popA na st [] = some (As, rest)) (hd' : d' + 1 ≤ d) (hsum : (rest.map fun v => v.category).sum ≤ 8) (hn : n ≤ nE)
    (hC : CT mt' d' n n As I J F (RA F r I1 J1)) (kk : V mt sc d nE Q nx L (.ref r :: rest) n I1 J1 F) : V mt sc d nE Q pc L st n I J F := cS he hl hy hst hC hd' hsum (fun rv I' J' F' h => by obtain ⟨rfl, rfl, rfl, rfl⟩ := h; exact kk) hn
theorem V_tswC {dflt lo hi : Int} {offs : Array Int} {x v : Int32} {t9 : Nat} (he : fE mt.2.2.2.2.2.2 pc = some (pc, .tableswitch dflt lo hi offs, nx, t, c32, c64, ci, k)) (hsz : (offs.size : Int) = hi + 1 - lo) (hpos : (∀ o ∈ offs.toList, 0 ≤ (pc : Int) + o) ∧ 0 ≤ (pc : Int) + dflt) (ht : swT pc lo offs dflt v.toInt = t9)
    (k1 : x = v → V mt sc d nE Q t9 L st n I J F) (k2 : ¬ x = v → V mt sc d nE Q pc L (.int x :: st) n I J F) : V mt sc d nE Q pc L (.int x :: st) n I J F := by
  by_cases h : x = v
  · refine V_tsw he hsz hpos ?_
    rw [h, ht]
    exact k1 h
  · exact k2 h
theorem V_tswD {dflt lo hi : Int} {offs : Array Int} {x : Int32} {t9 : Nat} (he : fE mt.2.2.2.2.2.2 pc = some (pc, .tableswitch dflt lo hi offs, nx, t, c32, c64, ci, k)) (hsz : (offs.size : Int) = hi + 1 - lo) (hpos : (∀ o ∈ offs.toList, 0 ≤ (pc : Int) + o) ∧ 0 ≤ (pc : Int) + dflt) (ht : ((pc : Int) + dflt).toNat = t9) (hx : x.toInt < lo ∨ hi < x.toInt)
    (kk : V mt sc d nE Q t9 L st n I J F) : V mt sc d nE Q pc L (.int x :: st) n I J F := by
  refine V_tsw he hsz hpos ?_
  have e : swT pc lo offs dflt x.toInt = t9 := by
    unfold swT
    rcases hx with h | h
    · rw [if_pos h, ht]
    · by_cases h1 : x.toInt < lo
      · rw [if_pos h1, ht]
      · rw [if_neg h1]
        have h3 : offs[(x.toInt - lo).toNat]? = none := by
          rw [Array.getElem?_eq_none_iff]; omega
        rw [h3]
        exact ht
  rw [e]
  exact kk
end V2
