/-! A TEXT READ, in numbers: the token ahead (kind as the class tells it, first byte, place behind it, number), the cells in the order in which they are worked out, what they say -/
abbrev PT : Type := Int32 × Nat × Nat × Int32
abbrev PR : Type := Bool × PT × List Int32 × ((Nat → Int32) → Int32)
def isBl (x : Int32) : Bool := decide (x = 32 ∨ x = 10)
def isLe (x : Int32) : Bool := decide (97 ≤ x ∧ x ≤ 122)
def isDi (x : Int32) : Bool := decide (48 ≤ x ∧ x ≤ 57)
def isSi (x : Int32) : Bool := decide (x = 40 ∨ x = 41 ∨ x = 59 ∨ x = 43 ∨ x = 45 ∨ x = 42 ∨ x = 60 ∨ x = 61)
def sk (f : Int32 → Bool) (b : Nat → Int32) : Nat → Nat → Nat
  | 0, p => p
  | k + 1, p => if f (b p) then sk f b k (p + 1) else p
def bts (b : Nat → Int32) (q : Nat) : Nat → List Int32
  | 0 => []
  | k + 1 => b q :: bts b (q + 1) k
def nmb (b : Nat → Int32) (q : Nat) : Nat → Int32
  | 0 => 0
  | j + 1 => if j < 4 then nmb b q j * 10 + b (q + j) - 48 else nmb b q j
def spl : Nat → List Int32
  | 0 => [110, 117, 109, 98, 101, 114]
  | 1 => [98, 114, 105, 98, 101]
  | 2 => [115, 105, 116, 116, 105, 110, 103]
  | 3 => [114, 101, 97, 100]
  | 4 => [114, 97, 110, 107]
  | 5 => [97, 115, 107, 101, 100]
  | 6 => [114, 101, 97, 100, 115]
  | 7 => [115, 116, 105, 108, 108, 115]
  | 8 => [110, 97, 109, 101, 115]
  | 9 => [111, 114]
  | 10 => [97, 110, 100]
  | _ => [110, 111, 116]
def wTok (l : List Int32) : Int32 :=
  if l = spl 0 then 256
  else if l = spl 1 then 257
  else if l = spl 2 then 258
  else if l = spl 3 then 259
  else if l = spl 4 then 260
  else if l = spl 5 then 261
  else if l = spl 6 then 262
  else if l = spl 7 then 263
  else if l = spl 8 then 264
  else if l = spl 9 then 265
  else if l = spl 10 then 266
  else if l = spl 11 then 267
  else 1
def tkn (b : Nat → Int32) (n p : Nat) : PT :=
  let q := sk isBl b (n - p) p
  if n ≤ q then (0, q, q, 0)
  else if isLe (b q) then (wTok (bts b q (sk isLe b (n - q) q - q)), q, sk isLe b (n - q) q, 0)
  else if isDi (b q) then (if sk isDi b (n - q) q - q ≤ 4 then 2 else 1, q, sk isDi b (n - q) q, nmb b q (sk isDi b (n - q) q - q))
  else (if isSi (b q) then b q else 1, q, q + 1, 0)
def nxt (b : Nat → Int32) (n : Nat) (s : PT) : PT := tkn b n s.2.2.1
def orC (t : Int32) : Int32 := if t = 265 then -20 else 0
def andC (t : Int32) : Int32 := if t = 266 then -21 else 0
def cmpC (t : Int32) : Int32 := if t = 60 then -22 else if t = 61 then -23 else 0
def sumC (t : Int32) : Int32 := if t = 43 then -24 else if t = 45 then -25 else 0
def mulC (t : Int32) : Int32 := if t = 42 then -26 else 0
def pBin (b : Nat → Int32) (n : Nat) (f : PT → PR) (oc : Int32 → Int32) : Nat → PR → PR
  | 0, r => r
  | k + 1, r => if r.1 = true ∧ oc r.2.1.1 ≠ 0 then pBin b n f oc k ((f (nxt b n r.2.1)).1, (f (nxt b n r.2.1)).2.1, r.2.2.1 ++ (f (nxt b n r.2.1)).2.2.1 ++ [oc r.2.1.1], fun e => vBoth (oc r.2.1.1) (r.2.2.2 e) ((f (nxt b n r.2.1)).2.2.2 e)) else r
def pNone (s : PT) : PR := (false, s, [], fun _ => 0)
def pOne (b : Nat → Int32) (n : Nat) (k : Nat) (or' one' : PT → PR) (s : PT) : PR :=
  if s.1 = 2 then (true, nxt b n s, [s.2.2.2], fun _ => s.2.2.2)
  else if 256 ≤ s.1 ∧ s.1 < 262 then (true, nxt b n s, [-1 - (s.1 - 256)], fun e => e (s.1 - 256).toNatClampNeg)
  else if k = 0 then pNone s
  else if s.1 = 40 then (if (or' (nxt b n s)).1 = true ∧ (or' (nxt b n s)).2.1.1 = 41 then (true, nxt b n (or' (nxt b n s)).2.1, (or' (nxt b n s)).2.2) else (false, (or' (nxt b n s)).2.1, [], fun _ => 0))
  else if s.1 = 45 then ((one' (nxt b n s)).1, (one' (nxt b n s)).2.1, (one' (nxt b n s)).2.2.1 ++ [-11], fun e => -((one' (nxt b n s)).2.2.2 e))
  else pNone s
def pNot (b : Nat → Int32) (n : Nat) (k : Nat) (cmp not' : PT → PR) (s : PT) : PR :=
  if s.1 = 267 then (if k = 0 then pNone s else ((not' (nxt b n s)).1, (not' (nxt b n s)).2.1, (not' (nxt b n s)).2.2.1 ++ [-10], fun e => b2i ((not' (nxt b n s)).2.2.2 e = 0))) else cmp s
def pTerm (b : Nat → Int32) (n : Nat) (one : PT → PR) (s : PT) : PR := pBin b n one mulC 160 (one s)
def pSum (b : Nat → Int32) (n : Nat) (one : PT → PR) (s : PT) : PR := pBin b n (pTerm b n one) sumC 160 (pTerm b n one s)
def pCmp (b : Nat → Int32) (n : Nat) (one : PT → PR) (s : PT) : PR := pBin b n (pSum b n one) cmpC 1 (pSum b n one s)
def pAnd (b : Nat → Int32) (n : Nat) (not' : PT → PR) (s : PT) : PR := pBin b n not' andC 160 (not' s)
def pOr (b : Nat → Int32) (n : Nat) (not' : PT → PR) (s : PT) : PR := pBin b n (pAnd b n not') orC 160 (pAnd b n not' s)
/-- one and not, where so many more may be opened -/
def pLv (b : Nat → Int32) (n : Nat) : Nat → (PT → PR) × (PT → PR)
  | 0 => (pOne b n 0 pNone pNone, pNot b n 0 (pCmp b n (pOne b n 0 pNone pNone)) pNone)
  | k + 1 => (pOne b n (k + 1) (pOr b n (pLv b n k).2) (pLv b n k).1, pNot b n (k + 1) (pCmp b n (pOne b n (k + 1) (pOr b n (pLv b n k).2) (pLv b n k).1)) (pLv b n k).2)
def pAll (b : Nat → Int32) (n k : Nat) : PT → PR := pOr b n (pLv b n k).2
def pPart (b : Nat → Int32) (n : Nat) (key : Int32) (s : PT) : PR :=
  if s.1 = key then (if (pAll b n 5 (nxt b n s)).1 = true ∧ (pAll b n 5 (nxt b n s)).2.1.1 = 59 then (true, nxt b n (pAll b n 5 (nxt b n s)).2.1, (pAll b n 5 (nxt b n s)).2.2) else (false, (pAll b n 5 (nxt b n s)).2.1, [], fun _ => 0)) else pNone s

/-! how far it goes -/
theorem sk_ge (f : Int32 → Bool) (b : Nat → Int32) : ∀ k p, p ≤ sk f b k p ∧ sk f b k p ≤ p + k
  | 0, p => ⟨Nat.le_refl _, Nat.le_refl _⟩
  | k + 1, p => by
    rw [sk]
    have h := sk_ge f b k (p + 1)
    split <;> omega
theorem sk_gt {f : Int32 → Bool} {b : Nat → Int32} {k p : Nat} (h : f (b p) = true) (hk : 0 < k) : p < sk f b k p := by
  obtain ⟨j, rfl⟩ : ∃ j, k = j + 1 := ⟨k - 1, by omega⟩
  rw [sk, if_pos h]
  have := sk_ge f b j (p + 1)
  omega
/-- where the token ahead stands -/
def pOk (n : Nat) (s : PT) : Prop := s.2.1 ≤ n ∧ s.2.2.1 ≤ n ∧ s.2.1 ≤ s.2.2.1 ∧ (s.1 ≠ 0 → s.2.1 < s.2.2.1)
theorem tkn_ok (b : Nat → Int32) {n p : Nat} (hp : p ≤ n) : pOk n (tkn b n p) ∧ p ≤ (tkn b n p).2.1 := by
  have h := sk_ge isBl b (n - p) p
  unfold tkn pOk
  simp only []
  generalize sk isBl b (n - p) p = q at *
  by_cases h1 : n ≤ q
  · rw [if_pos h1]
    simp only [ne_eq, not_true_eq_false, false_implies, and_true]
    omega
  · rw [if_neg h1]
    by_cases h2 : isLe (b q) = true
    · rw [if_pos h2]
      have a := sk_ge isLe b (n - q) q
      have c := sk_gt (f := isLe) (b := b) (k := n - q) h2 (by omega)
      simp only []
      omega
    · rw [if_neg h2]
      by_cases h3 : isDi (b q) = true
      · rw [if_pos h3]
        have a := sk_ge isDi b (n - q) q
        have c := sk_gt (f := isDi) (b := b) (k := n - q) h3 (by omega)
        simp only []
        omega
      · rw [if_neg h3]
        simp only []
        omega
theorem nxt_ok {b : Nat → Int32} {n : Nat} {s : PT} (h : pOk n s) : pOk n (nxt b n s) ∧ s.2.1 ≤ (nxt b n s).2.1 ∧ (s.1 ≠ 0 → s.2.1 < (nxt b n s).2.1) := by
  obtain ⟨h1, h2⟩ := tkn_ok b h.2.1
  unfold nxt
  refine ⟨h1, ?_, fun h0 => ?_⟩
  · have := h.2.2.1
    omega
  · have := h.2.2.2 h0
    omega

