/-! WHAT A COUNCIL ANSWERS, in numbers. C: row 0 sitting, length, rule, citizens, items; rows 1 .. 6 kinds, numbers, bribes, takes, soFar, doneAt. T: what a text says (text, part, number, bribe, sitting, read, rank, asked), minutes bounded. -/
abbrev TV : Type := Int32 → Nat → Int32 → Int32 → Int32 → Int32 → Int32 → Int32 → Int32
abbrev CC : Type := Nat → Nat → Int32
def cOf (I : I2) (o : Nat) : CC := fun g j => match g with
  | 0 => (match j with
    | 0 => I o 2
    | 1 => I o 3
    | 2 => I o 4
    | 3 => I o 5
    | 4 => I o 9
    | _ => 0)
  | 1 => I (o + 2) j
  | 2 => I (o + 3) j
  | 3 => I (o + 4) j
  | 4 => I (o + 5) j
  | 5 => I (o + 6) j
  | 6 => I (o + 7) j
  | _ => 0
def cMd (I : I2) : CC := fun g j => match g with
  | 0 => (match j with
    | 0 => I 38 7
    | 1 => I 38 8
    | 2 => I 38 4
    | 3 => I 38 12
    | 4 => I 38 14
    | _ => 0)
  | 1 => I 42 j
  | 2 => I 43 j
  | 3 => I 44 j
  | 4 => I 45 (3 * j)
  | 5 => I 45 (3 * j + 1)
  | 6 => I 45 (3 * j + 2)
  | _ => 0
def nC (C : CC) : Nat := (C 0 3).toNatClampNeg
def mC (C : CC) : Nat := (C 0 4).toNatClampNeg

/-- how many of a set are less than i -/
def cnt (m : Nat) : Nat → Nat
  | 0 => 0
  | i + 1 => cnt m i + (if m.testBit i then 1 else 0)
def askT (T : TV) (C : CC) (part c ah : Nat) : Int32 := T (C 0 2) part (C 2 c) (C 3 c) (C 0 0) (i32 ah) (i32 c) (C 0 3)
def sRd (T : TV) (C : CC) (c ah : Nat) : Int32 := sKRd (C 1 c) (b2i (askT T C 0 c ah ≠ 0)) (C 2 c) (C 3 c) (C 0 0)
def sSl (T : TV) (C : CC) (c ah : Nat) : Int32 := sKSil (C 1 c) (askT T C 1 c ah) (C 2 c)
def sTm (T : TV) (C : CC) (c ah : Nat) : Int32 := sKTim (C 1 c) (askT T C 2 c ah) (C 2 c) (C 0 0)
def sLs (T : TV) (C : CC) : Nat → Nat
  | 0 => 0
  | i + 1 => if sRd T C i (cnt (sLs T C i) i) = 0 then sLs T C i else sLs T C i + 2 ^ i
def sLst (T : TV) (C : CC) : Nat := sLs T C (nC C)
def sGn (T : TV) (C : CC) (p : Nat → Bool) (m : Nat) : Nat → Int32
  | 0 => 0
  | i + 1 => sGn T C p m i + (if p i then (if m.testBit i then sTm T C i (cnt m i) else sSl T C i (cnt m i)) else 0)
/-- minutes that are gone by a list -/
def sGone (T : TV) (C : CC) (m : Nat) : Int32 := sGn T C (fun _ => true) m (nC C)
def sGo (T : TV) (C : CC) : Int32 := sGone T C (sLst T C)
def sLeft (T : TV) (C : CC) : Int32 := if C 0 1 - sGo T C < 0 then 0 else C 0 1 - sGo T C
def bitc (x : Int32) : Int32 :=
  let a := x - ((iushrV x 1) &&& 1431655765)
  let b := (a &&& 858993459) + ((iushrV a 2) &&& 858993459)
  let c := (b + iushrV b 4) &&& 252645135
  let d := c + iushrV c 8
  (d + iushrV d 16) &&& 63
theorem sLs_lt (T : TV) (C : CC) : ∀ n, sLs T C n < 2 ^ n
  | 0 => by simp [sLs]
  | n + 1 => by
    have h := sLs_lt T C n
    unfold sLs
    split <;> (rw [Nat.pow_succ]; omega)
theorem cnt_le (m : Nat) : ∀ i, cnt m i ≤ i
  | 0 => Nat.le_refl _
  | i + 1 => by
    have h := cnt_le m i
    unfold cnt
    split <;> omega
/-- small sets: the machine's bits and ours -/
theorem bitc_ok : ∀ m, m < 256 → ∀ i, i < 9 → bitc (i32 m &&& ((1 : Int32) <<< (i32 i &&& 31) - 1)) = i32 (cnt m i) := by decide +kernel
theorem bitc_all : ∀ m, m < 256 → bitc (i32 m) = i32 (cnt m 8) := by decide +kernel
theorem bit_ok : ∀ m, m < 256 → ∀ i, i < 8 → (i32 m >>> (i32 i &&& 31)) &&& 1 = if m.testBit i then 1 else 0 := by decide +kernel
theorem bitn_ok : ∀ m, m < 256 → ∀ i, i < 8 → ((i32 m ^^^ -1) >>> (i32 i &&& 31)) &&& 1 = if m.testBit i then 0 else 1 := by decide +kernel
theorem orbit_ok : ∀ i, i < 8 → ∀ m, m < 2 ^ i → i32 m ||| (1 : Int32) <<< (i32 i &&& 31) = i32 (m + 2 ^ i) := by decide +kernel
theorem evr_ok : ∀ n, n < 9 → (1 : Int32) <<< (i32 n &&& 31) - 1 = i32 (2 ^ n - 1) := by decide +kernel
theorem all_bits : ∀ n, n < 9 → ∀ i, i < n → (2 ^ n - 1).testBit i = true := by decide +kernel
