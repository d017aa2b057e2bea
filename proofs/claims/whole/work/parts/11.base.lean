def RFl : List (List (Option Nat)) := [[some 1, some 5, some 7, some 15, some 23, none, some 31, some 34], [none, none, some 2, some 3, some 4], [], [], [], [some 1, some 6, none, none, none, none, none], [], [some 1, some 8, none, none, none, none, some 9, some 10, some 11, none, some 12, some 13, some 14], [], [], [], [], [], [], [], [some 1, some 16, none, none, none, none, some 17, some 18, some 19, none, some 20, some 21, some 22], [], [], [], [], [], [], [], [some 1, some 24, none, none, none, none, some 25, some 26, some 27, none, some 28, some 29, some 30], [], [], [], [], [], [], [], [some 32, some 33, none, none, none], [], [], [some 35, some 36, some 37], [], [], [], [none, some 39, some 40, none, none, some 41, none, none, none, some 42, some 43, some 44, none, some 45, none, none, none, none, none, none, none, none, none, none, none, none, none, none, none, none, some 46, some 47, none, some 48, none, some 49, none, none, none, none, none, none, some 50, some 51, some 52, some 53, none, none, none, none, none, some 54, some 55, some 56, some 57]]
/-- which cell a field of references holds, once all is made -/
def RF : F2 := fun o k => (RFl.getD o []).getD k none
def oC (o : Nat) : Prop := o = 7 ∨ o = 15 ∨ o = 23
def b2i (p : Prop) [Decidable p] : Int32 := if p then 1 else 0
theorem b2i_1 {p : Prop} [Decidable p] (h : p) : b2i p = 1 := if_pos h
theorem b2i_0 {p : Prop} [Decidable p] (h : ¬ p) : b2i p = 0 := if_neg h
theorem b2i_or (p : Prop) [Decidable p] : b2i p = 0 ∨ b2i p = 1 := by unfold b2i; split <;> simp
theorem b2i_eq0 {p : Prop} [Decidable p] : b2i p = 0 ↔ ¬ p := by unfold b2i; split <;> simp_all
theorem b2i_eq1 {p : Prop} [Decidable p] : b2i p = 1 ↔ p := by unfold b2i; split <;> simp_all
theorem up2_rd {α : Type} (f : Nat → Nat → α) (o k : Nat) (v : α) (i j : Nat) : up2 f o k v i j = if i = o then (if j = k then v else f i j) else f i j := rfl
theorem row2_rd {α : Type} (f : Nat → Nat → α) (o : Nat) (g : Nat → α) (i j : Nat) : row2 f o g i j = if i = o then g j else f i j := rfl
theorem inb_ofN {x : Int32} {len : Nat} (hl : len < 2147483648) (h0 : 0 ≤ x) (h1 : x < Int32.ofNat len) : inb x len := by
  refine ⟨h0, ?_⟩
  have h2 := Int32.lt_iff_toInt_lt.mp h1
  have h3 := Int32.le_iff_toInt_le.mp h0
  rw [Int32.toInt_ofNat_of_lt (by omega)] at h2
  simp only [Int32.toInt_zero] at h3
  have h4 : (x.toNatClampNeg : Int) = x.toInt := by
    show ((x.toInt.toNat : Nat) : Int) = x.toInt
    omega
  omega
theorem i32_ti (n : Nat) (h : n < 2147483648) : Lean.Grind.ToInt.toInt (Int32.ofNat n) = (n : Int) := by
  show (Int32.ofNat n).toInt = (n : Int)
  exact Int32.toInt_ofNat_of_lt (by omega)
theorem tcn (x : Int32) (h : 0 ≤ x) : ((x.toNatClampNeg : Nat) : Int) = Lean.Grind.ToInt.toInt x := by
  show _ = x.toInt
  exact Int32.cast_toNatClampNeg x h
abbrev i32 (n : Nat) : Int32 := Int32.ofNat n
theorem RI.mk2 {F0 : F2} {x r : Int32} {I I1 : I2} {J J1 : J2} (h : x = r) (h2 : I = I1) (h3 : J = J1 := by rfl) : RI F0 r I1 J1 (some (.int x)) I J F0 := ⟨by rw [h], h2, h3, rfl⟩
theorem RV.mk2 {F0 : F2} {I I1 : I2} {J J1 : J2} (h2 : I = I1) (h3 : J = J1 := by rfl) : RV F0 I1 J1 none I J F0 := ⟨rfl, h2, h3, rfl⟩
