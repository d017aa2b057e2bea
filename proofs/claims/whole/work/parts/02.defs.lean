/-! cells of the world, in the order in which they are made: an object of a class (by its place in vwCl), or an array -/
abbrev Kd : Type := Nat ⊕ (Nat × FieldType)
abbrev vwCl : List vw_C := [(RX0, TX0, 13), (RX2, TX2, 5), (RX3, TX3, 7), (RX4, TX4, 3), (RX5, TX5, 5), (RX6, TX6, 8), (RX7, TX7, 55)]
def KDs : List Kd := [.inl 5, .inl 4, .inr (960, .int), .inr (18, .int), .inr (160, .int), .inl 2, .inr (160, .int),
  .inl 0, .inr (6, .int), .inr (8, .int), .inr (8, .int), .inr (8, .int), .inr (6, .int), .inr (6, .int), .inr (6, .int),
  .inl 0, .inr (6, .int), .inr (8, .int), .inr (8, .int), .inr (8, .int), .inr (6, .int), .inr (6, .int), .inr (6, .int),
  .inl 0, .inr (6, .int), .inr (8, .int), .inr (8, .int), .inr (8, .int), .inr (6, .int), .inr (6, .int), .inr (6, .int),
  .inl 1, .inr (6, .int), .inr (40, .int), .inl 3, .inr (4, .int), .inr (4, .int), .inr (160, .int),
  .inl 6, .inr (960, .int), .inr (6, .int), .inr (160, .int), .inr (8, .int), .inr (8, .int), .inr (8, .int), .inr (18, .int),
  .inr (1024, .long), .inr (1024, .int), .inr (18, .int), .inr (41, .int), .inr (8, .int), .inr (8, .int), .inr (8, .int), .inr (18, .int),
  .inr (4, .boolean), .inr (4, .int), .inr (4, .int), .inr (160, .int)]
def KD (i : Nat) : Kd := KDs.getD i (.inl 99)
def nCl (ci : Nat) : vw_C := vwCl.getD ci ("", TX7, 0)
def tyF (ci k : Nat) : FieldType := match ci with
  | 0 => tyX0 k
  | 1 => tyX2 k
  | 2 => tyX3 k
  | 3 => tyX4 k
  | 4 => tyX5 k
  | 5 => tyX6 k
  | _ => tyX7 k
def slotsK (d : Kd) : Nat := match d with
  | .inl ci => (nCl ci).2.2
  | .inr q => q.1
def sl (n : Nat) : Nat := ((List.range n).map fun i => slotsK (KD i)).sum
def tblG : List Cond := lw_tbl.filter goodWord
def hostN : String := "MinuteForTheUnread"
def isNestW : Cond → Bool
  | .fieldLinkNest .. => true
  | .methodLinkNest .. => true
  | _ => false
def tblN : List Cond := lw_tbl.filter isNestW
/-- a word by its place -/
def wAt (i : Nat) (w : Cond) : Bool := decide (lw_tbl[i]? = some w)
def gAt (i : Nat) (w : Cond) : Bool := wAt i w && goodWord w
theorem gAt_mem {i : Nat} {w : Cond} (h : gAt i w = true) : w ∈ tblG := by
  simp only [gAt, wAt, Bool.and_eq_true, decide_eq_true_eq] at h
  exact List.mem_filter.mpr ⟨List.mem_of_getElem? h.1, h.2⟩
def nAt (i : Nat) (w : Cond) : Bool := wAt i w && isNestW w
theorem nAt_mem {i : Nat} {w : Cond} (h : nAt i w = true) : w ∈ tblN := by
  simp only [nAt, wAt, Bool.and_eq_true, decide_eq_true_eq] at h
  exact List.mem_filter.mpr ⟨List.mem_of_getElem? h.1, h.2⟩
/-- a field's words: its own class's or a nest mate's -/
def okField (own : String) (idx t ci k : Nat) : Bool :=
  decide (ci < 7) && (decide (k < (nCl ci).2.2) && (decide (((nCl ci).2.1 k).1 = (nCl ci).1) &&
    (gAt t (.fieldLink own idx (nCl ci).1 ((nCl ci).2.1 k).2.1 ((nCl ci).2.1 k).2.2.1) || nAt t (.fieldLinkNest own idx (nCl ci).1 ((nCl ci).2.1 k).2.1 ((nCl ci).2.1 k).2.2.1 hostN))))
def ilen : Instr → Nat
  | .bipush _ => 2
  | .iload _ => 2
  | .lload _ => 2
  | .aload _ => 2
  | .istore _ => 2
  | .lstore _ => 2
  | .astore _ => 2
  | .ldc _ => 2
  | .newarray _ => 2
  | .sipush _ => 3
  | .ldc_w _ => 3
  | .ldc2_w _ => 3
  | .iinc _ _ => 3
  | .goto _ => 3
  | .ifCond _ _ => 3
  | .if_icmp _ _ => 3
  | .getfield _ => 3
  | .putfield _ => 3
  | .getstatic _ => 3
  | .invokevirtual _ => 3
  | .invokestatic _ => 3
  | .invokespecial _ => 3
  | .new _ => 3
  | _ => 1
def isSw : Instr → Bool
  | .tableswitch .. => true
  | .lookupswitch .. => true
  | _ => false
def okI (own : String) (nL : Nat) (e : E8) : Bool := match e with
  | (pc, ins, _, t, c32, c64, ci, k) => match ins with
    | .iconst n => decide (Int32.ofInt n = c32)
    | .bipush n => decide ((Int8.ofInt n).toInt32 = c32)
    | .sipush n => decide ((Int16.ofInt n).toInt32 = c32)
    | .lconst n => decide (Int64.ofNat (n : Nat) = c64)
    | .iinc i n => decide (Int32.ofInt n = c32) && decide (i < nL)
    | .iload_n i => decide ((i : Nat) = k)
    | .lload_n i => decide ((i : Nat) = k)
    | .aload_n i => decide ((i : Nat) = k)
    | .istore_n i => decide ((i : Nat) = k) && decide (k < nL)
    | .astore_n i => decide ((i : Nat) = k) && decide (k < nL)
    | .lstore_n i => decide ((i : Nat) = k) && decide (k + 1 < nL)
    | .iload i => decide (i = k)
    | .lload i => decide (i = k)
    | .aload i => decide (i = k)
    | .istore i => decide (i = k) && decide (k < nL)
    | .astore i => decide (i = k) && decide (k < nL)
    | .lstore i => decide (i = k) && decide (k + 1 < nL)
    | .goto off => decide ((pc : Int) + off = (t : Int))
    | .ifCond _ off => decide ((pc : Int) + off = (t : Int))
    | .if_icmp _ off => decide ((pc : Int) + off = (t : Int))
    | .getfield idx => ci == 98 || okField own idx t ci k
    | .putfield idx => ci == 98 || okField own idx t ci k
    | .ldc idx => if ci = 99 then (1000 ≤ k && (k < 1012 && (own == RX3 && sIx.getD (k - 1000) 0 == idx))) else gAt t (.constant own idx c32)
    | .ldc_w idx => gAt t (.constant own idx c32)
    | .ldc2_w idx => gAt t (.constantLong own idx c64)
    | _ => true
def okE (own : String) (cc : ByteArray) (nL : Nat) (e : E8) : Bool := decide (decode cc e.1 = .ok (e.2.1, e.2.2.1 - e.1)) && (decide (e.1 < e.2.2.1) && ((isSw e.2.1 || decide (e.2.2.1 = e.1 + ilen e.2.1)) && okI own nL e))
def okM (q : MT) : Bool := match q with
  | (own, y, cc, nL, ret, wi, tbl) => plainName y.cls && (decide (y.cls = own) && (decide (nL ≤ 21) && (gAt wi (.code y cc nL ret) && tbl.all (okE own cc nL))))
def lnk (own : String) (idx : Nat) (y : MethodName) : Prop := Cond.methodLink own idx y ∈ tblG ∨ Cond.methodLinkNest own idx y hostN ∈ tblN
def lnkB (t : Nat) (own : String) (idx : Nat) (y : MethodName) : Bool := gAt t (.methodLink own idx y) || nAt t (.methodLinkNest own idx y hostN)
theorem lnk_of {t : Nat} {own : String} {idx : Nat} {y : MethodName} (h : lnkB t own idx y = true) : lnk own idx y := by
  simp only [lnkB, Bool.or_eq_true] at h
  exact h.imp gAt_mem nAt_mem
/-- a callee: its class is initialised, so many parameters -/
def okY (mt : MT) (na wini : Nat) : Bool := gAt wini (.initialized mt.2.1.cls) && (decide (mt.2.1.cls ≠ "java/lang/invoke/MethodHandle" ∧ mt.2.1.cls ≠ "java/lang/invoke/VarHandle") && decide ((parseMethodDescriptor mt.2.1.desc).map (fun d => d.parameters.length) = some na))
def okYv (mt : MT) (na wini winst wsel : Nat) : Bool := okM mt && (okY mt na wini && (gAt winst (.instanceMethod mt.2.1) && gAt wsel (.selects mt.2.1.cls mt.2.1 mt.2.1)))
def okYs (mt : MT) (na wini wstat : Nat) : Bool := okM mt && (okY mt na wini && gAt wstat (.static mt.2.1))
def okYi (mt : MT) (na wini winst : Nat) : Bool := okM mt && (okY mt na wini && (gAt winst (.instanceMethod mt.2.1) && (decide (mt.2.1.name = "<init>") && decide (mt.2.2.2.2.1 = none))))
