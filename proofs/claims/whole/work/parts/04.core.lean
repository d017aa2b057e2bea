/-! THE WORLD AS NUMBERS: cells 0 .. n-1, each with ints, longs, references (by cell numbers); what a heap holds of it -/
abbrev I2 : Type := Nat → Nat → Int32
abbrev J2 : Type := Nat → Nat → Int64
abbrev F2 : Type := Nat → Nat → Option Nat
abbrev Lc : Type := List (Nat × Value)
def up2 {α : Type} (f : Nat → Nat → α) (o k : Nat) (v : α) : Nat → Nat → α := fun i j => if i = o then (if j = k then v else f i j) else f i j
def row2 {α : Type} (f : Nat → Nat → α) (o : Nat) (g : Nat → α) : Nat → Nat → α := fun i j => if i = o then g j else f i j
def cv (ad : Nat → Nat) : Value → Value
  | .ref i => .ref (ad i)
  | v => v
def cvl (ad : Nat → Nat) (q : Nat × Value) : Nat × Value := (q.1, cv ad q.2)
theorem cv_int (ad : Nat → Nat) (x : Int32) : cv ad (.int x) = .int x := rfl
theorem cv_long (ad : Nat → Nat) (x : Int64) : cv ad (.long x) = .long x := rfl
theorem cv_ref (ad : Nat → Nat) (i : Nat) : cv ad (.ref i) = .ref (ad i) := rfl
theorem cv_cat (ad : Nat → Nat) (v : Value) : (cv ad v).category = v.category := by cases v <;> rfl
def fv (I : I2) (J : J2) (F : F2) (o k : Nat) (ty : FieldType) : Value := match ty with
  | .int => .int (I o k)
  | .boolean => .int (I o k)
  | .long => .long (J o k)
  | _ => va_rf (F o k)
def arrA (I : I2) (J : J2) (i : Nat) (ty : FieldType) : (Nat → Int32) ⊕ (Nat → Int64) ⊕ (Nat → UInt32) ⊕ (Nat → UInt64) ⊕ (Nat → Option Nat) := match ty with
  | .long => .inr (.inl (J i))
  | _ => .inl (I i)
def cellA (cA : Nat → ClassId) (ad : Nat → Nat) (I : I2) (J : J2) (F : F2) (i : Nat) : va_E := match KD i with
  | .inl ci => .inr (ci, (List.range (nCl ci).2.2).map fun k => cv ad (fv I J F i k (tyF ci k)))
  | .inr q => .inl (cA i, q.1, arrA I J i q.2)
def wl (cA : Nat → ClassId) (ad : Nat → Nat) (n : Nat) (I : I2) (J : J2) (F : F2) : va_W := (List.range n).map fun i => (ad i, cellA cA ad I J F i)
theorem wl_get {cA : Nat → ClassId} {ad : Nat → Nat} {n i : Nat} {I : I2} {J : J2} {F : F2} (h : i < n) : (wl cA ad n I J F)[i]? = some (ad i, cellA cA ad I J F i) := by
  simp [wl, List.getElem?_map, List.getElem?_range h]
theorem wl_len {cA : Nat → ClassId} {ad : Nat → Nat} {n : Nat} {I : I2} {J : J2} {F : F2} : (wl cA ad n I J F).length = n := by simp [wl]
def fsO (ad : Nat → Nat) (I : I2) (J : J2) (F : F2) (o ci : Nat) : List Value := (List.range (nCl ci).2.2).map fun k => cv ad (fv I J F o k (tyF ci k))
theorem wl_obj {cA : Nat → ClassId} {ad : Nat → Nat} {n o ci : Nat} {I : I2} {J : J2} {F : F2} (h : o < n) (hk : KD o = .inl ci) : (wl cA ad n I J F)[o]? = some (ad o, .inr (ci, fsO ad I J F o ci)) := by
  rw [wl_get h]; simp [cellA, hk, fsO]
theorem fsO_get {ad : Nat → Nat} {I : I2} {J : J2} {F : F2} {o ci k : Nat} (h : k < (nCl ci).2.2) : (fsO ad I J F o ci)[k]? = some (cv ad (fv I J F o k (tyF ci k))) := by
  simp [fsO, List.getElem?_map, List.getElem?_range h]
theorem fsO_len {ad : Nat → Nat} {I : I2} {J : J2} {F : F2} {o ci : Nat} : (fsO ad I J F o ci).length = (nCl ci).2.2 := by simp [fsO]
theorem wl_arr {cA : Nat → ClassId} {ad : Nat → Nat} {n o len : Nat} {ty : FieldType} {I : I2} {J : J2} {F : F2} (h : o < n) (hk : KD o = .inr (len, ty)) : (wl cA ad n I J F)[o]? = some (ad o, .inl (cA o, len, arrA I J o ty)) := by
  rw [wl_get h]; simp [cellA, hk]
/-- what the tables say of the classes and of the arrays' classes -/
def KS (D : va_G) (cA : Nat → ClassId) (n : Nat) (s : State) : Prop := (∀ (c : Nat) (q : vw_C), vwCl[c]? = some q → u_Kn s q.1 q.2.1 q.2.2 (D.1 c) (D.2 c)) ∧ ∀ i, i < n → ∀ len ty, KD i = .inr (len, ty) → ArrOfT s (cA i) ty ∧ va_RA s (cA i) ty
theorem KS.K0 {D : va_G} {cA : Nat → ClassId} {n : Nat} {s : State} (h : KS D cA n s) : va_K D vwCl [] s := ⟨h.1, fun k q hq => by simp at hq⟩
theorem KS.K1 {D : va_G} {cA : Nat → ClassId} {n i len : Nat} {ty : FieldType} {s : State} (h : KS D cA n s) (hi : i < n) (hk : KD i = .inr (len, ty)) : va_K D vwCl [(cA i, ty)] s := by
  refine ⟨h.1, fun k q hq => ?_⟩
  match k, hq with
  | 0, hq => cases hq; exact h.2 i hi len ty hk
  | k + 1, hq => simp at hq
theorem KS.K2 {D : va_G} {cA : Nat → ClassId} {n i j len len' : Nat} {ty ty' : FieldType} {s : State} (h : KS D cA n s) (hi : i < n) (hk : KD i = .inr (len, ty)) (hj : j < n) (hk' : KD j = .inr (len', ty')) : va_K D vwCl [(cA i, ty), (cA j, ty')] s := by
  refine ⟨h.1, fun k q hq => ?_⟩
  match k, hq with
  | 0, hq => cases hq; exact h.2 i hi len ty hk
  | 1, hq => cases hq; exact h.2 j hj len' ty' hk'
  | k + 2, hq => simp at hq
theorem KS.moved {D : va_G} {cA : Nat → ClassId} {n : Nat} {u U : State} (hvm : u.vm.Alike U.vm) (h : KS D cA n u) : KS D cA n U :=
  ⟨fun c q hq => u_Kn_moved hvm (h.1 c q hq), fun i hi len ty hk => ⟨arrOfT_moved hvm (h.2 i hi len ty hk).1, (h.2 i hi len ty hk).2.moved hvm⟩⟩
/-- what stands outside the world: the texts' constants, two statics, the words of nest mates -/
def fmC : String := "jdk/internal/util/Preconditions"
def fmD : String := "Ljava/util/function/BiFunction;"
def En (ad0 : Nat → Nat) (A : Nat → Prop) (U : State) (H : Heap) : Prop :=
  vk_S 12 sLen sByt (fun i => ad0 (1000 + i)) (fun i => ad0 (2000 + i)) A U H ∧ (∀ i, i < 12 → vk_R RX3 (sIx.getD i 0) (sTx.getD i "") (ad0 (1000 + i)) U) ∧
  va_Z "java/lang/String" "COMPACT_STRINGS" "Z" (.int 1) A U H ∧ (∃ v, (v = .null ∨ v = .ref 3000) ∧ va_Z fmC "SIOOBE_FORMATTER" fmD (cv ad0 v) A U H) ∧ ∀ w ∈ tblN, va_Nw w U
theorem nw_warm {w : Cond} (hw : isNestW w = true) {s U : State} (hW : s.WarmedH U.vm) (h : va_Nw w s) : va_Nw w U := by
  cases w <;> simp [isNestW] at hw
  · exact va_Nw.warmM hW h
  · exact va_Nw.warmF hW h
theorem En.to {ad0 : Nat → Nat} {A B : Nat → Prop} {s U : State} {H : Heap} {locs : List Loc} (h : En ad0 A s s.heap) (hS : va_S A s.heap H locs) (hU : U.heap = H) (hW : s.WarmedH U.vm) (hAB : ∀ q, B q → A q) : En ad0 B U U.heap := by
  obtain ⟨h1, h2, h3, ⟨v, hv, h4⟩, h5⟩ := h
  rw [hU]
  refine ⟨((h1.kept hS.2.1).moved hW.alike).narrow hAB, fun i hi => (h2 i hi).warm hW, ((h3.kept hS.2.1).moved hW.alike).narrow hAB, ⟨v, hv, ((h4.kept hS.2.1).moved hW.alike).narrow hAB⟩, fun w hw => nw_warm (List.mem_filter.mp hw).2 hW (h5 w hw)⟩
theorem En.calling {ad0 : Nat → Nat} {A : Nat → Prop} {U : State} {g : JFrame} {mk : MethodId} {a : Array Value} (h : En ad0 A U U.heap) : En ad0 A (U.calling g mk a) (U.calling g mk a).heap := by
  obtain ⟨h1, h2, h3, ⟨v, hv, h4⟩, h5⟩ := h
  have hvm : U.vm.Alike (U.calling g mk a).vm := Vm.Alike.refl U.vm
  refine ⟨h1.moved hvm, fun i hi => vk_R.same (u := U) rfl (h2 i hi), h3.moved hvm, ⟨v, hv, h4.moved hvm⟩, fun w hw => ?_⟩
  have hw2 := (List.mem_filter.mp hw).2
  have h6 := h5 w hw
  cases w <;> simp [isNestW] at hw2
  · exact va_Nw.same (u := U) rfl rfl h6
  · exact va_Nw.same (u := U) rfl rfl h6
/-- the script, for the law alone -/
def scX (sc : Option (Nat × (Nat → Int32))) (ad0 : Nat → Nat) (A : Nat → Prop) (s : State) : Prop := match sc with
  | none => True
  | some q => va_X (ad0 4000) q.1 q.2 s s.heap ∧ ad0 4000 < s.heap.size ∧ ¬ A (ad0 4000)
def RetI (cc : ByteArray) (ret : Option FieldType) (rv : Option Value) (pc : Nat) : Prop := match rv with
  | none => decode cc pc = .ok (.return_, 1) ∧ ret = none
  | some (.int v) => decode cc pc = .ok (.ireturn, 1) ∧ ∃ ty, ret = some ty ∧ narrow ty (.int v) = .int v
  | some (.long _) => decode cc pc = .ok (.lreturn, 1) ∧ ret = some .long
  | some (.ref _) => decode cc pc = .ok (.areturn, 1) ∧ ∃ nm, ret = some (.object nm)
  | _ => False
def wfF (n : Nat) (F : F2) : Prop := ∀ i, i < n → ∀ k j, F i k = some j → j < n
abbrev QT : Type := Option Value → I2 → J2 → F2 → Prop
/-- how an activation ends -/
def Fin9 (mt : MT) (nE : Nat) (Q : QT) (p : Program) (l : Launch) (e : Env) (R : Room) (s : State) (m : MethodId) (args : Array Value) (below : List Frame) (meth : Method) (c : Code) (D : va_G) (A : Nat → Prop) (n0 : Nat) (ad0 : Nat → Nat) (Qf : State → Prop) : Prop :=
  ∀ (rv : Option Value) (I : I2) (J : J2) (F : F2) (cA : Nat → ClassId) (ad : Nat → Nat) (H : Heap) (locs : List Loc) (ls : Array Slot) (pc : Nat), Q rv I J F → va_P D vwCl (wl cA ad nE I J F) H → KS D cA nE s → va_D A (wl cA ad nE I J F) → va_S A s.heap H locs → wfF nE F → (∀ i, (i < n0 ∨ 1000 ≤ i ∨ nE = n0) → ad i = ad0 i) → RetI mt.2.2.1 mt.2.2.2.2.1 rv pc →
    W p l e R s m args below meth c H locs (nE - n0) (sl nE - sl n0) Qf (F0 m pc ls ((rv.map (cv ad)).toList))
/-- a method's own part of okM: its rows alone -/
def okA (q : MT) : Bool := match q with
  | (own, _, cc, nL, _, _, tbl) => tbl.all (okE own cc nL)
theorem okA_of {q : MT} (h : okM q = true) : okA q = true := by
  obtain ⟨own, y, cc, nL, ret, wi, tbl⟩ := q
  simp only [okM, Bool.and_eq_true] at h
  exact h.2.2.2.2
/-- what holds of an activation throughout -/
def Act (mt : MT) (sc : Option (Nat × (Nat → Int32))) (d nE : Nat) (Q : QT) (p : Program) (l : Launch) (e : Env) (R : Room) (s : State) (m : MethodId) (args : Array Value) (below : List Frame) (meth : Method) (c : Code) (D : va_G) (A : Nat → Prop) (n0 : Nat) (ad0 : Nat → Nat) (Qf : State → Prop) : Prop :=
  p.tables.exec = Jvm.exec ∧ c.code = mt.2.2.1 ∧ okA mt = true ∧ meth.sig.returnType = mt.2.2.2.2.1 ∧ meth.locks = false ∧ c.maxLocals = mt.2.2.2.1 ∧ s.vm.findClass mt.1 = some m.cls ∧ meth.name = mt.2.1.name ∧
  (∀ w ∈ tblG, w.before args s = true) ∧ En ad0 A s s.heap ∧ (∀ q, s.heap.size ≤ q → A q) ∧ (d ≤ R.frames ∧ 40 * d ≤ R.locals ∧ nE - n0 ≤ R.cells ∧ sl nE - sl n0 ≤ R.slots) ∧ scX sc ad0 A s ∧ Fin9 mt nE Q p l e R s m args below meth c D A n0 ad0 Qf
/-- what holds of a state within -/
def SF (mt : MT) (nE : Nat) (s : State) (D : va_G) (A : Nat → Prop) (n0 : Nat) (ad0 : Nat → Nat) (cA : Nat → ClassId) (ad : Nat → Nat) (H : Heap) (locs : List Loc) (ls : Array Slot) (L : Lc) (n : Nat) (I : I2) (J : J2) (F : F2) : Prop :=
  n0 ≤ n ∧ n ≤ nE ∧ va_P D vwCl (wl cA ad n I J F) H ∧ KS D cA n s ∧ va_D A (wl cA ad n I J F) ∧ va_S A s.heap H locs ∧ wfF n F ∧ (∀ i, (i < n0 ∨ 1000 ≤ i ∨ n = n0) → ad i = ad0 i) ∧ lv_has ls mt.2.2.2.1 (L.map (cvl ad))
/-- THE WALK: from here the method comes to an end with Q -/
def V (mt : MT) (sc : Option (Nat × (Nat → Int32))) (d nE : Nat) (Q : QT) (pc : Nat) (L : Lc) (st : List Value) (n : Nat) (I : I2) (J : J2) (F : F2) : Prop :=
  ∀ (p : Program) (l : Launch) (e : Env) (R : Room) (s : State) (m : MethodId) (args : Array Value) (below : List Frame) (meth : Method) (c : Code) (D : va_G) (A : Nat → Prop) (n0 : Nat) (ad0 : Nat → Nat) (Qf : State → Prop), Act mt sc d nE Q p l e R s m args below meth c D A n0 ad0 Qf →
  ∀ (cA : Nat → ClassId) (ad : Nat → Nat) (H : Heap) (locs : List Loc) (ls : Array Slot), SF mt nE s D A n0 ad0 cA ad H locs ls L n I J F →
    W p l e R s m args below meth c H locs (n - n0) (sl n - sl n0) Qf (F0 m pc ls (st.map (cv ad)))
/-! the code tables -/
def fE (tbl : List E8) (pc : Nat) : Option E8 := match tbl with
  | [] => none
  | e :: r => match Nat.beq e.1 pc with
    | true => some e
    | false => fE r pc
theorem fE_mem {tbl : List E8} {pc : Nat} {e : E8} (h : fE tbl pc = some e) : e ∈ tbl ∧ e.1 = pc := by
  induction tbl with
  | nil => simp [fE] at h
  | cons a r ih =>
    unfold fE at h
    cases hb : Nat.beq a.1 pc with
    | true =>
      simp only [hb] at h
      cases h
      exact ⟨List.mem_cons_self, Nat.eq_of_beq_eq_true hb⟩
    | false =>
      simp only [hb] at h
      exact ⟨List.mem_cons_of_mem _ (ih h).1, (ih h).2⟩
theorem okM_e {mt : MT} (h : okA mt = true) {e : E8} (he : e ∈ mt.2.2.2.2.2.2) : okE mt.1 mt.2.2.1 mt.2.2.2.1 e = true := by
  obtain ⟨own, y, cc, nL, ret, wi, tbl⟩ := mt
  simp only [okA, List.all_eq_true] at h
  exact h e he
/-- what a row of the code table says -/
theorem row_of {mt : MT} (h : okA mt = true) {pc nx t ci k : Nat} {ins : Instr} {c32 : Int32} {c64 : Int64} (he : fE mt.2.2.2.2.2.2 pc = some (pc, ins, nx, t, c32, c64, ci, k)) (hs : isSw ins = false) : decode mt.2.2.1 pc = .ok (ins, ilen ins) ∧ nx = pc + ilen ins ∧ okI mt.1 mt.2.2.2.1 (pc, ins, nx, t, c32, c64, ci, k) = true := by
  have h1 := okM_e h (fE_mem he).1
  simp only [okE, Bool.and_eq_true, decide_eq_true_eq, hs, Bool.false_or] at h1
  obtain ⟨h2, h3, h4, h5⟩ := h1
  rw [h4] at h2
  have h6 : pc + ilen ins - pc = ilen ins := by omega
  rw [h6] at h2
  exact ⟨h2, h4, h5⟩
/-! the locals -/
def lkL (L : Lc) (i : Nat) : Option Value := match L with
  | [] => none
  | (j, v) :: r => match Nat.beq j i with
    | true => some v
    | false => lkL r i
theorem lkL_mem {L : Lc} {i : Nat} {v : Value} (h : lkL L i = some v) : (i, v) ∈ L := by
  induction L with
  | nil => simp [lkL] at h
  | cons a r ih =>
    obtain ⟨j, w⟩ := a
    unfold lkL at h
    cases hb : Nat.beq j i with
    | true =>
      simp only [hb] at h
      cases h
      rw [Nat.eq_of_beq_eq_true hb]
      exact List.mem_cons_self
    | false =>
      simp only [hb] at h
      exact List.mem_cons_of_mem _ (ih h)
theorem lv_of {ad : Nat → Nat} {ls : Array Slot} {nL : Nat} {L : Lc} {i : Nat} {v : Value} (h : lv_has ls nL (L.map (cvl ad))) (hl : lkL L i = some v) : ls[i]? = some (.val (cv ad v)) := h.2.2 (cvl ad (i, v)) (List.mem_map.mpr ⟨_, lkL_mem hl, rfl⟩)
def insL (L : Lc) (i : Nat) (v : Value) : Lc := match L with
  | [] => [(i, v)]
  | (j, w) :: r => match Nat.blt j i with
    | true => (j, w) :: insL r i v
    | false => (i, v) :: (j, w) :: r
theorem insL_mem {L : Lc} {i : Nat} {v : Value} {q : Nat × Value} (h : q ∈ insL L i v) : q = (i, v) ∨ q ∈ L := by
  induction L with
  | nil => simpa [insL] using h
  | cons a r ih =>
    obtain ⟨j, w⟩ := a
    unfold insL at h
    cases hb : Nat.blt j i with
    | true =>
      simp only [hb] at h
      rcases List.mem_cons.mp h with h | h
      · exact Or.inr (h ▸ List.mem_cons_self)
      · exact (ih h).imp id (List.mem_cons_of_mem _)
    | false =>
      simp only [hb] at h
      rcases List.mem_cons.mp h with h | h
      · exact Or.inl h
      · exact Or.inr h
/-- what a store of one slot leaves -/
def del1 (L : Lc) (i : Nat) : Lc := match L with
  | [] => []
  | (j, w) :: r => match Nat.beq j i with
    | true => del1 r i
    | false => match Nat.beq (j + 1) i with
      | false => (j, w) :: del1 r i
      | true => match Nat.beq w.category 2 with
        | true => del1 r i
        | false => (j, w) :: del1 r i
def del2 (L : Lc) (i : Nat) : Lc := match L with
  | [] => []
  | (j, w) :: r => match Nat.beq j i with
    | true => del2 r i
    | false => match Nat.beq j (i + 1) with
      | true => del2 r i
      | false => match Nat.beq (j + 1) i with
        | false => (j, w) :: del2 r i
        | true => match Nat.beq w.category 2 with
          | true => del2 r i
          | false => (j, w) :: del2 r i
theorem beq_f {a b : Nat} (h : Nat.beq a b = false) : a ≠ b := fun e => by rw [e, Nat.beq_refl] at h; cases h
theorem del1_mem {L : Lc} {i : Nat} {q : Nat × Value} (h : q ∈ del1 L i) : q ∈ L ∧ (!(q.1 == i) && !(q.1 + 1 == i && q.2.category == 2)) = true := by
  induction L with
  | nil => simp [del1] at h
  | cons a r ih =>
    obtain ⟨j, w⟩ := a
    unfold del1 at h
    cases hb : Nat.beq j i with
    | true =>
      simp only [hb] at h
      exact ⟨List.mem_cons_of_mem _ (ih h).1, (ih h).2⟩
    | false =>
      simp only [hb] at h
      cases hc : Nat.beq (j + 1) i with
      | false =>
        simp only [hc] at h
        rcases List.mem_cons.mp h with h | h
        · subst h
          exact ⟨List.mem_cons_self, by simp [beq_f hb, beq_f hc]⟩
        · exact ⟨List.mem_cons_of_mem _ (ih h).1, (ih h).2⟩
      | true =>
        simp only [hc] at h
        cases hd : Nat.beq w.category 2 with
        | true =>
          simp only [hd] at h
          exact ⟨List.mem_cons_of_mem _ (ih h).1, (ih h).2⟩
        | false =>
          simp only [hd] at h
          rcases List.mem_cons.mp h with h | h
          · subst h
            exact ⟨List.mem_cons_self, by simp [beq_f hb, beq_f hd]⟩
          · exact ⟨List.mem_cons_of_mem _ (ih h).1, (ih h).2⟩
theorem del2_mem {L : Lc} {i : Nat} {q : Nat × Value} (h : q ∈ del2 L i) : q ∈ L ∧ (!(q.1 == i) && (!(q.1 == i + 1) && !(q.1 + 1 == i && q.2.category == 2))) = true := by
  induction L with
  | nil => simp [del2] at h
  | cons a r ih =>
    obtain ⟨j, w⟩ := a
    unfold del2 at h
    cases hb : Nat.beq j i with
    | true =>
      simp only [hb] at h
      exact ⟨List.mem_cons_of_mem _ (ih h).1, (ih h).2⟩
    | false =>
      simp only [hb] at h
      cases hc : Nat.beq j (i + 1) with
      | true =>
        simp only [hc] at h
        exact ⟨List.mem_cons_of_mem _ (ih h).1, (ih h).2⟩
      | false =>
        simp only [hc] at h
        cases hc2 : Nat.beq (j + 1) i with
        | false =>
          simp only [hc2] at h
          rcases List.mem_cons.mp h with h | h
          · subst h
            exact ⟨List.mem_cons_self, by simp [beq_f hb, beq_f hc, beq_f hc2]⟩
          · exact ⟨List.mem_cons_of_mem _ (ih h).1, (ih h).2⟩
        | true =>
          simp only [hc2] at h
          cases hd : Nat.beq w.category 2 with
          | true =>
            simp only [hd] at h
            exact ⟨List.mem_cons_of_mem _ (ih h).1, (ih h).2⟩
          | false =>
            simp only [hd] at h
            rcases List.mem_cons.mp h with h | h
            · subst h
              exact ⟨List.mem_cons_self, by simp [beq_f hb, beq_f hc, beq_f hd]⟩
            · exact ⟨List.mem_cons_of_mem _ (ih h).1, (ih h).2⟩
def put1 (L : Lc) (i : Nat) (v : Value) : Lc := insL (del1 L i) i v
def put2 (L : Lc) (i : Nat) (v : Value) : Lc := insL (del2 L i) i v
theorem put1_lv {ad : Nat → Nat} {L : Lc} {i : Nat} {v : Value} {ls : Array Slot} {nL : Nat} (h : lv_has ls nL ((i, cv ad v) :: (L.map (cvl ad)).filter (fun q => !(q.1 == i) && !(q.1 + 1 == i && q.2.category == 2)))) : lv_has ls nL ((put1 L i v).map (cvl ad)) := by
  refine ⟨h.1, h.2.1, fun q hq => h.2.2 q ?_⟩
  obtain ⟨r, hr, rfl⟩ := List.mem_map.mp hq
  rcases insL_mem hr with hr | hr
  · subst hr; exact List.mem_cons_self
  · have h1 := del1_mem hr
    refine List.mem_cons_of_mem _ (List.mem_filter.mpr ⟨List.mem_map.mpr ⟨r, h1.1, rfl⟩, ?_⟩)
    have h2 := h1.2
    simp only [cvl, cv_cat] at h2 ⊢
    exact h2
theorem put2_lv {ad : Nat → Nat} {L : Lc} {i : Nat} {v : Value} {ls : Array Slot} {nL : Nat} (h : lv_has ls nL ((i, cv ad v) :: (L.map (cvl ad)).filter (fun q => !(q.1 == i) && (!(q.1 == i + 1) && !(q.1 + 1 == i && q.2.category == 2))))) : lv_has ls nL ((put2 L i v).map (cvl ad)) := by
  refine ⟨h.1, h.2.1, fun q hq => h.2.2 q ?_⟩
  obtain ⟨r, hr, rfl⟩ := List.mem_map.mp hq
  rcases insL_mem hr with hr | hr
  · subst hr; exact List.mem_cons_self
  · have h1 := del2_mem hr
    refine List.mem_cons_of_mem _ (List.mem_filter.mpr ⟨List.mem_map.mpr ⟨r, h1.1, rfl⟩, ?_⟩)
    have h2 := h1.2
    simp only [cvl, cv_cat] at h2 ⊢
    exact h2
def frc (L : Lc) : Option Lc := match L with
  | [] => some []
  | (j, v) :: r => match frc r with
    | some r' => some ((j, v) :: r')
    | none => none
theorem frc_eq {L L' : Lc} (h : frc L = some L') : L' = L := by
  induction L generalizing L' with
  | nil => simp [frc] at h; exact h
  | cons a r ih =>
    obtain ⟨j, v⟩ := a
    unfold frc at h
    cases hr : frc r with
    | none => simp [hr] at h
    | some r' =>
      simp [hr] at h
      rw [← h, ih hr]
