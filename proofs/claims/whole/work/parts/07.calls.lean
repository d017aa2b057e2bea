theorem sl_succ (n : Nat) : sl (n + 1) = sl n + slotsK (KD n) := by
  simp [sl, List.range_succ]
theorem sl_mono {n m : Nat} (h : n ≤ m) : sl n ≤ sl m := by
  induction h with
  | refl => exact Nat.le_refl _
  | step _ ih => rw [sl_succ]; omega
section VR
variable {mt : MT} {sc : Option (Nat × (Nat → Int32))} {d nE : Nat} {Q : QT} {pc nx t ci k n : Nat} {c32 : Int32} {c64 : Int64} {L : Lc} {st : List Value} {I : I2} {J : J2} {F : F2}
theorem V_ret0 {rv : Option Value} (hq : Q rv I J F) (hn : n = nE) (hR : okA mt = true → RetI mt.2.2.1 mt.2.2.2.2.1 rv pc) (hst : st = rv.toList) : V mt sc d nE Q pc L st n I J F := by
  intro p l e R s m args below meth c D A n0 ad0 Qf X cA ad H locs ls S
  subst hn
  subst hst
  have h := X.2.2.2.2.2.2.2.2.2.2.2.2.2 rv I J F cA ad H locs ls pc hq S.P S.2.2.2.1 S.2.2.2.2.1 S.2.2.2.2.2.1 S.2.2.2.2.2.2.1 S.2.2.2.2.2.2.2.1 (hR X.2.2.1)
  cases rv <;> exact h
theorem V_iret {x : Int32} (he : fE mt.2.2.2.2.2.2 pc = some (pc, .ireturn, nx, t, c32, c64, ci, k)) (hr : mt.2.2.2.2.1 = some .int) (hn : n = nE) (hq : Q (some (.int x)) I J F) : V mt sc d nE Q pc L [.int x] n I J F :=
  V_ret0 hq hn (fun h => ⟨(row_of h he rfl).1, .int, hr, rfl⟩) rfl
theorem V_zret {x : Int32} (he : fE mt.2.2.2.2.2.2 pc = some (pc, .ireturn, nx, t, c32, c64, ci, k)) (hr : mt.2.2.2.2.1 = some .boolean) (hn : n = nE) (hx : x = 0 ∨ x = 1) (hq : Q (some (.int x)) I J F) : V mt sc d nE Q pc L [.int x] n I J F :=
  V_ret0 hq hn (fun h => ⟨(row_of h he rfl).1, .boolean, hr, by rcases hx with rfl | rfl <;> decide⟩) rfl
theorem V_nret {x : Int32} {ty : FieldType} (he : fE mt.2.2.2.2.2.2 pc = some (pc, .ireturn, nx, t, c32, c64, ci, k)) (hr : mt.2.2.2.2.1 = some ty) (hn : n = nE) (hx : narrow ty (.int x) = .int x) (hq : Q (some (.int x)) I J F) : V mt sc d nE Q pc L [.int x] n I J F :=
  V_ret0 hq hn (fun h => ⟨(row_of h he rfl).1, ty, hr, hx⟩) rfl
theorem V_lret {x : Int64} (he : fE mt.2.2.2.2.2.2 pc = some (pc, .lreturn, nx, t, c32, c64, ci, k)) (hr : mt.2.2.2.2.1 = some .long) (hn : n = nE) (hq : Q (some (.long x)) I J F) : V mt sc d nE Q pc L [.long x] n I J F :=
  V_ret0 hq hn (fun h => ⟨(row_of h he rfl).1, hr⟩) rfl
theorem V_aret {x : Nat} {nm : String} (he : fE mt.2.2.2.2.2.2 pc = some (pc, .areturn, nx, t, c32, c64, ci, k)) (hr : mt.2.2.2.2.1 = some (.object nm)) (hn : n = nE) (hq : Q (some (.ref x)) I J F) : V mt sc d nE Q pc L [.ref x] n I J F :=
  V_ret0 hq hn (fun h => ⟨(row_of h he rfl).1, nm, hr⟩) rfl
theorem V_vret (he : fE mt.2.2.2.2.2.2 pc = some (pc, .return_, nx, t, c32, c64, ci, k)) (hr : mt.2.2.2.2.1 = none) (hn : n = nE) (hq : Q none I J F) : V mt sc d nE Q pc L [] n I J F :=
  V_ret0 hq hn (fun h => ⟨(row_of h he rfl).1, hr⟩) rfl
end VR
/-! CONTRACTS -/
def wsY (mt : MT) : List Cond := .code mt.2.1 mt.2.2.1 mt.2.2.2.1 mt.2.2.2.2.1 :: tblG
def rmD (d n nE : Nat) : Room := { frames := d, cells := nE - n, slots := sl nE - sl n, locals := 40 * d }
def Bf (D : va_G) (cA : Nat → ClassId) (ad : Nat → Nat) (sz n : Nat) (I : I2) (J : J2) (F : F2) (U : State) : Prop :=
  U.heap.size = sz ∧ va_P D vwCl (wl cA ad n I J F) U.heap ∧ KS D cA n U ∧ va_D (fun _ => True) (wl cA ad n I J F) ∧ En ad (va_A (wl cA ad n I J F) sz) U U.heap ∧ wfF n F
def Qg (D : va_G) (n nE : Nat) (ad : Nat → Nat) (Q : QT) (A : Nat → Prop) : Array Value → State → Outcome → State → Prop := fun _ st oc t =>
  (∃ (rv : Option Value) (I : I2) (J : J2) (F : F2) (cA : Nat → ClassId) (ad' : Nat → Nat), oc = .returned (rv.map (cv ad')) ∧ Q rv I J F ∧ va_P D vwCl (wl cA ad' nE I J F) t.heap ∧ KS D cA nE t ∧ va_D A (wl cA ad' nE I J F) ∧ wfF nE F ∧ ∀ i, (i < n ∨ 1000 ≤ i ∨ nE = n) → ad' i = ad i) ∧ va_F A st t
/-- the contract: at these arguments, in this world, it ends with Q -/
def CT (mt : MT) (d n nE : Nat) (As : List Value) (I : I2) (J : J2) (F : F2) (Q : QT) : Prop :=
  ∀ (l : Launch) (D : va_G) (cA : Nat → ClassId) (ad : Nat → Nat) (sz : Nat), Met l mt.2.1 (wsY mt) (rmD d n nE) (va_Pc (As.map (cv ad)) (Bf D cA ad sz n I J F)) (Qg D n nE ad Q (va_A (wl cA ad n I J F) sz)) (nE - n) (sl nE - sl n) (va_A (wl cA ad n I J F) sz)
theorem args_cv (ad : Nat → Nat) : ∀ (As : List Value) (i : Nat), lv_args i (As.map (cv ad)) = (lv_args i As).map (cvl ad)
  | [], _ => rfl
  | v :: vs, i => by
    simp only [List.map_cons, lv_args, cv_cat, cvl]
    rw [args_cv ad vs]
theorem sl_cv (ad : Nat → Nat) (As : List Value) : (lg_sl (As.map (cv ad))).length = (lg_sl As).length := by
  induction As with
  | nil => rfl
  | cons v vs ih =>
    simp only [lg_sl, List.map_cons, List.flatMap_cons, List.length_append, cv_cat] at ih ⊢
    rw [ih]
    split <;> rfl
theorem CT_of {mt : MT} {d n nE : Nat} {As : List Value} {I : I2} {J : J2} {F : F2} {Q : QT} (hok : okM mt = true) (hlen : (lg_sl As).length ≤ mt.2.2.2.1) (v : V mt none d nE Q 0 (lv_args 0 As) [] n I J F) (hnE : n ≤ nE := by exact Nat.le_refl _) : CT mt d n nE As I J F Q := by
  intro l D cA ad sz
  have hok2 := hok
  obtain ⟨own, y, cc, nL, ret, wi, tbl⟩ := mt
  simp only [okM, Bool.and_eq_true, decide_eq_true_eq] at hok2
  obtain ⟨hpl, hyc, hnL, hgat, -⟩ := hok2
  refine Met.ofW (cc := cc) (maxL := nL) (ret := ret) hpl rfl ?_
  intro p e s m args below meth c s₁ B hml hv
  obtain ⟨rfl, hsz, hP, hK, hD0, hE, hwf⟩ := hv
  have hts := atoms_spec (ws := wsY (own, y, cc, nL, ret, wi, tbl)) B.pre
  have hown : s.vm.findClass own = some m.cls := by
    have h := findClass_of_methodNamed B.named
    rw [hyc] at h
    exact h
  have hname : meth.name = y.name := (name_of_methodNamed B.named B.method).1
  subst hsz
  have hx := B.exec
  have hb := B.bytes
  have hr := B.returns
  have hlocks := B.notSynchronized
  have hD := hD0.self (sz := s.heap.size)
  have hA : ∀ q : Nat, s.heap.size ≤ q → va_A (wl cA ad n I J F) s.heap.size q := fun q h => Or.inr h
  rw [lg_entry_eq]
  have hl := lv_entry (As.map (cv ad)) (n := nL) (by rw [sl_cv]; exact hlen)
  rw [args_cv] at hl
  have hv := v p l e (rmD d n nE) s m _ below meth c D (va_A (wl cA ad n I J F) s.heap.size) n ad (MQ below (Qg D n nE ad Q (va_A (wl cA ad n I J F) s.heap.size)) (As.map (cv ad)).toArray s (nE - n) (sl nE - sl n) (va_A (wl cA ad n I J F) s.heap.size))
    ⟨hx, hb, okA_of hok, hr, hlocks, hml, hown, hname, fun w hw => hts w (List.mem_cons_of_mem _ hw), hE, hA, ⟨Nat.le_refl _, Nat.le_refl _, Nat.le_refl _, Nat.le_refl _⟩, trivial, ?_⟩
    cA ad s.heap [] _ ⟨Nat.le_refl _, hnE, hP, hK, hD, va_S.rf, hwf, fun _ _ => rfl, hl⟩
  · rw [Nat.sub_self, Nat.sub_self] at hv
    exact hv
  · intro rv I' J' F' cA' ad' H locs ls pc hq hP' hK' hD' hS' hwf' had' hR
    have hQ : ∀ t : State, t.heap = H → s.WarmedH t.vm → Qg D n nE ad Q (va_A (wl cA ad n I J F) s.heap.size) (As.map (cv ad)).toArray s (.returned (rv.map (cv ad'))) t := fun t ht hW =>
      ⟨⟨rv, I', J', F', cA', ad', rfl, hq, by rw [ht]; exact hP', hK'.moved hW.alike, hD', hwf', had'⟩, hS'.F ht⟩
    match rv, hR, hQ with
    | none, hR, hQ => exact W.vret hx hb (hr.trans hR.2) hQ hS'.2.2 hR.1 hlocks
    | some (.int x), hR, hQ =>
      obtain ⟨hd, ty, h1, h2⟩ := hR
      exact W.zret hx hb (hr.trans h1) h2 hQ hS'.2.2 hd hlocks
    | some (.long x), hR, hQ => exact W.lret hx hb (hr.trans hR.2) hQ hS'.2.2 hR.1 hlocks
    | some (.ref x), hR, hQ =>
      obtain ⟨hd, nm, h1⟩ := hR
      exact W.aret hx hb (hr.trans h1) (Or.inl ⟨nm, rfl⟩) (Or.inr ⟨_, rfl⟩) hQ hS'.2.2 hd hlocks
    | some (.float x), hR, _ => exact hR.elim
    | some (.double x), hR, _ => exact hR.elim
    | some .null, hR, _ => exact hR.elim
    | some (.retAddr x), hR, _ => exact hR.elim
theorem Bf_blind {D : va_G} {cA : Nat → ClassId} {ad : Nat → Nat} {sz n : Nat} {I : I2} {J : J2} {F : F2} {As : List Value} : FrameBlind (va_Pc As (Bf D cA ad sz n I J F)) := by
  intro a U g mk q
  obtain ⟨h0, h1, h2, h3, h4, h5, h6⟩ := q
  exact ⟨h0, h1, h2, KS.moved (u := U) (U := U.calling g mk a) (Vm.Alike.refl U.vm) h3, h4, h5.calling, h6⟩
theorem va_A_wl {cA : Nat → ClassId} {ad : Nat → Nat} {n sz : Nat} {I : I2} {J : J2} {F : F2} {A : Nat → Prop} (hD : va_D A (wl cA ad n I J F)) (hA : ∀ q, sz ≤ q → A q) : ∀ q, va_A (wl cA ad n I J F) sz q → A q := by
  intro q h
  rcases h with ⟨k, e, h⟩ | h
  · exact hD.2 k (q, e) h
  · exact hA q h
def okr (n : Nat) (v : Value) : Prop := ∀ i, v = .ref i → i < n ∨ 1000 ≤ i
theorem cv_okr {n : Nat} {v : Value} {ad ad' : Nat → Nat} (h : okr n v) (ha : ∀ i, (i < n ∨ 1000 ≤ i) → ad' i = ad i) : cv ad' v = cv ad v := by
  cases v with
  | ref i => simp only [cv]; rw [ha i (h i rfl)]
  | _ => rfl
section VC
variable {mt : MT} {sc : Option (Nat × (Nat → Int32))} {d nE : Nat} {Q : QT} {pc nx t ci k n : Nat} {c32 : Int32} {c64 : Int64} {L : Lc} {st rest : List Value} {I : I2} {J : J2} {F : F2}
theorem run_to {p : Program} {l : Launch} {e : Env} {R : Room} {s : State} {m : MethodId} {args : Array Value} {below : List Frame} {meth : Method} {c : Code} {D : va_G} {A : Nat → Prop} {n0 : Nat} {ad0 : Nat → Nat} {Qf : State → Prop} (X : Act mt sc d nE Q p l e R s m args below meth c D A n0 ad0 Qf)
    {cA : Nat → ClassId} {ad : Nat → Nat} {H : Heap} {locs : List Loc} {ls : Array Slot} (S : SF mt nE s D A n0 ad0 cA ad H locs ls L n I J F) {nX : Nat} {Q' : QT} {a : Array Value} {st0 : List Value} (hnX : n ≤ nX ∧ nX ≤ nE) (hrg : nX = n ∨ ((∀ q ∈ L, okr n q.2) ∧ ∀ v ∈ rest, okr n v))
    (hr : va_Run p l e R s m args below meth c H locs (n - n0) (sl n - sl n0) (nX - n) (sl nX - sl n) (F0 m pc ls st0) (rest.map (cv ad)) (Qg D n nX ad Q' (va_A (wl cA ad n I J F) H.size) a) (va_A (wl cA ad n I J F) H.size))
    (kk : ∀ rv I' J' F', Q' rv I' J' F' → V mt sc d nE Q (pc + 3) L (rv.toList ++ rest) nX I' J' F') : W p l e R s m args below meth c H locs (n - n0) (sl n - sl n0) Qf (F0 m pc ls st0) := by
  intro T hT X0
  obtain ⟨v, st₀, t, T', L2, h0, X', hL, e1, e2, ⟨⟨rv, I', J', F', cA', ad', hv, hq, hP', hK', hD', hwf', had'⟩, hz, hk⟩, stp⟩ := hr T hT X0
  cases hv
  rw [h0] at hz hk
  have hA := va_A_wl S.2.2.2.2.1 (fun q h => X.2.2.2.2.2.2.2.2.2.2.1 q (Nat.le_trans S.2.2.2.2.2.1.1 h))
  have hS : va_S A s.heap T'.heap (locs ++ L2) := ⟨Nat.le_trans S.2.2.2.2.2.1.1 (by rw [e1]; exact hz), fun q h1 h2 => by
      rw [e1, hk q (Nat.lt_of_lt_of_le h1 S.2.2.2.2.2.1.1) (fun z => h2 (hA q z))]
      exact S.2.2.2.2.2.1.2.1 q h1 h2, fun q hq => by
      rcases List.mem_append.mp hq with h | h
      · exact S.2.2.2.2.2.1.2.2 q h
      · exact hA _ (hL q h)⟩
  have hal : s.vm.Alike t.vm := by rw [← e2]; exact X'.warmed.alike
  have hcv : ∀ u, (nX = n ∨ okr n u) → cv ad' u = cv ad u := by
    intro u hu
    rcases hu with hu | hu
    · cases u with
      | ref i => simp only [cv]; rw [had' i (Or.inr (Or.inr hu))]
      | _ => rfl
    · exact cv_okr hu (fun i hi => had' i (hi.imp id Or.inl))
  have hLm : L.map (cvl ad') = L.map (cvl ad) := List.map_congr_left fun q hq => by
    simp only [cvl]
    rw [hcv q.2 (hrg.imp id (fun h => h.1 q hq))]
  have hRm : rest.map (cv ad') = rest.map (cv ad) := List.map_congr_left fun q hq => hcv q (hrg.imp id (fun h => h.2 q hq))
  have hn0 := S.1
  have hs1 := sl_mono S.1
  have hs2 := sl_mono hnX.1
  have ec : n - n0 + (nX - n) = nX - n0 := by omega
  have es : sl n - sl n0 + (sl nX - sl n) = sl nX - sl n0 := by omega
  rw [ec, es] at X'
  obtain ⟨t2, a1, b1⟩ := kk rv I' J' F' hq p l e R s m args below meth c D A n0 ad0 Qf X cA' ad' T'.heap (locs ++ L2) ls
    ⟨Nat.le_trans S.1 hnX.1, hnX.2, by rw [e1]; exact hP', hK'.moved (u := t) (U := s) hal.symm, ⟨hD'.1, fun k q hq => hA _ (hD'.2 k q hq)⟩, hS, hwf', fun i hi => by
      rcases hi with h | h | h
      · rw [had' i (Or.inl (Nat.lt_of_lt_of_le h S.1))]; exact S.2.2.2.2.2.2.2.1 i (Or.inl h)
      · rw [had' i (Or.inr (Or.inl h))]; exact S.2.2.2.2.2.2.2.1 i (Or.inr (Or.inl h))
      · have h1 : n = n0 := by omega
        rw [had' i (Or.inr (Or.inr (by omega)))]; exact S.2.2.2.2.2.2.2.1 i (Or.inr (Or.inr h1)), by rw [hLm]; exact S.lv⟩ T' rfl X'
  refine ⟨t2, stp t2 ?_, b1⟩
  have e3 : (rv.toList ++ rest).map (cv ad') = (rv.map (cv ad')).toList ++ rest.map (cv ad) := by
    rw [List.map_append, hRm]
    cases rv <;> rfl
  rw [e3] at a1
  exact a1
theorem tblG_good {w : Cond} (h : w ∈ tblG) : goodWord w = true := (List.mem_filter.mp h).2
theorem wsY_good {mt' : MT} (h : okM mt' = true) : GoodIn tblG (wsY mt') := by
  intro w hw
  obtain ⟨own, y, cc, nL, ret, wi, tbl⟩ := mt'
  simp only [okM, Bool.and_eq_true, decide_eq_true_eq] at h
  rcases List.mem_cons.mp hw with rfl | hw
  · exact ⟨gAt_mem h.2.2.2.1, good_of_word (tblG_good (gAt_mem h.2.2.2.1))⟩
  · exact ⟨hw, good_of_word (tblG_good hw)⟩
theorem Bf_here {mt' : MT} {p : Program} {l : Launch} {e : Env} {R : Room} {s : State} {m : MethodId} {args : Array Value} {below : List Frame} {meth : Method} {c : Code} {D : va_G} {A : Nat → Prop} {n0 : Nat} {ad0 : Nat → Nat} {Qf : State → Prop} (X : Act mt sc d nE Q p l e R s m args below meth c D A n0 ad0 Qf)
    {cA : Nat → ClassId} {ad : Nat → Nat} {H : Heap} {locs : List Loc} {ls : Array Slot} (S : SF mt nE s D A n0 ad0 cA ad H locs ls L n I J F) {U : State} (hU : U.heap = H) (hW : s.WarmedH U.vm) : Bf D cA ad H.size n I J F U := by
  have hA := va_A_wl S.2.2.2.2.1 (fun q h => X.2.2.2.2.2.2.2.2.2.2.1 q (Nat.le_trans S.2.2.2.2.2.1.1 h))
  have hE := X.2.2.2.2.2.2.2.2.2.1.to S.2.2.2.2.2.1 hU hW hA
  refine ⟨by rw [hU], by rw [hU]; exact S.P, S.2.2.2.1.moved hW.alike, ⟨S.2.2.2.2.1.1, fun _ _ _ => trivial⟩, ?_, S.2.2.2.2.2.2.1⟩
  obtain ⟨h1, h2, h3, ⟨v, hv, h4⟩, h5⟩ := hE
  have ha : ∀ i, 1000 ≤ i → ad i = ad0 i := fun i hi => S.2.2.2.2.2.2.2.1 i (Or.inr (Or.inl hi))
  refine ⟨?_, fun i hi => by rw [ha _ (by omega)]; exact h2 i hi, h3, ⟨v, hv, ?_⟩, h5⟩
  · rw [show (fun i => ad (1000 + i)) = (fun i => ad0 (1000 + i)) from funext fun i => ha _ (by omega), show (fun i => ad (2000 + i)) = (fun i => ad0 (2000 + i)) from funext fun i => ha _ (by omega)]
    exact h1
  · rcases hv with rfl | rfl
    · exact h4
    · rw [cv_ref, ha _ (by omega)]; exact h4
theorem lnk_use {own : String} {idx : Nat} {y : MethodName} (h : lnk own idx y) {s : State} {args : Array Value} (hts : ∀ w ∈ tblG, w.before args s = true) (hn : ∀ w ∈ tblN, va_Nw w s) : (Cond.methodLink own idx y).before args s = true ∨ va_Nw (.methodLinkNest own idx y hostN) s := h.imp (hts _) (hn _)
theorem sum_cv (ad : Nat → Nat) (st : List Value) : ((st.map (cv ad)).map fun v => v.category).sum = (st.map fun v => v.category).sum := by
  rw [List.map_map]
  congr 1
  exact List.map_congr_left fun v _ => cv_cat ad v
/-- a receiver's class -/
def Rcv (mt : MT) (sc : Option (Nat × (Nat → Int32))) (d nE : Nat) (Q : QT) (n : Nat) (L : Lc) (I : I2) (J : J2) (F : F2) (o : Nat) (C : String) : Prop :=
  ∀ (p : Program) (l : Launch) (e : Env) (R : Room) (s : State) (m : MethodId) (args : Array Value) (below : List Frame) (meth : Method) (c : Code) (D : va_G) (A : Nat → Prop) (n0 : Nat) (ad0 : Nat → Nat) (Qf : State → Prop), Act mt sc d nE Q p l e R s m args below meth c D A n0 ad0 Qf →
  ∀ (cA : Nat → ClassId) (ad : Nat → Nat) (H : Heap) (locs : List Loc) (ls : Array Slot), SF mt nE s D A n0 ad0 cA ad H locs ls L n I J F → ∃ cellB : Cell, H[ad o]? = some cellB ∧ cellB.vm.isStatics = false ∧ s.vm.findClass C = some cellB.cls
theorem Rcv.obj {o ci' : Nat} {C : String} (hKD : KD o = .inl ci') (hcl : (nCl ci').1 = C) (h7 : ci' < 7) (hon : o < n) : Rcv mt sc d nE Q n L I J F o C := by
  intro p l e R s m args below meth c D A n0 ad0 Qf X cA ad H locs ls S
  rw [← hcl]
  exact va_recv S.2.2.2.1.K0 S.P (nCl_get h7) (wl_obj hon hKD)
theorem Rcv.str {i : Nat} (hi : i < 12) : Rcv mt sc d nE Q n L I J F (1000 + i) "java/lang/String" := by
  intro p l e R s m args below meth c D A n0 ad0 Qf X cA ad H locs ls S
  have h := vk_recv X.2.2.2.2.2.2.2.2.2.1.1 hi S.2.2.2.2.2.1
  rw [S.2.2.2.2.2.2.2.1 (1000 + i) (Or.inr (Or.inl (by omega)))]
  exact h
/-- a virtual call (of a method of that class, or a private one of a nest mate) -/
theorem V_callV0 {mt' : MT} {z o na wini winst wsel d' nX : Nat} {As : List Value} {Q' : QT} (he : fE mt.2.2.2.2.2.2 pc = some (pc, .invokevirtual z, nx, t, c32, c64, ci, k)) (hl : lnk mt.1 z mt'.2.1) (hy : okYv mt' na wini winst wsel = true) (hst : st = As.reverse ++ .ref o :: rest) (hna : As.length = na) (hrec : Rcv mt sc d nE Q n L I J F o mt'.2.1.cls)
    (hC : CT mt' d' n nX (.ref o :: As) I J F Q') (hd' : d' + 1 ≤ d) (hsum : (rest.map fun v => v.category).sum ≤ 8) (hnX : n ≤ nX ∧ nX ≤ nE) (hrg : nX = n ∨ ((∀ q ∈ L, okr n q.2) ∧ ∀ v ∈ rest, okr n v))
    (kk : ∀ rv I' J' F', Q' rv I' J' F' → V mt sc d nE Q nx L (rv.toList ++ rest) nX I' J' F') : V mt sc d nE Q pc L st n I J F := by
  intro p l e R s m args below meth c D A n0 ad0 Qf X cA ad H locs ls S
  obtain ⟨hd, hn, -⟩ := row_of X.2.2.1 he rfl
  subst hn
  subst hst
  simp only [okYv, okY, Bool.and_eq_true, decide_eq_true_eq] at hy
  obtain ⟨hok', ⟨hini, hnm, hpar⟩, hinst, hsel⟩ := hy
  have hts := X.2.2.2.2.2.2.2.2.1
  have hEn := X.2.2.2.2.2.2.2.2.2.1
  have hR := X.2.2.2.2.2.2.2.2.2.2.2.1
  have hn0 := S.1
  have hs1 := sl_mono S.1
  have hs2 := sl_mono hnX.1
  have hs3 := sl_mono hnX.2
  have hnL : mt'.2.2.2.1 ≤ 21 := by
    obtain ⟨own, y, cc, nL, ret, wi, tbl⟩ := mt'
    simp only [okM, Bool.and_eq_true, decide_eq_true_eq] at hok'
    exact hok'.2.2.1
  have hM := hC l D cA ad H.size
  rw [List.map_cons, cv_ref] at hM
  have hroom : (rmD d' n nX).frames + 1 ≤ R.frames ∧ 8 + (mt'.2.2.2.1 + 11) + (rmD d' n nX).locals ≤ R.locals := by
    refine ⟨?_, ?_⟩
    · show d' + 1 ≤ R.frames
      omega
    · show 8 + (mt'.2.2.2.1 + 11) + 40 * d' ≤ R.locals
      omega
  have hstk : ((As.reverse ++ .ref o :: rest).map (cv ad)) = (As.map (cv ad)).reverse ++ .ref (ad o) :: rest.map (cv ad) := by simp [cv_ref]
  rw [hstk]
  have hpre : PreV s H mt'.2.1.cls (ad o) (va_Pc (.ref (ad o) :: As.map (cv ad)) (Bf D cA ad H.size n I J F)) (As.map (cv ad)) :=
    ⟨Bf_blind, hrec p l e R s m args below meth c D A n0 ad0 Qf X cA ad H locs ls S, fun U hU hW => ⟨rfl, Bf_here (mt' := mt') X S hU hW⟩⟩
  have hcells : n - n0 + (nX - n) ≤ R.cells ∧ sl n - sl n0 + (sl nX - sl n) ≤ R.slots := by
    have h1 := hR.2.2.1
    have h2 := hR.2.2.2
    have h3 := hnX.2
    omega
  have hfix : CallFix p m c mt.2.2.1 mt.2.2.2.1 s args tblG mt.1 := ⟨X.1, X.2.1, X.2.2.2.2.2.1, X.2.2.2.2.2.2.1, hts⟩
  have hiw := hts _ (gAt_mem hini)
  refine run_to (rest := rest) (a := (Value.ref (ad o) :: As.map (cv ad)).toArray) X S hnX hrg ?_ kk
  rcases lnk_use hl hts hEn.2.2.2.2 with hw | hw
  · exact va_runV (n := na) hfix hM ⟨callB_of na hts (wsY_good hok') rfl rfl rfl hiw hw ⟨hnm.1, hnm.2, hpar⟩ hroom, hts _ (gAt_mem hinst), hts _ (gAt_mem hsel)⟩ hpre rfl (by rw [List.length_map]; exact hna) S.lv.1 rfl (lv_room (by rw [sum_cv]; exact hsum)) hd hcells
  · exact va_runVN (n := na) hfix hM ⟨va_cnB na hts (wsY_good hok') rfl rfl rfl hw hiw ⟨hnm.1, hnm.2, hpar⟩ hroom, hts _ (gAt_mem hinst), hts _ (gAt_mem hsel)⟩ hpre rfl (by rw [List.length_map]; exact hna) S.lv.1 rfl (lv_room (by rw [sum_cv]; exact hsum)) hd hcells
theorem V_callV {mt' : MT} {z o na wini winst wsel d' nX ci' : Nat} {As : List Value} {Q' : QT} (he : fE mt.2.2.2.2.2.2 pc = some (pc, .invokevirtual z, nx, t, c32, c64, ci, k)) (hl : lnk mt.1 z mt'.2.1) (hy : okYv mt' na wini winst wsel = true) (hst : st = As.reverse ++ .ref o :: rest) (hna : As.length = na) (hKD : KD o = .inl ci') (hcl : (nCl ci').1 = mt'.2.1.cls) (h7 : ci' < 7) (hon : o < n)
    (hC : CT mt' d' n nX (.ref o :: As) I J F Q') (hd' : d' + 1 ≤ d) (hsum : (rest.map fun v => v.category).sum ≤ 8) (hnX : n ≤ nX ∧ nX ≤ nE) (hrg : nX = n ∨ ((∀ q ∈ L, okr n q.2) ∧ ∀ v ∈ rest, okr n v))
    (kk : ∀ rv I' J' F', Q' rv I' J' F' → V mt sc d nE Q nx L (rv.toList ++ rest) nX I' J' F') : V mt sc d nE Q pc L st n I J F :=
  V_callV0 he hl hy hst hna (Rcv.obj hKD hcl h7 hon) hC hd' hsum hnX hrg kk
theorem V_callS {mt' : MT} {z na wini wstat d' nX : Nat} {As : List Value} {Q' : QT} (he : fE mt.2.2.2.2.2.2 pc = some (pc, .invokestatic z, nx, t, c32, c64, ci, k)) (hl : lnk mt.1 z mt'.2.1) (hy : okYs mt' na wini wstat = true) (hst : st = As.reverse ++ rest) (hna : As.length = na)
    (hC : CT mt' d' n nX As I J F Q') (hd' : d' + 1 ≤ d) (hsum : (rest.map fun v => v.category).sum ≤ 8) (hnX : n ≤ nX ∧ nX ≤ nE) (hrg : nX = n ∨ ((∀ q ∈ L, okr n q.2) ∧ ∀ v ∈ rest, okr n v))
    (kk : ∀ rv I' J' F', Q' rv I' J' F' → V mt sc d nE Q nx L (rv.toList ++ rest) nX I' J' F') : V mt sc d nE Q pc L st n I J F := by
  intro p l e R s m args below meth c D A n0 ad0 Qf X cA ad H locs ls S
  obtain ⟨hd, hn, -⟩ := row_of X.2.2.1 he rfl
  subst hn
  subst hst
  simp only [okYs, okY, Bool.and_eq_true, decide_eq_true_eq] at hy
  obtain ⟨hok', ⟨hini, hnm, hpar⟩, hstat⟩ := hy
  have hts := X.2.2.2.2.2.2.2.2.1
  have hEn := X.2.2.2.2.2.2.2.2.2.1
  have hR := X.2.2.2.2.2.2.2.2.2.2.2.1
  have hn0 := S.1
  have hs1 := sl_mono S.1
  have hs2 := sl_mono hnX.1
  have hs3 := sl_mono hnX.2
  have hnL : mt'.2.2.2.1 ≤ 21 := by
    obtain ⟨own, y, cc, nL, ret, wi, tbl⟩ := mt'
    simp only [okM, Bool.and_eq_true, decide_eq_true_eq] at hok'
    exact hok'.2.2.1
  have hM := hC l D cA ad H.size
  have hroom : (rmD d' n nX).frames + 1 ≤ R.frames ∧ 8 + (mt'.2.2.2.1 + 11) + (rmD d' n nX).locals ≤ R.locals := by
    refine ⟨?_, ?_⟩
    · show d' + 1 ≤ R.frames
      omega
    · show 8 + (mt'.2.2.2.1 + 11) + 40 * d' ≤ R.locals
      omega
  have hstk : ((As.reverse ++ rest).map (cv ad)) = (As.map (cv ad)).reverse ++ rest.map (cv ad) := by simp
  rw [hstk]
  have hpre : PreS s H (va_Pc (As.map (cv ad)) (Bf D cA ad H.size n I J F)) (As.map (cv ad)) :=
    ⟨Bf_blind, fun U hU hW => ⟨rfl, Bf_here (mt' := mt') X S hU hW⟩⟩
  have hcells : n - n0 + (nX - n) ≤ R.cells ∧ sl n - sl n0 + (sl nX - sl n) ≤ R.slots := by
    have h1 := hR.2.2.1
    have h2 := hR.2.2.2
    have h3 := hnX.2
    omega
  have hfix : CallFix p m c mt.2.2.1 mt.2.2.2.1 s args tblG mt.1 := ⟨X.1, X.2.1, X.2.2.2.2.2.1, X.2.2.2.2.2.2.1, hts⟩
  have hiw := hts _ (gAt_mem hini)
  refine run_to (rest := rest) (a := (As.map (cv ad)).toArray) X S hnX hrg ?_ kk
  rcases lnk_use hl hts hEn.2.2.2.2 with hw | hw
  · exact va_runS (n := na) hfix hM ⟨callB_of na hts (wsY_good hok') rfl rfl rfl hiw hw ⟨hnm.1, hnm.2, hpar⟩ hroom, hts _ (gAt_mem hstat)⟩ hpre rfl (by rw [List.length_map]; exact hna) S.lv.1 rfl (lv_room (by rw [sum_cv]; exact hsum)) hd hcells
  · exact va_runSN (n := na) hfix hM ⟨va_cnB na hts (wsY_good hok') rfl rfl rfl hw hiw ⟨hnm.1, hnm.2, hpar⟩ hroom, hts _ (gAt_mem hstat), trivial⟩ hpre rfl (by rw [List.length_map]; exact hna) S.lv.1 rfl (lv_room (by rw [sum_cv]; exact hsum)) hd hcells
theorem V_callI {mt' : MT} {z o na wini winst d' nX : Nat} {As : List Value} {Q' : QT} (he : fE mt.2.2.2.2.2.2 pc = some (pc, .invokespecial z, nx, t, c32, c64, ci, k)) (hl : lnk mt.1 z mt'.2.1) (hy : okYi mt' na wini winst = true) (hst : st = As.reverse ++ .ref o :: rest) (hna : As.length = na)
    (hC : CT mt' d' n nX (.ref o :: As) I J F Q') (hd' : d' + 1 ≤ d) (hsum : (rest.map fun v => v.category).sum ≤ 8) (hnX : n ≤ nX ∧ nX ≤ nE) (hrg : nX = n ∨ ((∀ q ∈ L, okr n q.2) ∧ ∀ v ∈ rest, okr n v))
    (kk : ∀ rv I' J' F', Q' rv I' J' F' → V mt sc d nE Q nx L (rv.toList ++ rest) nX I' J' F') : V mt sc d nE Q pc L st n I J F := by
  intro p l e R s m args below meth c D A n0 ad0 Qf X cA ad H locs ls S
  obtain ⟨hd, hn, -⟩ := row_of X.2.2.1 he rfl
  subst hn
  subst hst
  obtain ⟨own', y', cc', nL', ret', wi', tbl'⟩ := mt'
  simp only [okYi, okY, Bool.and_eq_true, decide_eq_true_eq] at hy
  obtain ⟨hok', ⟨hini, hnm, hpar⟩, hinst, hname, hret⟩ := hy
  subst hret
  have hts := X.2.2.2.2.2.2.2.2.1
  have hEn := X.2.2.2.2.2.2.2.2.2.1
  have hR := X.2.2.2.2.2.2.2.2.2.2.2.1
  have hn0 := S.1
  have hs1 := sl_mono S.1
  have hs2 := sl_mono hnX.1
  have hs3 := sl_mono hnX.2
  have hnL : nL' ≤ 21 := by
    simp only [okM, Bool.and_eq_true, decide_eq_true_eq] at hok'
    exact hok'.2.2.1
  have hM := hC l D cA ad H.size
  rw [List.map_cons, cv_ref] at hM
  have hroom : (rmD d' n nX).frames + 1 ≤ R.frames ∧ 8 + (nL' + 11) + (rmD d' n nX).locals ≤ R.locals := by
    refine ⟨?_, ?_⟩
    · show d' + 1 ≤ R.frames
      omega
    · show 8 + (nL' + 11) + 40 * d' ≤ R.locals
      omega
  have hstk : ((As.reverse ++ .ref o :: rest).map (cv ad)) = (As.map (cv ad)).reverse ++ .ref (ad o) :: rest.map (cv ad) := by simp [cv_ref]
  rw [hstk]
  have hpre : PreS s H (va_Pc (.ref (ad o) :: As.map (cv ad)) (Bf D cA ad H.size n I J F)) (.ref (ad o) :: As.map (cv ad)) :=
    ⟨Bf_blind, fun U hU hW => ⟨rfl, Bf_here (mt' := (own', y', cc', nL', none, wi', tbl')) X S hU hW⟩⟩
  have hcells : n - n0 + (nX - n) ≤ R.cells ∧ sl n - sl n0 + (sl nX - sl n) ≤ R.slots := by
    have h1 := hR.2.2.1
    have h2 := hR.2.2.2
    have h3 := hnX.2
    omega
  have hfix : CallFix p m c mt.2.2.1 mt.2.2.2.1 s args tblG mt.1 := ⟨X.1, X.2.1, X.2.2.2.2.2.1, X.2.2.2.2.2.2.1, hts⟩
  have hiw := hts _ (gAt_mem hini)
  refine run_to (rest := rest) (a := (Value.ref (ad o) :: As.map (cv ad)).toArray) X S hnX hrg ?_ kk
  rcases lnk_use hl hts hEn.2.2.2.2 with hw | hw
  · exact va_runI (n := na) hfix hM ⟨callB_of na hts (wsY_good hok') rfl rfl rfl hiw hw ⟨hnm.1, hnm.2, hpar⟩ hroom, hname, hts _ (gAt_mem hinst)⟩ hpre rfl (by rw [List.length_map]; exact hna) S.lv.1 rfl (lv_room (by rw [sum_cv]; exact hsum)) hd hcells
  · exact va_runIN (n := na) hfix hM ⟨va_cnB na hts (wsY_good hok') rfl rfl rfl hw hiw ⟨hnm.1, hnm.2, hpar⟩ hroom, hname, hts _ (gAt_mem hinst)⟩ hpre rfl (by rw [List.length_map]; exact hna) S.lv.1 rfl (lv_room (by rw [sum_cv]; exact hsum)) hd hcells
end VC
