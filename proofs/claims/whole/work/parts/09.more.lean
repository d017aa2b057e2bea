theorem uwsTy : ∀ ci, ci < 7 → ∀ k, k < (nCl ci).2.2 → (match tyF ci k with | .int => true | .boolean => true | .long => true | .object _ => true | .array _ => true | _ => false) = true := by decide +kernel
section VN9
variable {mt : MT} {sc : Option (Nat × (Nat → Int32))} {d nE : Nat} {Q : QT} {pc nx t ci k n : Nat} {c32 : Int32} {c64 : Int64} {L : Lc} {st rest : List Value} {I : I2} {J : J2} {F : F2}
theorem wl_grow {cA cA' : Nat → ClassId} {ad ad' : Nat → Nat} {I' : I2} {J' : J2} {F' : F2} (h1 : ∀ i, i < n → ad' i = ad i) (h2 : ∀ i, i < n → cellA cA' ad' I' J' F' i = cellA cA ad I J F i) : wl cA' ad' (n + 1) I' J' F' = wl cA ad n I J F ++ [(ad' n, cellA cA' ad' I' J' F' n)] := by
  simp only [wl, List.range_succ, List.map_append, List.map_cons, List.map_nil]
  congr 1
  exact List.map_congr_left fun i hi => by rw [h1 i (List.mem_range.mp hi), h2 i (List.mem_range.mp hi)]
theorem cell_grow {cA cA' : Nat → ClassId} {ad ad' : Nat → Nat} {I' : I2} {J' : J2} {F' : F2} {i : Nat} (hc : cA' i = cA i) (hI : I' i = I i) (hJ : J' i = J i) (hF : F' i = F i) (hr : ∀ k j, F i k = some j → ad' j = ad j) : cellA cA' ad' I' J' F' i = cellA cA ad I J F i := by
  unfold cellA
  cases KD i with
  | inl c =>
    simp only
    congr 2
    refine List.map_congr_left fun k _ => ?_
    simp only [fv, hI, hJ, hF]
    split <;> try rfl
    cases hf : F i k with
    | none => rfl
    | some j => simp only [va_rf, cv, hr k j hf]
  | inr q => simp only [arrA, hI, hJ, hc]
theorem cv_same {ad ad' : Nat → Nat} {v : Value} (h : okr n v) (ha : ∀ i, (i < n ∨ 1000 ≤ i) → ad' i = ad i) : cv ad' v = cv ad v := cv_okr h ha
theorem V_new {z wini : Nat} (he : fE mt.2.2.2.2.2.2 pc = some (pc, .new z, nx, t, c32, c64, ci, k)) (h7 : ci < 7) (hcl : gAt t (.classLink mt.1 z (nCl ci).1) = true) (hin : gAt k (.instantiable (nCl ci).1 (nCl ci).2.2) = true) (hini : gAt wini (.initialized (nCl ci).1) = true) (hKD : KD n = .inl ci) (hnE : n + 1 ≤ nE) (hn9 : n < 1000)
    (hL : ∀ q ∈ L, okr n q.2) (hst : ∀ v ∈ st, okr n v)
    (kk : V mt sc d nE Q nx L (.ref n :: st) (n + 1) (row2 I n fun _ => 0) (row2 J n fun _ => 0) (row2 F n fun _ => none)) : V mt sc d nE Q pc L st n I J F := by
  intro p l e R s m args below meth c D A n0 ad0 Qf X cA ad H locs ls S
  obtain ⟨hd, hn, ho⟩ := row_of X.2.2.1 he rfl
  subst hn
  have hts := X.2.2.2.2.2.2.2.2.1
  have hown := X.2.2.2.2.2.2.1
  have hR := X.2.2.2.2.2.2.2.2.2.2.2.1
  have hn0 := S.1
  have hs1 := sl_mono S.1
  have hs2 := sl_mono hnE
  have hsl := sl_succ n
  rw [hKD] at hsl
  have hsk : slotsK (.inl ci) = (nCl ci).2.2 := rfl
  rw [hsk] at hsl
  have key : ∀ q : Nat, (List.range (nCl ci).2.2).map (fun k => cv (fun i => if i = n then q else ad i) (fv (row2 I n fun _ => 0) (row2 J n fun _ => 0) (row2 F n fun _ => none) n k (tyF ci k))) = (List.range (nCl ci).2.2).map (fun k => cv ad (fv (fun _ _ => 0) (fun _ _ => 0) (fun _ _ => none) n k (tyF ci k))) := by
    intro q
    refine List.map_congr_left fun k _ => ?_
    simp only [fv, row2, if_true]
    split <;> rfl
  refine va_new (ci := ci) (fs := (List.range (nCl ci).2.2).map (fun k => cv ad (fv (fun _ _ => 0) (fun _ _ => 0) (fun _ _ => none) n k (tyF ci k)))) (T := (nCl ci).2.1) X.1 X.2.1 hts (uwsT h7) (tyF ci) (tyF_ok h7) hown (hts _ (gAt_mem hcl)) (hts _ (gAt_mem hin)) (hts _ (gAt_mem hini)) S.2.2.2.1.K0 S.P S.2.2.2.2.1 S.2.2.2.2.2.1 X.2.2.2.2.2.2.2.2.2.2.1 (nCl_get h7) (fun j hj => ?_) (by omega) (by omega) hd (fun q H1 hP hD hS => ?_)
  · have h1 := uwsTy ci h7 j hj
    simp only [vp_V, List.getD_eq_getElem?_getD, List.getElem?_map, List.getElem?_range hj, Option.map_some, Option.getD_some]
    cases hty : tyF ci j <;> simp [hty] at h1 <;> rfl
  · have hadi : ∀ i, i < n ∨ 1000 ≤ i → (fun i => if i = n then q else ad i) i = ad i := fun i hi => if_neg (by omega)
    have e1 : wl cA (fun i => if i = n then q else ad i) (n + 1) (row2 I n fun _ => 0) (row2 J n fun _ => 0) (row2 F n fun _ => none) = wl cA ad n I J F ++ [(q, .inr (ci, (List.range (nCl ci).2.2).map (fun k => cv ad (fv (fun _ _ => 0) (fun _ _ => 0) (fun _ _ => none) n k (tyF ci k)))))] := by
      rw [wl_grow (cA := cA) (ad := ad) (I := I) (J := J) (F := F) (fun i hi => hadi i (Or.inl hi)) (fun i hi => cell_grow rfl (row2_ne (by omega)) (row2_ne (by omega)) (row2_ne (by omega)) (fun k j hj => hadi j (Or.inl (S.2.2.2.2.2.2.1 i hi k j hj))))]
      congr 2
      simp only [cellA, hKD, if_true]
      rw [key q]
    have ec : n - n0 + 1 = n + 1 - n0 := by omega
    have es : sl n - sl n0 + (nCl ci).2.2 = sl (n + 1) - sl n0 := by omega
    rw [ec, es]
    have hLm : L.map (cvl fun i => if i = n then q else ad i) = L.map (cvl ad) := List.map_congr_left fun r hr => by
      simp only [cvl]
      rw [cv_same (hL r hr) hadi]
    have hSm : st.map (cv fun i => if i = n then q else ad i) = st.map (cv ad) := List.map_congr_left fun r hr => cv_same (hst r hr) hadi
    have h9 := kk p l e R s m args below meth c D A n0 ad0 Qf X cA (fun i => if i = n then q else ad i) H1 locs ls ⟨by omega, hnE, by rw [e1]; exact hP, ⟨S.2.2.2.1.1, fun i hi len ty hk => ?_⟩, by rw [e1]; exact hD, hS, ?_, fun i hi => ?_, by rw [hLm]; exact S.lv⟩
    · rw [List.map_cons, hSm, cv_ref, if_pos rfl] at h9
      exact h9
    · by_cases hin : i = n
      · subst hin; rw [hKD] at hk; cases hk
      · exact S.2.2.2.1.2 i (by omega) len ty hk
    · intro i hi k j hj
      by_cases hin : i = n
      · subst hin; simp [row2] at hj
      · rw [row2_ne hin] at hj
        have := S.2.2.2.2.2.2.1 i (by omega) k j hj
        omega
    · rw [hadi i (by omega)]
      exact S.2.2.2.2.2.2.2.1 i (by omega)
theorem V_newa {aty : ArrayType} {len : Nat} {x : Int32} {ty : FieldType} {wa : Nat} (he : fE mt.2.2.2.2.2.2 pc = some (pc, .newarray aty, nx, t, c32, c64, ci, k)) (hty : newarray.typeOf aty = ty) (hty2 : ty = .int ∨ ty = .long ∨ ty = .boolean) (hw : gAt wa (.arrayClass ty) = true) (hx0 : ¬ x < 0) (hx : x.toNatClampNeg = len) (hby : len * componentBytes ty ≤ 536870912) (hKD : KD n = .inr (len, ty)) (hnE : n + 1 ≤ nE) (hn9 : n < 1000)
    (hL : ∀ q ∈ L, okr n q.2) (hst : ∀ v ∈ st, okr n v)
    (kk : V mt sc d nE Q nx L (.ref n :: st) (n + 1) (row2 I n fun _ => 0) (row2 J n fun _ => 0) (row2 F n fun _ => none)) : V mt sc d nE Q pc L (.int x :: st) n I J F := by
  intro p l e R s m args below meth c D A n0 ad0 Qf X cA ad H locs ls S
  obtain ⟨hd, hn, ho⟩ := row_of X.2.2.1 he rfl
  subst hn
  have hts := X.2.2.2.2.2.2.2.2.1
  have hR := X.2.2.2.2.2.2.2.2.2.2.2.1
  have hn0 := S.1
  have hs1 := sl_mono S.1
  have hs2 := sl_mono hnE
  have hsl := sl_succ n
  rw [hKD] at hsl
  have hsk : slotsK (.inr (len, ty)) = len := rfl
  rw [hsk] at hsl
  refine va_newa (tys := []) (D := D) (cl := vwCl) (a0 := (len, arrA (row2 I n fun _ => 0) (row2 J n fun _ => 0) n ty)) X.1 X.2.1 (by rw [hty]; exact hts _ (gAt_mem hw)) hty S.2.2.2.1.K0 S.P S.2.2.2.2.1 S.2.2.2.2.2.1 X.2.2.2.2.2.2.2.2.2.2.1 (fun cA1 => ?_) hx0 hx hby (by omega) (by omega) hd (fun q cA1 H1 hK1 hP hD hS => ?_)
  · rcases hty2 with rfl | rfl | rfl <;> simp only [arrA, row2_eq] <;> rfl
  · have hadi : ∀ i, i < n ∨ 1000 ≤ i → (fun i => if i = n then q else ad i) i = ad i := fun i hi => if_neg (by omega)
    have e1 : wl (fun i => if i = n then cA1 else cA i) (fun i => if i = n then q else ad i) (n + 1) (row2 I n fun _ => 0) (row2 J n fun _ => 0) (row2 F n fun _ => none) = wl cA ad n I J F ++ [(q, .inl (cA1, (len, arrA (row2 I n fun _ => 0) (row2 J n fun _ => 0) n ty)))] := by
      rw [wl_grow (cA := cA) (ad := ad) (I := I) (J := J) (F := F) (fun i hi => hadi i (Or.inl hi)) (fun i hi => cell_grow (if_neg (by omega)) (row2_ne (by omega)) (row2_ne (by omega)) (row2_ne (by omega)) (fun k j hj => hadi j (Or.inl (S.2.2.2.2.2.2.1 i hi k j hj))))]
      congr 2
      simp only [cellA, hKD, if_true]
    have ec : n - n0 + 1 = n + 1 - n0 := by omega
    have es : sl n - sl n0 + len = sl (n + 1) - sl n0 := by omega
    rw [ec, es]
    have hLm : L.map (cvl fun i => if i = n then q else ad i) = L.map (cvl ad) := List.map_congr_left fun r hr => by
      simp only [cvl]
      rw [cv_same (hL r hr) hadi]
    have hSm : st.map (cv fun i => if i = n then q else ad i) = st.map (cv ad) := List.map_congr_left fun r hr => cv_same (hst r hr) hadi
    have h9 := kk p l e R s m args below meth c D A n0 ad0 Qf X (fun i => if i = n then cA1 else cA i) (fun i => if i = n then q else ad i) H1 locs ls ⟨by omega, hnE, by rw [e1]; exact hP, ⟨S.2.2.2.1.1, fun i hi len ty hk => ?_⟩, by rw [e1]; exact hD, hS, ?_, fun i hi => ?_, by rw [hLm]; exact S.lv⟩
    · rw [List.map_cons, hSm, cv_ref, if_pos rfl] at h9
      exact h9
    · by_cases hin : i = n
      · subst hin
        rw [hKD] at hk
        cases hk
        simp only [if_true]
        exact hK1.2 0 (cA1, _) rfl
      · simp only [hin, if_false]
        exact S.2.2.2.1.2 i (by omega) len ty hk
    · intro i hi k j hj
      by_cases hin : i = n
      · subst hin; simp [row2] at hj
      · rw [row2_ne hin] at hj
        have := S.2.2.2.2.2.2.1 i (by omega) k j hj
        omega
    · rw [hadi i (by omega)]
      exact S.2.2.2.2.2.2.2.1 i (by omega)
/-- a final field of references, in a constructor -/
theorem V_putR {z o j : Nat} (he : fE mt.2.2.2.2.2.2 pc = some (pc, .putfield z, nx, t, c32, c64, ci, k)) (hKD : KD o = .inl ci) (hon : o < n) (hjn : j < n) (hfin : ((nCl ci).2.1 k).2.2.2 = true) (hini : mt.2.1.name = "<init>") (hown2 : (nCl ci).1 = mt.1) (hg : gAt t (.fieldLink mt.1 z (nCl ci).1 ((nCl ci).2.1 k).2.1 ((nCl ci).2.1 k).2.2.1) = true) (hty : (∃ nm, tyF ci k = .object nm) ∨ ∃ ty, tyF ci k = .array ty)
    (kk : V mt sc d nE Q nx L st n I J (up2 F o k (some j))) : V mt sc d nE Q pc L (.ref j :: .ref o :: st) n I J F := by
  intro p l e R s m args below meth c D A n0 ad0 Qf X cA ad H locs ls S
  obtain ⟨hd, hn, ho⟩ := row_of X.2.2.1 he rfl
  subst hn
  obtain ⟨h7, hk, hdecl, -⟩ := okField_of o hKD ho
  have hts := X.2.2.2.2.2.2.2.2.1
  have hown := X.2.2.2.2.2.2.1
  have hsame : ∀ x, s.fieldFound? ((nCl ci).2.1 k).1 ((nCl ci).2.1 k).2.1 ((nCl ci).2.1 k).2.2.1 = some x → s.fieldFound? (nCl ci).1 ((nCl ci).2.1 k).2.1 ((nCl ci).2.1 k).2.2.1 = some x := fun x hx => by rw [← hdecl]; exact hx
  have hfv : fv I J (up2 F o k (some j)) o k (tyF ci k) = .ref j := by
    rcases hty with ⟨nm, h⟩ | ⟨ty, h⟩ <;> rw [h] <;> simp [fv, up2, va_rf]
  have hfo : ∀ i, i ≠ k → fv I J (up2 F o k (some j)) o i (tyF ci i) = fv I J F o i (tyF ci i) := fun i hi => by
    cases tyF ci i <;> simp [fv, up2, hi]
  have e1 : (wl cA ad n I J F).set o (ad o, .inr (ci, (fsO ad I J F o ci).set k (.ref (ad j)))) = wl cA ad n I J (up2 F o k (some j)) := by
    refine wl_set (fun i hi hio => cell_eq rfl rfl (up2_ne hio)) ?_
    rw [fs_set (I' := I) (J' := J) (F' := up2 F o k (some j)) hk (by rw [hfv]; rfl) hfo]
    simp [cellA, hKD, fsO]
  have kk2 : ∀ (H1 : Heap) (locs1 : List Loc), va_P D vwCl ((wl cA ad n I J F).set o (ad o, .inr (ci, (fsO ad I J F o ci).set k (.ref (ad j))))) H1 → va_D A ((wl cA ad n I J F).set o (ad o, .inr (ci, (fsO ad I J F o ci).set k (.ref (ad j))))) → va_S A s.heap H1 locs1 → W p l e R s m args below meth c H1 locs1 (n - n0) (sl n - sl n0) Qf (F0 m (pc + 3) ls (st.map (cv ad))) := by
    intro H1 locs1 hP hD hS
    rw [e1] at hP hD
    refine kk p l e R s m args below meth c D A n0 ad0 Qf X cA ad H1 locs1 ls ⟨S.1, S.2.1, hP, S.2.2.2.1, hD, hS, ?_, S.2.2.2.2.2.2.2.1, S.lv⟩
    intro i hi k' j' hj'
    by_cases h1 : i = o ∧ k' = k
    · rw [h1.1, h1.2] at hj'
      simp [up2] at hj'
      omega
    · have h2 : up2 F o k (some j) i k' = F i k' := by
        simp only [up2]
        by_cases h3 : i = o
        · rw [if_pos h3, if_neg (fun h4 => h1 ⟨h3, h4⟩)]
        · rw [if_neg h3]
      rw [h2] at hj'
      exact S.2.2.2.2.2.2.1 i hi k' j' hj'
  have hnar : narrow (tyF ci k) (.ref (ad j)) = .ref (ad j) := by rcases hty with ⟨nm, h⟩ | ⟨ty, h⟩ <;> rw [h] <;> rfl
  have hfit : fits (tyF ci k) (.ref (ad j)) = true := by rcases hty with ⟨nm, h⟩ | ⟨ty, h⟩ <;> rw [h] <;> rfl
  exact va_putF (D := D) (ci := ci) (ty := tyF ci k) X.1 X.2.1 hts (uwsT h7) (tyF ci) (tyF_ok h7) (nmF_ok h7) hown S.2.2.2.1.K0 S.P S.2.2.2.2.1 S.2.2.2.2.2.1 o (wl_obj hon hKD) (nCl_get h7) k hk (hts _ (gAt_mem hg)) hsame hfin (X.2.2.2.2.2.2.2.1.trans hini) (hdecl.trans hown2) (tyF_ok h7 k hk) hnar hfit (by rw [fsO_len]; exact hk) hd kk2
/-- Object's own constructor -/
theorem V_objInit {z o wl1 wi1 wc1 : Nat} (he : fE mt.2.2.2.2.2.2 pc = some (pc, .invokespecial z, nx, t, c32, c64, ci, k)) (h1 : gAt wl1 (.methodLink mt.1 z objectInit) = true) (h2 : gAt wi1 (.instanceMethod objectInit) = true) (h3 : gAt wc1 (.code objectInit ⟨#[0xb1]⟩ 1 none) = true) (hd1 : 1 ≤ d) (hsum : (st.map fun v => v.category).sum ≤ 8)
    (kk : V mt sc d nE Q nx L st n I J F) : V mt sc d nE Q pc L (.ref o :: st) n I J F := by
  intro p l e R s m args below meth c D A n0 ad0 Qf X cA ad H locs ls S
  obtain ⟨hd, hn, ho⟩ := row_of X.2.2.1 he rfl
  subst hn
  have hts := X.2.2.2.2.2.2.2.2.1
  have hR := X.2.2.2.2.2.2.2.2.2.2.2.1
  refine W.objInit X.1 X.2.1 X.2.2.2.2.2.2.1 (hts _ (gAt_mem h1)) (hts _ (gAt_mem h2)) (hts _ (gAt_mem h3)) rfl (by rw [X.2.2.2.2.2.1]; exact S.lv.1) rfl hd (by omega) ?_ ?_
  · show 2 * 0 + ((st.map (cv ad)).map fun v => v.category).sum + 12 ≤ R.locals
    rw [sum_cv]
    omega
  · exact kk p l e R s m args below meth c D A n0 ad0 Qf X cA ad H locs ls S
/-- System.arraycopy between arrays of ints -/
theorem V_copy {z a b la lb wl1 wn ws9 wi1 : Nat} {sp dp x : Int32} (he : fE mt.2.2.2.2.2.2 pc = some (pc, .invokestatic z, nx, t, c32, c64, ci, k)) (h1 : gAt wl1 (.methodLink mt.1 z arraycopyName) = true) (h2 : gAt wn (.native arraycopyName) = true) (h3 : gAt ws9 (.static arraycopyName) = true) (h4 : gAt wi1 (.initialized "java/lang/System") = true) (hd1 : 2 ≤ d) (hsum : (st.map fun v => v.category).sum ≤ 8)
    (hKa : KD a = .inr (la, .int)) (hKb : KD b = .inr (lb, .int)) (han : a < n) (hbn : b < n) (hs0 : 0 ≤ sp) (hd0 : 0 ≤ dp) (hx0 : 0 ≤ x) (hs9 : sp.toNatClampNeg + x.toNatClampNeg ≤ la) (hd9 : dp.toNatClampNeg + x.toNatClampNeg ≤ lb)
    (kk : V mt sc d nE Q nx L st n (row2 I b (va_cpy (I a) (I b) sp.toNatClampNeg dp.toNatClampNeg x.toNatClampNeg)) J F) : V mt sc d nE Q pc L (.int x :: .int dp :: .ref b :: .int sp :: .ref a :: st) n I J F := by
  intro p l e R s m args below meth c D A n0 ad0 Qf X cA ad H locs ls S
  obtain ⟨hd, hn, ho⟩ := row_of X.2.2.1 he rfl
  subst hn
  have hts := X.2.2.2.2.2.2.2.2.1
  have hR := X.2.2.2.2.2.2.2.2.2.2.2.1
  refine va_copyi (D := D) X.1 X.2.1 (by rw [X.2.2.2.2.2.1]; exact S.lv.1.symm) X.2.2.2.2.2.2.1 (hts _ (gAt_mem h1)) (hts _ (gAt_mem h2)) (hts _ (gAt_mem h3)) (hts _ (gAt_mem h4)) (S.2.2.2.1.K2 han hKa hbn hKb) S.P S.2.2.2.2.1 S.2.2.2.2.2.1 a b 0 1 (wl_arr han hKa) (wl_arr hbn hKb) rfl rfl rfl (Int32.not_lt.mpr hs0) (Int32.not_lt.mpr hd0) (Int32.not_lt.mpr hx0) hs9 hd9 (fun _ _ => rfl) (by omega) ?_ hd (fun H1 locs1 hP hD hS => ?_)
  · rw [sum_cv]
    have hw : nativeFrameWords "java/lang/System" "arraycopy" 5 + 11 ≤ 60 := by decide +kernel
    omega
  · have e1 : (wl cA ad n I J F).set b (ad b, .inl (cA b, lb, .inl (va_cpy (I a) (I b) sp.toNatClampNeg dp.toNatClampNeg x.toNatClampNeg))) = wl cA ad n (row2 I b (va_cpy (I a) (I b) sp.toNatClampNeg dp.toNatClampNeg x.toNatClampNeg)) J F := by
      refine wl_set (fun j hj hjo => cell_eq (row2_ne hjo) rfl rfl) ?_
      simp only [cellA, hKb, arrA, row2_eq]
    have hP : va_P D vwCl ((wl cA ad n I J F).set b (ad b, .inl (cA b, lb, .inl (va_cpy (I a) (I b) sp.toNatClampNeg dp.toNatClampNeg x.toNatClampNeg)))) H1 := hP
    have hD : va_D A ((wl cA ad n I J F).set b (ad b, .inl (cA b, lb, .inl (va_cpy (I a) (I b) sp.toNatClampNeg dp.toNatClampNeg x.toNatClampNeg)))) := hD
    rw [e1] at hP hD
    exact kk p l e R s m args below meth c D A n0 ad0 Qf X cA ad H1 locs1 ls ⟨S.1, S.2.1, hP, S.2.2.2.1, hD, hS, S.2.2.2.2.2.2.1, S.2.2.2.2.2.2.2.1, S.lv⟩
theorem V_mmax {z wl1 wst wi1 wc1 : Nat} {x y : Int32} (he : fE mt.2.2.2.2.2.2 pc = some (pc, .invokestatic z, nx, t, c32, c64, ci, k)) (h1 : gAt wl1 (.methodLink mt.1 z Lib.Math.max.name) = true) (h2 : gAt wst (.static Lib.Math.max.name) = true) (h3 : gAt wi1 (.initialized "java/lang/Math") = true) (h4 : gAt wc1 (.code Lib.Math.max.name Lib.Math.max.code 2 (some .int)) = true) (hd1 : 1 ≤ d) (hsum : (st.map fun v => v.category).sum ≤ 8)
    (kk : V mt sc d nE Q nx L (.int (if x < y then y else x) :: st) n I J F) : V mt sc d nE Q pc L (.int y :: .int x :: st) n I J F := by
  intro p l e R s m args below meth c D A n0 ad0 Qf X cA ad H locs ls S
  obtain ⟨hd, hn, ho⟩ := row_of X.2.2.1 he rfl
  subst hn
  have hts := X.2.2.2.2.2.2.2.2.1
  have hR := X.2.2.2.2.2.2.2.2.2.2.2.1
  have hs1 := sl_mono S.1
  have hs2 := sl_mono S.2.1
  have hn1 := S.1
  have hn2 := S.2.1
  exact va_mmax X.1 X.2.1 (by rw [X.2.2.2.2.2.1]; exact S.lv.1.symm) X.2.2.2.2.2.2.1 (hts _ (gAt_mem h1)) (hts _ (gAt_mem h2)) (hts _ (gAt_mem h3)) (hts _ (gAt_mem h4)) (by omega) (by rw [sum_cv]; omega) (by omega) (by omega) hd (kk p l e R s m args below meth c D A n0 ad0 Qf X cA ad H locs ls S)
theorem V_mmin {z wl1 wst wi1 wc1 : Nat} {x y : Int32} (he : fE mt.2.2.2.2.2.2 pc = some (pc, .invokestatic z, nx, t, c32, c64, ci, k)) (h1 : gAt wl1 (.methodLink mt.1 z Lib.Math.min.name) = true) (h2 : gAt wst (.static Lib.Math.min.name) = true) (h3 : gAt wi1 (.initialized "java/lang/Math") = true) (h4 : gAt wc1 (.code Lib.Math.min.name Lib.Math.min.code 2 (some .int)) = true) (hd1 : 1 ≤ d) (hsum : (st.map fun v => v.category).sum ≤ 8)
    (kk : V mt sc d nE Q nx L (.int (if y < x then y else x) :: st) n I J F) : V mt sc d nE Q pc L (.int y :: .int x :: st) n I J F := by
  intro p l e R s m args below meth c D A n0 ad0 Qf X cA ad H locs ls S
  obtain ⟨hd, hn, ho⟩ := row_of X.2.2.1 he rfl
  subst hn
  have hts := X.2.2.2.2.2.2.2.2.1
  have hR := X.2.2.2.2.2.2.2.2.2.2.2.1
  have hs1 := sl_mono S.1
  have hs2 := sl_mono S.2.1
  have hn1 := S.1
  have hn2 := S.2.1
  exact va_mmin X.1 X.2.1 (by rw [X.2.2.2.2.2.1]; exact S.lv.1.symm) X.2.2.2.2.2.2.1 (hts _ (gAt_mem h1)) (hts _ (gAt_mem h2)) (hts _ (gAt_mem h3)) (hts _ (gAt_mem h4)) (by omega) (by rw [sum_cv]; omega) (by omega) (by omega) hd (kk p l e R s m args below meth c D A n0 ad0 Qf X cA ad H locs ls S)
/-! the texts' own cells -/
theorem V_getSv {z i : Nat} (he : fE mt.2.2.2.2.2.2 pc = some (pc, .getfield z, nx, t, c32, c64, ci, k)) (hi : i < 12) (hg : gAt t (.fieldLink mt.1 z "java/lang/String" "value" "[B") = true) (kk : V mt sc d nE Q nx L (.ref (2000 + i) :: st) n I J F) : V mt sc d nE Q pc L (.ref (1000 + i) :: st) n I J F := by
  intro p l e R s m args below meth c D A n0 ad0 Qf X cA ad H locs ls S
  obtain ⟨hd, hn, ho⟩ := row_of X.2.2.1 he rfl
  subst hn
  have h9 := kk p l e R s m args below meth c D A n0 ad0 Qf X cA ad H locs ls S
  have a1 := S.2.2.2.2.2.2.2.1 (1000 + i) (Or.inr (Or.inl (by omega)))
  have a2 := S.2.2.2.2.2.2.2.1 (2000 + i) (Or.inr (Or.inl (by omega)))
  have hE := ((X.2.2.2.2.2.2.2.2.2.1.1).1 i hi).2.2.1
  simp only [List.map_cons, cv_ref, a1, a2] at h9 ⊢
  exact vk_getf X.1 X.2.1 hE S.2.2.2.2.2.1 X.2.2.2.2.2.2.1 (X.2.2.2.2.2.2.2.2.1 _ (gAt_mem hg)) (fun _ h => h) hd h9
theorem V_getSc {z i : Nat} (he : fE mt.2.2.2.2.2.2 pc = some (pc, .getfield z, nx, t, c32, c64, ci, k)) (hi : i < 12) (hg : gAt t (.fieldLink mt.1 z "java/lang/String" "coder" "B") = true) (kk : V mt sc d nE Q nx L (.int 0 :: st) n I J F) : V mt sc d nE Q pc L (.ref (1000 + i) :: st) n I J F := by
  intro p l e R s m args below meth c D A n0 ad0 Qf X cA ad H locs ls S
  obtain ⟨hd, hn, ho⟩ := row_of X.2.2.1 he rfl
  subst hn
  have h9 := kk p l e R s m args below meth c D A n0 ad0 Qf X cA ad H locs ls S
  have a1 := S.2.2.2.2.2.2.2.1 (1000 + i) (Or.inr (Or.inl (by omega)))
  have hE := ((X.2.2.2.2.2.2.2.2.2.1.1).1 i hi).2.1
  simp only [List.map_cons, cv_ref, a1] at h9 ⊢
  exact vk_getf X.1 X.2.1 hE S.2.2.2.2.2.1 X.2.2.2.2.2.2.1 (X.2.2.2.2.2.2.2.2.1 _ (gAt_mem hg)) (fun _ h => h) hd h9
theorem V_statC {z : Nat} (he : fE mt.2.2.2.2.2.2 pc = some (pc, .getstatic z, nx, t, c32, c64, ci, k)) (hg : gAt t (.fieldLink mt.1 z "java/lang/String" "COMPACT_STRINGS" "Z") = true) (kk : V mt sc d nE Q nx L (.int 1 :: st) n I J F) : V mt sc d nE Q pc L st n I J F := by
  intro p l e R s m args below meth c D A n0 ad0 Qf X cA ad H locs ls S
  obtain ⟨hd, hn, ho⟩ := row_of X.2.2.1 he rfl
  subst hn
  exact va_gets X.1 X.2.1 X.2.2.2.2.2.2.2.2.2.1.2.2.1 S.2.2.2.2.2.1 X.2.2.2.2.2.2.1 (X.2.2.2.2.2.2.2.2.1 _ (gAt_mem hg)) (fun _ h => h) hd (kk p l e R s m args below meth c D A n0 ad0 Qf X cA ad H locs ls S)
theorem V_statF {z : Nat} (he : fE mt.2.2.2.2.2.2 pc = some (pc, .getstatic z, nx, t, c32, c64, ci, k)) (hg : gAt t (.fieldLink mt.1 z fmC "SIOOBE_FORMATTER" fmD) = true) (kk : ∀ v, (v = .null ∨ v = .ref 3000) → V mt sc d nE Q nx L (v :: st) n I J F) : V mt sc d nE Q pc L st n I J F := by
  intro p l e R s m args below meth c D A n0 ad0 Qf X cA ad H locs ls S
  obtain ⟨hd, hn, ho⟩ := row_of X.2.2.1 he rfl
  subst hn
  obtain ⟨v, hv, hZ⟩ := X.2.2.2.2.2.2.2.2.2.1.2.2.2.1
  have h9 := kk v hv p l e R s m args below meth c D A n0 ad0 Qf X cA ad H locs ls S
  have a1 : cv ad v = cv ad0 v := by
    rcases hv with rfl | rfl
    · rfl
    · rw [cv_ref, cv_ref, S.2.2.2.2.2.2.2.1 3000 (Or.inr (Or.inl (by omega)))]
  simp only [List.map_cons, a1] at h9
  exact va_gets X.1 X.2.1 hZ S.2.2.2.2.2.1 X.2.2.2.2.2.2.1 (X.2.2.2.2.2.2.2.2.1 _ (gAt_mem hg)) (fun _ h => h) hd h9
theorem V_alenS {i : Nat} (he : fE mt.2.2.2.2.2.2 pc = some (pc, .arraylength, nx, t, c32, c64, ci, k)) (hi : i < 12) (kk : V mt sc d nE Q nx L (.int (Int32.ofNat (sLen.getD i 0)) :: st) n I J F) : V mt sc d nE Q pc L (.ref (2000 + i) :: st) n I J F := by
  intro p l e R s m args below meth c D A n0 ad0 Qf X cA ad H locs ls S
  obtain ⟨hd, hn, ho⟩ := row_of X.2.2.1 he rfl
  subst hn
  have h9 := kk p l e R s m args below meth c D A n0 ad0 Qf X cA ad H locs ls S
  have a2 := S.2.2.2.2.2.2.2.1 (2000 + i) (Or.inr (Or.inl (by omega)))
  have hE := ((X.2.2.2.2.2.2.2.2.2.1.1).1 i hi).2.2.2
  simp only [List.map_cons, cv_ref, a2] at h9 ⊢
  exact va_tlen X.1 X.2.1 hE S.2.2.2.2.2.1 rfl hd h9
theorem V_balS {i : Nat} {x : Int32} (he : fE mt.2.2.2.2.2.2 pc = some (pc, .baload, nx, t, c32, c64, ci, k)) (hi : i < 12) (hx : inb x (sLen.getD i 0)) (kk : V mt sc d nE Q nx L (.int ((sByt.getD i []).getD x.toNatClampNeg 0) :: st) n I J F) : V mt sc d nE Q pc L (.int x :: .ref (2000 + i) :: st) n I J F := by
  intro p l e R s m args below meth c D A n0 ad0 Qf X cA ad H locs ls S
  obtain ⟨hd, hn, ho⟩ := row_of X.2.2.1 he rfl
  subst hn
  have h9 := kk p l e R s m args below meth c D A n0 ad0 Qf X cA ad H locs ls S
  have a2 := S.2.2.2.2.2.2.2.1 (2000 + i) (Or.inr (Or.inl (by omega)))
  have hE := ((X.2.2.2.2.2.2.2.2.2.1.1).1 i hi).2.2.2
  simp only [List.map_cons, cv_ref, cv_int, a2] at h9 ⊢
  exact va_tb X.1 X.2.1 hE S.2.2.2.2.2.1 (inb_vp hx) rfl hd h9
/-! the script -/
theorem V_sld {L9 : Nat} {xs : Nat → Int32} {x : Int32} (he : fE mt.2.2.2.2.2.2 pc = some (pc, .iaload, nx, t, c32, c64, ci, k)) (hx : inb x L9) (kk : V mt (some (L9, xs)) d nE Q nx L (.int (xs x.toNatClampNeg) :: st) n I J F) : V mt (some (L9, xs)) d nE Q pc L (.int x :: .ref 4000 :: st) n I J F := by
  intro p l e R s m args below meth c D A n0 ad0 Qf X cA ad H locs ls S
  obtain ⟨hd, hn, ho⟩ := row_of X.2.2.1 he rfl
  subst hn
  have h9 := kk p l e R s m args below meth c D A n0 ad0 Qf X cA ad H locs ls S
  have a2 := S.2.2.2.2.2.2.2.1 4000 (Or.inr (Or.inl (by omega)))
  have hX := X.2.2.2.2.2.2.2.2.2.2.2.2.1
  simp only [scX] at hX
  simp only [List.map_cons, cv_ref, cv_int, a2] at h9 ⊢
  exact va_sld X.1 X.2.1 hX.1 hX.2.1 hX.2.2 S.2.2.2.2.2.1 (inb_vp hx) hd h9
theorem V_slen {L9 : Nat} {xs : Nat → Int32} (he : fE mt.2.2.2.2.2.2 pc = some (pc, .arraylength, nx, t, c32, c64, ci, k)) (kk : V mt (some (L9, xs)) d nE Q nx L (.int (Int32.ofNat L9) :: st) n I J F) : V mt (some (L9, xs)) d nE Q pc L (.ref 4000 :: st) n I J F := by
  intro p l e R s m args below meth c D A n0 ad0 Qf X cA ad H locs ls S
  obtain ⟨hd, hn, ho⟩ := row_of X.2.2.1 he rfl
  subst hn
  have h9 := kk p l e R s m args below meth c D A n0 ad0 Qf X cA ad H locs ls S
  have a2 := S.2.2.2.2.2.2.2.1 4000 (Or.inr (Or.inl (by omega)))
  have hX := X.2.2.2.2.2.2.2.2.2.2.2.2.1
  simp only [scX] at hX
  simp only [List.map_cons, cv_ref, cv_int, a2] at h9 ⊢
  exact va_slen X.1 X.2.1 hX.1 hX.2.1 hX.2.2 S.2.2.2.2.2.1 hd h9
end VN9
