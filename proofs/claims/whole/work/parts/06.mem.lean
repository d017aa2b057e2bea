theorem uin0 : ∀ w ∈ u_ws RX0 TX0 13, w ∈ lw_tbl := by decide +kernel
theorem uin1 : ∀ w ∈ u_ws RX2 TX2 5, w ∈ lw_tbl := by decide +kernel
theorem uin2 : ∀ w ∈ u_ws RX3 TX3 7, w ∈ lw_tbl := by decide +kernel
theorem uin3 : ∀ w ∈ u_ws RX4 TX4 3, w ∈ lw_tbl := by decide +kernel
theorem uin4 : ∀ w ∈ u_ws RX5 TX5 5, w ∈ lw_tbl := by decide +kernel
theorem uin5 : ∀ w ∈ u_ws RX6 TX6 8, w ∈ lw_tbl := by decide +kernel
theorem uin6 : ∀ w ∈ u_ws RX7 TX7 55, w ∈ lw_tbl := by decide +kernel
theorem u_good (C : String) (T : u_T) (N : Nat) : ∀ w ∈ u_ws C T N, goodWord w = true := by
  intro w hw
  obtain ⟨k, -, rfl⟩ := List.mem_map.mp hw
  unfold u_lay
  split <;> rfl
theorem uwsT {ci : Nat} (h : ci < 7) : ∀ w ∈ u_ws (nCl ci).1 (nCl ci).2.1 (nCl ci).2.2, w ∈ tblG := by
  intro w hw
  refine List.mem_filter.mpr ⟨?_, u_good _ _ _ w hw⟩
  match ci, h, hw with
  | 0, _, hw => exact uin0 w hw
  | 1, _, hw => exact uin1 w hw
  | 2, _, hw => exact uin2 w hw
  | 3, _, hw => exact uin3 w hw
  | 4, _, hw => exact uin4 w hw
  | 5, _, hw => exact uin5 w hw
  | 6, _, hw => exact uin6 w hw
  | ci + 7, h, _ => omega
theorem nCl_get {ci : Nat} (h : ci < 7) : vwCl[ci]? = some ((nCl ci).1, (nCl ci).2.1, (nCl ci).2.2) := by
  match ci, h with
  | 0, _ => rfl
  | 1, _ => rfl
  | 2, _ => rfl
  | 3, _ => rfl
  | 4, _ => rfl
  | 5, _ => rfl
  | 6, _ => rfl
  | ci + 7, h => omega
theorem tyF_ok {ci : Nat} (h : ci < 7) : ∀ k, k < (nCl ci).2.2 → parseFieldDescriptor ((nCl ci).2.1 k).2.2.1 = some (tyF ci k) := by
  match ci, h with
  | 0, _ => exact tyX0_ok
  | 1, _ => exact tyX2_ok
  | 2, _ => exact tyX3_ok
  | 3, _ => exact tyX4_ok
  | 4, _ => exact tyX5_ok
  | 5, _ => exact tyX6_ok
  | 6, _ => exact tyX7_ok
  | ci + 7, h => omega
theorem nmF_ok {ci : Nat} (h : ci < 7) : ∀ a, a < (nCl ci).2.2 → ∀ b, b < (nCl ci).2.2 → a ≠ b → ((nCl ci).2.1 a).2.1 ≠ ((nCl ci).2.1 b).2.1 := by
  match ci, h with
  | 0, _ => exact nmX0
  | 1, _ => exact nmX2
  | 2, _ => exact nmX3
  | 3, _ => exact nmX4
  | 4, _ => exact nmX5
  | 5, _ => exact nmX6
  | 6, _ => exact nmX7
  | ci + 7, h => omega
theorem KDs_98 : ∀ q ∈ KDs, q ≠ .inl 98 := by decide +kernel
theorem KD_98 (o : Nat) : KD o ≠ .inl 98 := by
  unfold KD
  rw [List.getD_eq_getElem?_getD]
  cases h : KDs[o]? with
  | none => simp
  | some q => exact KDs_98 q (List.mem_of_getElem? h)
section VM
variable {mt : MT} {sc : Option (Nat × (Nat → Int32))} {d nE : Nat} {Q : QT} {pc nx t ci k n : Nat} {c32 : Int32} {c64 : Int64} {L : Lc} {st : List Value} {I : I2} {J : J2} {F : F2}
theorem SF.P {s : State} {D : va_G} {A : Nat → Prop} {n0 : Nat} {ad0 : Nat → Nat} {cA : Nat → ClassId} {ad : Nat → Nat} {H : Heap} {locs : List Loc} {ls : Array Slot} (S : SF mt nE s D A n0 ad0 cA ad H locs ls L n I J F) : va_P D vwCl (wl cA ad n I J F) H := S.2.2.1
theorem okField_of {own : String} {idx : Nat} (o : Nat) (hKD : KD o = .inl ci) (h : (ci == 98 || okField own idx t ci k) = true) : ci < 7 ∧ k < (nCl ci).2.2 ∧ ((nCl ci).2.1 k).1 = (nCl ci).1 ∧ (Cond.fieldLink own idx (nCl ci).1 ((nCl ci).2.1 k).2.1 ((nCl ci).2.1 k).2.2.1 ∈ tblG ∨ Cond.fieldLinkNest own idx (nCl ci).1 ((nCl ci).2.1 k).2.1 ((nCl ci).2.1 k).2.2.1 hostN ∈ tblN) := by
  have h98 : ¬ ci = 98 := fun e => KD_98 o (by rw [hKD, e])
  have h1 : okField own idx t ci k = true := by simpa [h98] using h
  simp only [okField, Bool.and_eq_true, decide_eq_true_eq, Bool.or_eq_true] at h1
  exact ⟨h1.1, h1.2.1, h1.2.2.1, h1.2.2.2.imp gAt_mem nAt_mem⟩
theorem V_get {z o : Nat} (he : fE mt.2.2.2.2.2.2 pc = some (pc, .getfield z, nx, t, c32, c64, ci, k)) (hKD : KD o = .inl ci) (hon : o < n) (kk : V mt sc d nE Q nx L (fv I J F o k (tyF ci k) :: st) n I J F) : V mt sc d nE Q pc L (.ref o :: st) n I J F := by
  intro p l e R s m args below meth c D A n0 ad0 Qf X cA ad H locs ls S
  obtain ⟨hd, hn, ho⟩ := row_of X.2.2.1 he rfl
  subst hn
  obtain ⟨h7, hk, hdecl, hl⟩ := okField_of o hKD ho
  have hts := X.2.2.2.2.2.2.2.2.1
  have hown := X.2.2.2.2.2.2.1
  have hEn := X.2.2.2.2.2.2.2.2.2.1
  have hsame : ∀ x, s.fieldFound? ((nCl ci).2.1 k).1 ((nCl ci).2.1 k).2.1 ((nCl ci).2.1 k).2.2.1 = some x → s.fieldFound? (nCl ci).1 ((nCl ci).2.1 k).2.1 ((nCl ci).2.1 k).2.2.1 = some x := fun x hx => by rw [← hdecl]; exact hx
  have kk2 := kk p l e R s m args below meth c D A n0 ad0 Qf X cA ad H locs ls S
  rcases hl with hl | hl
  · exact va_get (D := D) (ci := ci) X.1 X.2.1 hts (uwsT h7) hown S.2.2.2.1.K0 S.P o (wl_obj hon hKD) (nCl_get h7) k hk (hts _ hl) hsame (fsO_get hk) hd kk2
  · exact va_getN (D := D) (ci := ci) X.1 X.2.1 hts (uwsT h7) hown S.2.2.2.1.K0 S.P o (wl_obj hon hKD) (nCl_get h7) k hk (va_Nw.use rfl (hEn.2.2.2.2 _ hl)) hsame (fsO_get hk) hd kk2
theorem wl_set {cA : Nat → ClassId} {ad : Nat → Nat} {o : Nat} {E' : va_E} {I' : I2} {J' : J2} {F' : F2} (h : ∀ i, i < n → i ≠ o → cellA cA ad I' J' F' i = cellA cA ad I J F i) (ho : cellA cA ad I' J' F' o = E') : (wl cA ad n I J F).set o (ad o, E') = wl cA ad n I' J' F' := by
  apply List.ext_getElem?
  intro i
  by_cases hi : i < n
  · by_cases hio : i = o
    · subst hio
      rw [List.getElem?_set_self (by rw [wl_len]; exact hi), wl_get hi, ho]
    · rw [List.getElem?_set_ne (Ne.symm hio), wl_get hi, wl_get hi, h i hi hio]
  · rw [List.getElem?_eq_none (by simp [wl_len]; omega), List.getElem?_eq_none (by simp [wl_len]; omega)]
theorem up2_ne {α : Type} {f : Nat → Nat → α} {o k i : Nat} {v : α} (h : i ≠ o) : up2 f o k v i = f i := by funext j; simp [up2, h]
theorem up2_eq {α : Type} {f : Nat → Nat → α} {o k : Nat} {v : α} : up2 f o k v o = fun j => if j = k then v else f o j := by funext j; simp [up2]
theorem row2_ne {α : Type} {f : Nat → Nat → α} {o i : Nat} {g : Nat → α} (h : i ≠ o) : row2 f o g i = f i := by funext j; simp [row2, h]
theorem row2_eq {α : Type} {f : Nat → Nat → α} {o : Nat} {g : Nat → α} : row2 f o g o = g := by funext j; simp [row2]
theorem cell_eq {cA : Nat → ClassId} {ad : Nat → Nat} {i : Nat} {I' : I2} {J' : J2} {F' : F2} (h1 : I' i = I i) (h2 : J' i = J i) (h3 : F' i = F i) : cellA cA ad I' J' F' i = cellA cA ad I J F i := by
  unfold cellA
  cases KD i with
  | inl c => simp only [fv, h1, h2, h3]
  | inr q => simp only [arrA, h1, h2]
theorem fs_set {ad : Nat → Nat} {o : Nat} {v : Value} {I' : I2} {J' : J2} {F' : F2} (hk : k < (nCl ci).2.2) (h1 : cv ad (fv I' J' F' o k (tyF ci k)) = v) (h2 : ∀ j, j ≠ k → fv I' J' F' o j (tyF ci j) = fv I J F o j (tyF ci j)) : (fsO ad I J F o ci).set k v = fsO ad I' J' F' o ci := by
  apply List.ext_getElem?
  intro i
  by_cases hi : i < (nCl ci).2.2
  · by_cases hik : i = k
    · subst hik
      rw [List.getElem?_set_self (by rw [fsO_len]; exact hi), fsO_get hi, h1]
    · rw [List.getElem?_set_ne (Ne.symm hik), fsO_get hi, fsO_get hi, h2 i hik]
  · rw [List.getElem?_eq_none (by simp [fsO_len]; omega), List.getElem?_eq_none (by simp [fsO_len]; omega)]
/-- a field that isn't final is written -/
theorem V_put0 {z o : Nat} {v : Value} {I' : I2} {J' : J2} (he : fE mt.2.2.2.2.2.2 pc = some (pc, .putfield z, nx, t, c32, c64, ci, k)) (hKD : KD o = .inl ci) (hon : o < n) (hfin : ((nCl ci).2.1 k).2.2.2 = false) (hcv : ∀ ad, cv ad v = v) (hnar : narrow (tyF ci k) v = v) (hfit : fits (tyF ci k) v = true)
    (hI : ∀ i, i ≠ o → I' i = I i) (hJ : ∀ i, i ≠ o → J' i = J i) (h1 : fv I' J' F o k (tyF ci k) = v) (h2 : ∀ j, j ≠ k → fv I' J' F o j (tyF ci j) = fv I J F o j (tyF ci j))
    (kk : V mt sc d nE Q nx L st n I' J' F) : V mt sc d nE Q pc L (v :: .ref o :: st) n I J F := by
  intro p l e R s m args below meth c D A n0 ad0 Qf X cA ad H locs ls S
  obtain ⟨hd, hn, ho⟩ := row_of X.2.2.1 he rfl
  subst hn
  obtain ⟨h7, hk, hdecl, hl⟩ := okField_of o hKD ho
  have hts := X.2.2.2.2.2.2.2.2.1
  have hown := X.2.2.2.2.2.2.1
  have hEn := X.2.2.2.2.2.2.2.2.2.1
  have hsame : ∀ x, s.fieldFound? ((nCl ci).2.1 k).1 ((nCl ci).2.1 k).2.1 ((nCl ci).2.1 k).2.2.1 = some x → s.fieldFound? (nCl ci).1 ((nCl ci).2.1 k).2.1 ((nCl ci).2.1 k).2.2.1 = some x := fun x hx => by rw [← hdecl]; exact hx
  have e1 : (wl cA ad n I J F).set o (ad o, .inr (ci, (fsO ad I J F o ci).set k v)) = wl cA ad n I' J' F := by
    refine wl_set (fun i hi hio => cell_eq (hI i hio) (hJ i hio) rfl) ?_
    rw [fs_set (I' := I') (J' := J') (F' := F) hk (by rw [h1]; exact hcv ad) h2]
    simp [cellA, hKD, fsO]
  have kk2 : ∀ (H1 : Heap) (locs1 : List Loc), va_P D vwCl ((wl cA ad n I J F).set o (ad o, .inr (ci, (fsO ad I J F o ci).set k v))) H1 → va_D A ((wl cA ad n I J F).set o (ad o, .inr (ci, (fsO ad I J F o ci).set k v))) → va_S A s.heap H1 locs1 → W p l e R s m args below meth c H1 locs1 (n - n0) (sl n - sl n0) Qf (F0 m (pc + 3) ls (st.map (cv ad))) := by
    intro H1 locs1 hP hD hS
    rw [e1] at hP hD
    exact kk p l e R s m args below meth c D A n0 ad0 Qf X cA ad H1 locs1 ls ⟨S.1, S.2.1, hP, S.2.2.2.1, hD, hS, S.2.2.2.2.2.2.1, S.2.2.2.2.2.2.2.1, S.lv⟩
  show W p l e R s m args below meth c H locs (n - n0) (sl n - sl n0) Qf (F0 m pc ls (cv ad v :: .ref (ad o) :: st.map (cv ad)))
  rw [hcv ad]
  rcases hl with hl | hl
  · exact va_put (D := D) (ci := ci) (ty := tyF ci k) X.1 X.2.1 hts (uwsT h7) (tyF ci) (tyF_ok h7) (nmF_ok h7) hown S.2.2.2.1.K0 S.P S.2.2.2.2.1 S.2.2.2.2.2.1 o (wl_obj hon hKD) (nCl_get h7) k hk (hts _ hl) hsame hfin (tyF_ok h7 k hk) hnar hfit (by rw [fsO_len]; exact hk) hd kk2
  · exact va_putN (D := D) (ci := ci) (ty := tyF ci k) X.1 X.2.1 hts (uwsT h7) (tyF ci) (tyF_ok h7) (nmF_ok h7) hown S.2.2.2.1.K0 S.P S.2.2.2.2.1 S.2.2.2.2.2.1 o (wl_obj hon hKD) (nCl_get h7) k hk (va_Nw.use rfl (hEn.2.2.2.2 _ hl)) hsame hfin (tyF_ok h7 k hk) hnar hfit (by rw [fsO_len]; exact hk) hd kk2
theorem fv_up {o : Nat} {x : Int32} (j : Nat) (hj : j ≠ k) (ty : FieldType) : fv (up2 I o k x) J F o j ty = fv I J F o j ty := by
  cases ty <;> simp [fv, up2, hj]
theorem fv_upJ {o : Nat} {x : Int64} (j : Nat) (hj : j ≠ k) (ty : FieldType) : fv I (up2 J o k x) F o j ty = fv I J F o j ty := by
  cases ty <;> simp [fv, up2, hj]
theorem V_putI {z o : Nat} {x : Int32} (he : fE mt.2.2.2.2.2.2 pc = some (pc, .putfield z, nx, t, c32, c64, ci, k)) (hKD : KD o = .inl ci) (hon : o < n) (hfin : ((nCl ci).2.1 k).2.2.2 = false) (hty : tyF ci k = .int)
    (kk : V mt sc d nE Q nx L st n (up2 I o k x) J F) : V mt sc d nE Q pc L (.int x :: .ref o :: st) n I J F :=
  V_put0 he hKD hon hfin (fun _ => rfl) (by rw [hty]; rfl) (by rw [hty]; rfl) (fun i hi => up2_ne hi) (fun _ _ => rfl) (by rw [hty]; simp [fv, up2]) (fun j hj => fv_up j hj _) kk
theorem V_putZ {z o : Nat} {x : Int32} (he : fE mt.2.2.2.2.2.2 pc = some (pc, .putfield z, nx, t, c32, c64, ci, k)) (hKD : KD o = .inl ci) (hon : o < n) (hfin : ((nCl ci).2.1 k).2.2.2 = false) (hty : tyF ci k = .boolean) (hx : x = 0 ∨ x = 1)
    (kk : V mt sc d nE Q nx L st n (up2 I o k x) J F) : V mt sc d nE Q pc L (.int x :: .ref o :: st) n I J F :=
  V_put0 he hKD hon hfin (fun _ => rfl) (by rw [hty]; rcases hx with rfl | rfl <;> decide) (by rw [hty]; rcases hx with rfl | rfl <;> decide) (fun i hi => up2_ne hi) (fun _ _ => rfl) (by rw [hty]; simp [fv, up2]) (fun j hj => fv_up j hj _) kk
theorem V_putJ {z o : Nat} {x : Int64} (he : fE mt.2.2.2.2.2.2 pc = some (pc, .putfield z, nx, t, c32, c64, ci, k)) (hKD : KD o = .inl ci) (hon : o < n) (hfin : ((nCl ci).2.1 k).2.2.2 = false) (hty : tyF ci k = .long)
    (kk : V mt sc d nE Q nx L st n I (up2 J o k x) F) : V mt sc d nE Q pc L (.long x :: .ref o :: st) n I J F :=
  V_put0 he hKD hon hfin (fun _ => rfl) (by rw [hty]; rfl) (by rw [hty]; rfl) (fun _ _ => rfl) (fun i hi => up2_ne hi) (by rw [hty]; simp [fv, up2]) (fun j hj => fv_upJ j hj _) kk
/-! arrays -/
def inb (i : Int32) (len : Nat) : Prop := 0 ≤ i ∧ i.toNatClampNeg < len
theorem inb_vp {i : Int32} {len : Nat} (h : inb i len) : vp_in i len := fun q => q.elim (fun z => absurd h.1 (Int32.not_le.mpr z)) (fun z => absurd h.2 (Nat.not_lt.mpr z))
theorem V_iald {o len : Nat} {i : Int32} (he : fE mt.2.2.2.2.2.2 pc = some (pc, .iaload, nx, t, c32, c64, ci, k)) (hKD : KD o = .inr (len, .int)) (hon : o < n) (hi : inb i len) (kk : V mt sc d nE Q nx L (.int (I o i.toNatClampNeg) :: st) n I J F) : V mt sc d nE Q pc L (.int i :: .ref o :: st) n I J F := by
  intro p l e R s m args below meth c D A n0 ad0 Qf X cA ad H locs ls S
  obtain ⟨hd, hn, ho⟩ := row_of X.2.2.1 he rfl
  subst hn
  exact va_iald (D := D) X.1 X.2.1 (S.2.2.2.1.K1 hon hKD) S.P o 0 (wl_arr hon hKD) rfl (inb_vp hi) hd (kk p l e R s m args below meth c D A n0 ad0 Qf X cA ad H locs ls S)
theorem V_zald {o len : Nat} {i : Int32} (he : fE mt.2.2.2.2.2.2 pc = some (pc, .baload, nx, t, c32, c64, ci, k)) (hKD : KD o = .inr (len, .boolean)) (hon : o < n) (hi : inb i len) (kk : V mt sc d nE Q nx L (.int (I o i.toNatClampNeg) :: st) n I J F) : V mt sc d nE Q pc L (.int i :: .ref o :: st) n I J F := by
  intro p l e R s m args below meth c D A n0 ad0 Qf X cA ad H locs ls S
  obtain ⟨hd, hn, ho⟩ := row_of X.2.2.1 he rfl
  subst hn
  exact va_zald (D := D) X.1 X.2.1 (S.2.2.2.1.K1 hon hKD) S.P o 0 (wl_arr hon hKD) rfl (inb_vp hi) hd (kk p l e R s m args below meth c D A n0 ad0 Qf X cA ad H locs ls S)
theorem V_lald {o len : Nat} {i : Int32} (he : fE mt.2.2.2.2.2.2 pc = some (pc, .laload, nx, t, c32, c64, ci, k)) (hKD : KD o = .inr (len, .long)) (hon : o < n) (hi : inb i len) (kk : V mt sc d nE Q nx L (.long (J o i.toNatClampNeg) :: st) n I J F) : V mt sc d nE Q pc L (.int i :: .ref o :: st) n I J F := by
  intro p l e R s m args below meth c D A n0 ad0 Qf X cA ad H locs ls S
  obtain ⟨hd, hn, ho⟩ := row_of X.2.2.1 he rfl
  subst hn
  exact va_lald (D := D) X.1 X.2.1 (S.2.2.2.1.K1 hon hKD) S.P o 0 (wl_arr hon hKD) rfl (inb_vp hi) hd (kk p l e R s m args below meth c D A n0 ad0 Qf X cA ad H locs ls S)
theorem V_alen {o len : Nat} {ty : FieldType} {v : Int32} (he : fE mt.2.2.2.2.2.2 pc = some (pc, .arraylength, nx, t, c32, c64, ci, k)) (hKD : KD o = .inr (len, ty)) (hon : o < n) (hv : Int32.ofNat len = v) (kk : V mt sc d nE Q nx L (.int v :: st) n I J F) : V mt sc d nE Q pc L (.ref o :: st) n I J F := by
  intro p l e R s m args below meth c D A n0 ad0 Qf X cA ad H locs ls S
  obtain ⟨hd, hn, ho⟩ := row_of X.2.2.1 he rfl
  subst hn
  exact va_alen (D := D) X.1 X.2.1 (S.2.2.2.1.K1 hon hKD) S.P o 0 (wl_arr hon hKD) rfl hv hd (kk p l e R s m args below meth c D A n0 ad0 Qf X cA ad H locs ls S)
theorem V_iast {o len : Nat} {i x : Int32} (he : fE mt.2.2.2.2.2.2 pc = some (pc, .iastore, nx, t, c32, c64, ci, k)) (hKD : KD o = .inr (len, .int)) (hon : o < n) (hi : inb i len) (kk : V mt sc d nE Q nx L st n (up2 I o i.toNatClampNeg x) J F) : V mt sc d nE Q pc L (.int x :: .int i :: .ref o :: st) n I J F := by
  intro p l e R s m args below meth c D A n0 ad0 Qf X cA ad H locs ls S
  obtain ⟨hd, hn, ho⟩ := row_of X.2.2.1 he rfl
  subst hn
  refine va_iast (D := D) X.1 X.2.1 (S.2.2.2.1.K1 hon hKD) S.P S.2.2.2.2.1 S.2.2.2.2.2.1 o 0 (wl_arr hon hKD) rfl (inb_vp hi) hd (fun H1 locs1 hP hD hS => ?_)
  have e1 : (wl cA ad n I J F).set o (ad o, .inl (cA o, len, .inl (upd (I o) i.toNatClampNeg x))) = wl cA ad n (up2 I o i.toNatClampNeg x) J F := by
    refine wl_set (fun j hj hjo => cell_eq (up2_ne hjo) rfl rfl) ?_
    simp only [cellA, hKD, arrA, up2_eq]
    rfl
  rw [e1] at hP hD
  exact kk p l e R s m args below meth c D A n0 ad0 Qf X cA ad H1 locs1 ls ⟨S.1, S.2.1, hP, S.2.2.2.1, hD, hS, S.2.2.2.2.2.2.1, S.2.2.2.2.2.2.2.1, S.lv⟩
theorem V_zast {o len : Nat} {i x : Int32} (he : fE mt.2.2.2.2.2.2 pc = some (pc, .bastore, nx, t, c32, c64, ci, k)) (hKD : KD o = .inr (len, .boolean)) (hon : o < n) (hi : inb i len) (hx : x = 0 ∨ x = 1) (kk : V mt sc d nE Q nx L st n (up2 I o i.toNatClampNeg x) J F) : V mt sc d nE Q pc L (.int x :: .int i :: .ref o :: st) n I J F := by
  intro p l e R s m args below meth c D A n0 ad0 Qf X cA ad H locs ls S
  obtain ⟨hd, hn, ho⟩ := row_of X.2.2.1 he rfl
  subst hn
  refine va_zast (D := D) X.1 X.2.1 (S.2.2.2.1.K1 hon hKD) S.P S.2.2.2.2.1 S.2.2.2.2.2.1 o 0 (wl_arr hon hKD) rfl (inb_vp hi) hd (fun H1 locs1 hP hD hS => ?_)
  have hx1 : vp_nar .boolean x = x := by rcases hx with rfl | rfl <;> decide
  have e1 : (wl cA ad n I J F).set o (ad o, .inl (cA o, len, .inl (upd (I o) i.toNatClampNeg (vp_nar .boolean x)))) = wl cA ad n (up2 I o i.toNatClampNeg x) J F := by
    rw [hx1]
    refine wl_set (fun j hj hjo => cell_eq (up2_ne hjo) rfl rfl) ?_
    simp only [cellA, hKD, arrA, up2_eq]
    rfl
  rw [e1] at hP hD
  exact kk p l e R s m args below meth c D A n0 ad0 Qf X cA ad H1 locs1 ls ⟨S.1, S.2.1, hP, S.2.2.2.1, hD, hS, S.2.2.2.2.2.2.1, S.2.2.2.2.2.2.2.1, S.lv⟩
theorem V_last {o len : Nat} {i : Int32} {x : Int64} (he : fE mt.2.2.2.2.2.2 pc = some (pc, .lastore, nx, t, c32, c64, ci, k)) (hKD : KD o = .inr (len, .long)) (hon : o < n) (hi : inb i len) (kk : V mt sc d nE Q nx L st n I (up2 J o i.toNatClampNeg x) F) : V mt sc d nE Q pc L (.long x :: .int i :: .ref o :: st) n I J F := by
  intro p l e R s m args below meth c D A n0 ad0 Qf X cA ad H locs ls S
  obtain ⟨hd, hn, ho⟩ := row_of X.2.2.1 he rfl
  subst hn
  refine va_last (D := D) X.1 X.2.1 (S.2.2.2.1.K1 hon hKD) S.P S.2.2.2.2.1 S.2.2.2.2.2.1 o 0 (wl_arr hon hKD) rfl (inb_vp hi) hd (fun H1 locs1 hP hD hS => ?_)
  have e1 : (wl cA ad n I J F).set o (ad o, .inl (cA o, len, .inr (.inl (vp_updL (J o) i.toNatClampNeg x)))) = wl cA ad n I (up2 J o i.toNatClampNeg x) F := by
    refine wl_set (fun j hj hjo => cell_eq rfl (up2_ne hjo) rfl) ?_
    simp only [cellA, hKD, arrA, up2_eq]
    rfl
  rw [e1] at hP hD
  exact kk p l e R s m args below meth c D A n0 ad0 Qf X cA ad H1 locs1 ls ⟨S.1, S.2.1, hP, S.2.2.2.1, hD, hS, S.2.2.2.2.2.2.1, S.2.2.2.2.2.2.2.1, S.lv⟩
/-! switches -/
theorem rowS_of {mt : MT} (h : okA mt = true) {pc nx t ci k : Nat} {ins : Instr} {c32 : Int32} {c64 : Int64} (he : fE mt.2.2.2.2.2.2 pc = some (pc, ins, nx, t, c32, c64, ci, k)) : decode mt.2.2.1 pc = .ok (ins, nx - pc) := by
  have h1 := okM_e h (fE_mem he).1
  simp only [okE, Bool.and_eq_true, decide_eq_true_eq] at h1
  exact h1.1
/-- one branch of a switch for each case -/
def swT (pc : Nat) (lo : Int) (offs : Array Int) (dflt : Int) (x : Int) : Nat := if x < lo then ((pc : Int) + dflt).toNat else match offs[(x - lo).toNat]? with
  | some o => ((pc : Int) + o).toNat
  | none => ((pc : Int) + dflt).toNat
theorem V_tsw {dflt lo hi : Int} {offs : Array Int} {x : Int32} (he : fE mt.2.2.2.2.2.2 pc = some (pc, .tableswitch dflt lo hi offs, nx, t, c32, c64, ci, k)) (hsz : (offs.size : Int) = hi + 1 - lo) (hpos : (∀ o ∈ offs.toList, 0 ≤ (pc : Int) + o) ∧ 0 ≤ (pc : Int) + dflt) (kk : V mt sc d nE Q (swT pc lo offs dflt x.toInt) L st n I J F) : V mt sc d nE Q pc L (.int x :: st) n I J F := by
  intro p l e R s m args below meth c D A n0 ad0 Qf X cA ad H locs ls S
  have hd := rowS_of X.2.2.1 he
  have kk2 := kk p l e R s m args below meth c D A n0 ad0 Qf X cA ad H locs ls S
  by_cases h1 : x.toInt < lo
  · refine lv_tableOut (tgt := ((pc : Int) + dflt).toNat) X.1 X.2.1 hd (Or.inl h1) (Int.toNat_of_nonneg hpos.2).symm ?_
    simpa [swT, h1] using kk2
  · by_cases h2 : hi < x.toInt
    · refine lv_tableOut (tgt := ((pc : Int) + dflt).toNat) X.1 X.2.1 hd (Or.inr h2) (Int.toNat_of_nonneg hpos.2).symm ?_
      have h3 : offs[(x.toInt - lo).toNat]? = none := by
        rw [Array.getElem?_eq_none_iff]; omega
      simpa [swT, h1, h3] using kk2
    · have hlt : (x.toInt - lo).toNat < offs.size := by omega
      refine lv_tableIn (off := offs[(x.toInt - lo).toNat]) (tgt := ((pc : Int) + offs[(x.toInt - lo).toNat]).toNat) X.1 X.2.1 hd h1 h2 (Array.getElem?_eq_getElem hlt) (Int.toNat_of_nonneg (hpos.1 _ (by simp))).symm ?_
      simpa [swT, h1, Array.getElem?_eq_getElem hlt] using kk2
end VM
