section VS
variable {mt : MT} {sc : Option (Nat × (Nat → Int32))} {d nE : Nat} {Q : QT} {pc nx t ci k n : Nat} {c32 : Int32} {c64 : Int64} {L : Lc} {st : List Value} {I : I2} {J : J2} {F : F2}
theorem SF.lv {s : State} {D : va_G} {A : Nat → Prop} {n0 : Nat} {ad0 : Nat → Nat} {cA : Nat → ClassId} {ad : Nat → Nat} {H : Heap} {locs : List Loc} {ls : Array Slot} (S : SF mt nE s D A n0 ad0 cA ad H locs ls L n I J F) : lv_has ls mt.2.2.2.1 (L.map (cvl ad)) := S.2.2.2.2.2.2.2.2
theorem SF.re {s : State} {D : va_G} {A : Nat → Prop} {n0 : Nat} {ad0 : Nat → Nat} {cA : Nat → ClassId} {ad : Nat → Nat} {H : Heap} {locs : List Loc} {ls ls' : Array Slot} {L' : Lc} (S : SF mt nE s D A n0 ad0 cA ad H locs ls L n I J F) (h : lv_has ls' mt.2.2.2.1 (L'.map (cvl ad))) : SF mt nE s D A n0 ad0 cA ad H locs ls' L' n I J F := ⟨S.1, S.2.1, S.2.2.1, S.2.2.2.1, S.2.2.2.2.1, S.2.2.2.2.2.1, S.2.2.2.2.2.2.1, S.2.2.2.2.2.2.2.1, h⟩
theorem V.weak {L' : Lc} (h : V mt sc d nE Q pc L' st n I J F) (hs : ∀ q ∈ L', q ∈ L) : V mt sc d nE Q pc L st n I J F := by
  intro p l e R s m args below meth c D A n0 ad0 Qf X cA ad H locs ls S
  refine h p l e R s m args below meth c D A n0 ad0 Qf X cA ad H locs ls (S.re ⟨S.lv.1, S.lv.2.1, fun q hq => S.lv.2.2 q ?_⟩)
  obtain ⟨r, hr, rfl⟩ := List.mem_map.mp hq
  exact List.mem_map.mpr ⟨r, hs r hr, rfl⟩

theorem V_iconst {z : Int} (he : fE mt.2.2.2.2.2.2 pc = some (pc, .iconst z, nx, t, c32, c64, ci, k)) (kk : V mt sc d nE Q nx L (.int c32 :: st) n I J F) : V mt sc d nE Q pc L (st) n I J F := by
  intro p l e R s m args below meth c D A n0 ad0 Qf X cA ad H locs ls S
  obtain ⟨hd, hn, ho⟩ := row_of X.2.2.1 he rfl
  subst hn
  exact lv_iconst X.1 X.2.1 hd (of_decide_eq_true ho) (kk p l e R s m args below meth c D A n0 ad0 Qf X cA ad H locs ls S)
theorem V_bipush {z : Int} (he : fE mt.2.2.2.2.2.2 pc = some (pc, .bipush z, nx, t, c32, c64, ci, k)) (kk : V mt sc d nE Q nx L (.int c32 :: st) n I J F) : V mt sc d nE Q pc L (st) n I J F := by
  intro p l e R s m args below meth c D A n0 ad0 Qf X cA ad H locs ls S
  obtain ⟨hd, hn, ho⟩ := row_of X.2.2.1 he rfl
  subst hn
  exact lv_bipush X.1 X.2.1 hd (of_decide_eq_true ho) (kk p l e R s m args below meth c D A n0 ad0 Qf X cA ad H locs ls S)
theorem V_sipush {z : Int} (he : fE mt.2.2.2.2.2.2 pc = some (pc, .sipush z, nx, t, c32, c64, ci, k)) (kk : V mt sc d nE Q nx L (.int c32 :: st) n I J F) : V mt sc d nE Q pc L (st) n I J F := by
  intro p l e R s m args below meth c D A n0 ad0 Qf X cA ad H locs ls S
  obtain ⟨hd, hn, ho⟩ := row_of X.2.2.1 he rfl
  subst hn
  exact lv_sipush X.1 X.2.1 hd (of_decide_eq_true ho) (kk p l e R s m args below meth c D A n0 ad0 Qf X cA ad H locs ls S)
theorem V_lconst {z : Fin 2} (he : fE mt.2.2.2.2.2.2 pc = some (pc, .lconst z, nx, t, c32, c64, ci, k)) (kk : V mt sc d nE Q nx L (.long c64 :: st) n I J F) : V mt sc d nE Q pc L (st) n I J F := by
  intro p l e R s m args below meth c D A n0 ad0 Qf X cA ad H locs ls S
  obtain ⟨hd, hn, ho⟩ := row_of X.2.2.1 he rfl
  subst hn
  exact lv_lconst X.1 X.2.1 hd (of_decide_eq_true ho) (kk p l e R s m args below meth c D A n0 ad0 Qf X cA ad H locs ls S)
theorem V_ldc {z : Nat} (he : fE mt.2.2.2.2.2.2 pc = some (pc, .ldc z, nx, t, c32, c64, ci, k)) (hci : ci ≠ 99) (kk : V mt sc d nE Q nx L (.int c32 :: st) n I J F) : V mt sc d nE Q pc L (st) n I J F := by
  intro p l e R s m args below meth c D A n0 ad0 Qf X cA ad H locs ls S
  obtain ⟨hd, hn, ho⟩ := row_of X.2.2.1 he rfl
  subst hn
  exact lv_ldc X.1 X.2.1 X.2.2.2.2.2.2.1 (X.2.2.2.2.2.2.2.2.1 _ (gAt_mem (by simpa [okI, hci] using ho))) hd (kk p l e R s m args below meth c D A n0 ad0 Qf X cA ad H locs ls S)
theorem V_ldc_w {z : Nat} (he : fE mt.2.2.2.2.2.2 pc = some (pc, .ldc_w z, nx, t, c32, c64, ci, k)) (kk : V mt sc d nE Q nx L (.int c32 :: st) n I J F) : V mt sc d nE Q pc L (st) n I J F := by
  intro p l e R s m args below meth c D A n0 ad0 Qf X cA ad H locs ls S
  obtain ⟨hd, hn, ho⟩ := row_of X.2.2.1 he rfl
  subst hn
  exact lv_ldcw X.1 X.2.1 X.2.2.2.2.2.2.1 (X.2.2.2.2.2.2.2.2.1 _ (gAt_mem ho)) hd (kk p l e R s m args below meth c D A n0 ad0 Qf X cA ad H locs ls S)
theorem V_ldc2_w {z : Nat} (he : fE mt.2.2.2.2.2.2 pc = some (pc, .ldc2_w z, nx, t, c32, c64, ci, k)) (kk : V mt sc d nE Q nx L (.long c64 :: st) n I J F) : V mt sc d nE Q pc L (st) n I J F := by
  intro p l e R s m args below meth c D A n0 ad0 Qf X cA ad H locs ls S
  obtain ⟨hd, hn, ho⟩ := row_of X.2.2.1 he rfl
  subst hn
  exact lv_ldc2 X.1 X.2.1 X.2.2.2.2.2.2.1 (X.2.2.2.2.2.2.2.2.1 _ (gAt_mem ho)) hd (kk p l e R s m args below meth c D A n0 ad0 Qf X cA ad H locs ls S)
theorem V_iload_n {z : Fin 4} {x : Int32} (he : fE mt.2.2.2.2.2.2 pc = some (pc, .iload_n z, nx, t, c32, c64, ci, k)) (hl : lkL L k = some (.int x)) (kk : V mt sc d nE Q nx L (.int x :: st) n I J F) : V mt sc d nE Q pc L (st) n I J F := by
  intro p l e R s m args below meth c D A n0 ad0 Qf X cA ad H locs ls S
  obtain ⟨hd, hn, ho⟩ := row_of X.2.2.1 he rfl
  subst hn
  exact lv_iload_n X.1 X.2.1 hd (of_decide_eq_true ho) (lv_of S.lv hl) (kk p l e R s m args below meth c D A n0 ad0 Qf X cA ad H locs ls S)
theorem V_iload {z : Nat} {x : Int32} (he : fE mt.2.2.2.2.2.2 pc = some (pc, .iload z, nx, t, c32, c64, ci, k)) (hl : lkL L k = some (.int x)) (kk : V mt sc d nE Q nx L (.int x :: st) n I J F) : V mt sc d nE Q pc L (st) n I J F := by
  intro p l e R s m args below meth c D A n0 ad0 Qf X cA ad H locs ls S
  obtain ⟨hd, hn, ho⟩ := row_of X.2.2.1 he rfl
  subst hn
  exact lv_iload X.1 X.2.1 hd (by rw [show z = k from of_decide_eq_true ho]; exact lv_of S.lv hl) (kk p l e R s m args below meth c D A n0 ad0 Qf X cA ad H locs ls S)
theorem V_istore_n {z : Fin 4} {x : Int32} (he : fE mt.2.2.2.2.2.2 pc = some (pc, .istore_n z, nx, t, c32, c64, ci, k)) (kk : V mt sc d nE Q nx (put1 L k (.int x)) st n I J F) : V mt sc d nE Q pc L (.int x :: st) n I J F := by
  intro p l e R s m args below meth c D A n0 ad0 Qf X cA ad H locs ls S
  obtain ⟨hd, hn, ho⟩ := row_of X.2.2.1 he rfl
  subst hn
  simp only [okI, Bool.and_eq_true, decide_eq_true_eq] at ho
  obtain ⟨ho1, ho2⟩ := ho
  subst ho1
  exact lv_istore_n X.1 X.2.1 hd rfl S.lv ho2 rfl (fun ls' h' => kk p l e R s m args below meth c D A n0 ad0 Qf X cA ad H locs ls' (S.re (put1_lv (v := .int x) h')))
theorem V_istore {z : Nat} {x : Int32} (he : fE mt.2.2.2.2.2.2 pc = some (pc, .istore z, nx, t, c32, c64, ci, k)) (kk : V mt sc d nE Q nx (put1 L k (.int x)) st n I J F) : V mt sc d nE Q pc L (.int x :: st) n I J F := by
  intro p l e R s m args below meth c D A n0 ad0 Qf X cA ad H locs ls S
  obtain ⟨hd, hn, ho⟩ := row_of X.2.2.1 he rfl
  subst hn
  simp only [okI, Bool.and_eq_true, decide_eq_true_eq] at ho
  obtain ⟨ho1, ho2⟩ := ho
  subst ho1
  exact lv_istore X.1 X.2.1 hd S.lv ho2 rfl (fun ls' h' => kk p l e R s m args below meth c D A n0 ad0 Qf X cA ad H locs ls' (S.re (put1_lv (v := .int x) h')))
theorem V_lload_n {z : Fin 4} {x : Int64} (he : fE mt.2.2.2.2.2.2 pc = some (pc, .lload_n z, nx, t, c32, c64, ci, k)) (hl : lkL L k = some (.long x)) (kk : V mt sc d nE Q nx L (.long x :: st) n I J F) : V mt sc d nE Q pc L (st) n I J F := by
  intro p l e R s m args below meth c D A n0 ad0 Qf X cA ad H locs ls S
  obtain ⟨hd, hn, ho⟩ := row_of X.2.2.1 he rfl
  subst hn
  exact lv_lload_n X.1 X.2.1 hd (of_decide_eq_true ho) (lv_of S.lv hl) (kk p l e R s m args below meth c D A n0 ad0 Qf X cA ad H locs ls S)
theorem V_lload {z : Nat} {x : Int64} (he : fE mt.2.2.2.2.2.2 pc = some (pc, .lload z, nx, t, c32, c64, ci, k)) (hl : lkL L k = some (.long x)) (kk : V mt sc d nE Q nx L (.long x :: st) n I J F) : V mt sc d nE Q pc L (st) n I J F := by
  intro p l e R s m args below meth c D A n0 ad0 Qf X cA ad H locs ls S
  obtain ⟨hd, hn, ho⟩ := row_of X.2.2.1 he rfl
  subst hn
  exact lv_lload X.1 X.2.1 hd (by rw [show z = k from of_decide_eq_true ho]; exact lv_of S.lv hl) (kk p l e R s m args below meth c D A n0 ad0 Qf X cA ad H locs ls S)
theorem V_lstore_n {z : Fin 4} {x : Int64} (he : fE mt.2.2.2.2.2.2 pc = some (pc, .lstore_n z, nx, t, c32, c64, ci, k)) (kk : V mt sc d nE Q nx (put2 L k (.long x)) st n I J F) : V mt sc d nE Q pc L (.long x :: st) n I J F := by
  intro p l e R s m args below meth c D A n0 ad0 Qf X cA ad H locs ls S
  obtain ⟨hd, hn, ho⟩ := row_of X.2.2.1 he rfl
  subst hn
  simp only [okI, Bool.and_eq_true, decide_eq_true_eq] at ho
  obtain ⟨ho1, ho2⟩ := ho
  subst ho1
  exact lv_lstore_n X.1 X.2.1 hd rfl S.lv ho2 rfl (fun ls' h' => kk p l e R s m args below meth c D A n0 ad0 Qf X cA ad H locs ls' (S.re (put2_lv (v := .long x) h')))
theorem V_lstore {z : Nat} {x : Int64} (he : fE mt.2.2.2.2.2.2 pc = some (pc, .lstore z, nx, t, c32, c64, ci, k)) (kk : V mt sc d nE Q nx (put2 L k (.long x)) st n I J F) : V mt sc d nE Q pc L (.long x :: st) n I J F := by
  intro p l e R s m args below meth c D A n0 ad0 Qf X cA ad H locs ls S
  obtain ⟨hd, hn, ho⟩ := row_of X.2.2.1 he rfl
  subst hn
  simp only [okI, Bool.and_eq_true, decide_eq_true_eq] at ho
  obtain ⟨ho1, ho2⟩ := ho
  subst ho1
  exact lv_lstore X.1 X.2.1 hd S.lv ho2 rfl (fun ls' h' => kk p l e R s m args below meth c D A n0 ad0 Qf X cA ad H locs ls' (S.re (put2_lv (v := .long x) h')))
theorem V_aload_n {z : Fin 4} {x : Nat} (he : fE mt.2.2.2.2.2.2 pc = some (pc, .aload_n z, nx, t, c32, c64, ci, k)) (hl : lkL L k = some (.ref x)) (kk : V mt sc d nE Q nx L (.ref x :: st) n I J F) : V mt sc d nE Q pc L (st) n I J F := by
  intro p l e R s m args below meth c D A n0 ad0 Qf X cA ad H locs ls S
  obtain ⟨hd, hn, ho⟩ := row_of X.2.2.1 he rfl
  subst hn
  exact lv_aload_n X.1 X.2.1 hd (of_decide_eq_true ho) (lv_of S.lv hl) (kk p l e R s m args below meth c D A n0 ad0 Qf X cA ad H locs ls S)
theorem V_aload {z : Nat} {x : Nat} (he : fE mt.2.2.2.2.2.2 pc = some (pc, .aload z, nx, t, c32, c64, ci, k)) (hl : lkL L k = some (.ref x)) (kk : V mt sc d nE Q nx L (.ref x :: st) n I J F) : V mt sc d nE Q pc L (st) n I J F := by
  intro p l e R s m args below meth c D A n0 ad0 Qf X cA ad H locs ls S
  obtain ⟨hd, hn, ho⟩ := row_of X.2.2.1 he rfl
  subst hn
  exact lv_aload X.1 X.2.1 hd (by rw [show z = k from of_decide_eq_true ho]; exact lv_of S.lv hl) (kk p l e R s m args below meth c D A n0 ad0 Qf X cA ad H locs ls S)
theorem V_astore_n {z : Fin 4} {x : Nat} (he : fE mt.2.2.2.2.2.2 pc = some (pc, .astore_n z, nx, t, c32, c64, ci, k)) (kk : V mt sc d nE Q nx (put1 L k (.ref x)) st n I J F) : V mt sc d nE Q pc L (.ref x :: st) n I J F := by
  intro p l e R s m args below meth c D A n0 ad0 Qf X cA ad H locs ls S
  obtain ⟨hd, hn, ho⟩ := row_of X.2.2.1 he rfl
  subst hn
  simp only [okI, Bool.and_eq_true, decide_eq_true_eq] at ho
  obtain ⟨ho1, ho2⟩ := ho
  subst ho1
  exact lv_astore_n X.1 X.2.1 hd rfl S.lv ho2 rfl (fun ls' h' => kk p l e R s m args below meth c D A n0 ad0 Qf X cA ad H locs ls' (S.re (put1_lv (v := .ref x) h')))
theorem V_astore {z : Nat} {x : Nat} (he : fE mt.2.2.2.2.2.2 pc = some (pc, .astore z, nx, t, c32, c64, ci, k)) (kk : V mt sc d nE Q nx (put1 L k (.ref x)) st n I J F) : V mt sc d nE Q pc L (.ref x :: st) n I J F := by
  intro p l e R s m args below meth c D A n0 ad0 Qf X cA ad H locs ls S
  obtain ⟨hd, hn, ho⟩ := row_of X.2.2.1 he rfl
  subst hn
  simp only [okI, Bool.and_eq_true, decide_eq_true_eq] at ho
  obtain ⟨ho1, ho2⟩ := ho
  subst ho1
  exact lv_astore X.1 X.2.1 hd S.lv ho2 rfl (fun ls' h' => kk p l e R s m args below meth c D A n0 ad0 Qf X cA ad H locs ls' (S.re (put1_lv (v := .ref x) h')))
theorem lk_place {L : Lc} {i : Nat} {x : Int32} {ad : Nat → Nat} (h : lkL L i = some (.int x)) : ∃ j : Nat, (L.map (cvl ad))[j]? = some (i, Value.int x) := by
  obtain ⟨j, hj⟩ := List.getElem?_of_mem (lkL_mem h)
  exact ⟨j, by rw [List.getElem?_map, hj]; rfl⟩
theorem V_iinc {z : Nat} {w : Int} {x : Int32} (he : fE mt.2.2.2.2.2.2 pc = some (pc, .iinc z w, nx, t, c32, c64, ci, k)) (hl : lkL L z = some (.int x)) (kk : V mt sc d nE Q nx (put1 L z (.int (x + c32))) st n I J F) : V mt sc d nE Q pc L st n I J F := by
  intro p l e R s m args below meth c D A n0 ad0 Qf X cA ad H locs ls S
  obtain ⟨hd, hn, ho⟩ := row_of X.2.2.1 he rfl
  subst hn
  simp only [okI, Bool.and_eq_true, decide_eq_true_eq] at ho
  obtain ⟨ho1, ho2⟩ := ho
  obtain ⟨j, hj⟩ := lk_place (ad := ad) hl
  exact lv_iinc (v := x + c32) X.1 X.2.1 hd S.lv hj (by rw [ho1]) ho2 rfl (fun ls' h' => kk p l e R s m args below meth c D A n0 ad0 Qf X cA ad H locs ls' (S.re (put1_lv (v := .int (x + c32)) h')))
theorem V_iadd {x y : Int32} (he : fE mt.2.2.2.2.2.2 pc = some (pc, .iadd, nx, t, c32, c64, ci, k)) (kk : V mt sc d nE Q nx L (.int (x + y) :: st) n I J F) : V mt sc d nE Q pc L (.int y :: .int x :: st) n I J F := by
  intro p l e R s m args below meth c D A n0 ad0 Qf X cA ad H locs ls S
  obtain ⟨hd, hn, ho⟩ := row_of X.2.2.1 he rfl
  subst hn
  exact lv_iadd X.1 X.2.1 hd (kk p l e R s m args below meth c D A n0 ad0 Qf X cA ad H locs ls S)
theorem V_isub {x y : Int32} (he : fE mt.2.2.2.2.2.2 pc = some (pc, .isub, nx, t, c32, c64, ci, k)) (kk : V mt sc d nE Q nx L (.int (x - y) :: st) n I J F) : V mt sc d nE Q pc L (.int y :: .int x :: st) n I J F := by
  intro p l e R s m args below meth c D A n0 ad0 Qf X cA ad H locs ls S
  obtain ⟨hd, hn, ho⟩ := row_of X.2.2.1 he rfl
  subst hn
  exact lv_isub X.1 X.2.1 hd (kk p l e R s m args below meth c D A n0 ad0 Qf X cA ad H locs ls S)
theorem V_imul {x y : Int32} (he : fE mt.2.2.2.2.2.2 pc = some (pc, .imul, nx, t, c32, c64, ci, k)) (kk : V mt sc d nE Q nx L (.int (x * y) :: st) n I J F) : V mt sc d nE Q pc L (.int y :: .int x :: st) n I J F := by
  intro p l e R s m args below meth c D A n0 ad0 Qf X cA ad H locs ls S
  obtain ⟨hd, hn, ho⟩ := row_of X.2.2.1 he rfl
  subst hn
  exact lv_imul X.1 X.2.1 hd (kk p l e R s m args below meth c D A n0 ad0 Qf X cA ad H locs ls S)
theorem V_iand {x y : Int32} (he : fE mt.2.2.2.2.2.2 pc = some (pc, .iand, nx, t, c32, c64, ci, k)) (kk : V mt sc d nE Q nx L (.int (x &&& y) :: st) n I J F) : V mt sc d nE Q pc L (.int y :: .int x :: st) n I J F := by
  intro p l e R s m args below meth c D A n0 ad0 Qf X cA ad H locs ls S
  obtain ⟨hd, hn, ho⟩ := row_of X.2.2.1 he rfl
  subst hn
  exact lv_iand X.1 X.2.1 hd (kk p l e R s m args below meth c D A n0 ad0 Qf X cA ad H locs ls S)
theorem V_ior {x y : Int32} (he : fE mt.2.2.2.2.2.2 pc = some (pc, .ior, nx, t, c32, c64, ci, k)) (kk : V mt sc d nE Q nx L (.int (x ||| y) :: st) n I J F) : V mt sc d nE Q pc L (.int y :: .int x :: st) n I J F := by
  intro p l e R s m args below meth c D A n0 ad0 Qf X cA ad H locs ls S
  obtain ⟨hd, hn, ho⟩ := row_of X.2.2.1 he rfl
  subst hn
  exact lv_ior X.1 X.2.1 hd (kk p l e R s m args below meth c D A n0 ad0 Qf X cA ad H locs ls S)
theorem V_ixor {x y : Int32} (he : fE mt.2.2.2.2.2.2 pc = some (pc, .ixor, nx, t, c32, c64, ci, k)) (kk : V mt sc d nE Q nx L (.int (x ^^^ y) :: st) n I J F) : V mt sc d nE Q pc L (.int y :: .int x :: st) n I J F := by
  intro p l e R s m args below meth c D A n0 ad0 Qf X cA ad H locs ls S
  obtain ⟨hd, hn, ho⟩ := row_of X.2.2.1 he rfl
  subst hn
  exact lv_ixor X.1 X.2.1 hd (kk p l e R s m args below meth c D A n0 ad0 Qf X cA ad H locs ls S)
theorem V_ishl {x y : Int32} (he : fE mt.2.2.2.2.2.2 pc = some (pc, .ishl, nx, t, c32, c64, ci, k)) (kk : V mt sc d nE Q nx L (.int (x <<< (y &&& 31)) :: st) n I J F) : V mt sc d nE Q pc L (.int y :: .int x :: st) n I J F := by
  intro p l e R s m args below meth c D A n0 ad0 Qf X cA ad H locs ls S
  obtain ⟨hd, hn, ho⟩ := row_of X.2.2.1 he rfl
  subst hn
  exact lv_ishl X.1 X.2.1 hd (kk p l e R s m args below meth c D A n0 ad0 Qf X cA ad H locs ls S)
theorem V_ishr {x y : Int32} (he : fE mt.2.2.2.2.2.2 pc = some (pc, .ishr, nx, t, c32, c64, ci, k)) (kk : V mt sc d nE Q nx L (.int (x >>> (y &&& 31)) :: st) n I J F) : V mt sc d nE Q pc L (.int y :: .int x :: st) n I J F := by
  intro p l e R s m args below meth c D A n0 ad0 Qf X cA ad H locs ls S
  obtain ⟨hd, hn, ho⟩ := row_of X.2.2.1 he rfl
  subst hn
  exact lv_ishr X.1 X.2.1 hd (kk p l e R s m args below meth c D A n0 ad0 Qf X cA ad H locs ls S)
theorem V_ladd {x y : Int64} (he : fE mt.2.2.2.2.2.2 pc = some (pc, .ladd, nx, t, c32, c64, ci, k)) (kk : V mt sc d nE Q nx L (.long (x + y) :: st) n I J F) : V mt sc d nE Q pc L (.long y :: .long x :: st) n I J F := by
  intro p l e R s m args below meth c D A n0 ad0 Qf X cA ad H locs ls S
  obtain ⟨hd, hn, ho⟩ := row_of X.2.2.1 he rfl
  subst hn
  exact lv_ladd X.1 X.2.1 hd (kk p l e R s m args below meth c D A n0 ad0 Qf X cA ad H locs ls S)
theorem V_lsub {x y : Int64} (he : fE mt.2.2.2.2.2.2 pc = some (pc, .lsub, nx, t, c32, c64, ci, k)) (kk : V mt sc d nE Q nx L (.long (x - y) :: st) n I J F) : V mt sc d nE Q pc L (.long y :: .long x :: st) n I J F := by
  intro p l e R s m args below meth c D A n0 ad0 Qf X cA ad H locs ls S
  obtain ⟨hd, hn, ho⟩ := row_of X.2.2.1 he rfl
  subst hn
  exact lv_lsub X.1 X.2.1 hd (kk p l e R s m args below meth c D A n0 ad0 Qf X cA ad H locs ls S)
theorem V_lmul {x y : Int64} (he : fE mt.2.2.2.2.2.2 pc = some (pc, .lmul, nx, t, c32, c64, ci, k)) (kk : V mt sc d nE Q nx L (.long (x * y) :: st) n I J F) : V mt sc d nE Q pc L (.long y :: .long x :: st) n I J F := by
  intro p l e R s m args below meth c D A n0 ad0 Qf X cA ad H locs ls S
  obtain ⟨hd, hn, ho⟩ := row_of X.2.2.1 he rfl
  subst hn
  exact lv_lmul X.1 X.2.1 hd (kk p l e R s m args below meth c D A n0 ad0 Qf X cA ad H locs ls S)
def iushrV (x y : Int32) : Int32 := (x.toUInt32 >>> (y.toUInt32 &&& Int32.toUInt32 31)).toInt32
def lushrV (x : Int64) (y : Int32) : Int64 := (x.toUInt64 >>> (y.toInt64.toUInt64 &&& Int64.toUInt64 63)).toInt64
def i2bV (x : Int32) : Int32 := x.toInt8.toInt32
def i2sV (x : Int32) : Int32 := x.toInt16.toInt32
def i2cV (x : Int32) : Int32 := (x.toUInt32 % 65536).toInt32
theorem V_ineg {x : Int32} (he : fE mt.2.2.2.2.2.2 pc = some (pc, .ineg, nx, t, c32, c64, ci, k)) (kk : V mt sc d nE Q nx L (.int (-x) :: st) n I J F) : V mt sc d nE Q pc L (.int x :: st) n I J F := by
  intro p l e R s m args below meth c D A n0 ad0 Qf X cA ad H locs ls S
  obtain ⟨hd, hn, ho⟩ := row_of X.2.2.1 he rfl
  subst hn
  exact lv_ineg X.1 X.2.1 hd (kk p l e R s m args below meth c D A n0 ad0 Qf X cA ad H locs ls S)
theorem V_iushr {x y : Int32} (he : fE mt.2.2.2.2.2.2 pc = some (pc, .iushr, nx, t, c32, c64, ci, k)) (kk : V mt sc d nE Q nx L (.int (iushrV x y) :: st) n I J F) : V mt sc d nE Q pc L (.int y :: .int x :: st) n I J F := by
  intro p l e R s m args below meth c D A n0 ad0 Qf X cA ad H locs ls S
  obtain ⟨hd, hn, ho⟩ := row_of X.2.2.1 he rfl
  subst hn
  exact lv_iushr X.1 X.2.1 hd rfl (kk p l e R s m args below meth c D A n0 ad0 Qf X cA ad H locs ls S)
theorem V_lushr {x : Int64} {y : Int32} (he : fE mt.2.2.2.2.2.2 pc = some (pc, .lushr, nx, t, c32, c64, ci, k)) (kk : V mt sc d nE Q nx L (.long (lushrV x y) :: st) n I J F) : V mt sc d nE Q pc L (.int y :: .long x :: st) n I J F := by
  intro p l e R s m args below meth c D A n0 ad0 Qf X cA ad H locs ls S
  obtain ⟨hd, hn, ho⟩ := row_of X.2.2.1 he rfl
  subst hn
  exact lv_lushr X.1 X.2.1 hd rfl (kk p l e R s m args below meth c D A n0 ad0 Qf X cA ad H locs ls S)
theorem V_i2l {x : Int32} (he : fE mt.2.2.2.2.2.2 pc = some (pc, .i2l, nx, t, c32, c64, ci, k)) (kk : V mt sc d nE Q nx L (.long (x.toInt64) :: st) n I J F) : V mt sc d nE Q pc L (.int x :: st) n I J F := by
  intro p l e R s m args below meth c D A n0 ad0 Qf X cA ad H locs ls S
  obtain ⟨hd, hn, ho⟩ := row_of X.2.2.1 he rfl
  subst hn
  exact lv_i2l X.1 X.2.1 hd rfl (kk p l e R s m args below meth c D A n0 ad0 Qf X cA ad H locs ls S)
theorem V_l2i {x : Int64} (he : fE mt.2.2.2.2.2.2 pc = some (pc, .l2i, nx, t, c32, c64, ci, k)) (kk : V mt sc d nE Q nx L (.int (x.toInt32) :: st) n I J F) : V mt sc d nE Q pc L (.long x :: st) n I J F := by
  intro p l e R s m args below meth c D A n0 ad0 Qf X cA ad H locs ls S
  obtain ⟨hd, hn, ho⟩ := row_of X.2.2.1 he rfl
  subst hn
  exact lv_l2i X.1 X.2.1 hd rfl (kk p l e R s m args below meth c D A n0 ad0 Qf X cA ad H locs ls S)
theorem V_i2b {x : Int32} (he : fE mt.2.2.2.2.2.2 pc = some (pc, .i2b, nx, t, c32, c64, ci, k)) (kk : V mt sc d nE Q nx L (.int (i2bV x) :: st) n I J F) : V mt sc d nE Q pc L (.int x :: st) n I J F := by
  intro p l e R s m args below meth c D A n0 ad0 Qf X cA ad H locs ls S
  obtain ⟨hd, hn, ho⟩ := row_of X.2.2.1 he rfl
  subst hn
  exact lv_i2b X.1 X.2.1 hd rfl (kk p l e R s m args below meth c D A n0 ad0 Qf X cA ad H locs ls S)
theorem V_i2s {x : Int32} (he : fE mt.2.2.2.2.2.2 pc = some (pc, .i2s, nx, t, c32, c64, ci, k)) (kk : V mt sc d nE Q nx L (.int (i2sV x) :: st) n I J F) : V mt sc d nE Q pc L (.int x :: st) n I J F := by
  intro p l e R s m args below meth c D A n0 ad0 Qf X cA ad H locs ls S
  obtain ⟨hd, hn, ho⟩ := row_of X.2.2.1 he rfl
  subst hn
  exact lv_i2s X.1 X.2.1 hd rfl (kk p l e R s m args below meth c D A n0 ad0 Qf X cA ad H locs ls S)
theorem V_i2c {x : Int32} (he : fE mt.2.2.2.2.2.2 pc = some (pc, .i2c, nx, t, c32, c64, ci, k)) (kk : V mt sc d nE Q nx L (.int (i2cV x) :: st) n I J F) : V mt sc d nE Q pc L (.int x :: st) n I J F := by
  intro p l e R s m args below meth c D A n0 ad0 Qf X cA ad H locs ls S
  obtain ⟨hd, hn, ho⟩ := row_of X.2.2.1 he rfl
  subst hn
  exact lv_i2c X.1 X.2.1 hd rfl (kk p l e R s m args below meth c D A n0 ad0 Qf X cA ad H locs ls S)
theorem V_lcmp {x y : Int64} (he : fE mt.2.2.2.2.2.2 pc = some (pc, .lcmp, nx, t, c32, c64, ci, k)) (kk : V mt sc d nE Q nx L (.int (lg_cmp x y) :: st) n I J F) : V mt sc d nE Q pc L (.long y :: .long x :: st) n I J F := by
  intro p l e R s m args below meth c D A n0 ad0 Qf X cA ad H locs ls S
  obtain ⟨hd, hn, ho⟩ := row_of X.2.2.1 he rfl
  subst hn
  exact W.lcmp X.1 X.2.1 hd (kk p l e R s m args below meth c D A n0 ad0 Qf X cA ad H locs ls S)
theorem V_dup {v : Value} (he : fE mt.2.2.2.2.2.2 pc = some (pc, .dup, nx, t, c32, c64, ci, k)) (h1 : v.category = 1) (kk : V mt sc d nE Q nx L (v :: v :: st) n I J F) : V mt sc d nE Q pc L (v :: st) n I J F := by
  intro p l e R s m args below meth c D A n0 ad0 Qf X cA ad H locs ls S
  obtain ⟨hd, hn, ho⟩ := row_of X.2.2.1 he rfl
  subst hn
  exact lv_dup X.1 X.2.1 hd ((cv_cat ad v).trans h1) (kk p l e R s m args below meth c D A n0 ad0 Qf X cA ad H locs ls S)
theorem V_pop {v : Value} (he : fE mt.2.2.2.2.2.2 pc = some (pc, .pop, nx, t, c32, c64, ci, k)) (h1 : v.category = 1) (kk : V mt sc d nE Q nx L (st) n I J F) : V mt sc d nE Q pc L (v :: st) n I J F := by
  intro p l e R s m args below meth c D A n0 ad0 Qf X cA ad H locs ls S
  obtain ⟨hd, hn, ho⟩ := row_of X.2.2.1 he rfl
  subst hn
  exact lv_pop X.1 X.2.1 hd ((cv_cat ad v).trans h1) (kk p l e R s m args below meth c D A n0 ad0 Qf X cA ad H locs ls S)
theorem V_dup_x1 {v w : Value} (he : fE mt.2.2.2.2.2.2 pc = some (pc, .dup_x1, nx, t, c32, c64, ci, k)) (h1 : v.category = 1) (h2 : w.category = 1) (kk : V mt sc d nE Q nx L (v :: w :: v :: st) n I J F) : V mt sc d nE Q pc L (v :: w :: st) n I J F := by
  intro p l e R s m args below meth c D A n0 ad0 Qf X cA ad H locs ls S
  obtain ⟨hd, hn, ho⟩ := row_of X.2.2.1 he rfl
  subst hn
  exact lv_dup_x1 X.1 X.2.1 hd ((cv_cat ad v).trans h1) ((cv_cat ad w).trans h2) (kk p l e R s m args below meth c D A n0 ad0 Qf X cA ad H locs ls S)
theorem V_dup2 {v w : Value} (he : fE mt.2.2.2.2.2.2 pc = some (pc, .dup2, nx, t, c32, c64, ci, k)) (h1 : v.category = 1) (h2 : w.category = 1) (kk : V mt sc d nE Q nx L (v :: w :: v :: w :: st) n I J F) : V mt sc d nE Q pc L (v :: w :: st) n I J F := by
  intro p l e R s m args below meth c D A n0 ad0 Qf X cA ad H locs ls S
  obtain ⟨hd, hn, ho⟩ := row_of X.2.2.1 he rfl
  subst hn
  exact lv_dup2_11 X.1 X.2.1 hd ((cv_cat ad v).trans h1) ((cv_cat ad w).trans h2) (kk p l e R s m args below meth c D A n0 ad0 Qf X cA ad H locs ls S)
theorem V_goto {z : Int} (he : fE mt.2.2.2.2.2.2 pc = some (pc, .goto z, nx, t, c32, c64, ci, k)) (kk : V mt sc d nE Q t L st n I J F) : V mt sc d nE Q pc L st n I J F := by
  intro p l e R s m args below meth c D A n0 ad0 Qf X cA ad H locs ls S
  obtain ⟨hd, hn, ho⟩ := row_of X.2.2.1 he rfl
  subst hn
  exact lv_goto X.1 X.2.1 hd (of_decide_eq_true ho) (kk p l e R s m args below meth c D A n0 ad0 Qf X cA ad H locs ls S)
theorem V_idiv {x y : Int32} (he : fE mt.2.2.2.2.2.2 pc = some (pc, .idiv, nx, t, c32, c64, ci, k)) (h1 : ¬ y = 0) (kk : V mt sc d nE Q nx L (.int (x / y) :: st) n I J F) : V mt sc d nE Q pc L (.int y :: .int x :: st) n I J F := by
  intro p l e R s m args below meth c D A n0 ad0 Qf X cA ad H locs ls S
  obtain ⟨hd, hn, ho⟩ := row_of X.2.2.1 he rfl
  subst hn
  exact lv_idiv X.1 X.2.1 hd h1 (kk p l e R s m args below meth c D A n0 ad0 Qf X cA ad H locs ls S)

theorem V_irem0 {x y : Int32} (he : fE mt.2.2.2.2.2.2 pc = some (pc, .irem, nx, t, c32, c64, ci, k)) (h1 : ¬ y = 0) (kk : V mt sc d nE Q nx L (.int (x - x / y * y) :: st) n I J F) : V mt sc d nE Q pc L (.int y :: .int x :: st) n I J F := by
  intro p l e R s m args below meth c D A n0 ad0 Qf X cA ad H locs ls S
  obtain ⟨hd, hn, ho⟩ := row_of X.2.2.1 he rfl
  subst hn
  exact lv_irem X.1 X.2.1 hd h1 (kk p l e R s m args below meth c D A n0 ad0 Qf X cA ad H locs ls S)
theorem V_ldiv {x y : Int64} (he : fE mt.2.2.2.2.2.2 pc = some (pc, .ldiv, nx, t, c32, c64, ci, k)) (h1 : ¬ y = 0) (kk : V mt sc d nE Q nx L (.long (x / y) :: st) n I J F) : V mt sc d nE Q pc L (.long y :: .long x :: st) n I J F := by
  intro p l e R s m args below meth c D A n0 ad0 Qf X cA ad H locs ls S
  obtain ⟨hd, hn, ho⟩ := row_of X.2.2.1 he rfl
  subst hn
  exact lv_ldiv X.1 X.2.1 hd h1 (kk p l e R s m args below meth c D A n0 ad0 Qf X cA ad H locs ls S)
theorem V_lrem0 {x y : Int64} (he : fE mt.2.2.2.2.2.2 pc = some (pc, .lrem, nx, t, c32, c64, ci, k)) (h1 : ¬ y = 0) (kk : V mt sc d nE Q nx L (.long (x - x / y * y) :: st) n I J F) : V mt sc d nE Q pc L (.long y :: .long x :: st) n I J F := by
  intro p l e R s m args below meth c D A n0 ad0 Qf X cA ad H locs ls S
  obtain ⟨hd, hn, ho⟩ := row_of X.2.2.1 he rfl
  subst hn
  exact lv_lrem X.1 X.2.1 hd h1 (kk p l e R s m args below meth c D A n0 ad0 Qf X cA ad H locs ls S)
theorem V_if_eq {z : Int} {x : Int32} (he : fE mt.2.2.2.2.2.2 pc = some (pc, .ifCond .eq z, nx, t, c32, c64, ci, k)) (kt : x = 0 → V mt sc d nE Q t L st n I J F) (kf : ¬ x = 0 → V mt sc d nE Q nx L st n I J F) : V mt sc d nE Q pc L (.int x :: st) n I J F := by
  intro p l e R s m args below meth c D A n0 ad0 Qf X cA ad H locs ls S
  obtain ⟨hd, hn, ho⟩ := row_of X.2.2.1 he rfl
  subst hn
  exact lv_if_eq X.1 X.2.1 hd (of_decide_eq_true ho) (fun h => kt h p l e R s m args below meth c D A n0 ad0 Qf X cA ad H locs ls S) (fun h => kf h p l e R s m args below meth c D A n0 ad0 Qf X cA ad H locs ls S)
theorem V_icmp_eq {z : Int} {x y : Int32} (he : fE mt.2.2.2.2.2.2 pc = some (pc, .if_icmp .eq z, nx, t, c32, c64, ci, k)) (kt : x = y → V mt sc d nE Q t L st n I J F) (kf : ¬ x = y → V mt sc d nE Q nx L st n I J F) : V mt sc d nE Q pc L (.int y :: .int x :: st) n I J F := by
  intro p l e R s m args below meth c D A n0 ad0 Qf X cA ad H locs ls S
  obtain ⟨hd, hn, ho⟩ := row_of X.2.2.1 he rfl
  subst hn
  exact lv_icmp_eq X.1 X.2.1 hd (of_decide_eq_true ho) (fun h => kt h p l e R s m args below meth c D A n0 ad0 Qf X cA ad H locs ls S) (fun h => kf h p l e R s m args below meth c D A n0 ad0 Qf X cA ad H locs ls S)
theorem V_if_ne {z : Int} {x : Int32} (he : fE mt.2.2.2.2.2.2 pc = some (pc, .ifCond .ne z, nx, t, c32, c64, ci, k)) (kt : ¬ x = 0 → V mt sc d nE Q t L st n I J F) (kf : x = 0 → V mt sc d nE Q nx L st n I J F) : V mt sc d nE Q pc L (.int x :: st) n I J F := by
  intro p l e R s m args below meth c D A n0 ad0 Qf X cA ad H locs ls S
  obtain ⟨hd, hn, ho⟩ := row_of X.2.2.1 he rfl
  subst hn
  exact lv_if_ne X.1 X.2.1 hd (of_decide_eq_true ho) (fun h => kt h p l e R s m args below meth c D A n0 ad0 Qf X cA ad H locs ls S) (fun h => kf h p l e R s m args below meth c D A n0 ad0 Qf X cA ad H locs ls S)
theorem V_icmp_ne {z : Int} {x y : Int32} (he : fE mt.2.2.2.2.2.2 pc = some (pc, .if_icmp .ne z, nx, t, c32, c64, ci, k)) (kt : ¬ x = y → V mt sc d nE Q t L st n I J F) (kf : x = y → V mt sc d nE Q nx L st n I J F) : V mt sc d nE Q pc L (.int y :: .int x :: st) n I J F := by
  intro p l e R s m args below meth c D A n0 ad0 Qf X cA ad H locs ls S
  obtain ⟨hd, hn, ho⟩ := row_of X.2.2.1 he rfl
  subst hn
  exact lv_icmp_ne X.1 X.2.1 hd (of_decide_eq_true ho) (fun h => kt h p l e R s m args below meth c D A n0 ad0 Qf X cA ad H locs ls S) (fun h => kf h p l e R s m args below meth c D A n0 ad0 Qf X cA ad H locs ls S)
theorem V_if_lt {z : Int} {x : Int32} (he : fE mt.2.2.2.2.2.2 pc = some (pc, .ifCond .lt z, nx, t, c32, c64, ci, k)) (kt : x < 0 → V mt sc d nE Q t L st n I J F) (kf : ¬ x < 0 → V mt sc d nE Q nx L st n I J F) : V mt sc d nE Q pc L (.int x :: st) n I J F := by
  intro p l e R s m args below meth c D A n0 ad0 Qf X cA ad H locs ls S
  obtain ⟨hd, hn, ho⟩ := row_of X.2.2.1 he rfl
  subst hn
  exact lv_if_lt X.1 X.2.1 hd (of_decide_eq_true ho) (fun h => kt h p l e R s m args below meth c D A n0 ad0 Qf X cA ad H locs ls S) (fun h => kf h p l e R s m args below meth c D A n0 ad0 Qf X cA ad H locs ls S)
theorem V_icmp_lt {z : Int} {x y : Int32} (he : fE mt.2.2.2.2.2.2 pc = some (pc, .if_icmp .lt z, nx, t, c32, c64, ci, k)) (kt : x < y → V mt sc d nE Q t L st n I J F) (kf : ¬ x < y → V mt sc d nE Q nx L st n I J F) : V mt sc d nE Q pc L (.int y :: .int x :: st) n I J F := by
  intro p l e R s m args below meth c D A n0 ad0 Qf X cA ad H locs ls S
  obtain ⟨hd, hn, ho⟩ := row_of X.2.2.1 he rfl
  subst hn
  exact lv_icmp_lt X.1 X.2.1 hd (of_decide_eq_true ho) (fun h => kt h p l e R s m args below meth c D A n0 ad0 Qf X cA ad H locs ls S) (fun h => kf h p l e R s m args below meth c D A n0 ad0 Qf X cA ad H locs ls S)
theorem V_if_ge {z : Int} {x : Int32} (he : fE mt.2.2.2.2.2.2 pc = some (pc, .ifCond .ge z, nx, t, c32, c64, ci, k)) (kt : 0 ≤ x → V mt sc d nE Q t L st n I J F) (kf : ¬ 0 ≤ x → V mt sc d nE Q nx L st n I J F) : V mt sc d nE Q pc L (.int x :: st) n I J F := by
  intro p l e R s m args below meth c D A n0 ad0 Qf X cA ad H locs ls S
  obtain ⟨hd, hn, ho⟩ := row_of X.2.2.1 he rfl
  subst hn
  exact lv_if_ge X.1 X.2.1 hd (of_decide_eq_true ho) (fun h => kt h p l e R s m args below meth c D A n0 ad0 Qf X cA ad H locs ls S) (fun h => kf h p l e R s m args below meth c D A n0 ad0 Qf X cA ad H locs ls S)
theorem V_icmp_ge {z : Int} {x y : Int32} (he : fE mt.2.2.2.2.2.2 pc = some (pc, .if_icmp .ge z, nx, t, c32, c64, ci, k)) (kt : y ≤ x → V mt sc d nE Q t L st n I J F) (kf : ¬ y ≤ x → V mt sc d nE Q nx L st n I J F) : V mt sc d nE Q pc L (.int y :: .int x :: st) n I J F := by
  intro p l e R s m args below meth c D A n0 ad0 Qf X cA ad H locs ls S
  obtain ⟨hd, hn, ho⟩ := row_of X.2.2.1 he rfl
  subst hn
  exact lv_icmp_ge X.1 X.2.1 hd (of_decide_eq_true ho) (fun h => kt h p l e R s m args below meth c D A n0 ad0 Qf X cA ad H locs ls S) (fun h => kf h p l e R s m args below meth c D A n0 ad0 Qf X cA ad H locs ls S)
theorem V_if_gt {z : Int} {x : Int32} (he : fE mt.2.2.2.2.2.2 pc = some (pc, .ifCond .gt z, nx, t, c32, c64, ci, k)) (kt : 0 < x → V mt sc d nE Q t L st n I J F) (kf : ¬ 0 < x → V mt sc d nE Q nx L st n I J F) : V mt sc d nE Q pc L (.int x :: st) n I J F := by
  intro p l e R s m args below meth c D A n0 ad0 Qf X cA ad H locs ls S
  obtain ⟨hd, hn, ho⟩ := row_of X.2.2.1 he rfl
  subst hn
  exact lv_if_gt X.1 X.2.1 hd (of_decide_eq_true ho) (fun h => kt h p l e R s m args below meth c D A n0 ad0 Qf X cA ad H locs ls S) (fun h => kf h p l e R s m args below meth c D A n0 ad0 Qf X cA ad H locs ls S)
theorem V_icmp_gt {z : Int} {x y : Int32} (he : fE mt.2.2.2.2.2.2 pc = some (pc, .if_icmp .gt z, nx, t, c32, c64, ci, k)) (kt : y < x → V mt sc d nE Q t L st n I J F) (kf : ¬ y < x → V mt sc d nE Q nx L st n I J F) : V mt sc d nE Q pc L (.int y :: .int x :: st) n I J F := by
  intro p l e R s m args below meth c D A n0 ad0 Qf X cA ad H locs ls S
  obtain ⟨hd, hn, ho⟩ := row_of X.2.2.1 he rfl
  subst hn
  exact lv_icmp_gt X.1 X.2.1 hd (of_decide_eq_true ho) (fun h => kt h p l e R s m args below meth c D A n0 ad0 Qf X cA ad H locs ls S) (fun h => kf h p l e R s m args below meth c D A n0 ad0 Qf X cA ad H locs ls S)
theorem V_if_le {z : Int} {x : Int32} (he : fE mt.2.2.2.2.2.2 pc = some (pc, .ifCond .le z, nx, t, c32, c64, ci, k)) (kt : x ≤ 0 → V mt sc d nE Q t L st n I J F) (kf : ¬ x ≤ 0 → V mt sc d nE Q nx L st n I J F) : V mt sc d nE Q pc L (.int x :: st) n I J F := by
  intro p l e R s m args below meth c D A n0 ad0 Qf X cA ad H locs ls S
  obtain ⟨hd, hn, ho⟩ := row_of X.2.2.1 he rfl
  subst hn
  exact lv_if_le X.1 X.2.1 hd (of_decide_eq_true ho) (fun h => kt h p l e R s m args below meth c D A n0 ad0 Qf X cA ad H locs ls S) (fun h => kf h p l e R s m args below meth c D A n0 ad0 Qf X cA ad H locs ls S)
theorem V_icmp_le {z : Int} {x y : Int32} (he : fE mt.2.2.2.2.2.2 pc = some (pc, .if_icmp .le z, nx, t, c32, c64, ci, k)) (kt : x ≤ y → V mt sc d nE Q t L st n I J F) (kf : ¬ x ≤ y → V mt sc d nE Q nx L st n I J F) : V mt sc d nE Q pc L (.int y :: .int x :: st) n I J F := by
  intro p l e R s m args below meth c D A n0 ad0 Qf X cA ad H locs ls S
  obtain ⟨hd, hn, ho⟩ := row_of X.2.2.1 he rfl
  subst hn
  exact lv_icmp_le X.1 X.2.1 hd (of_decide_eq_true ho) (fun h => kt h p l e R s m args below meth c D A n0 ad0 Qf X cA ad H locs ls S) (fun h => kf h p l e R s m args below meth c D A n0 ad0 Qf X cA ad H locs ls S)
end VS
