abbrev ST : Type := Nat × Lc × List Value × I2 × J2 × F2
section VT
variable {mt : MT} {sc : Option (Nat × (Nat → Int32))} {d nE : Nat} {Q : QT} {pc nx t ci k n : Nat} {c32 : Int32} {c64 : Int64} {L : Lc} {st : List Value} {I : I2} {J : J2} {F : F2}
theorem V_ldcS {z : Nat} (he : fE mt.2.2.2.2.2.2 pc = some (pc, .ldc z, nx, t, c32, c64, ci, k)) (hci : ci = 99) (kk : V mt sc d nE Q nx L (.ref k :: st) n I J F) : V mt sc d nE Q pc L st n I J F := by
  intro p l e R s m args below meth c D A n0 ad0 Qf X cA ad H locs ls S
  obtain ⟨hd, hn, ho⟩ := row_of X.2.2.1 he rfl
  subst hn
  subst hci
  simp only [okI, if_true, Bool.and_eq_true, decide_eq_true_eq, beq_iff_eq] at ho
  obtain ⟨h1, h2, h3, h4⟩ := ho
  have hk := kk p l e R s m args below meth c D A n0 ad0 Qf X cA ad H locs ls S
  have hR := X.2.2.2.2.2.2.2.2.2.1.2.1 (k - 1000) (by omega)
  rw [h4, show 1000 + (k - 1000) = k by omega, ← S.2.2.2.2.2.2.2.1 k (Or.inr (Or.inl h1)), ← h3] at hR
  exact va_ldcS X.1 X.2.1 X.2.2.2.2.2.2.1 hR hd hk
/-- a step of straight code -/
def stI (ins : Instr) (nx t : Nat) (c32 : Int32) (c64 : Int64) (ci k n : Nat) (L : Lc) (st : List Value) (I : I2) (J : J2) (F : F2) : Option ST := match ins with
    | .iconst _ => some (nx, L, .int c32 :: st, I, J, F)
    | .bipush _ => some (nx, L, .int c32 :: st, I, J, F)
    | .sipush _ => some (nx, L, .int c32 :: st, I, J, F)
    | .lconst _ => some (nx, L, .long c64 :: st, I, J, F)
    | .ldc _ => match Nat.beq ci 99 with
      | false => some (nx, L, .int c32 :: st, I, J, F)
      | true => some (nx, L, .ref k :: st, I, J, F)
    | .ldc_w _ => some (nx, L, .int c32 :: st, I, J, F)
    | .ldc2_w _ => some (nx, L, .long c64 :: st, I, J, F)
    | .iload_n _ => match lkL L k with
      | some (.int x) => some (nx, L, .int x :: st, I, J, F)
      | _ => none
    | .istore_n _ => match st with
      | .int x :: st => match frc (put1 L k (.int x)) with
        | some L2 => some (nx, L2, st, I, J, F)
        | none => none
      | _ => none
    | .iload _ => match lkL L k with
      | some (.int x) => some (nx, L, .int x :: st, I, J, F)
      | _ => none
    | .istore _ => match st with
      | .int x :: st => match frc (put1 L k (.int x)) with
        | some L2 => some (nx, L2, st, I, J, F)
        | none => none
      | _ => none
    | .lload_n _ => match lkL L k with
      | some (.long x) => some (nx, L, .long x :: st, I, J, F)
      | _ => none
    | .lstore_n _ => match st with
      | .long x :: st => match frc (put2 L k (.long x)) with
        | some L2 => some (nx, L2, st, I, J, F)
        | none => none
      | _ => none
    | .lload _ => match lkL L k with
      | some (.long x) => some (nx, L, .long x :: st, I, J, F)
      | _ => none
    | .lstore _ => match st with
      | .long x :: st => match frc (put2 L k (.long x)) with
        | some L2 => some (nx, L2, st, I, J, F)
        | none => none
      | _ => none
    | .aload_n _ => match lkL L k with
      | some (.ref x) => some (nx, L, .ref x :: st, I, J, F)
      | _ => none
    | .astore_n _ => match st with
      | .ref x :: st => match frc (put1 L k (.ref x)) with
        | some L2 => some (nx, L2, st, I, J, F)
        | none => none
      | _ => none
    | .aload _ => match lkL L k with
      | some (.ref x) => some (nx, L, .ref x :: st, I, J, F)
      | _ => none
    | .astore _ => match st with
      | .ref x :: st => match frc (put1 L k (.ref x)) with
        | some L2 => some (nx, L2, st, I, J, F)
        | none => none
      | _ => none
    | .iinc z _ => match lkL L z with
      | some (.int x) => match frc (put1 L z (.int (x + c32))) with
        | some L2 => some (nx, L2, st, I, J, F)
        | none => none
      | _ => none
    | .iadd => match st with
      | .int y :: .int x :: st => some (nx, L, .int (x + y) :: st, I, J, F)
      | _ => none
    | .isub => match st with
      | .int y :: .int x :: st => some (nx, L, .int (x - y) :: st, I, J, F)
      | _ => none
    | .imul => match st with
      | .int y :: .int x :: st => some (nx, L, .int (x * y) :: st, I, J, F)
      | _ => none
    | .iand => match st with
      | .int y :: .int x :: st => some (nx, L, .int (x &&& y) :: st, I, J, F)
      | _ => none
    | .ior => match st with
      | .int y :: .int x :: st => some (nx, L, .int (x ||| y) :: st, I, J, F)
      | _ => none
    | .ixor => match st with
      | .int y :: .int x :: st => some (nx, L, .int (x ^^^ y) :: st, I, J, F)
      | _ => none
    | .ishl => match st with
      | .int y :: .int x :: st => some (nx, L, .int (x <<< (y &&& 31)) :: st, I, J, F)
      | _ => none
    | .ishr => match st with
      | .int y :: .int x :: st => some (nx, L, .int (x >>> (y &&& 31)) :: st, I, J, F)
      | _ => none
    | .iushr => match st with
      | .int y :: .int x :: st => some (nx, L, .int (iushrV x y) :: st, I, J, F)
      | _ => none
    | .ladd => match st with
      | .long y :: .long x :: st => some (nx, L, .long (x + y) :: st, I, J, F)
      | _ => none
    | .lsub => match st with
      | .long y :: .long x :: st => some (nx, L, .long (x - y) :: st, I, J, F)
      | _ => none
    | .lmul => match st with
      | .long y :: .long x :: st => some (nx, L, .long (x * y) :: st, I, J, F)
      | _ => none
    | .ineg => match st with
      | .int x :: st => some (nx, L, .int (-x) :: st, I, J, F)
      | _ => none
    | .lushr => match st with
      | .int y :: .long x :: st => some (nx, L, .long (lushrV x y) :: st, I, J, F)
      | _ => none
    | .i2l => match st with
      | .int x :: st => some (nx, L, .long x.toInt64 :: st, I, J, F)
      | _ => none
    | .l2i => match st with
      | .long x :: st => some (nx, L, .int x.toInt32 :: st, I, J, F)
      | _ => none
    | .i2b => match st with
      | .int x :: st => some (nx, L, .int (i2bV x) :: st, I, J, F)
      | _ => none
    | .i2s => match st with
      | .int x :: st => some (nx, L, .int (i2sV x) :: st, I, J, F)
      | _ => none
    | .i2c => match st with
      | .int x :: st => some (nx, L, .int (i2cV x) :: st, I, J, F)
      | _ => none
    | .lcmp => match st with
      | .long y :: .long x :: st => some (nx, L, .int (lg_cmp x y) :: st, I, J, F)
      | _ => none
    | .dup => match st with
      | .int x :: st => some (nx, L, .int x :: .int x :: st, I, J, F)
      | .ref x :: st => some (nx, L, .ref x :: .ref x :: st, I, J, F)
      | _ => none
    | .pop => match st with
      | .int x :: st => some (nx, L, st, I, J, F)
      | .ref x :: st => some (nx, L, st, I, J, F)
      | _ => none
    | .dup_x1 => match st with
      | .int x :: .ref y :: st => some (nx, L, .int x :: .ref y :: .int x :: st, I, J, F)
      | _ => none
    | .dup2 => match st with
      | .int x :: .ref y :: st => some (nx, L, .int x :: .ref y :: .int x :: .ref y :: st, I, J, F)
      | _ => none
    | .goto _ => some (t, L, st, I, J, F)
    | .getfield _ => match st with
      | .ref o :: st => match KD o with
        | .inl c => match Nat.beq c ci with
          | true => match Nat.blt o n with
            | true => match fv I J F o k (tyF ci k) with
              | .int x => some (nx, L, .int x :: st, I, J, F)
              | .long x => some (nx, L, .long x :: st, I, J, F)
              | .ref x => some (nx, L, .ref x :: st, I, J, F)
              | _ => none
            | false => none
          | false => none
        | .inr _ => none
      | _ => none
    | .putfield _ => match st with
      | .int x :: .ref o :: st => match KD o with
        | .inl c => match Nat.beq c ci with
          | true => match Nat.blt o n with
            | true => match tyF ci k with
              | .int => match ((nCl ci).2.1 k).2.2.2 with
                | false => some (nx, L, st, up2 I o k x, J, F)
                | true => none
              | _ => none
            | false => none
          | false => none
        | .inr _ => none
      | .long x :: .ref o :: st => match KD o with
        | .inl c => match Nat.beq c ci with
          | true => match Nat.blt o n with
            | true => match tyF ci k with
              | .long => match ((nCl ci).2.1 k).2.2.2 with
                | false => some (nx, L, st, I, up2 J o k x, F)
                | true => none
              | _ => none
            | false => none
          | false => none
        | .inr _ => none
      | _ => none
    | .arraylength => match st with
      | .ref o :: st => match KD o with
        | .inr (len, _) => match Nat.blt o n with
          | true => some (nx, L, .int (Int32.ofNat len) :: st, I, J, F)
          | false => none
        | .inl _ => none
      | _ => none
    | _ => none
set_option maxHeartbeats 4000000 in
theorem stI_ok {ins : Instr} {s2 : ST} (he : fE mt.2.2.2.2.2.2 pc = some (pc, ins, nx, t, c32, c64, ci, k)) (h : stI ins nx t c32 c64 ci k n L st I J F = some s2) (kk : V mt sc d nE Q s2.1 s2.2.1 s2.2.2.1 n s2.2.2.2.1 s2.2.2.2.2.1 s2.2.2.2.2.2) : V mt sc d nE Q pc L st n I J F := by
  unfold stI at h
  split at h
  · cases h; exact V_iconst he kk
  · cases h; exact V_bipush he kk
  · cases h; exact V_sipush he kk
  · cases h; exact V_lconst he kk
  · split at h
    · rename_i hb
      cases h; exact V_ldc he (beq_f hb) kk
    · rename_i hb
      cases h; exact V_ldcS he (Nat.eq_of_beq_eq_true hb) kk
  · cases h; exact V_ldc_w he kk
  · cases h; exact V_ldc2_w he kk
  · split at h
    · rename_i hl
      cases h; exact V_iload_n he hl kk
    · cases h
  · split at h
    · split at h
      · rename_i hf
        cases h; rw [frc_eq hf] at kk; exact V_istore_n he kk
      · cases h
    · cases h
  · split at h
    · rename_i hl
      cases h; exact V_iload he hl kk
    · cases h
  · split at h
    · split at h
      · rename_i hf
        cases h; rw [frc_eq hf] at kk; exact V_istore he kk
      · cases h
    · cases h
  · split at h
    · rename_i hl
      cases h; exact V_lload_n he hl kk
    · cases h
  · split at h
    · split at h
      · rename_i hf
        cases h; rw [frc_eq hf] at kk; exact V_lstore_n he kk
      · cases h
    · cases h
  · split at h
    · rename_i hl
      cases h; exact V_lload he hl kk
    · cases h
  · split at h
    · split at h
      · rename_i hf
        cases h; rw [frc_eq hf] at kk; exact V_lstore he kk
      · cases h
    · cases h
  · split at h
    · rename_i hl
      cases h; exact V_aload_n he hl kk
    · cases h
  · split at h
    · split at h
      · rename_i hf
        cases h; rw [frc_eq hf] at kk; exact V_astore_n he kk
      · cases h
    · cases h
  · split at h
    · rename_i hl
      cases h; exact V_aload he hl kk
    · cases h
  · split at h
    · split at h
      · rename_i hf
        cases h; rw [frc_eq hf] at kk; exact V_astore he kk
      · cases h
    · cases h
  · split at h
    · rename_i hl
      split at h
      · rename_i hf
        cases h; rw [frc_eq hf] at kk; exact V_iinc he hl kk
      · cases h
    · cases h
  · split at h
    · cases h; exact V_iadd he kk
    · cases h
  · split at h
    · cases h; exact V_isub he kk
    · cases h
  · split at h
    · cases h; exact V_imul he kk
    · cases h
  · split at h
    · cases h; exact V_iand he kk
    · cases h
  · split at h
    · cases h; exact V_ior he kk
    · cases h
  · split at h
    · cases h; exact V_ixor he kk
    · cases h
  · split at h
    · cases h; exact V_ishl he kk
    · cases h
  · split at h
    · cases h; exact V_ishr he kk
    · cases h
  · split at h
    · cases h; exact V_iushr he kk
    · cases h
  · split at h
    · cases h; exact V_ladd he kk
    · cases h
  · split at h
    · cases h; exact V_lsub he kk
    · cases h
  · split at h
    · cases h; exact V_lmul he kk
    · cases h
  · split at h
    · cases h; exact V_ineg he kk
    · cases h
  · split at h
    · cases h; exact V_lushr he kk
    · cases h
  · split at h
    · cases h; exact V_i2l he kk
    · cases h
  · split at h
    · cases h; exact V_l2i he kk
    · cases h
  · split at h
    · cases h; exact V_i2b he kk
    · cases h
  · split at h
    · cases h; exact V_i2s he kk
    · cases h
  · split at h
    · cases h; exact V_i2c he kk
    · cases h
  · split at h
    · cases h; exact V_lcmp he kk
    · cases h
  · split at h
    · cases h; exact V_dup he rfl kk
    · cases h; exact V_dup he rfl kk
    · cases h
  · split at h
    · cases h; exact V_pop he rfl kk
    · cases h; exact V_pop he rfl kk
    · cases h
  · split at h
    · cases h; exact V_dup_x1 he rfl rfl kk
    · cases h
  · split at h
    · cases h; exact V_dup2 he rfl rfl kk
    · cases h
  · cases h; exact V_goto he kk
  · split at h
    · split at h
      · rename_i hK
        split at h
        · rename_i hc
          have hc2 := Nat.eq_of_beq_eq_true hc
          subst hc2
          split at h
          · rename_i hb
            split at h
            · rename_i hv
              cases h; exact V_get he hK (Nat.blt_eq.mp hb) (hv ▸ kk)
            · rename_i hv
              cases h; exact V_get he hK (Nat.blt_eq.mp hb) (hv ▸ kk)
            · rename_i hv
              cases h; exact V_get he hK (Nat.blt_eq.mp hb) (hv ▸ kk)
            · cases h
          · cases h
        · cases h
      · cases h
    · cases h
  · split at h
    · split at h
      · rename_i hK
        split at h
        · rename_i hc
          have hc2 := Nat.eq_of_beq_eq_true hc
          subst hc2
          split at h
          · rename_i hb
            split at h
            · rename_i hv
              split at h
              · rename_i hf
                cases h; exact V_putI he hK (Nat.blt_eq.mp hb) hf hv kk
              · cases h
            · cases h
          · cases h
        · cases h
      · cases h
    · split at h
      · rename_i hK
        split at h
        · rename_i hc
          have hc2 := Nat.eq_of_beq_eq_true hc
          subst hc2
          split at h
          · rename_i hb
            split at h
            · rename_i hv
              split at h
              · rename_i hf
                cases h; exact V_putJ he hK (Nat.blt_eq.mp hb) hf hv kk
              · cases h
            · cases h
          · cases h
        · cases h
      · cases h
    · cases h
  · split at h
    · split at h
      · rename_i hK
        split at h
        · rename_i hb
          cases h; exact V_alen he (ty := _) (len := _) hK (Nat.blt_eq.mp hb) rfl kk
        · cases h
      · cases h
    · cases h
  · cases h
def stps (tbl : List E8) (n : Nat) (f : Nat) (s : ST) : Option ST := match f with
  | 0 => some s
  | f + 1 => match s with
    | (pc, L, st, I, J, F) => match fE tbl pc with
      | some (_, ins, nx, t, c32, c64, ci, k) => match stI ins nx t c32 c64 ci k n L st I J F with
        | some s2 => stps tbl n f s2
        | none => none
      | none => none
theorem V_run (f : Nat) {s2 : ST} (h : stps mt.2.2.2.2.2.2 n f (pc, L, st, I, J, F) = some s2) (kk : V mt sc d nE Q s2.1 s2.2.1 s2.2.2.1 n s2.2.2.2.1 s2.2.2.2.2.1 s2.2.2.2.2.2) : V mt sc d nE Q pc L st n I J F := by
  induction f generalizing pc L st I J F with
  | zero => simp only [stps] at h; cases h; exact kk
  | succ f ih =>
    unfold stps at h
    simp only at h
    split at h
    · rename_i pc' ins nx t c32 c64 ci k he
      split at h
      · rename_i s1 h1
        have e := (fE_mem he).2
        simp only at e
        subst e
        obtain ⟨pc1, L1, st1, I1, J1, F1⟩ := s1
        exact stI_ok he h1 (ih h)
      · cases h
    · cases h
/-- the same, with the state behind it written out -/
theorem V_go (f : Nat) {pc' : Nat} {L' : Lc} {st' : List Value} {I' : I2} {J' : J2} {F' : F2} (h : stps mt.2.2.2.2.2.2 n f (pc, L, st, I, J, F) = some (pc', L', st', I', J', F')) (kk : V mt sc d nE Q pc' L' st' n I' J' F') : V mt sc d nE Q pc L st n I J F := V_run f h kk
end VT
