/-! FROM THE LAW'S ENTRY: what the Statement gives of the start, and the walk -/
def R_law : String := "MinuteForTheUnreadLaw"
def lw_P (b : Addr) (xs : List Int32) (args : Array Value) (s : State) : Prop := args = #[.ref b] ∧ s.IntsAt b xs ∧ xs.length ≤ 3072 ∧ (Jvm.Cond.and given_1 narrow_1).before args s = true
def lw_Q (_ : Array Value) (s : State) (o : Outcome) (t : State) : Prop := o = .returned (some (.int 1)) ∧ Framed s o t [] 600000 7302250
def lw_Z (below : List Frame) (a : Array Value) (s : State) : State → Prop := fun t => ∃ o, t.status = .running ∧ Ended t below o ∧ lw_Q a s o t
/-- the law's own end, with 1 on the stack, nothing written that was there before, its room as the claim has it -/
theorem lw_ret {p : Program} {l : Launch} {e : Env} {s : State} {m : MethodId} {below : List Frame} {meth : Method} {c : Code} {b : Nat} (hx : p.tables.exec = Jvm.exec) (hb : c.code = code) (hr : meth.sig.returnType = ret) (hlocks : meth.locks = false) {pc : Nat} {H : Heap} {ls : Array Slot} (hdg : decode code pc = .ok (.ireturn, 1)) : W p l e room_1 s m #[Value.ref b] below meth c H [] 600000 7302250 (lw_Z below #[Value.ref b] s) (F0 m pc ls [.int 1]) := by
  intro T hT X
  obtain ⟨fs, hret, hrun, hended, hW, hframe⟩ := X.leave (v := some (.int 1)) (hlocks := hlocks) (fun h => by rw [hr] at h; cases h)
  have hmeth' : T.vm.method? m = some meth := X.method'
  refine ⟨T.setFrames fs, ?_, .returned (some (.int 1)), hrun, hended, rfl, ⟨_, rfl⟩, hW, hframe⟩
  jvm_step X.here [X.here.top, hx, hb, hdg, hmeth', hr, ret, narrow_b1]
  (try refine ⟨rfl, ?_⟩); (try refine ⟨rfl, ?_⟩)
  first | (intro acts; rw [hret _ acts rfl rfl rfl]) | rw [hret _ _ rfl rfl rfl]
  exact Steps.refl _
/-- what holds at the law's entry: the machine, the code, the tables' words (any of lw_tbl by 'hts w (by decide +kernel)'), the script of L ints xs at the cell b, what the Statement gives of the start (any of its parts by flat_of_before) -/
def lw_At (p : Program) (s : State) (m : MethodId) (meth : Method) (c : Code) (b L : Nat) (xs : Nat → Int32) : Prop :=
  p.tables.exec = Jvm.exec ∧ c.code = code ∧ meth.sig.returnType = ret ∧ c.maxLocals = 4 ∧ s.vm.findClass R_law = some m.cls ∧ (∀ w ∈ lw_tbl, w.before #[Value.ref b] s = true) ∧ va_X b L xs s s.heap ∧ b < s.heap.size ∧ meth.locks = false ∧ (Jvm.Cond.and given_1 narrow_1).before #[Value.ref b] s = true
def nfl : List Cond := flatC (Jvm.Cond.and given_1 narrow_1)
def tmS (i : Nat) : Term := .string RX3 (sIx.getD i 0)
def vlS (i : Nat) : Term := .field (tmS i) "java/lang/String" "value" "[B"
theorem nf_len : ∀ i, i < 12 → sLen.getD i 0 < 2 ^ 31 := by decide
theorem nf_ex : ∀ i, i < 12 → Cond.exactly (tmS i) "java/lang/String" ∈ nfl := by decide +kernel
theorem nf_co : ∀ i, i < 12 → Cond.eq (.field (tmS i) "java/lang/String" "coder" "B") (.int 0) ∈ nfl := by decide +kernel
theorem nf_ar : ∀ i, i < 12 → Cond.arrayOf (vlS i) .byte ∈ nfl := by decide +kernel
theorem nf_le : ∀ i, i < 12 → Cond.eq (.length (vlS i)) (.int (Int32.ofNat (sLen.getD i 0))) ∈ nfl := by decide +kernel
theorem nf_el : ∀ i, i < 12 → ∀ j, j < sLen.getD i 0 → Cond.eq (.elem (vlS i) (.int (Int32.ofNat j))) (.int ((sByt.getD i []).getD j 0)) ∈ nfl := by decide +kernel
theorem nf_ne : ∀ i, i < 12 → ∀ j, j < 12 → i ≠ j → Cond.not (Cond.eq (tmS i) (tmS j)) ∈ nfl ∨ Cond.not (Cond.eq (tmS j) (tmS i)) ∈ nfl := by decide +kernel
theorem nf_st : Cond.eq (.static "java/lang/String" "COMPACT_STRINGS" "Z") (.int 1) ∈ nfl ∧ Cond.isRef (.static fmC "SIOOBE_FORMATTER" fmD) ∈ nfl := by decide +kernel
theorem tb_sr : ∀ i, i < 12 → Cond.stringRef RX3 (sIx.getD i 0) (sTx.getD i "") ∈ lw_tbl := by decide +kernel
theorem tb_st : Cond.laysStatic "java/lang/String" "COMPACT_STRINGS" "Z" ∈ lw_tbl ∧ Cond.initialized "java/lang/String" ∈ lw_tbl ∧ Cond.laysStatic fmC "SIOOBE_FORMATTER" fmD ∈ lw_tbl ∧ Cond.initialized fmC ∈ lw_tbl := by decide +kernel
theorem tb_in : Cond.instantiable RX0 13 ∈ lw_tbl ∧ Cond.instantiable RX2 5 ∈ lw_tbl ∧ Cond.instantiable RX3 7 ∈ lw_tbl ∧ Cond.instantiable RX4 3 ∈ lw_tbl ∧ Cond.instantiable RX5 5 ∈ lw_tbl ∧ Cond.instantiable RX6 8 ∈ lw_tbl ∧ Cond.instantiable RX7 55 ∈ lw_tbl := by decide +kernel
theorem nw_on {w : Cond} (h : isNestW w = true) : w.onTables = true := by
  cases w <;> first | rfl | (simp [isNestW] at h)
theorem isRef_v {args : Array Value} {s : State} {t : Term} (h : (Cond.isRef t).before args s = true) : ∃ v, t.eval args s none [] s = some v ∧ (v = .null ∨ ∃ a, v = .ref a) := by
  cases hv : t.eval args s none [] s with
  | none => simp [Cond.before, Cond.holds, Cond.value, hv] at h
  | some v =>
    refine ⟨v, rfl, ?_⟩
    simp only [Cond.before, Cond.holds, Cond.value, hv] at h
    cases v with
    | null => exact Or.inl rfl
    | ref a => exact Or.inr ⟨a, rfl⟩
    | _ => simp [Value.isRef] at h
/-- where the things outside the world lie -/
def adZ (b f : Nat) (adK adV : Nat → Nat) : Nat → Nat := fun i => if i = 4000 then b else if i = 3000 then f else if i < 2000 then adK (i - 1000) else adV (i - 2000)
theorem adZ_b {b f : Nat} {adK adV : Nat → Nat} : adZ b f adK adV 4000 = b := rfl
theorem adZ_f {b f : Nat} {adK adV : Nat → Nat} : adZ b f adK adV 3000 = f := rfl
theorem adZ_k {b f : Nat} {adK adV : Nat → Nat} {i : Nat} (h : i < 12) : adZ b f adK adV (1000 + i) = adK i := by
  unfold adZ
  rw [if_neg (by omega), if_neg (by omega), if_pos (by omega), Nat.add_sub_cancel_left]
theorem adZ_v {b f : Nat} {adK adV : Nat → Nat} {i : Nat} (h : i < 12) : adZ b f adK adV (2000 + i) = adV i := by
  unfold adZ
  rw [if_neg (by omega), if_neg (by omega), if_neg (by omega), Nat.add_sub_cancel_left]
theorem vkS_re {N : Nat} {len : List Nat} {byt : List (List Int32)} {aK aV aK' aV' : Nat → Nat} {A : Nat → Prop} {U : State} {H : Heap} (h : vk_S N len byt aK aV A U H) (hk : ∀ i, i < N → aK' i = aK i) (hv : ∀ i, i < N → aV' i = aV i) : vk_S N len byt aK' aV' A U H := by
  refine ⟨fun i hi => ?_, fun i j hi hj e => ?_⟩
  · rw [hk i hi, hv i hi]
    exact h.1 i hi
  · rw [hk i hi, hk j hj] at e
    exact h.2 i j hi hj e
/-- what stands outside the world, at the start -/
theorem En_start {s : State} {b : Nat} (hts : ∀ w ∈ lw_tbl, w.before #[Value.ref b] s = true) (hgv : (Jvm.Cond.and given_1 narrow_1).before #[Value.ref b] s = true) : ∃ ad0 : Nat → Nat, ad0 4000 = b ∧ En ad0 (fun q => s.heap.size ≤ q) s s.heap := by
  have hs : ∀ c ∈ nfl, c.before #[Value.ref b] s = true := flat_of_before _ hgv
  have hA : ∀ a : Nat, a < s.heap.size → ¬ (fun q => s.heap.size ≤ q) a := fun a h => Nat.not_le.mpr h
  obtain ⟨adK, adV, h1, h2⟩ := vk_Sof (args := #[Value.ref b]) (s := s) (N := 12) (tm := tmS) (len := sLen) (byt := sByt) (A := fun q => s.heap.size ≤ q) nf_len (fun i hi => hs _ (nf_ex i hi)) (fun i hi => hs _ (nf_co i hi)) (fun i hi => hs _ (nf_ar i hi)) (fun i hi => hs _ (nf_le i hi)) (fun i hi j hj => hs _ (nf_el i hi j hj)) (fun i j hi hj hne => (nf_ne i hi j hj hne).imp (hs _) (hs _)) hA
  obtain ⟨v, hv, hv2⟩ := isRef_v (hs _ nf_st.2)
  have hz := va_Zof (args := #[Value.ref b]) (s := s) (A := fun q => s.heap.size ≤ q) (hts _ tb_st.2.2.1) (hts _ tb_st.2.2.2) hv hA
  have hc := va_Zof (args := #[Value.ref b]) (s := s) (A := fun q => s.heap.size ≤ q) (hts _ tb_st.1) (hts _ tb_st.2.1) (va_eqi (hs _ nf_st.1)) hA
  obtain ⟨f, w, hw, hf⟩ : ∃ f w, (w = Value.null ∨ w = Value.ref 3000) ∧ cv (adZ b f adK adV) w = v := by
    rcases hv2 with rfl | ⟨a, rfl⟩
    · exact ⟨0, .null, Or.inl rfl, rfl⟩
    · exact ⟨a, .ref 3000, Or.inr rfl, rfl⟩
  refine ⟨adZ b f adK adV, rfl, vkS_re h1 (fun i hi => adZ_k hi) (fun i hi => adZ_v hi), fun i hi => ?_, hc, ⟨w, hw, ?_⟩, fun w hw => ?_⟩
  · rw [adZ_k hi]
    exact vk_R.of (hts _ (tb_sr i hi)) (h2 i hi)
  · rw [hf]; exact hz
  · exact va_Nw.of (nw_on (List.mem_filter.mp hw).2) (hts w (List.mem_filter.mp hw).1)
theorem KS_start {s : State} {args : Array Value} (hts : ∀ w ∈ lw_tbl, w.before args s = true) : ∃ D : va_G, KS D (fun _ => 0) 0 s := by
  obtain ⟨t0, t1, t2, t3, t4, t5, t6⟩ := tb_in
  obtain ⟨c0, i0, k0⟩ := u_known hts uin0 (hts _ t0)
  obtain ⟨c1, i1, k1⟩ := u_known hts uin1 (hts _ t1)
  obtain ⟨c2, i2, k2⟩ := u_known hts uin2 (hts _ t2)
  obtain ⟨c3, i3, k3⟩ := u_known hts uin3 (hts _ t3)
  obtain ⟨c4, i4, k4⟩ := u_known hts uin4 (hts _ t4)
  obtain ⟨c5, i5, k5⟩ := u_known hts uin5 (hts _ t5)
  obtain ⟨c6, i6, k6⟩ := u_known hts uin6 (hts _ t6)
  refine ⟨(fun k => match k with | 0 => c0 | 1 => c1 | 2 => c2 | 3 => c3 | 4 => c4 | 5 => c5 | _ => c6, fun k => match k with | 0 => i0 | 1 => i1 | 2 => i2 | 3 => i3 | 4 => i4 | 5 => i5 | _ => i6), fun c q hq => ?_, fun i hi => absurd hi (Nat.not_lt_zero _)⟩
  match c, hq with
  | 0, hq => cases hq; exact k0
  | 1, hq => cases hq; exact k1
  | 2, hq => cases hq; exact k2
  | 3, hq => cases hq; exact k3
  | 4, hq => cases hq; exact k4
  | 5, hq => cases hq; exact k5
  | 6, hq => cases hq; exact k6
  | c + 7, hq => simp [vwCl] at hq
theorem sl58 : sl 58 - sl 0 ≤ 7302250 := by decide +kernel
/-- the law, as V says it -/
theorem law_V {L : Nat} {xs : Nat → Int32} (hL : L ≤ 3072) : V mL_law (some (L, xs)) 53 58 (fun rv _ _ _ => rv = some (.int 1)) 0 [(0, .ref 4000)] [] 0 (fun _ _ => 0) (fun _ _ => 0) (fun _ _ => none) := by
  refine law_start fun I1 J1 ht => ?_
  show V _ _ _ _ _ _ _ _ _ (SZ I1) (JZ J1) FZ
  rw [FZ_RF]
  exact law_loop hL (fun _ _ => rfl) 600 0 (SZ I1) (JZ J1) 1 0 T0 (by omega) (by omega) (z_rl ht)
/-- THE LAW, from its entry -/
theorem whole_start {p : Program} {e : Env} {s : State} {m : MethodId} {below : List Frame} {meth : Method} {c : Code} (l : Launch) {b L : Nat} {xs : Nat → Int32} (hL : L ≤ 3072) (C0 : lw_At p s m meth c b L xs) (hnm : meth.name = x.name) : W p l e room_1 s m #[Value.ref b] below meth c s.heap [] 0 0 (lw_Z below #[Value.ref b] s) (entryFrame m ([Value.ref b] : List Value).toArray 4) := by
  obtain ⟨hx, hb, hr, hml, hown, hts, hX, hbl, hlocks, hgv⟩ := C0
  obtain ⟨ad0, had, hE⟩ := En_start hts hgv
  obtain ⟨D, hK⟩ := KS_start hts
  have hl := lv_entry ([.ref b]) (n := 4) (Nat.le_of_ble_eq_true rfl)
  rw [lg_entry_eq]
  generalize (lg_sl ([.ref b]) ++ List.replicate (4 - (lg_sl ([.ref b])).length) Slot.unset).toArray = ls at hl ⊢
  have hl : lv_has ls 4 [(0, .ref b)] := hl
  have hv := law_V (L := L) (xs := xs) hL p l e room_1 s m #[Value.ref b] below meth c D (fun q => s.heap.size ≤ q) 0 ad0 (lw_Z below #[Value.ref b] s)
    ⟨hx, hb, okA_law, hr, hlocks, hml, hown, hnm, fun w hw => hts w (List.mem_filter.mp hw).1, hE, fun _ h => h, ⟨Nat.le_of_ble_eq_true rfl, Nat.le_of_ble_eq_true rfl, Nat.le_of_ble_eq_true rfl, sl58⟩, ?_, ?_⟩
    (fun _ => 0) ad0 s.heap [] ls ⟨Nat.le_refl _, Nat.zero_le _, fun k q h => by simp [wl] at h, hK, ⟨fun i j p q h => by simp [wl] at h, fun k q h => by simp [wl] at h⟩, va_S.rf, fun i hi => absurd hi (Nat.not_lt_zero _), fun _ _ => rfl, ?_⟩
  · rw [Nat.sub_self, Nat.sub_self] at hv
    exact hv
  · show va_X (ad0 4000) L xs s s.heap ∧ ad0 4000 < s.heap.size ∧ ¬ s.heap.size ≤ ad0 4000
    rw [had]
    exact ⟨hX, hbl, Nat.not_le.mpr hbl⟩
  · intro rv I J F cA ad H locs ls pc hq hP hK hD hS hwf had' hR
    subst hq
    exact va_forget (fun q hq => hS.2.2 q hq) (W.widen (k := 600000) (n := 7302250) (Nat.le_of_ble_eq_true rfl) sl58 (lw_ret hx hb hr hlocks hR.1))
  · show lv_has ls 4 [(0, .ref (ad0 4000))]
    rw [had]
    exact hl
